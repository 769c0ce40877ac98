/-! methods of the reference: what each does is its function -/
theorem dX12_directionOf_0 : decode cX12_directionOf 0 = .ok (.aload_n 0, 1) := by decide +kernel
theorem dX12_directionOf_1 : decode cX12_directionOf 1 = .ok (.iload_n 1, 1) := by decide +kernel
theorem dX12_directionOf_2 : decode cX12_directionOf 2 = .ok (.ldc_w 797, 3) := by decide +kernel
theorem dX12_directionOf_5 : decode cX12_directionOf 5 = .ok (.invokevirtual 799, 3) := by decide +kernel
theorem dX12_directionOf_8 : decode cX12_directionOf 8 = .ok (.ifCond .ne 14, 3) := by decide +kernel
theorem dX12_directionOf_11 : decode cX12_directionOf 11 = .ok (.aload_n 0, 1) := by decide +kernel
theorem dX12_directionOf_12 : decode cX12_directionOf 12 = .ok (.iload_n 1, 1) := by decide +kernel
theorem dX12_directionOf_13 : decode cX12_directionOf 13 = .ok (.ldc_w 803, 3) := by decide +kernel
theorem dX12_directionOf_16 : decode cX12_directionOf 16 = .ok (.invokevirtual 799, 3) := by decide +kernel
theorem dX12_directionOf_19 : decode cX12_directionOf 19 = .ok (.ifCond .eq 5, 3) := by decide +kernel
theorem dX12_directionOf_22 : decode cX12_directionOf 22 = .ok (.iconst 1, 1) := by decide +kernel
theorem dX12_directionOf_23 : decode cX12_directionOf 23 = .ok (.ireturn, 1) := by decide +kernel
theorem dX12_directionOf_24 : decode cX12_directionOf 24 = .ok (.aload_n 0, 1) := by decide +kernel
theorem dX12_directionOf_25 : decode cX12_directionOf 25 = .ok (.iload_n 1, 1) := by decide +kernel
theorem dX12_directionOf_26 : decode cX12_directionOf 26 = .ok (.ldc_w 805, 3) := by decide +kernel
theorem dX12_directionOf_29 : decode cX12_directionOf 29 = .ok (.invokevirtual 799, 3) := by decide +kernel
theorem dX12_directionOf_32 : decode cX12_directionOf 32 = .ok (.ifCond .ne 14, 3) := by decide +kernel
theorem dX12_directionOf_35 : decode cX12_directionOf 35 = .ok (.aload_n 0, 1) := by decide +kernel
theorem dX12_directionOf_36 : decode cX12_directionOf 36 = .ok (.iload_n 1, 1) := by decide +kernel
theorem dX12_directionOf_37 : decode cX12_directionOf 37 = .ok (.ldc_w 807, 3) := by decide +kernel
theorem dX12_directionOf_40 : decode cX12_directionOf 40 = .ok (.invokevirtual 799, 3) := by decide +kernel
theorem dX12_directionOf_43 : decode cX12_directionOf 43 = .ok (.ifCond .eq 5, 3) := by decide +kernel
theorem dX12_directionOf_46 : decode cX12_directionOf 46 = .ok (.iconst 2, 1) := by decide +kernel
theorem dX12_directionOf_47 : decode cX12_directionOf 47 = .ok (.ireturn, 1) := by decide +kernel
theorem dX12_directionOf_48 : decode cX12_directionOf 48 = .ok (.aload_n 0, 1) := by decide +kernel
theorem dX12_directionOf_49 : decode cX12_directionOf 49 = .ok (.iload_n 1, 1) := by decide +kernel
theorem dX12_directionOf_50 : decode cX12_directionOf 50 = .ok (.ldc_w 809, 3) := by decide +kernel
theorem dX12_directionOf_53 : decode cX12_directionOf 53 = .ok (.invokevirtual 799, 3) := by decide +kernel
theorem dX12_directionOf_56 : decode cX12_directionOf 56 = .ok (.ifCond .ne 14, 3) := by decide +kernel
theorem dX12_directionOf_59 : decode cX12_directionOf 59 = .ok (.aload_n 0, 1) := by decide +kernel
theorem dX12_directionOf_60 : decode cX12_directionOf 60 = .ok (.iload_n 1, 1) := by decide +kernel
theorem dX12_directionOf_61 : decode cX12_directionOf 61 = .ok (.ldc_w 811, 3) := by decide +kernel
theorem dX12_directionOf_64 : decode cX12_directionOf 64 = .ok (.invokevirtual 799, 3) := by decide +kernel
theorem dX12_directionOf_67 : decode cX12_directionOf 67 = .ok (.ifCond .eq 5, 3) := by decide +kernel
theorem dX12_directionOf_70 : decode cX12_directionOf 70 = .ok (.iconst 3, 1) := by decide +kernel
theorem dX12_directionOf_71 : decode cX12_directionOf 71 = .ok (.ireturn, 1) := by decide +kernel
theorem dX12_directionOf_72 : decode cX12_directionOf 72 = .ok (.aload_n 0, 1) := by decide +kernel
theorem dX12_directionOf_73 : decode cX12_directionOf 73 = .ok (.iload_n 1, 1) := by decide +kernel
theorem dX12_directionOf_74 : decode cX12_directionOf 74 = .ok (.ldc_w 813, 3) := by decide +kernel
theorem dX12_directionOf_77 : decode cX12_directionOf 77 = .ok (.invokevirtual 799, 3) := by decide +kernel
theorem dX12_directionOf_80 : decode cX12_directionOf 80 = .ok (.ifCond .ne 14, 3) := by decide +kernel
theorem dX12_directionOf_83 : decode cX12_directionOf 83 = .ok (.aload_n 0, 1) := by decide +kernel
theorem dX12_directionOf_84 : decode cX12_directionOf 84 = .ok (.iload_n 1, 1) := by decide +kernel
theorem dX12_directionOf_85 : decode cX12_directionOf 85 = .ok (.ldc_w 815, 3) := by decide +kernel
theorem dX12_directionOf_88 : decode cX12_directionOf 88 = .ok (.invokevirtual 799, 3) := by decide +kernel
theorem dX12_directionOf_91 : decode cX12_directionOf 91 = .ok (.ifCond .eq 5, 3) := by decide +kernel
theorem dX12_directionOf_94 : decode cX12_directionOf 94 = .ok (.iconst 4, 1) := by decide +kernel
theorem dX12_directionOf_95 : decode cX12_directionOf 95 = .ok (.ireturn, 1) := by decide +kernel
theorem dX12_directionOf_96 : decode cX12_directionOf 96 = .ok (.aload_n 0, 1) := by decide +kernel
theorem dX12_directionOf_97 : decode cX12_directionOf 97 = .ok (.iload_n 1, 1) := by decide +kernel
theorem dX12_directionOf_98 : decode cX12_directionOf 98 = .ok (.ldc_w 817, 3) := by decide +kernel
theorem dX12_directionOf_101 : decode cX12_directionOf 101 = .ok (.invokevirtual 799, 3) := by decide +kernel
theorem dX12_directionOf_104 : decode cX12_directionOf 104 = .ok (.ifCond .ne 14, 3) := by decide +kernel
theorem dX12_directionOf_107 : decode cX12_directionOf 107 = .ok (.aload_n 0, 1) := by decide +kernel
theorem dX12_directionOf_108 : decode cX12_directionOf 108 = .ok (.iload_n 1, 1) := by decide +kernel
theorem dX12_directionOf_109 : decode cX12_directionOf 109 = .ok (.ldc_w 819, 3) := by decide +kernel
theorem dX12_directionOf_112 : decode cX12_directionOf 112 = .ok (.invokevirtual 799, 3) := by decide +kernel
theorem dX12_directionOf_115 : decode cX12_directionOf 115 = .ok (.ifCond .eq 5, 3) := by decide +kernel
theorem dX12_directionOf_118 : decode cX12_directionOf 118 = .ok (.iconst 5, 1) := by decide +kernel
theorem dX12_directionOf_119 : decode cX12_directionOf 119 = .ok (.ireturn, 1) := by decide +kernel
theorem dX12_directionOf_120 : decode cX12_directionOf 120 = .ok (.aload_n 0, 1) := by decide +kernel
theorem dX12_directionOf_121 : decode cX12_directionOf 121 = .ok (.iload_n 1, 1) := by decide +kernel
theorem dX12_directionOf_122 : decode cX12_directionOf 122 = .ok (.ldc_w 821, 3) := by decide +kernel
theorem dX12_directionOf_125 : decode cX12_directionOf 125 = .ok (.invokevirtual 799, 3) := by decide +kernel
theorem dX12_directionOf_128 : decode cX12_directionOf 128 = .ok (.ifCond .ne 14, 3) := by decide +kernel
theorem dX12_directionOf_131 : decode cX12_directionOf 131 = .ok (.aload_n 0, 1) := by decide +kernel
theorem dX12_directionOf_132 : decode cX12_directionOf 132 = .ok (.iload_n 1, 1) := by decide +kernel
theorem dX12_directionOf_133 : decode cX12_directionOf 133 = .ok (.ldc_w 823, 3) := by decide +kernel
theorem dX12_directionOf_136 : decode cX12_directionOf 136 = .ok (.invokevirtual 799, 3) := by decide +kernel
theorem dX12_directionOf_139 : decode cX12_directionOf 139 = .ok (.ifCond .eq 8, 3) := by decide +kernel
theorem dX12_directionOf_142 : decode cX12_directionOf 142 = .ok (.bipush 6, 2) := by decide +kernel
theorem dX12_directionOf_144 : decode cX12_directionOf 144 = .ok (.goto 4, 3) := by decide +kernel
theorem dX12_directionOf_147 : decode cX12_directionOf 147 = .ok (.iconst 0, 1) := by decide +kernel
theorem dX12_directionOf_148 : decode cX12_directionOf 148 = .ok (.ireturn, 1) := by decide +kernel
def F_X12_directionOf (p0 : Int32) (σ : MS) : MR :=
  (F_X12_isTerm p0 ([110, 111, 114, 116, 104] : List Int32) σ).bind fun u_2 =>
  if u_2.1 = 0 then (
    (F_X12_isTerm p0 ([110] : List Int32) u_2.2).bind fun u_7 =>
    if u_7.1 = 0 then (
      (F_X12_isTerm p0 ([115, 111, 117, 116, 104] : List Int32) u_7.2).bind fun u_12 =>
      if u_12.1 = 0 then (
        (F_X12_isTerm p0 ([115] : List Int32) u_12.2).bind fun u_17 =>
        if u_17.1 = 0 then (
          (F_X12_isTerm p0 ([101, 97, 115, 116] : List Int32) u_17.2).bind fun u_22 =>
          if u_22.1 = 0 then (
            (F_X12_isTerm p0 ([101] : List Int32) u_22.2).bind fun u_27 =>
            if u_27.1 = 0 then (
              (F_X12_isTerm p0 ([119, 101, 115, 116] : List Int32) u_27.2).bind fun u_32 =>
              if u_32.1 = 0 then (
                (F_X12_isTerm p0 ([119] : List Int32) u_32.2).bind fun u_37 =>
                if u_37.1 = 0 then (
                  (F_X12_isTerm p0 ([117, 112] : List Int32) u_37.2).bind fun u_42 =>
                  if u_42.1 = 0 then (
                    (F_X12_isTerm p0 ([117] : List Int32) u_42.2).bind fun u_47 =>
                    if u_47.1 = 0 then (
                      (F_X12_isTerm p0 ([100, 111, 119, 110] : List Int32) u_47.2).bind fun u_52 =>
                      if u_52.1 = 0 then (
                        (F_X12_isTerm p0 ([100] : List Int32) u_52.2).bind fun u_57 =>
                        if u_57.1 = 0 then (
                          some (0, u_57.2)
                        ) else (
                          some (6, u_57.2)
                        )
                      ) else (
                        some (6, u_52.2)
                      )
                    ) else (
                      some (5, u_47.2)
                    )
                  ) else (
                    some (5, u_42.2)
                  )
                ) else (
                  some (4, u_37.2)
                )
              ) else (
                some (4, u_32.2)
              )
            ) else (
              some (3, u_27.2)
            )
          ) else (
            some (3, u_22.2)
          )
        ) else (
          some (2, u_17.2)
        )
      ) else (
        some (2, u_12.2)
      )
    ) else (
      some (1, u_7.2)
    )
  ) else (
    some (1, u_2.2)
  )
set_option maxHeartbeats 4000000 in
set_option maxRecDepth 100000 in
theorem m_X12_directionOf (l : Launch) (dC : Nat → ClassId) (dI : Nat → Nat → Nat) (cB cC cI cJ cZ cP : ClassId) (h qK qS : Nat) (ad : Nat → Nat) (hDD : mDis cB cI cZ h qK qS ad) (sz : Nat)  (p0 : Int32) (σ : MS) (res : Int32 × MS) (hF : F_X12_directionOf p0 σ = some res) : Met l yX12_directionOf (g_ws yX12_directionOf cX12_directionOf 2 (some .int)) ({ frames := 6, cells := 0, slots := 0, locals := 149 }) (va_Pc [.ref h, .int p0] (m_B (dC, dI) [(cB, .byte), (cC, .char), (cI, .int), (cJ, .long), (cZ, .boolean), (cP, .object "StoryHouse$Play")] sz h ad qK qS (mW cB cI cZ h qK qS ad σ) g_0)) (va_Qi (fun r (_ : Unit) => r = res.1) (fun _ t => va_P (dC, dI) vwCl (mW cB cI cZ h qK qS ad res.2) t.heap) (mCells h ad sz)) 0 0 (mCells h ad sz) := by
  refine Met.ofW (cc := cX12_directionOf) (maxL := 2) (ret := (some .int)) (by decide) rfl ?_
  intro p e s m args below meth c s₁ B hml hv
  obtain ⟨rfl, hsz, hP, hK, hE, hKS, hX⟩ := hv
  have hx := B.exec
  have hb := B.bytes
  have hr := B.returns
  have hts0 := atoms_spec (ws := g_ws yX12_directionOf cX12_directionOf 2 (some .int)) B.pre
  have hts : ∀ w ∈ lw_good, w.before ([.ref h, .int p0] : List Value).toArray s = true := fun w z => hts0 w (List.mem_cons_of_mem _ z)
  have hown : s.vm.findClass RX12 = some m.cls := findClass_of_methodNamed B.named
  have hlocks := B.notSynchronized
  have hS : va_S (mCells h ad sz) s.heap s.heap [] := va_S.rf
  have hl := lv_entry ([.ref h, .int p0]) (n := 2) (Nat.le_of_ble_eq_true rfl)
  rw [lg_entry_eq]
  generalize (lg_sl ([.ref h, .int p0]) ++ List.replicate (2 - (lg_sl ([.ref h, .int p0])).length) Slot.unset).toArray = ls at hl ⊢
  have hl : lv_has ls 2 [(0, .ref h), (1, .int p0)] := hl
  unfold F_X12_directionOf at hF
  refine lv_aload_n hx hb dX12_directionOf_0 rfl (lv_at hl 0 rfl) ?_
  refine lv_iload_n hx hb dX12_directionOf_1 rfl (lv_at hl 1 rfl) ?_
  obtain ⟨q_1, vq_1, hRq_1, hSq_1⟩ := hE.2.2.2.2 _ (List.mem_of_getElem? (i := 113) rfl)
  refine g_ldcwS (own := RX12) (tx := "north") hx hb hown hRq_1 dX12_directionOf_2 ?_
  obtain ⟨u_2, hu_2, hF_3⟩ := Option.bind_eq_some_iff.mp hF
  clear hF
  refine m_ci hsz hS (va_runV (As := [.int p0, .ref q_1]) (rest := []) ⟨hx, hb, hml, hown, hts⟩ (m_X12_isTerm l dC dI cB cC cI cJ cZ cP h qK qS ad hDD s.heap.size q_1 _ p0 ([110, 111, 114, 116, 104] : List Int32) σ _ hu_2) (cwV 2 hts (g_gV wq_1789 wq_1790 wq_2204 wq_13 wq_1791) rfl rfl rfl (by decide +kernel) ⟨Nat.le_of_ble_eq_true rfl, Nat.le_of_ble_eq_true rfl⟩) (m_preV g_blS hsz hK hP hS hE hKS (g_toS hSq_1 hS (m_narrow hS hsz))) rfl rfl hl.1 rfl (lv_room (Nat.le_of_ble_eq_true rfl)) dX12_directionOf_5 ⟨Nat.le_of_ble_eq_true rfl, Nat.le_of_ble_eq_true rfl⟩) (fun H locs hP hS => ?_)
  refine lv_if_ne (tgt := 22) hx hb dX12_directionOf_8 (by decide) (fun c_4 => ?_) (fun c_4 => ?_)
  · have hF_72 := ineg c_4 hF_3
    clear hF_3
    refine lv_iconst (v := 1) hx hb dX12_directionOf_22 (by decide +kernel) ?_
    have h9 := Option.some.inj hF_72
    subst h9
    exact W.iret (v := 1) hx hb hr (fun t ht hW => ⟨⟨1, (), rfl, rfl, m_end ht hP⟩, hS.F ht⟩) hS.2.2 dX12_directionOf_23
  · have hF_5 := ipos c_4 hF_3
    clear hF_3
    refine lv_aload_n hx hb dX12_directionOf_11 rfl (lv_at hl 0 rfl) ?_
    refine lv_iload_n hx hb dX12_directionOf_12 rfl (lv_at hl 1 rfl) ?_
    obtain ⟨q_6, vq_6, hRq_6, hSq_6⟩ := hE.2.2.2.2 _ (List.mem_of_getElem? (i := 114) rfl)
    refine g_ldcwS (own := RX12) (tx := "n") hx hb hown hRq_6 dX12_directionOf_13 ?_
    obtain ⟨u_7, hu_7, hF_8⟩ := Option.bind_eq_some_iff.mp hF_5
    clear hF_5
    refine m_ci hsz hS (va_runV (As := [.int p0, .ref q_6]) (rest := []) ⟨hx, hb, hml, hown, hts⟩ (m_X12_isTerm l dC dI cB cC cI cJ cZ cP h qK qS ad hDD H.size q_6 _ p0 ([110] : List Int32) u_2.2 _ hu_7) (cwV 2 hts (g_gV wq_1789 wq_1790 wq_2204 wq_13 wq_1791) rfl rfl rfl (by decide +kernel) ⟨Nat.le_of_ble_eq_true rfl, Nat.le_of_ble_eq_true rfl⟩) (m_preV g_blS hsz hK hP hS hE hKS (g_toS hSq_6 hS (m_narrow hS hsz))) rfl rfl hl.1 rfl (lv_room (Nat.le_of_ble_eq_true rfl)) dX12_directionOf_16 ⟨Nat.le_of_ble_eq_true rfl, Nat.le_of_ble_eq_true rfl⟩) (fun H locs hP hS => ?_)
    refine lv_if_eq (tgt := 24) hx hb dX12_directionOf_19 (by decide) (fun c_9 => ?_) (fun c_9 => ?_)
    · have hF_10 := ipos c_9 hF_8
      clear hF_8
      refine lv_aload_n hx hb dX12_directionOf_24 rfl (lv_at hl 0 rfl) ?_
      refine lv_iload_n hx hb dX12_directionOf_25 rfl (lv_at hl 1 rfl) ?_
      obtain ⟨q_11, vq_11, hRq_11, hSq_11⟩ := hE.2.2.2.2 _ (List.mem_of_getElem? (i := 115) rfl)
      refine g_ldcwS (own := RX12) (tx := "south") hx hb hown hRq_11 dX12_directionOf_26 ?_
      obtain ⟨u_12, hu_12, hF_13⟩ := Option.bind_eq_some_iff.mp hF_10
      clear hF_10
      refine m_ci hsz hS (va_runV (As := [.int p0, .ref q_11]) (rest := []) ⟨hx, hb, hml, hown, hts⟩ (m_X12_isTerm l dC dI cB cC cI cJ cZ cP h qK qS ad hDD H.size q_11 _ p0 ([115, 111, 117, 116, 104] : List Int32) u_7.2 _ hu_12) (cwV 2 hts (g_gV wq_1789 wq_1790 wq_2204 wq_13 wq_1791) rfl rfl rfl (by decide +kernel) ⟨Nat.le_of_ble_eq_true rfl, Nat.le_of_ble_eq_true rfl⟩) (m_preV g_blS hsz hK hP hS hE hKS (g_toS hSq_11 hS (m_narrow hS hsz))) rfl rfl hl.1 rfl (lv_room (Nat.le_of_ble_eq_true rfl)) dX12_directionOf_29 ⟨Nat.le_of_ble_eq_true rfl, Nat.le_of_ble_eq_true rfl⟩) (fun H locs hP hS => ?_)
      refine lv_if_ne (tgt := 46) hx hb dX12_directionOf_32 (by decide) (fun c_14 => ?_) (fun c_14 => ?_)
      · have hF_70 := ineg c_14 hF_13
        clear hF_13
        refine lv_iconst (v := 2) hx hb dX12_directionOf_46 (by decide +kernel) ?_
        have h9 := Option.some.inj hF_70
        subst h9
        exact W.iret (v := 2) hx hb hr (fun t ht hW => ⟨⟨2, (), rfl, rfl, m_end ht hP⟩, hS.F ht⟩) hS.2.2 dX12_directionOf_47
      · have hF_15 := ipos c_14 hF_13
        clear hF_13
        refine lv_aload_n hx hb dX12_directionOf_35 rfl (lv_at hl 0 rfl) ?_
        refine lv_iload_n hx hb dX12_directionOf_36 rfl (lv_at hl 1 rfl) ?_
        obtain ⟨q_16, vq_16, hRq_16, hSq_16⟩ := hE.2.2.2.2 _ (List.mem_of_getElem? (i := 116) rfl)
        refine g_ldcwS (own := RX12) (tx := "s") hx hb hown hRq_16 dX12_directionOf_37 ?_
        obtain ⟨u_17, hu_17, hF_18⟩ := Option.bind_eq_some_iff.mp hF_15
        clear hF_15
        refine m_ci hsz hS (va_runV (As := [.int p0, .ref q_16]) (rest := []) ⟨hx, hb, hml, hown, hts⟩ (m_X12_isTerm l dC dI cB cC cI cJ cZ cP h qK qS ad hDD H.size q_16 _ p0 ([115] : List Int32) u_12.2 _ hu_17) (cwV 2 hts (g_gV wq_1789 wq_1790 wq_2204 wq_13 wq_1791) rfl rfl rfl (by decide +kernel) ⟨Nat.le_of_ble_eq_true rfl, Nat.le_of_ble_eq_true rfl⟩) (m_preV g_blS hsz hK hP hS hE hKS (g_toS hSq_16 hS (m_narrow hS hsz))) rfl rfl hl.1 rfl (lv_room (Nat.le_of_ble_eq_true rfl)) dX12_directionOf_40 ⟨Nat.le_of_ble_eq_true rfl, Nat.le_of_ble_eq_true rfl⟩) (fun H locs hP hS => ?_)
        refine lv_if_eq (tgt := 48) hx hb dX12_directionOf_43 (by decide) (fun c_19 => ?_) (fun c_19 => ?_)
        · have hF_20 := ipos c_19 hF_18
          clear hF_18
          refine lv_aload_n hx hb dX12_directionOf_48 rfl (lv_at hl 0 rfl) ?_
          refine lv_iload_n hx hb dX12_directionOf_49 rfl (lv_at hl 1 rfl) ?_
          obtain ⟨q_21, vq_21, hRq_21, hSq_21⟩ := hE.2.2.2.2 _ (List.mem_of_getElem? (i := 117) rfl)
          refine g_ldcwS (own := RX12) (tx := "east") hx hb hown hRq_21 dX12_directionOf_50 ?_
          obtain ⟨u_22, hu_22, hF_23⟩ := Option.bind_eq_some_iff.mp hF_20
          clear hF_20
          refine m_ci hsz hS (va_runV (As := [.int p0, .ref q_21]) (rest := []) ⟨hx, hb, hml, hown, hts⟩ (m_X12_isTerm l dC dI cB cC cI cJ cZ cP h qK qS ad hDD H.size q_21 _ p0 ([101, 97, 115, 116] : List Int32) u_17.2 _ hu_22) (cwV 2 hts (g_gV wq_1789 wq_1790 wq_2204 wq_13 wq_1791) rfl rfl rfl (by decide +kernel) ⟨Nat.le_of_ble_eq_true rfl, Nat.le_of_ble_eq_true rfl⟩) (m_preV g_blS hsz hK hP hS hE hKS (g_toS hSq_21 hS (m_narrow hS hsz))) rfl rfl hl.1 rfl (lv_room (Nat.le_of_ble_eq_true rfl)) dX12_directionOf_53 ⟨Nat.le_of_ble_eq_true rfl, Nat.le_of_ble_eq_true rfl⟩) (fun H locs hP hS => ?_)
          refine lv_if_ne (tgt := 70) hx hb dX12_directionOf_56 (by decide) (fun c_24 => ?_) (fun c_24 => ?_)
          · have hF_68 := ineg c_24 hF_23
            clear hF_23
            refine lv_iconst (v := 3) hx hb dX12_directionOf_70 (by decide +kernel) ?_
            have h9 := Option.some.inj hF_68
            subst h9
            exact W.iret (v := 3) hx hb hr (fun t ht hW => ⟨⟨3, (), rfl, rfl, m_end ht hP⟩, hS.F ht⟩) hS.2.2 dX12_directionOf_71
          · have hF_25 := ipos c_24 hF_23
            clear hF_23
            refine lv_aload_n hx hb dX12_directionOf_59 rfl (lv_at hl 0 rfl) ?_
            refine lv_iload_n hx hb dX12_directionOf_60 rfl (lv_at hl 1 rfl) ?_
            obtain ⟨q_26, vq_26, hRq_26, hSq_26⟩ := hE.2.2.2.2 _ (List.mem_of_getElem? (i := 118) rfl)
            refine g_ldcwS (own := RX12) (tx := "e") hx hb hown hRq_26 dX12_directionOf_61 ?_
            obtain ⟨u_27, hu_27, hF_28⟩ := Option.bind_eq_some_iff.mp hF_25
            clear hF_25
            refine m_ci hsz hS (va_runV (As := [.int p0, .ref q_26]) (rest := []) ⟨hx, hb, hml, hown, hts⟩ (m_X12_isTerm l dC dI cB cC cI cJ cZ cP h qK qS ad hDD H.size q_26 _ p0 ([101] : List Int32) u_22.2 _ hu_27) (cwV 2 hts (g_gV wq_1789 wq_1790 wq_2204 wq_13 wq_1791) rfl rfl rfl (by decide +kernel) ⟨Nat.le_of_ble_eq_true rfl, Nat.le_of_ble_eq_true rfl⟩) (m_preV g_blS hsz hK hP hS hE hKS (g_toS hSq_26 hS (m_narrow hS hsz))) rfl rfl hl.1 rfl (lv_room (Nat.le_of_ble_eq_true rfl)) dX12_directionOf_64 ⟨Nat.le_of_ble_eq_true rfl, Nat.le_of_ble_eq_true rfl⟩) (fun H locs hP hS => ?_)
            refine lv_if_eq (tgt := 72) hx hb dX12_directionOf_67 (by decide) (fun c_29 => ?_) (fun c_29 => ?_)
            · have hF_30 := ipos c_29 hF_28
              clear hF_28
              refine lv_aload_n hx hb dX12_directionOf_72 rfl (lv_at hl 0 rfl) ?_
              refine lv_iload_n hx hb dX12_directionOf_73 rfl (lv_at hl 1 rfl) ?_
              obtain ⟨q_31, vq_31, hRq_31, hSq_31⟩ := hE.2.2.2.2 _ (List.mem_of_getElem? (i := 119) rfl)
              refine g_ldcwS (own := RX12) (tx := "west") hx hb hown hRq_31 dX12_directionOf_74 ?_
              obtain ⟨u_32, hu_32, hF_33⟩ := Option.bind_eq_some_iff.mp hF_30
              clear hF_30
              refine m_ci hsz hS (va_runV (As := [.int p0, .ref q_31]) (rest := []) ⟨hx, hb, hml, hown, hts⟩ (m_X12_isTerm l dC dI cB cC cI cJ cZ cP h qK qS ad hDD H.size q_31 _ p0 ([119, 101, 115, 116] : List Int32) u_27.2 _ hu_32) (cwV 2 hts (g_gV wq_1789 wq_1790 wq_2204 wq_13 wq_1791) rfl rfl rfl (by decide +kernel) ⟨Nat.le_of_ble_eq_true rfl, Nat.le_of_ble_eq_true rfl⟩) (m_preV g_blS hsz hK hP hS hE hKS (g_toS hSq_31 hS (m_narrow hS hsz))) rfl rfl hl.1 rfl (lv_room (Nat.le_of_ble_eq_true rfl)) dX12_directionOf_77 ⟨Nat.le_of_ble_eq_true rfl, Nat.le_of_ble_eq_true rfl⟩) (fun H locs hP hS => ?_)
              refine lv_if_ne (tgt := 94) hx hb dX12_directionOf_80 (by decide) (fun c_34 => ?_) (fun c_34 => ?_)
              · have hF_66 := ineg c_34 hF_33
                clear hF_33
                refine lv_iconst (v := 4) hx hb dX12_directionOf_94 (by decide +kernel) ?_
                have h9 := Option.some.inj hF_66
                subst h9
                exact W.iret (v := 4) hx hb hr (fun t ht hW => ⟨⟨4, (), rfl, rfl, m_end ht hP⟩, hS.F ht⟩) hS.2.2 dX12_directionOf_95
              · have hF_35 := ipos c_34 hF_33
                clear hF_33
                refine lv_aload_n hx hb dX12_directionOf_83 rfl (lv_at hl 0 rfl) ?_
                refine lv_iload_n hx hb dX12_directionOf_84 rfl (lv_at hl 1 rfl) ?_
                obtain ⟨q_36, vq_36, hRq_36, hSq_36⟩ := hE.2.2.2.2 _ (List.mem_of_getElem? (i := 120) rfl)
                refine g_ldcwS (own := RX12) (tx := "w") hx hb hown hRq_36 dX12_directionOf_85 ?_
                obtain ⟨u_37, hu_37, hF_38⟩ := Option.bind_eq_some_iff.mp hF_35
                clear hF_35
                refine m_ci hsz hS (va_runV (As := [.int p0, .ref q_36]) (rest := []) ⟨hx, hb, hml, hown, hts⟩ (m_X12_isTerm l dC dI cB cC cI cJ cZ cP h qK qS ad hDD H.size q_36 _ p0 ([119] : List Int32) u_32.2 _ hu_37) (cwV 2 hts (g_gV wq_1789 wq_1790 wq_2204 wq_13 wq_1791) rfl rfl rfl (by decide +kernel) ⟨Nat.le_of_ble_eq_true rfl, Nat.le_of_ble_eq_true rfl⟩) (m_preV g_blS hsz hK hP hS hE hKS (g_toS hSq_36 hS (m_narrow hS hsz))) rfl rfl hl.1 rfl (lv_room (Nat.le_of_ble_eq_true rfl)) dX12_directionOf_88 ⟨Nat.le_of_ble_eq_true rfl, Nat.le_of_ble_eq_true rfl⟩) (fun H locs hP hS => ?_)
                refine lv_if_eq (tgt := 96) hx hb dX12_directionOf_91 (by decide) (fun c_39 => ?_) (fun c_39 => ?_)
                · have hF_40 := ipos c_39 hF_38
                  clear hF_38
                  refine lv_aload_n hx hb dX12_directionOf_96 rfl (lv_at hl 0 rfl) ?_
                  refine lv_iload_n hx hb dX12_directionOf_97 rfl (lv_at hl 1 rfl) ?_
                  obtain ⟨q_41, vq_41, hRq_41, hSq_41⟩ := hE.2.2.2.2 _ (List.mem_of_getElem? (i := 121) rfl)
                  refine g_ldcwS (own := RX12) (tx := "up") hx hb hown hRq_41 dX12_directionOf_98 ?_
                  obtain ⟨u_42, hu_42, hF_43⟩ := Option.bind_eq_some_iff.mp hF_40
                  clear hF_40
                  refine m_ci hsz hS (va_runV (As := [.int p0, .ref q_41]) (rest := []) ⟨hx, hb, hml, hown, hts⟩ (m_X12_isTerm l dC dI cB cC cI cJ cZ cP h qK qS ad hDD H.size q_41 _ p0 ([117, 112] : List Int32) u_37.2 _ hu_42) (cwV 2 hts (g_gV wq_1789 wq_1790 wq_2204 wq_13 wq_1791) rfl rfl rfl (by decide +kernel) ⟨Nat.le_of_ble_eq_true rfl, Nat.le_of_ble_eq_true rfl⟩) (m_preV g_blS hsz hK hP hS hE hKS (g_toS hSq_41 hS (m_narrow hS hsz))) rfl rfl hl.1 rfl (lv_room (Nat.le_of_ble_eq_true rfl)) dX12_directionOf_101 ⟨Nat.le_of_ble_eq_true rfl, Nat.le_of_ble_eq_true rfl⟩) (fun H locs hP hS => ?_)
                  refine lv_if_ne (tgt := 118) hx hb dX12_directionOf_104 (by decide) (fun c_44 => ?_) (fun c_44 => ?_)
                  · have hF_64 := ineg c_44 hF_43
                    clear hF_43
                    refine lv_iconst (v := 5) hx hb dX12_directionOf_118 (by decide +kernel) ?_
                    have h9 := Option.some.inj hF_64
                    subst h9
                    exact W.iret (v := 5) hx hb hr (fun t ht hW => ⟨⟨5, (), rfl, rfl, m_end ht hP⟩, hS.F ht⟩) hS.2.2 dX12_directionOf_119
                  · have hF_45 := ipos c_44 hF_43
                    clear hF_43
                    refine lv_aload_n hx hb dX12_directionOf_107 rfl (lv_at hl 0 rfl) ?_
                    refine lv_iload_n hx hb dX12_directionOf_108 rfl (lv_at hl 1 rfl) ?_
                    obtain ⟨q_46, vq_46, hRq_46, hSq_46⟩ := hE.2.2.2.2 _ (List.mem_of_getElem? (i := 122) rfl)
                    refine g_ldcwS (own := RX12) (tx := "u") hx hb hown hRq_46 dX12_directionOf_109 ?_
                    obtain ⟨u_47, hu_47, hF_48⟩ := Option.bind_eq_some_iff.mp hF_45
                    clear hF_45
                    refine m_ci hsz hS (va_runV (As := [.int p0, .ref q_46]) (rest := []) ⟨hx, hb, hml, hown, hts⟩ (m_X12_isTerm l dC dI cB cC cI cJ cZ cP h qK qS ad hDD H.size q_46 _ p0 ([117] : List Int32) u_42.2 _ hu_47) (cwV 2 hts (g_gV wq_1789 wq_1790 wq_2204 wq_13 wq_1791) rfl rfl rfl (by decide +kernel) ⟨Nat.le_of_ble_eq_true rfl, Nat.le_of_ble_eq_true rfl⟩) (m_preV g_blS hsz hK hP hS hE hKS (g_toS hSq_46 hS (m_narrow hS hsz))) rfl rfl hl.1 rfl (lv_room (Nat.le_of_ble_eq_true rfl)) dX12_directionOf_112 ⟨Nat.le_of_ble_eq_true rfl, Nat.le_of_ble_eq_true rfl⟩) (fun H locs hP hS => ?_)
                    refine lv_if_eq (tgt := 120) hx hb dX12_directionOf_115 (by decide) (fun c_49 => ?_) (fun c_49 => ?_)
                    · have hF_50 := ipos c_49 hF_48
                      clear hF_48
                      refine lv_aload_n hx hb dX12_directionOf_120 rfl (lv_at hl 0 rfl) ?_
                      refine lv_iload_n hx hb dX12_directionOf_121 rfl (lv_at hl 1 rfl) ?_
                      obtain ⟨q_51, vq_51, hRq_51, hSq_51⟩ := hE.2.2.2.2 _ (List.mem_of_getElem? (i := 123) rfl)
                      refine g_ldcwS (own := RX12) (tx := "down") hx hb hown hRq_51 dX12_directionOf_122 ?_
                      obtain ⟨u_52, hu_52, hF_53⟩ := Option.bind_eq_some_iff.mp hF_50
                      clear hF_50
                      refine m_ci hsz hS (va_runV (As := [.int p0, .ref q_51]) (rest := []) ⟨hx, hb, hml, hown, hts⟩ (m_X12_isTerm l dC dI cB cC cI cJ cZ cP h qK qS ad hDD H.size q_51 _ p0 ([100, 111, 119, 110] : List Int32) u_47.2 _ hu_52) (cwV 2 hts (g_gV wq_1789 wq_1790 wq_2204 wq_13 wq_1791) rfl rfl rfl (by decide +kernel) ⟨Nat.le_of_ble_eq_true rfl, Nat.le_of_ble_eq_true rfl⟩) (m_preV g_blS hsz hK hP hS hE hKS (g_toS hSq_51 hS (m_narrow hS hsz))) rfl rfl hl.1 rfl (lv_room (Nat.le_of_ble_eq_true rfl)) dX12_directionOf_125 ⟨Nat.le_of_ble_eq_true rfl, Nat.le_of_ble_eq_true rfl⟩) (fun H locs hP hS => ?_)
                      refine lv_if_ne (tgt := 142) hx hb dX12_directionOf_128 (by decide) (fun c_54 => ?_) (fun c_54 => ?_)
                      · have hF_62 := ineg c_54 hF_53
                        clear hF_53
                        refine lv_bipush (v := 6) hx hb dX12_directionOf_142 (by decide +kernel) ?_
                        refine lv_goto (tgt := 148) hx hb dX12_directionOf_144 (by decide) ?_
                        have h9 := Option.some.inj hF_62
                        subst h9
                        exact W.iret (v := 6) hx hb hr (fun t ht hW => ⟨⟨6, (), rfl, rfl, m_end ht hP⟩, hS.F ht⟩) hS.2.2 dX12_directionOf_148
                      · have hF_55 := ipos c_54 hF_53
                        clear hF_53
                        refine lv_aload_n hx hb dX12_directionOf_131 rfl (lv_at hl 0 rfl) ?_
                        refine lv_iload_n hx hb dX12_directionOf_132 rfl (lv_at hl 1 rfl) ?_
                        obtain ⟨q_56, vq_56, hRq_56, hSq_56⟩ := hE.2.2.2.2 _ (List.mem_of_getElem? (i := 124) rfl)
                        refine g_ldcwS (own := RX12) (tx := "d") hx hb hown hRq_56 dX12_directionOf_133 ?_
                        obtain ⟨u_57, hu_57, hF_58⟩ := Option.bind_eq_some_iff.mp hF_55
                        clear hF_55
                        refine m_ci hsz hS (va_runV (As := [.int p0, .ref q_56]) (rest := []) ⟨hx, hb, hml, hown, hts⟩ (m_X12_isTerm l dC dI cB cC cI cJ cZ cP h qK qS ad hDD H.size q_56 _ p0 ([100] : List Int32) u_52.2 _ hu_57) (cwV 2 hts (g_gV wq_1789 wq_1790 wq_2204 wq_13 wq_1791) rfl rfl rfl (by decide +kernel) ⟨Nat.le_of_ble_eq_true rfl, Nat.le_of_ble_eq_true rfl⟩) (m_preV g_blS hsz hK hP hS hE hKS (g_toS hSq_56 hS (m_narrow hS hsz))) rfl rfl hl.1 rfl (lv_room (Nat.le_of_ble_eq_true rfl)) dX12_directionOf_136 ⟨Nat.le_of_ble_eq_true rfl, Nat.le_of_ble_eq_true rfl⟩) (fun H locs hP hS => ?_)
                        refine lv_if_eq (tgt := 147) hx hb dX12_directionOf_139 (by decide) (fun c_59 => ?_) (fun c_59 => ?_)
                        · have hF_60 := ipos c_59 hF_58
                          clear hF_58
                          refine lv_iconst (v := 0) hx hb dX12_directionOf_147 (by decide +kernel) ?_
                          have h9 := Option.some.inj hF_60
                          subst h9
                          exact W.iret (v := 0) hx hb hr (fun t ht hW => ⟨⟨0, (), rfl, rfl, m_end ht hP⟩, hS.F ht⟩) hS.2.2 dX12_directionOf_148
                        · have hF_61 := ineg c_59 hF_58
                          clear hF_58
                          refine lv_bipush (v := 6) hx hb dX12_directionOf_142 (by decide +kernel) ?_
                          refine lv_goto (tgt := 148) hx hb dX12_directionOf_144 (by decide) ?_
                          have h9 := Option.some.inj hF_61
                          subst h9
                          exact W.iret (v := 6) hx hb hr (fun t ht hW => ⟨⟨6, (), rfl, rfl, m_end ht hP⟩, hS.F ht⟩) hS.2.2 dX12_directionOf_148
                    · have hF_63 := ineg c_49 hF_48
                      clear hF_48
                      refine lv_iconst (v := 5) hx hb dX12_directionOf_118 (by decide +kernel) ?_
                      have h9 := Option.some.inj hF_63
                      subst h9
                      exact W.iret (v := 5) hx hb hr (fun t ht hW => ⟨⟨5, (), rfl, rfl, m_end ht hP⟩, hS.F ht⟩) hS.2.2 dX12_directionOf_119
                · have hF_65 := ineg c_39 hF_38
                  clear hF_38
                  refine lv_iconst (v := 4) hx hb dX12_directionOf_94 (by decide +kernel) ?_
                  have h9 := Option.some.inj hF_65
                  subst h9
                  exact W.iret (v := 4) hx hb hr (fun t ht hW => ⟨⟨4, (), rfl, rfl, m_end ht hP⟩, hS.F ht⟩) hS.2.2 dX12_directionOf_95
            · have hF_67 := ineg c_29 hF_28
              clear hF_28
              refine lv_iconst (v := 3) hx hb dX12_directionOf_70 (by decide +kernel) ?_
              have h9 := Option.some.inj hF_67
              subst h9
              exact W.iret (v := 3) hx hb hr (fun t ht hW => ⟨⟨3, (), rfl, rfl, m_end ht hP⟩, hS.F ht⟩) hS.2.2 dX12_directionOf_71
        · have hF_69 := ineg c_19 hF_18
          clear hF_18
          refine lv_iconst (v := 2) hx hb dX12_directionOf_46 (by decide +kernel) ?_
          have h9 := Option.some.inj hF_69
          subst h9
          exact W.iret (v := 2) hx hb hr (fun t ht hW => ⟨⟨2, (), rfl, rfl, m_end ht hP⟩, hS.F ht⟩) hS.2.2 dX12_directionOf_47
    · have hF_71 := ineg c_9 hF_8
      clear hF_8
      refine lv_iconst (v := 1) hx hb dX12_directionOf_22 (by decide +kernel) ?_
      have h9 := Option.some.inj hF_71
      subst h9
      exact W.iret (v := 1) hx hb hr (fun t ht hW => ⟨⟨1, (), rfl, rfl, m_end ht hP⟩, hS.F ht⟩) hS.2.2 dX12_directionOf_23
theorem dX12_inventory_0 : decode cX12_inventory 0 = .ok (.iconst 0, 1) := by decide +kernel
theorem dX12_inventory_1 : decode cX12_inventory 1 = .ok (.istore_n 1, 1) := by decide +kernel
theorem dX12_inventory_2 : decode cX12_inventory 2 = .ok (.aload_n 0, 1) := by decide +kernel
theorem dX12_inventory_3 : decode cX12_inventory 3 = .ok (.getfield 185, 3) := by decide +kernel
theorem dX12_inventory_6 : decode cX12_inventory 6 = .ok (.iconst 1, 1) := by decide +kernel
theorem dX12_inventory_7 : decode cX12_inventory 7 = .ok (.iaload, 1) := by decide +kernel
theorem dX12_inventory_8 : decode cX12_inventory 8 = .ok (.istore_n 2, 1) := by decide +kernel
theorem dX12_inventory_9 : decode cX12_inventory 9 = .ok (.iload_n 2, 1) := by decide +kernel
theorem dX12_inventory_10 : decode cX12_inventory 10 = .ok (.ifCond .eq 57, 3) := by decide +kernel
theorem dX12_inventory_13 : decode cX12_inventory 13 = .ok (.aload_n 0, 1) := by decide +kernel
theorem dX12_inventory_14 : decode cX12_inventory 14 = .ok (.iload_n 2, 1) := by decide +kernel
theorem dX12_inventory_15 : decode cX12_inventory 15 = .ok (.iconst 2, 1) := by decide +kernel
theorem dX12_inventory_16 : decode cX12_inventory 16 = .ok (.iconst 1, 1) := by decide +kernel
theorem dX12_inventory_17 : decode cX12_inventory 17 = .ok (.invokevirtual 896, 3) := by decide +kernel
theorem dX12_inventory_20 : decode cX12_inventory 20 = .ok (.ifCond .eq 6, 3) := by decide +kernel
theorem dX12_inventory_23 : decode cX12_inventory 23 = .ok (.goto 34, 3) := by decide +kernel
theorem dX12_inventory_26 : decode cX12_inventory 26 = .ok (.iload_n 1, 1) := by decide +kernel
theorem dX12_inventory_27 : decode cX12_inventory 27 = .ok (.ifCond .ne 10, 3) := by decide +kernel
theorem dX12_inventory_30 : decode cX12_inventory 30 = .ok (.aload_n 0, 1) := by decide +kernel
theorem dX12_inventory_31 : decode cX12_inventory 31 = .ok (.ldc_w 990, 3) := by decide +kernel
theorem dX12_inventory_34 : decode cX12_inventory 34 = .ok (.invokevirtual 768, 3) := by decide +kernel
theorem dX12_inventory_37 : decode cX12_inventory 37 = .ok (.iconst 1, 1) := by decide +kernel
theorem dX12_inventory_38 : decode cX12_inventory 38 = .ok (.istore_n 1, 1) := by decide +kernel
theorem dX12_inventory_39 : decode cX12_inventory 39 = .ok (.aload_n 0, 1) := by decide +kernel
theorem dX12_inventory_40 : decode cX12_inventory 40 = .ok (.ldc_w 992, 3) := by decide +kernel
theorem dX12_inventory_43 : decode cX12_inventory 43 = .ok (.invokevirtual 673, 3) := by decide +kernel
theorem dX12_inventory_46 : decode cX12_inventory 46 = .ok (.aload_n 0, 1) := by decide +kernel
theorem dX12_inventory_47 : decode cX12_inventory 47 = .ok (.iload_n 2, 1) := by decide +kernel
theorem dX12_inventory_48 : decode cX12_inventory 48 = .ok (.invokevirtual 783, 3) := by decide +kernel
theorem dX12_inventory_51 : decode cX12_inventory 51 = .ok (.aload_n 0, 1) := by decide +kernel
theorem dX12_inventory_52 : decode cX12_inventory 52 = .ok (.bipush 10, 2) := by decide +kernel
theorem dX12_inventory_54 : decode cX12_inventory 54 = .ok (.invokevirtual 671, 3) := by decide +kernel
theorem dX12_inventory_57 : decode cX12_inventory 57 = .ok (.aload_n 0, 1) := by decide +kernel
theorem dX12_inventory_58 : decode cX12_inventory 58 = .ok (.getfield 188, 3) := by decide +kernel
theorem dX12_inventory_61 : decode cX12_inventory 61 = .ok (.iload_n 2, 1) := by decide +kernel
theorem dX12_inventory_62 : decode cX12_inventory 62 = .ok (.iaload, 1) := by decide +kernel
theorem dX12_inventory_63 : decode cX12_inventory 63 = .ok (.istore_n 2, 1) := by decide +kernel
theorem dX12_inventory_64 : decode cX12_inventory 64 = .ok (.goto (-55), 3) := by decide +kernel
theorem dX12_inventory_67 : decode cX12_inventory 67 = .ok (.iload_n 1, 1) := by decide +kernel
theorem dX12_inventory_68 : decode cX12_inventory 68 = .ok (.ifCond .ne 10, 3) := by decide +kernel
theorem dX12_inventory_71 : decode cX12_inventory 71 = .ok (.aload_n 0, 1) := by decide +kernel
theorem dX12_inventory_72 : decode cX12_inventory 72 = .ok (.ldc_w 994, 3) := by decide +kernel
theorem dX12_inventory_75 : decode cX12_inventory 75 = .ok (.invokevirtual 768, 3) := by decide +kernel
theorem dX12_inventory_78 : decode cX12_inventory 78 = .ok (.return_, 1) := by decide +kernel
def F_X12_inventory  (σ : MS) : MR :=
  bnd ((σ.2 88 (1 : Int32).toNatClampNeg)) fun (x_1 : Int32) =>
  loopF (fun (again_4 : (Int32 × Int32 × MS) → MR) (s_3 : Int32 × Int32 × MS) => (
    if s_3.2.1 = 0 then (
      if s_3.1 = 0 then (
        (F_X12_line ([89, 111, 117, 32, 99, 97, 114, 114, 121, 32, 110, 111, 116, 104, 105, 110, 103, 46] : List Int32) s_3.2.2).bind fun u_12 =>
        some (0, u_12.2)
      ) else (
        some (0, s_3.2.2)
      )
    ) else (
      (F_X12_has s_3.2.1 2 1 s_3.2.2).bind fun u_16 =>
      bnd (fun (v1_18 : Int32) (σ_19 : MS) => (
        if s_3.2.1 < 0 ∨ 121 ≤ s_3.2.1.toNatClampNeg then none else
        bnd ((σ_19.2 89 s_3.2.1.toNatClampNeg)) fun (x_25 : Int32) =>
        again_4 (v1_18, x_25, σ_19)
      ) : Int32 → MS → MR) fun j_20 =>
      if u_16.1 = 0 then (
        bnd (fun  (σ_29 : MS) => (
          (F_X12_say ([32, 32] : List Int32) σ_29).bind fun u_34 =>
          (F_X12_sayName s_3.2.1 u_34.2).bind fun u_36 =>
          (F_X12_put 10 u_36.2).bind fun u_38 =>
          j_20 1 u_38.2
        ) : MS → MR) fun j_30 =>
        if s_3.1 = 0 then (
          (F_X12_line ([89, 111, 117, 32, 99, 97, 114, 114, 121, 58] : List Int32) u_16.2).bind fun u_43 =>
          j_30  u_43.2
        ) else (
          j_30  u_16.2
        )
      ) else (
        j_20 s_3.1 u_16.2
      )
    )
  )) FU (0, x_1, σ)
set_option maxHeartbeats 4000000 in
set_option maxRecDepth 100000 in
theorem m_X12_inventory (l : Launch) (dC : Nat → ClassId) (dI : Nat → Nat → Nat) (cB cC cI cJ cZ cP : ClassId) (h qK qS : Nat) (ad : Nat → Nat) (hDD : mDis cB cI cZ h qK qS ad) (sz : Nat)   (σ : MS) (res : Int32 × MS) (hF : F_X12_inventory  σ = some res) : Met l yX12_inventory (g_ws yX12_inventory cX12_inventory 3 none) ({ frames := 7, cells := 0, slots := 0, locals := 168 }) (va_Pc [.ref h] (m_B (dC, dI) [(cB, .byte), (cC, .char), (cI, .int), (cJ, .long), (cZ, .boolean), (cP, .object "StoryHouse$Play")] sz h ad qK qS (mW cB cI cZ h qK qS ad σ) g_0)) (va_Qv (fun (_ : Unit) => True) (fun _ t => va_P (dC, dI) vwCl (mW cB cI cZ h qK qS ad res.2) t.heap) (mCells h ad sz)) 0 0 (mCells h ad sz) := by
  refine Met.ofW (cc := cX12_inventory) (maxL := 3) (ret := none) (by decide) rfl ?_
  intro p e s m args below meth c s₁ B hml hv
  obtain ⟨rfl, hsz, hP, hK, hE, hKS, hX⟩ := hv
  have hx := B.exec
  have hb := B.bytes
  have hr := B.returns
  have hts0 := atoms_spec (ws := g_ws yX12_inventory cX12_inventory 3 none) B.pre
  have hts : ∀ w ∈ lw_good, w.before ([.ref h] : List Value).toArray s = true := fun w z => hts0 w (List.mem_cons_of_mem _ z)
  have hown : s.vm.findClass RX12 = some m.cls := findClass_of_methodNamed B.named
  have hlocks := B.notSynchronized
  have hS : va_S (mCells h ad sz) s.heap s.heap [] := va_S.rf
  have hl := lv_entry ([.ref h]) (n := 3) (Nat.le_of_ble_eq_true rfl)
  rw [lg_entry_eq]
  generalize (lg_sl ([.ref h]) ++ List.replicate (3 - (lg_sl ([.ref h])).length) Slot.unset).toArray = ls at hl ⊢
  have hl : lv_has ls 3 [(0, .ref h)] := hl
  unfold F_X12_inventory at hF
  refine lv_iconst (v := 0) hx hb dX12_inventory_0 (by decide +kernel) ?_
  refine lv_istore_n (lv' := [(1, .int 0), (0, .ref h)]) hx hb dX12_inventory_1 rfl hl (by decide) rfl (fun ls hl => ?_)
  refine lv_aload_n hx hb dX12_inventory_2 rfl (lv_at hl 1 rfl) ?_
  refine va_get (D := (dC, dI)) (ci := 12) (v := .ref (ad 88)) (C := RX12) (T := TX12) (N := 123) hx hb hts ii_X12 hown hK hP 0 rfl rfl 88 (by decide) (hts (.fieldLink RX12 185 "StoryHouseModel" "first" "[I") wq_1444) (fun _ h9 => h9) rfl dX12_inventory_3 ?_
  refine lv_iconst (v := 1) hx hb dX12_inventory_6 (by decide +kernel) ?_
  refine va_iald (f := σ.2 88) hx hb hK hP 53 2 rfl rfl (vp_in_iff.mpr (by decide +kernel)) dX12_inventory_7 ?_
  obtain ⟨x_1, ex_1, hF_2⟩ := bnd_e hF
  clear hF
  refine m_top ex_1 ?_
  refine lv_istore_n (lv' := [(2, .int x_1), (1, .int 0), (0, .ref h)]) hx hb dX12_inventory_8 rfl hl (by decide) rfl (fun ls hl => ?_)
  refine loopF_ind (P := fun (s_3 : Int32 × Int32 × MS) => ∀ (H : Heap) (locs : List Loc), va_P (dC, dI) vwCl (mW cB cI cZ h qK qS ad s_3.2.2) H → va_S (mCells h ad sz) s.heap H locs → ∀ ls : Array Slot, lv_has ls 3 [(0, .ref h), (1, .int s_3.1), (2, .int s_3.2.1)] → W p l e (headSpec (g_ws yX12_inventory cX12_inventory 3 none) { frames := 7, cells := 0, slots := 0, locals := 168 }).room s m ([.ref h] : List Value).toArray below meth c H locs 0 0 (MQ below (va_Qv (fun (_ : Unit) => True) (fun _ t => va_P (dC, dI) vwCl (mW cB cI cZ h qK qS ad res.2) t.heap) (mCells h ad sz)) ([.ref h] : List Value).toArray s 0 0 (mCells h ad sz)) (F0 m 9 ls [])) ?_ _ _ hF_2 _ _ hP hS ls (lv_sub hl [2, 1, 0] rfl)
  intro again_4 s_3 ih_5 hF_6
  intro H locs hP hS ls hl
  refine lv_iload_n hx hb dX12_inventory_9 rfl (lv_at hl 2 rfl) ?_
  refine lv_if_eq (tgt := 67) hx hb dX12_inventory_10 (by decide) (fun c_7 => ?_) (fun c_7 => ?_)
  · have hF_8 := ipos c_7 hF_6
    clear hF_6
    refine lv_iload_n hx hb dX12_inventory_67 rfl (lv_at hl 1 rfl) ?_
    refine lv_if_ne (tgt := 78) hx hb dX12_inventory_68 (by decide) (fun c_9 => ?_) (fun c_9 => ?_)
    · have hF_14 := ineg c_9 hF_8
      clear hF_8
      have h9 := Option.some.inj hF_14
      subst h9
      exact W.vret hx hb hr (fun t ht hW => ⟨⟨(), rfl, trivial, m_end ht hP⟩, hS.F ht⟩) hS.2.2 dX12_inventory_78
    · have hF_10 := ipos c_9 hF_8
      clear hF_8
      refine lv_aload_n hx hb dX12_inventory_71 rfl (lv_at hl 0 rfl) ?_
      obtain ⟨q_11, vq_11, hRq_11, hSq_11⟩ := hE.2.2.2.2 _ (List.mem_of_getElem? (i := 129) rfl)
      refine g_ldcwS (own := RX12) (tx := "You carry nothing.") hx hb hown hRq_11 dX12_inventory_72 ?_
      obtain ⟨u_12, hu_12, hF_13⟩ := Option.bind_eq_some_iff.mp hF_10
      clear hF_10
      refine m_cv hsz hS (va_runV (As := [.ref q_11]) (rest := []) ⟨hx, hb, hml, hown, hts⟩ (m_X12_line l dC dI cB cC cI cJ cZ cP h qK qS ad hDD H.size q_11 _ ([89, 111, 117, 32, 99, 97, 114, 114, 121, 32, 110, 111, 116, 104, 105, 110, 103, 46] : List Int32) s_3.2.2 _ hu_12) (cwV 1 hts (g_gV wq_1767 wq_1768 wq_2198 wq_13 wq_1769) rfl rfl rfl (by decide +kernel) ⟨Nat.le_of_ble_eq_true rfl, Nat.le_of_ble_eq_true rfl⟩) (m_preV g_blS hsz hK hP hS hE hKS (g_toS hSq_11 hS (m_narrow hS hsz))) rfl rfl hl.1 rfl (lv_room (Nat.le_of_ble_eq_true rfl)) dX12_inventory_75 ⟨Nat.le_of_ble_eq_true rfl, Nat.le_of_ble_eq_true rfl⟩) (fun H locs hP hS => ?_)
      have h9 := Option.some.inj hF_13
      subst h9
      exact W.vret hx hb hr (fun t ht hW => ⟨⟨(), rfl, trivial, m_end ht hP⟩, hS.F ht⟩) hS.2.2 dX12_inventory_78
  · have hF_15 := ineg c_7 hF_6
    clear hF_6
    refine lv_aload_n hx hb dX12_inventory_13 rfl (lv_at hl 0 rfl) ?_
    refine lv_iload_n hx hb dX12_inventory_14 rfl (lv_at hl 2 rfl) ?_
    refine lv_iconst (v := 2) hx hb dX12_inventory_15 (by decide +kernel) ?_
    refine lv_iconst (v := 1) hx hb dX12_inventory_16 (by decide +kernel) ?_
    obtain ⟨u_16, hu_16, hF_17⟩ := Option.bind_eq_some_iff.mp hF_15
    clear hF_15
    refine m_ci hsz hS (va_runV (As := [.int s_3.2.1, .int 2, .int 1]) (rest := []) ⟨hx, hb, hml, hown, hts⟩ (m_X12_has l dC dI cB cC cI cJ cZ cP h qK qS ad hDD H.size  s_3.2.1 2 1 s_3.2.2 _ hu_16) (cwV 3 hts (g_gV wq_1758 wq_1759 wq_2195 wq_13 wq_1760) rfl rfl rfl (by decide +kernel) ⟨Nat.le_of_ble_eq_true rfl, Nat.le_of_ble_eq_true rfl⟩) (m_preV g_bl0 hsz hK hP hS hE hKS g_to0) rfl rfl hl.1 rfl (lv_room (Nat.le_of_ble_eq_true rfl)) dX12_inventory_17 ⟨Nat.le_of_ble_eq_true rfl, Nat.le_of_ble_eq_true rfl⟩) (fun H locs hP hS => ?_)
    obtain ⟨j_20, ej_20, hF_21⟩ := bnd_e hF_17
    clear hF_17
    have Jj_20 : ∀ (v1_18 : Int32) (σ_19 : MS), j_20 v1_18 σ_19 = some res → ∀ (H : Heap) (locs : List Loc), va_P (dC, dI) vwCl (mW cB cI cZ h qK qS ad σ_19) H → va_S (mCells h ad sz) s.heap H locs → ∀ ls : Array Slot, lv_has ls 3 [(0, .ref h), (1, .int v1_18), (2, .int s_3.2.1)] → W p l e (headSpec (g_ws yX12_inventory cX12_inventory 3 none) { frames := 7, cells := 0, slots := 0, locals := 168 }).room s m ([.ref h] : List Value).toArray below meth c H locs 0 0 (MQ below (va_Qv (fun (_ : Unit) => True) (fun _ t => va_P (dC, dI) vwCl (mW cB cI cZ h qK qS ad res.2) t.heap) (mCells h ad sz)) ([.ref h] : List Value).toArray s 0 0 (mCells h ad sz)) (F0 m 57 ls []) := by
      intro v1_18 σ_19 hF0 H locs hP hS ls hl
      subst ej_20
      have hF_22 := hF0
      clear hF0
      refine lv_aload_n hx hb dX12_inventory_57 rfl (lv_at hl 0 rfl) ?_
      refine va_get (D := (dC, dI)) (ci := 12) (v := .ref (ad 89)) (C := RX12) (T := TX12) (N := 123) hx hb hts ii_X12 hown hK hP 0 rfl rfl 89 (by decide) (hts (.fieldLink RX12 188 "StoryHouseModel" "next" "[I") wq_1445) (fun _ h9 => h9) rfl dX12_inventory_58 ?_
      refine lv_iload_n hx hb dX12_inventory_61 rfl (lv_at hl 2 rfl) ?_
      obtain ⟨g_23, hF_24⟩ := nif_e hF_22
      clear hF_22
      refine va_iald (f := σ_19.2 89) hx hb hK hP 54 2 rfl rfl g_23 dX12_inventory_62 ?_
      obtain ⟨x_25, ex_25, hF_26⟩ := bnd_e hF_24
      clear hF_24
      refine m_top ex_25 ?_
      refine lv_istore_n (lv' := [(2, .int x_25), (0, .ref h), (1, .int v1_18)]) hx hb dX12_inventory_63 rfl hl (by decide) rfl (fun ls hl => ?_)
      refine lv_goto (tgt := 9) hx hb dX12_inventory_64 (by decide) ?_
      exact ih_5 (v1_18, x_25, σ_19) hF_26 _ _ hP hS ls (lv_sub hl [1, 2, 0] rfl)
    refine lv_if_eq (tgt := 26) hx hb dX12_inventory_20 (by decide) (fun c_27 => ?_) (fun c_27 => ?_)
    · have hF_28 := ipos c_27 hF_21
      clear hF_21
      refine lv_iload_n hx hb dX12_inventory_26 rfl (lv_at hl 1 rfl) ?_
      obtain ⟨j_30, ej_30, hF_31⟩ := bnd_e hF_28
      clear hF_28
      have Jj_30 : ∀  (σ_29 : MS), j_30  σ_29 = some res → ∀ (H : Heap) (locs : List Loc), va_P (dC, dI) vwCl (mW cB cI cZ h qK qS ad σ_29) H → va_S (mCells h ad sz) s.heap H locs → ∀ ls : Array Slot, lv_has ls 3 [(0, .ref h), (2, .int s_3.2.1)] → W p l e (headSpec (g_ws yX12_inventory cX12_inventory 3 none) { frames := 7, cells := 0, slots := 0, locals := 168 }).room s m ([.ref h] : List Value).toArray below meth c H locs 0 0 (MQ below (va_Qv (fun (_ : Unit) => True) (fun _ t => va_P (dC, dI) vwCl (mW cB cI cZ h qK qS ad res.2) t.heap) (mCells h ad sz)) ([.ref h] : List Value).toArray s 0 0 (mCells h ad sz)) (F0 m 37 ls []) := by
        intro  σ_29 hF0 H locs hP hS ls hl
        subst ej_30
        have hF_32 := hF0
        clear hF0
        refine lv_iconst (v := 1) hx hb dX12_inventory_37 (by decide +kernel) ?_
        refine lv_istore_n (lv' := [(1, .int 1), (0, .ref h), (2, .int s_3.2.1)]) hx hb dX12_inventory_38 rfl hl (by decide) rfl (fun ls hl => ?_)
        refine lv_aload_n hx hb dX12_inventory_39 rfl (lv_at hl 1 rfl) ?_
        obtain ⟨q_33, vq_33, hRq_33, hSq_33⟩ := hE.2.2.2.2 _ (List.mem_of_getElem? (i := 128) rfl)
        refine g_ldcwS (own := RX12) (tx := "  ") hx hb hown hRq_33 dX12_inventory_40 ?_
        obtain ⟨u_34, hu_34, hF_35⟩ := Option.bind_eq_some_iff.mp hF_32
        clear hF_32
        refine m_cv hsz hS (va_runV (As := [.ref q_33]) (rest := []) ⟨hx, hb, hml, hown, hts⟩ (m_X12_say l dC dI cB cC cI cJ cZ cP h qK qS ad hDD H.size q_33 _ ([32, 32] : List Int32) σ_29 _ hu_34) (cwV 1 hts (g_gV wq_1770 wq_1771 wq_2199 wq_13 wq_1772) rfl rfl rfl (by decide +kernel) ⟨Nat.le_of_ble_eq_true rfl, Nat.le_of_ble_eq_true rfl⟩) (m_preV g_blS hsz hK hP hS hE hKS (g_toS hSq_33 hS (m_narrow hS hsz))) rfl rfl hl.1 rfl (lv_room (Nat.le_of_ble_eq_true rfl)) dX12_inventory_43 ⟨Nat.le_of_ble_eq_true rfl, Nat.le_of_ble_eq_true rfl⟩) (fun H locs hP hS => ?_)
        refine lv_aload_n hx hb dX12_inventory_46 rfl (lv_at hl 1 rfl) ?_
        refine lv_iload_n hx hb dX12_inventory_47 rfl (lv_at hl 2 rfl) ?_
        obtain ⟨u_36, hu_36, hF_37⟩ := Option.bind_eq_some_iff.mp hF_35
        clear hF_35
        refine m_cv hsz hS (va_runV (As := [.int s_3.2.1]) (rest := []) ⟨hx, hb, hml, hown, hts⟩ (m_X12_sayName l dC dI cB cC cI cJ cZ cP h qK qS ad hDD H.size  s_3.2.1 u_34.2 _ hu_36) (cwV 1 hts (g_gV wq_1776 wq_1777 wq_2201 wq_13 wq_1778) rfl rfl rfl (by decide +kernel) ⟨Nat.le_of_ble_eq_true rfl, Nat.le_of_ble_eq_true rfl⟩) (m_preV g_bl0 hsz hK hP hS hE hKS g_to0) rfl rfl hl.1 rfl (lv_room (Nat.le_of_ble_eq_true rfl)) dX12_inventory_48 ⟨Nat.le_of_ble_eq_true rfl, Nat.le_of_ble_eq_true rfl⟩) (fun H locs hP hS => ?_)
        refine lv_aload_n hx hb dX12_inventory_51 rfl (lv_at hl 1 rfl) ?_
        refine lv_bipush (v := 10) hx hb dX12_inventory_52 (by decide +kernel) ?_
        obtain ⟨u_38, hu_38, hF_39⟩ := Option.bind_eq_some_iff.mp hF_37
        clear hF_37
        refine m_cv hsz hS (va_runV (As := [.int 10]) (rest := []) ⟨hx, hb, hml, hown, hts⟩ (m_X12_put l dC dI cB cC cI cJ cZ cP h qK qS ad hDD H.size  10 u_36.2 _ hu_38) (cwV 1 hts (g_gV wq_1773 wq_1774 wq_2200 wq_13 wq_1775) rfl rfl rfl (by decide +kernel) ⟨Nat.le_of_ble_eq_true rfl, Nat.le_of_ble_eq_true rfl⟩) (m_preV g_bl0 hsz hK hP hS hE hKS g_to0) rfl rfl hl.1 rfl (lv_room (Nat.le_of_ble_eq_true rfl)) dX12_inventory_54 ⟨Nat.le_of_ble_eq_true rfl, Nat.le_of_ble_eq_true rfl⟩) (fun H locs hP hS => ?_)
        exact Jj_20 1 u_38.2 hF_39 _ _ hP hS ls (lv_sub hl [1, 0, 2] rfl)
      refine lv_if_ne (tgt := 37) hx hb dX12_inventory_27 (by decide) (fun c_40 => ?_) (fun c_40 => ?_)
      · have hF_45 := ineg c_40 hF_31
        clear hF_31
        exact Jj_30  u_16.2 hF_45 _ _ hP hS ls (lv_sub hl [0, 2] rfl)
      · have hF_41 := ipos c_40 hF_31
        clear hF_31
        refine lv_aload_n hx hb dX12_inventory_30 rfl (lv_at hl 0 rfl) ?_
        obtain ⟨q_42, vq_42, hRq_42, hSq_42⟩ := hE.2.2.2.2 _ (List.mem_of_getElem? (i := 127) rfl)
        refine g_ldcwS (own := RX12) (tx := "You carry:") hx hb hown hRq_42 dX12_inventory_31 ?_
        obtain ⟨u_43, hu_43, hF_44⟩ := Option.bind_eq_some_iff.mp hF_41
        clear hF_41
        refine m_cv hsz hS (va_runV (As := [.ref q_42]) (rest := []) ⟨hx, hb, hml, hown, hts⟩ (m_X12_line l dC dI cB cC cI cJ cZ cP h qK qS ad hDD H.size q_42 _ ([89, 111, 117, 32, 99, 97, 114, 114, 121, 58] : List Int32) u_16.2 _ hu_43) (cwV 1 hts (g_gV wq_1767 wq_1768 wq_2198 wq_13 wq_1769) rfl rfl rfl (by decide +kernel) ⟨Nat.le_of_ble_eq_true rfl, Nat.le_of_ble_eq_true rfl⟩) (m_preV g_blS hsz hK hP hS hE hKS (g_toS hSq_42 hS (m_narrow hS hsz))) rfl rfl hl.1 rfl (lv_room (Nat.le_of_ble_eq_true rfl)) dX12_inventory_34 ⟨Nat.le_of_ble_eq_true rfl, Nat.le_of_ble_eq_true rfl⟩) (fun H locs hP hS => ?_)
        exact Jj_30  u_43.2 hF_44 _ _ hP hS ls (lv_sub hl [0, 2] rfl)
    · have hF_46 := ineg c_27 hF_21
      clear hF_21
      refine lv_goto (tgt := 57) hx hb dX12_inventory_23 (by decide) ?_
      exact Jj_20 s_3.1 u_16.2 hF_46 _ _ hP hS ls (lv_sub hl [0, 1, 2] rfl)
theorem dX12_moves_0 : decode cX12_moves 0 = .ok (.aload_n 0, 1) := by decide +kernel
theorem dX12_moves_1 : decode cX12_moves 1 = .ok (.iload_n 1, 1) := by decide +kernel
theorem dX12_moves_2 : decode cX12_moves 2 = .ok (.iload_n 2, 1) := by decide +kernel
theorem dX12_moves_3 : decode cX12_moves 3 = .ok (.invokevirtual 777, 3) := by decide +kernel
theorem dX12_moves_6 : decode cX12_moves 6 = .ok (.aload_n 0, 1) := by decide +kernel
theorem dX12_moves_7 : decode cX12_moves 7 = .ok (.aload_n 3, 1) := by decide +kernel
theorem dX12_moves_8 : decode cX12_moves 8 = .ok (.invokevirtual 768, 3) := by decide +kernel
theorem dX12_moves_11 : decode cX12_moves 11 = .ok (.return_, 1) := by decide +kernel
def F_X12_moves (p0 : Int32) (p1 : Int32) (b2 : List Int32) (σ : MS) : MR :=
  (F_X12_putIn p0 p1 σ).bind fun u_1 =>
  (F_X12_line b2 u_1.2).bind fun u_3 =>
  some (0, u_3.2)
set_option maxHeartbeats 4000000 in
set_option maxRecDepth 100000 in
theorem m_X12_moves (l : Launch) (dC : Nat → ClassId) (dI : Nat → Nat → Nat) (cB cC cI cJ cZ cP : ClassId) (h qK qS : Nat) (ad : Nat → Nat) (hDD : mDis cB cI cZ h qK qS ad) (sz : Nat) (q2 vq2 : Nat) (p0 : Int32) (p1 : Int32) (b2 : List Int32) (σ : MS) (res : Int32 × MS) (hF : F_X12_moves p0 p1 b2 σ = some res) : Met l yX12_moves (g_ws yX12_moves cX12_moves 4 none) ({ frames := 7, cells := 0, slots := 0, locals := 168 }) (va_Pc [.ref h, .int p0, .int p1, .ref q2] (m_B (dC, dI) [(cB, .byte), (cC, .char), (cI, .int), (cJ, .long), (cZ, .boolean), (cP, .object "StoryHouse$Play")] sz h ad qK qS (mW cB cI cZ h qK qS ad σ) (fun U : State => g_S q2 vq2 b2 (mCells h ad sz) U U.heap))) (va_Qv (fun (_ : Unit) => True) (fun _ t => va_P (dC, dI) vwCl (mW cB cI cZ h qK qS ad res.2) t.heap) (mCells h ad sz)) 0 0 (mCells h ad sz) := by
  refine Met.ofW (cc := cX12_moves) (maxL := 4) (ret := none) (by decide) rfl ?_
  intro p e s m args below meth c s₁ B hml hv
  obtain ⟨rfl, hsz, hP, hK, hE, hKS, hX⟩ := hv
  have hStr_q2 := hX
  have hx := B.exec
  have hb := B.bytes
  have hr := B.returns
  have hts0 := atoms_spec (ws := g_ws yX12_moves cX12_moves 4 none) B.pre
  have hts : ∀ w ∈ lw_good, w.before ([.ref h, .int p0, .int p1, .ref q2] : List Value).toArray s = true := fun w z => hts0 w (List.mem_cons_of_mem _ z)
  have hown : s.vm.findClass RX12 = some m.cls := findClass_of_methodNamed B.named
  have hlocks := B.notSynchronized
  have hS : va_S (mCells h ad sz) s.heap s.heap [] := va_S.rf
  have hl := lv_entry ([.ref h, .int p0, .int p1, .ref q2]) (n := 4) (Nat.le_of_ble_eq_true rfl)
  rw [lg_entry_eq]
  generalize (lg_sl ([.ref h, .int p0, .int p1, .ref q2]) ++ List.replicate (4 - (lg_sl ([.ref h, .int p0, .int p1, .ref q2])).length) Slot.unset).toArray = ls at hl ⊢
  have hl : lv_has ls 4 [(0, .ref h), (1, .int p0), (2, .int p1), (3, .ref q2)] := hl
  unfold F_X12_moves at hF
  refine lv_aload_n hx hb dX12_moves_0 rfl (lv_at hl 0 rfl) ?_
  refine lv_iload_n hx hb dX12_moves_1 rfl (lv_at hl 1 rfl) ?_
  refine lv_iload_n hx hb dX12_moves_2 rfl (lv_at hl 2 rfl) ?_
  obtain ⟨u_1, hu_1, hF_2⟩ := Option.bind_eq_some_iff.mp hF
  clear hF
  refine m_cv hsz hS (va_runV (As := [.int p0, .int p1]) (rest := []) ⟨hx, hb, hml, hown, hts⟩ (m_X12_putIn l dC dI cB cC cI cJ cZ cP h qK qS ad hDD s.heap.size  p0 p1 σ _ hu_1) (cwV 2 hts (g_gV wq_1746 wq_1747 wq_2191 wq_13 wq_1748) rfl rfl rfl (by decide +kernel) ⟨Nat.le_of_ble_eq_true rfl, Nat.le_of_ble_eq_true rfl⟩) (m_preV g_bl0 hsz hK hP hS hE hKS g_to0) rfl rfl hl.1 rfl (lv_room (Nat.le_of_ble_eq_true rfl)) dX12_moves_3 ⟨Nat.le_of_ble_eq_true rfl, Nat.le_of_ble_eq_true rfl⟩) (fun H locs hP hS => ?_)
  refine lv_aload_n hx hb dX12_moves_6 rfl (lv_at hl 0 rfl) ?_
  refine lv_aload_n hx hb dX12_moves_7 rfl (lv_at hl 3 rfl) ?_
  obtain ⟨u_3, hu_3, hF_4⟩ := Option.bind_eq_some_iff.mp hF_2
  clear hF_2
  refine m_cv hsz hS (va_runV (As := [.ref q2]) (rest := []) ⟨hx, hb, hml, hown, hts⟩ (m_X12_line l dC dI cB cC cI cJ cZ cP h qK qS ad hDD H.size q2 _ b2 u_1.2 _ hu_3) (cwV 1 hts (g_gV wq_1767 wq_1768 wq_2198 wq_13 wq_1769) rfl rfl rfl (by decide +kernel) ⟨Nat.le_of_ble_eq_true rfl, Nat.le_of_ble_eq_true rfl⟩) (m_preV g_blS hsz hK hP hS hE hKS (g_toS hStr_q2 hS (m_narrow hS hsz))) rfl rfl hl.1 rfl (lv_room (Nat.le_of_ble_eq_true rfl)) dX12_moves_8 ⟨Nat.le_of_ble_eq_true rfl, Nat.le_of_ble_eq_true rfl⟩) (fun H locs hP hS => ?_)
  have h9 := Option.some.inj hF_4
  subst h9
  exact W.vret hx hb hr (fun t ht hW => ⟨⟨(), rfl, trivial, m_end ht hP⟩, hS.F ht⟩) hS.2.2 dX12_moves_11
theorem dX12_does_0 : decode cX12_does 0 = .ok (.iload_n 1, 1) := by decide +kernel
theorem dX12_does_1 : decode cX12_does 1 = .ok (.tableswitch 494 1 11 #[59, 66, 73, 83, 140, 177, 221, 221, 340, 340, 437], 59) := by decide +kernel
theorem dX12_does_60 : decode cX12_does 60 = .ok (.aload_n 0, 1) := by decide +kernel
theorem dX12_does_61 : decode cX12_does 61 = .ok (.invokevirtual 789, 3) := by decide +kernel
theorem dX12_does_64 : decode cX12_does 64 = .ok (.goto 438, 3) := by decide +kernel
theorem dX12_does_67 : decode cX12_does 67 = .ok (.aload_n 0, 1) := by decide +kernel
theorem dX12_does_68 : decode cX12_does 68 = .ok (.invokevirtual 950, 3) := by decide +kernel
theorem dX12_does_71 : decode cX12_does 71 = .ok (.goto 431, 3) := by decide +kernel
theorem dX12_does_74 : decode cX12_does 74 = .ok (.aload_n 0, 1) := by decide +kernel
theorem dX12_does_75 : decode cX12_does 75 = .ok (.ldc_w 952, 3) := by decide +kernel
theorem dX12_does_78 : decode cX12_does 78 = .ok (.invokevirtual 768, 3) := by decide +kernel
theorem dX12_does_81 : decode cX12_does 81 = .ok (.goto 421, 3) := by decide +kernel
theorem dX12_does_84 : decode cX12_does 84 = .ok (.iload_n 2, 1) := by decide +kernel
theorem dX12_does_85 : decode cX12_does 85 = .ok (.iconst 1, 1) := by decide +kernel
theorem dX12_does_86 : decode cX12_does 86 = .ok (.if_icmp .eq 13, 3) := by decide +kernel
theorem dX12_does_89 : decode cX12_does 89 = .ok (.aload_n 0, 1) := by decide +kernel
theorem dX12_does_90 : decode cX12_does 90 = .ok (.getfield 182, 3) := by decide +kernel
theorem dX12_does_93 : decode cX12_does 93 = .ok (.iload_n 2, 1) := by decide +kernel
theorem dX12_does_94 : decode cX12_does 94 = .ok (.iaload, 1) := by decide +kernel
theorem dX12_does_95 : decode cX12_does 95 = .ok (.iconst 1, 1) := by decide +kernel
theorem dX12_does_96 : decode cX12_does 96 = .ok (.if_icmp .ne 13, 3) := by decide +kernel
theorem dX12_does_99 : decode cX12_does 99 = .ok (.aload_n 0, 1) := by decide +kernel
theorem dX12_does_100 : decode cX12_does 100 = .ok (.ldc_w 954, 3) := by decide +kernel
theorem dX12_does_103 : decode cX12_does 103 = .ok (.invokevirtual 768, 3) := by decide +kernel
theorem dX12_does_106 : decode cX12_does 106 = .ok (.goto 396, 3) := by decide +kernel
theorem dX12_does_109 : decode cX12_does 109 = .ok (.aload_n 0, 1) := by decide +kernel
theorem dX12_does_110 : decode cX12_does 110 = .ok (.iload_n 2, 1) := by decide +kernel
theorem dX12_does_111 : decode cX12_does 111 = .ok (.iconst 1, 1) := by decide +kernel
theorem dX12_does_112 : decode cX12_does 112 = .ok (.iconst 1, 1) := by decide +kernel
theorem dX12_does_113 : decode cX12_does 113 = .ok (.invokevirtual 896, 3) := by decide +kernel
theorem dX12_does_116 : decode cX12_does 116 = .ok (.ifCond .eq 13, 3) := by decide +kernel
theorem dX12_does_119 : decode cX12_does 119 = .ok (.aload_n 0, 1) := by decide +kernel
theorem dX12_does_120 : decode cX12_does 120 = .ok (.ldc_w 956, 3) := by decide +kernel
theorem dX12_does_123 : decode cX12_does 123 = .ok (.invokevirtual 768, 3) := by decide +kernel
theorem dX12_does_126 : decode cX12_does 126 = .ok (.goto 376, 3) := by decide +kernel
theorem dX12_does_129 : decode cX12_does 129 = .ok (.aload_n 0, 1) := by decide +kernel
theorem dX12_does_130 : decode cX12_does 130 = .ok (.iload_n 2, 1) := by decide +kernel
theorem dX12_does_131 : decode cX12_does 131 = .ok (.iconst 1, 1) := by decide +kernel
theorem dX12_does_132 : decode cX12_does 132 = .ok (.ldc_w 958, 3) := by decide +kernel
theorem dX12_does_135 : decode cX12_does 135 = .ok (.invokevirtual 960, 3) := by decide +kernel
theorem dX12_does_138 : decode cX12_does 138 = .ok (.goto 364, 3) := by decide +kernel
theorem dX12_does_141 : decode cX12_does 141 = .ok (.aload_n 0, 1) := by decide +kernel
theorem dX12_does_142 : decode cX12_does 142 = .ok (.getfield 182, 3) := by decide +kernel
theorem dX12_does_145 : decode cX12_does 145 = .ok (.iload_n 2, 1) := by decide +kernel
theorem dX12_does_146 : decode cX12_does 146 = .ok (.iaload, 1) := by decide +kernel
theorem dX12_does_147 : decode cX12_does 147 = .ok (.iconst 1, 1) := by decide +kernel
theorem dX12_does_148 : decode cX12_does 148 = .ok (.if_icmp .eq 13, 3) := by decide +kernel
theorem dX12_does_151 : decode cX12_does 151 = .ok (.aload_n 0, 1) := by decide +kernel
theorem dX12_does_152 : decode cX12_does 152 = .ok (.ldc_w 964, 3) := by decide +kernel
theorem dX12_does_155 : decode cX12_does 155 = .ok (.invokevirtual 768, 3) := by decide +kernel
theorem dX12_does_158 : decode cX12_does 158 = .ok (.goto 344, 3) := by decide +kernel
theorem dX12_does_161 : decode cX12_does 161 = .ok (.aload_n 0, 1) := by decide +kernel
theorem dX12_does_162 : decode cX12_does 162 = .ok (.iload_n 2, 1) := by decide +kernel
theorem dX12_does_163 : decode cX12_does 163 = .ok (.aload_n 0, 1) := by decide +kernel
theorem dX12_does_164 : decode cX12_does 164 = .ok (.getfield 182, 3) := by decide +kernel
theorem dX12_does_167 : decode cX12_does 167 = .ok (.iconst 1, 1) := by decide +kernel
theorem dX12_does_168 : decode cX12_does 168 = .ok (.iaload, 1) := by decide +kernel
theorem dX12_does_169 : decode cX12_does 169 = .ok (.ldc_w 966, 3) := by decide +kernel
theorem dX12_does_172 : decode cX12_does 172 = .ok (.invokevirtual 960, 3) := by decide +kernel
theorem dX12_does_175 : decode cX12_does 175 = .ok (.goto 327, 3) := by decide +kernel
theorem dX12_does_178 : decode cX12_does 178 = .ok (.aload_n 0, 1) := by decide +kernel
theorem dX12_does_179 : decode cX12_does 179 = .ok (.getfield 237, 3) := by decide +kernel
theorem dX12_does_182 : decode cX12_does 182 = .ok (.iload_n 2, 1) := by decide +kernel
theorem dX12_does_183 : decode cX12_does 183 = .ok (.baload, 1) := by decide +kernel
theorem dX12_does_184 : decode cX12_does 184 = .ok (.ifCond .eq 28, 3) := by decide +kernel
theorem dX12_does_187 : decode cX12_does 187 = .ok (.aload_n 0, 1) := by decide +kernel
theorem dX12_does_188 : decode cX12_does 188 = .ok (.aload_n 0, 1) := by decide +kernel
theorem dX12_does_189 : decode cX12_does 189 = .ok (.getfield 91, 3) := by decide +kernel
theorem dX12_does_192 : decode cX12_does 192 = .ok (.iload_n 2, 1) := by decide +kernel
theorem dX12_does_193 : decode cX12_does 193 = .ok (.iaload, 1) := by decide +kernel
theorem dX12_does_194 : decode cX12_does 194 = .ok (.aload_n 0, 1) := by decide +kernel
theorem dX12_does_195 : decode cX12_does 195 = .ok (.getfield 94, 3) := by decide +kernel
theorem dX12_does_198 : decode cX12_does 198 = .ok (.iload_n 2, 1) := by decide +kernel
theorem dX12_does_199 : decode cX12_does 199 = .ok (.iaload, 1) := by decide +kernel
theorem dX12_does_200 : decode cX12_does 200 = .ok (.invokevirtual 679, 3) := by decide +kernel
theorem dX12_does_203 : decode cX12_does 203 = .ok (.aload_n 0, 1) := by decide +kernel
theorem dX12_does_204 : decode cX12_does 204 = .ok (.bipush 10, 2) := by decide +kernel
theorem dX12_does_206 : decode cX12_does 206 = .ok (.invokevirtual 671, 3) := by decide +kernel
theorem dX12_does_209 : decode cX12_does 209 = .ok (.goto 293, 3) := by decide +kernel
theorem dX12_does_212 : decode cX12_does 212 = .ok (.aload_n 0, 1) := by decide +kernel
theorem dX12_does_213 : decode cX12_does 213 = .ok (.ldc_w 968, 3) := by decide +kernel
theorem dX12_does_216 : decode cX12_does 216 = .ok (.invokevirtual 768, 3) := by decide +kernel
theorem dX12_does_219 : decode cX12_does 219 = .ok (.goto 283, 3) := by decide +kernel
theorem dX12_does_222 : decode cX12_does 222 = .ok (.aload_n 0, 1) := by decide +kernel
theorem dX12_does_223 : decode cX12_does 223 = .ok (.iload_n 2, 1) := by decide +kernel
theorem dX12_does_224 : decode cX12_does 224 = .ok (.iconst 0, 1) := by decide +kernel
theorem dX12_does_225 : decode cX12_does 225 = .ok (.iconst 1, 1) := by decide +kernel
theorem dX12_does_226 : decode cX12_does 226 = .ok (.invokevirtual 896, 3) := by decide +kernel
theorem dX12_does_229 : decode cX12_does 229 = .ok (.ifCond .ne 25, 3) := by decide +kernel
theorem dX12_does_232 : decode cX12_does 232 = .ok (.aload_n 0, 1) := by decide +kernel
theorem dX12_does_233 : decode cX12_does 233 = .ok (.iload_n 1, 1) := by decide +kernel
theorem dX12_does_234 : decode cX12_does 234 = .ok (.bipush 7, 2) := by decide +kernel
theorem dX12_does_236 : decode cX12_does 236 = .ok (.if_icmp .ne 9, 3) := by decide +kernel
theorem dX12_does_239 : decode cX12_does 239 = .ok (.ldc_w 970, 3) := by decide +kernel
theorem dX12_does_242 : decode cX12_does 242 = .ok (.goto 6, 3) := by decide +kernel
theorem dX12_does_245 : decode cX12_does 245 = .ok (.ldc_w 972, 3) := by decide +kernel
theorem dX12_does_248 : decode cX12_does 248 = .ok (.invokevirtual 768, 3) := by decide +kernel
theorem dX12_does_251 : decode cX12_does 251 = .ok (.goto 251, 3) := by decide +kernel
theorem dX12_does_254 : decode cX12_does 254 = .ok (.aload_n 0, 1) := by decide +kernel
theorem dX12_does_255 : decode cX12_does 255 = .ok (.iload_n 2, 1) := by decide +kernel
theorem dX12_does_256 : decode cX12_does 256 = .ok (.iconst 4, 1) := by decide +kernel
theorem dX12_does_257 : decode cX12_does 257 = .ok (.iconst 1, 1) := by decide +kernel
theorem dX12_does_258 : decode cX12_does 258 = .ok (.invokevirtual 896, 3) := by decide +kernel
theorem dX12_does_261 : decode cX12_does 261 = .ok (.iload_n 1, 1) := by decide +kernel
theorem dX12_does_262 : decode cX12_does 262 = .ok (.bipush 7, 2) := by decide +kernel
theorem dX12_does_264 : decode cX12_does 264 = .ok (.if_icmp .ne 7, 3) := by decide +kernel
theorem dX12_does_267 : decode cX12_does 267 = .ok (.iconst 1, 1) := by decide +kernel
theorem dX12_does_268 : decode cX12_does 268 = .ok (.goto 4, 3) := by decide +kernel
theorem dX12_does_271 : decode cX12_does 271 = .ok (.iconst 0, 1) := by decide +kernel
theorem dX12_does_272 : decode cX12_does 272 = .ok (.if_icmp .ne 25, 3) := by decide +kernel
theorem dX12_does_275 : decode cX12_does 275 = .ok (.aload_n 0, 1) := by decide +kernel
theorem dX12_does_276 : decode cX12_does 276 = .ok (.iload_n 1, 1) := by decide +kernel
theorem dX12_does_277 : decode cX12_does 277 = .ok (.bipush 7, 2) := by decide +kernel
theorem dX12_does_279 : decode cX12_does 279 = .ok (.if_icmp .ne 9, 3) := by decide +kernel
theorem dX12_does_282 : decode cX12_does 282 = .ok (.ldc_w 974, 3) := by decide +kernel
theorem dX12_does_285 : decode cX12_does 285 = .ok (.goto 6, 3) := by decide +kernel
theorem dX12_does_288 : decode cX12_does 288 = .ok (.ldc_w 976, 3) := by decide +kernel
theorem dX12_does_291 : decode cX12_does 291 = .ok (.invokevirtual 768, 3) := by decide +kernel
theorem dX12_does_294 : decode cX12_does 294 = .ok (.goto 208, 3) := by decide +kernel
theorem dX12_does_297 : decode cX12_does 297 = .ok (.aload_n 0, 1) := by decide +kernel
theorem dX12_does_298 : decode cX12_does 298 = .ok (.getfield 191, 3) := by decide +kernel
theorem dX12_does_301 : decode cX12_does 301 = .ok (.bipush 7, 2) := by decide +kernel
theorem dX12_does_303 : decode cX12_does 303 = .ok (.iload_n 2, 1) := by decide +kernel
theorem dX12_does_304 : decode cX12_does 304 = .ok (.imul, 1) := by decide +kernel
theorem dX12_does_305 : decode cX12_does 305 = .ok (.iconst 4, 1) := by decide +kernel
theorem dX12_does_306 : decode cX12_does 306 = .ok (.iadd, 1) := by decide +kernel
theorem dX12_does_307 : decode cX12_does 307 = .ok (.iload_n 1, 1) := by decide +kernel
theorem dX12_does_308 : decode cX12_does 308 = .ok (.bipush 7, 2) := by decide +kernel
theorem dX12_does_310 : decode cX12_does 310 = .ok (.if_icmp .ne 7, 3) := by decide +kernel
theorem dX12_does_313 : decode cX12_does 313 = .ok (.iconst 1, 1) := by decide +kernel
theorem dX12_does_314 : decode cX12_does 314 = .ok (.goto 4, 3) := by decide +kernel
theorem dX12_does_317 : decode cX12_does 317 = .ok (.iconst 0, 1) := by decide +kernel
theorem dX12_does_318 : decode cX12_does 318 = .ok (.bastore, 1) := by decide +kernel
theorem dX12_does_319 : decode cX12_does 319 = .ok (.aload_n 0, 1) := by decide +kernel
theorem dX12_does_320 : decode cX12_does 320 = .ok (.iload_n 1, 1) := by decide +kernel
theorem dX12_does_321 : decode cX12_does 321 = .ok (.bipush 7, 2) := by decide +kernel
theorem dX12_does_323 : decode cX12_does 323 = .ok (.if_icmp .ne 9, 3) := by decide +kernel
theorem dX12_does_326 : decode cX12_does 326 = .ok (.ldc_w 978, 3) := by decide +kernel
theorem dX12_does_329 : decode cX12_does 329 = .ok (.goto 6, 3) := by decide +kernel
theorem dX12_does_332 : decode cX12_does 332 = .ok (.ldc_w 980, 3) := by decide +kernel
theorem dX12_does_335 : decode cX12_does 335 = .ok (.invokevirtual 768, 3) := by decide +kernel
theorem dX12_does_338 : decode cX12_does 338 = .ok (.goto 164, 3) := by decide +kernel
theorem dX12_does_341 : decode cX12_does 341 = .ok (.aload_n 0, 1) := by decide +kernel
theorem dX12_does_342 : decode cX12_does 342 = .ok (.getfield 182, 3) := by decide +kernel
theorem dX12_does_345 : decode cX12_does 345 = .ok (.iload_n 2, 1) := by decide +kernel
theorem dX12_does_346 : decode cX12_does 346 = .ok (.iaload, 1) := by decide +kernel
theorem dX12_does_347 : decode cX12_does 347 = .ok (.iconst 1, 1) := by decide +kernel
theorem dX12_does_348 : decode cX12_does 348 = .ok (.if_icmp .eq 13, 3) := by decide +kernel
theorem dX12_does_351 : decode cX12_does 351 = .ok (.aload_n 0, 1) := by decide +kernel
theorem dX12_does_352 : decode cX12_does 352 = .ok (.ldc_w 964, 3) := by decide +kernel
theorem dX12_does_355 : decode cX12_does 355 = .ok (.invokevirtual 768, 3) := by decide +kernel
theorem dX12_does_358 : decode cX12_does 358 = .ok (.goto 144, 3) := by decide +kernel
theorem dX12_does_361 : decode cX12_does 361 = .ok (.aload_n 0, 1) := by decide +kernel
theorem dX12_does_362 : decode cX12_does 362 = .ok (.iload_n 3, 1) := by decide +kernel
theorem dX12_does_363 : decode cX12_does 363 = .ok (.iload_n 2, 1) := by decide +kernel
theorem dX12_does_364 : decode cX12_does 364 = .ok (.invokevirtual 774, 3) := by decide +kernel
theorem dX12_does_367 : decode cX12_does 367 = .ok (.ifCond .ne 23, 3) := by decide +kernel
theorem dX12_does_370 : decode cX12_does 370 = .ok (.aload_n 0, 1) := by decide +kernel
theorem dX12_does_371 : decode cX12_does 371 = .ok (.iload_n 3, 1) := by decide +kernel
theorem dX12_does_372 : decode cX12_does 372 = .ok (.iload_n 1, 1) := by decide +kernel
theorem dX12_does_373 : decode cX12_does 373 = .ok (.bipush 9, 2) := by decide +kernel
theorem dX12_does_375 : decode cX12_does 375 = .ok (.if_icmp .ne 7, 3) := by decide +kernel
theorem dX12_does_378 : decode cX12_does 378 = .ok (.iconst 0, 1) := by decide +kernel
theorem dX12_does_379 : decode cX12_does 379 = .ok (.goto 4, 3) := by decide +kernel
theorem dX12_does_382 : decode cX12_does 382 = .ok (.iconst 5, 1) := by decide +kernel
theorem dX12_does_383 : decode cX12_does 383 = .ok (.iconst 1, 1) := by decide +kernel
theorem dX12_does_384 : decode cX12_does 384 = .ok (.invokevirtual 896, 3) := by decide +kernel
theorem dX12_does_387 : decode cX12_does 387 = .ok (.ifCond .ne 13, 3) := by decide +kernel
theorem dX12_does_390 : decode cX12_does 390 = .ok (.aload_n 0, 1) := by decide +kernel
theorem dX12_does_391 : decode cX12_does 391 = .ok (.ldc_w 982, 3) := by decide +kernel
theorem dX12_does_394 : decode cX12_does 394 = .ok (.invokevirtual 768, 3) := by decide +kernel
theorem dX12_does_397 : decode cX12_does 397 = .ok (.goto 105, 3) := by decide +kernel
theorem dX12_does_400 : decode cX12_does 400 = .ok (.iload_n 1, 1) := by decide +kernel
theorem dX12_does_401 : decode cX12_does 401 = .ok (.bipush 9, 2) := by decide +kernel
theorem dX12_does_403 : decode cX12_does 403 = .ok (.if_icmp .ne 23, 3) := by decide +kernel
theorem dX12_does_406 : decode cX12_does 406 = .ok (.aload_n 0, 1) := by decide +kernel
theorem dX12_does_407 : decode cX12_does 407 = .ok (.iload_n 3, 1) := by decide +kernel
theorem dX12_does_408 : decode cX12_does 408 = .ok (.iconst 4, 1) := by decide +kernel
theorem dX12_does_409 : decode cX12_does 409 = .ok (.iconst 1, 1) := by decide +kernel
theorem dX12_does_410 : decode cX12_does 410 = .ok (.invokevirtual 896, 3) := by decide +kernel
theorem dX12_does_413 : decode cX12_does 413 = .ok (.ifCond .ne 13, 3) := by decide +kernel
theorem dX12_does_416 : decode cX12_does 416 = .ok (.aload_n 0, 1) := by decide +kernel
theorem dX12_does_417 : decode cX12_does 417 = .ok (.ldc_w 976, 3) := by decide +kernel
theorem dX12_does_420 : decode cX12_does 420 = .ok (.invokevirtual 768, 3) := by decide +kernel
theorem dX12_does_423 : decode cX12_does 423 = .ok (.goto 79, 3) := by decide +kernel
theorem dX12_does_426 : decode cX12_does 426 = .ok (.aload_n 0, 1) := by decide +kernel
theorem dX12_does_427 : decode cX12_does 427 = .ok (.iload_n 2, 1) := by decide +kernel
theorem dX12_does_428 : decode cX12_does 428 = .ok (.iload_n 3, 1) := by decide +kernel
theorem dX12_does_429 : decode cX12_does 429 = .ok (.ldc_w 984, 3) := by decide +kernel
theorem dX12_does_432 : decode cX12_does 432 = .ok (.invokevirtual 960, 3) := by decide +kernel
theorem dX12_does_435 : decode cX12_does 435 = .ok (.goto 67, 3) := by decide +kernel
theorem dX12_does_438 : decode cX12_does 438 = .ok (.aload_n 0, 1) := by decide +kernel
theorem dX12_does_439 : decode cX12_does 439 = .ok (.getfield 101, 3) := by decide +kernel
theorem dX12_does_442 : decode cX12_does 442 = .ok (.bipush 7, 2) := by decide +kernel
theorem dX12_does_444 : decode cX12_does 444 = .ok (.aload_n 0, 1) := by decide +kernel
theorem dX12_does_445 : decode cX12_does 445 = .ok (.getfield 182, 3) := by decide +kernel
theorem dX12_does_448 : decode cX12_does 448 = .ok (.iconst 1, 1) := by decide +kernel
theorem dX12_does_449 : decode cX12_does 449 = .ok (.iaload, 1) := by decide +kernel
theorem dX12_does_450 : decode cX12_does 450 = .ok (.imul, 1) := by decide +kernel
theorem dX12_does_451 : decode cX12_does 451 = .ok (.iload_n 2, 1) := by decide +kernel
theorem dX12_does_452 : decode cX12_does 452 = .ok (.iadd, 1) := by decide +kernel
theorem dX12_does_453 : decode cX12_does 453 = .ok (.iaload, 1) := by decide +kernel
theorem dX12_does_454 : decode cX12_does 454 = .ok (.ifCond .ne 13, 3) := by decide +kernel
theorem dX12_does_457 : decode cX12_does 457 = .ok (.aload_n 0, 1) := by decide +kernel
theorem dX12_does_458 : decode cX12_does 458 = .ok (.ldc_w 986, 3) := by decide +kernel
theorem dX12_does_461 : decode cX12_does 461 = .ok (.invokevirtual 768, 3) := by decide +kernel
theorem dX12_does_464 : decode cX12_does 464 = .ok (.goto 38, 3) := by decide +kernel
theorem dX12_does_467 : decode cX12_does 467 = .ok (.aload_n 0, 1) := by decide +kernel
theorem dX12_does_468 : decode cX12_does 468 = .ok (.iconst 1, 1) := by decide +kernel
theorem dX12_does_469 : decode cX12_does 469 = .ok (.aload_n 0, 1) := by decide +kernel
theorem dX12_does_470 : decode cX12_does 470 = .ok (.getfield 101, 3) := by decide +kernel
theorem dX12_does_473 : decode cX12_does 473 = .ok (.bipush 7, 2) := by decide +kernel
theorem dX12_does_475 : decode cX12_does 475 = .ok (.aload_n 0, 1) := by decide +kernel
theorem dX12_does_476 : decode cX12_does 476 = .ok (.getfield 182, 3) := by decide +kernel
theorem dX12_does_479 : decode cX12_does 479 = .ok (.iconst 1, 1) := by decide +kernel
theorem dX12_does_480 : decode cX12_does 480 = .ok (.iaload, 1) := by decide +kernel
theorem dX12_does_481 : decode cX12_does 481 = .ok (.imul, 1) := by decide +kernel
theorem dX12_does_482 : decode cX12_does 482 = .ok (.iload_n 2, 1) := by decide +kernel
theorem dX12_does_483 : decode cX12_does 483 = .ok (.iadd, 1) := by decide +kernel
theorem dX12_does_484 : decode cX12_does 484 = .ok (.iaload, 1) := by decide +kernel
theorem dX12_does_485 : decode cX12_does 485 = .ok (.invokevirtual 777, 3) := by decide +kernel
theorem dX12_does_488 : decode cX12_does 488 = .ok (.aload_n 0, 1) := by decide +kernel
theorem dX12_does_489 : decode cX12_does 489 = .ok (.invokevirtual 789, 3) := by decide +kernel
theorem dX12_does_492 : decode cX12_does 492 = .ok (.goto 10, 3) := by decide +kernel
theorem dX12_does_495 : decode cX12_does 495 = .ok (.aload_n 0, 1) := by decide +kernel
theorem dX12_does_496 : decode cX12_does 496 = .ok (.ldc_w 988, 3) := by decide +kernel
theorem dX12_does_499 : decode cX12_does 499 = .ok (.invokevirtual 768, 3) := by decide +kernel
theorem dX12_does_502 : decode cX12_does 502 = .ok (.return_, 1) := by decide +kernel
def F_X12_does (p0 : Int32) (p1 : Int32) (p2 : Int32) (σ : MS) : MR :=
  if p0 = 1 then (
    (F_X12_look σ).bind fun u_3 =>
    some (0, u_3.2)
  ) else
  if p0 = 2 then (
    (F_X12_inventory σ).bind fun u_8 =>
    some (0, u_8.2)
  ) else
  if p0 = 3 then (
    (F_X12_line ([84, 105, 109, 101, 32, 112, 97, 115, 115, 101, 115, 46] : List Int32) σ).bind fun u_14 =>
    some (0, u_14.2)
  ) else
  if p0 = 4 then (
    bnd (fun  (σ_19 : MS) => (
      (F_X12_line ([89, 111, 117, 32, 104, 97, 118, 101, 32, 116, 104, 97, 116, 46] : List Int32) σ_19).bind fun u_24 =>
      some (0, u_24.2)
    ) : MS → MR) fun j_20 =>
    if p1 = 1 then (
      j_20  σ
    ) else (
      if p1 < 0 ∨ 121 ≤ p1.toNatClampNeg then none else
      if (σ.2 87 p1.toNatClampNeg) = 1 then (
        j_20  σ
      ) else (
        (F_X12_has p1 1 1 σ).bind fun u_34 =>
        if u_34.1 = 0 then (
          (F_X12_moves p1 1 ([84, 97, 107, 101, 110, 46] : List Int32) u_34.2).bind fun u_39 =>
          some (0, u_39.2)
        ) else (
          (F_X12_line ([84, 104, 97, 116, 32, 105, 115, 32, 102, 105, 120, 101, 100, 46] : List Int32) u_34.2).bind fun u_43 =>
          some (0, u_43.2)
        )
      )
    )
  ) else
  if p0 = 5 then (
    if p1 < 0 ∨ 121 ≤ p1.toNatClampNeg then none else
    if (σ.2 87 p1.toNatClampNeg) = 1 then (
      (F_X12_moves p1 (σ.2 87 (1 : Int32).toNatClampNeg) ([68, 114, 111, 112, 112, 101, 100, 46] : List Int32) σ).bind fun u_53 =>
      some (0, u_53.2)
    ) else (
      (F_X12_line ([89, 111, 117, 32, 100, 111, 32, 110, 111, 116, 32, 104, 97, 118, 101, 32, 116, 104, 97, 116, 46] : List Int32) σ).bind fun u_57 =>
      some (0, u_57.2)
    )
  ) else
  if p0 = 6 then (
    if p1 < 0 ∨ 121 ≤ p1.toNatClampNeg then none else
    if (σ.2 122 p1.toNatClampNeg) = 0 then (
      (F_X12_line ([89, 111, 117, 32, 115, 101, 101, 32, 110, 111, 116, 104, 105, 110, 103, 32, 115, 112, 101, 99, 105, 97, 108, 46] : List Int32) σ).bind fun u_67 =>
      some (0, u_67.2)
    ) else (
      if p1 < 0 ∨ 121 ≤ p1.toNatClampNeg then none else
      if p1 < 0 ∨ 121 ≤ p1.toNatClampNeg then none else
      (F_X12_sayText (σ.2 48 p1.toNatClampNeg) (σ.2 49 p1.toNatClampNeg) σ).bind fun u_74 =>
      (F_X12_put 10 u_74.2).bind fun u_76 =>
      some (0, u_76.2)
    )
  ) else
  if p0 = 7 ∨ p0 = 8 then (
    (F_X12_has p1 0 1 σ).bind fun u_81 =>
    if u_81.1 = 0 then (
      if p0 = 7 then (
        (F_X12_line ([89, 111, 117, 32, 99, 97, 110, 32, 110, 111, 116, 32, 111, 112, 101, 110, 32, 116, 104, 97, 116, 46] : List Int32) u_81.2).bind fun u_88 =>
        some (0, u_88.2)
      ) else (
        (F_X12_line ([89, 111, 117, 32, 99, 97, 110, 32, 110, 111, 116, 32, 99, 108, 111, 115, 101, 32, 116, 104, 97, 116, 46] : List Int32) u_81.2).bind fun u_92 =>
        some (0, u_92.2)
      )
    ) else (
      (F_X12_has p1 4 1 u_81.2).bind fun u_95 =>
      bnd (fun (t_97 : Int32) (σ_98 : MS) => (
        if u_95.1 = t_97 then (
          if p0 = 7 then (
            (F_X12_line ([84, 104, 97, 116, 32, 105, 115, 32, 111, 112, 101, 110, 46] : List Int32) σ_98).bind fun u_107 =>
            some (0, u_107.2)
          ) else (
            (F_X12_line ([84, 104, 97, 116, 32, 105, 115, 32, 99, 108, 111, 115, 101, 100, 46] : List Int32) σ_98).bind fun u_111 =>
            some (0, u_111.2)
          )
        ) else (
          bnd (fun (t_114 : Int32) (σ_115 : MS) => (
            if ((7 * p1) + 4) < 0 ∨ 847 ≤ ((7 * p1) + 4).toNatClampNeg then none else
            bnd (mA σ_115 90 (upd (σ_115.2 90) ((7 * p1) + 4).toNatClampNeg (vp_nar .boolean t_114))) fun σ_121 =>
            if p0 = 7 then (
              (F_X12_line ([79, 112, 101, 110, 101, 100, 46] : List Int32) σ_121).bind fun u_126 =>
              some (0, u_126.2)
            ) else (
              (F_X12_line ([67, 108, 111, 115, 101, 100, 46] : List Int32) σ_121).bind fun u_130 =>
              some (0, u_130.2)
            )
          ) : Int32 → MS → MR) fun j_116 =>
          if p0 = 7 then (
            j_116 1 σ_98
          ) else (
            j_116 0 σ_98
          )
        )
      ) : Int32 → MS → MR) fun j_99 =>
      if p0 = 7 then (
        j_99 1 u_95.2
      ) else (
        j_99 0 u_95.2
      )
    )
  ) else
  if p0 = 9 ∨ p0 = 10 then (
    if p1 < 0 ∨ 121 ≤ p1.toNatClampNeg then none else
    if (σ.2 87 p1.toNatClampNeg) = 1 then (
      (F_X12_within p2 p1 σ).bind fun u_145 =>
      bnd (fun  (σ_147 : MS) => (
        (F_X12_line ([89, 111, 117, 32, 99, 97, 110, 32, 110, 111, 116, 32, 100, 111, 32, 116, 104, 97, 116, 46] : List Int32) σ_147).bind fun u_152 =>
        some (0, u_152.2)
      ) : MS → MR) fun j_148 =>
      if u_145.1 = 0 then (
        bnd (fun (t_156 : Int32) (σ_157 : MS) => (
          (F_X12_has p2 t_156 1 σ_157).bind fun u_161 =>
          if u_161.1 = 0 then (
            j_148  u_161.2
          ) else (
            bnd (fun  (σ_166 : MS) => (
              (F_X12_moves p1 p2 ([68, 111, 110, 101, 46] : List Int32) σ_166).bind fun u_171 =>
              some (0, u_171.2)
            ) : MS → MR) fun j_167 =>
            if p0 = 9 then (
              (F_X12_has p2 4 1 u_161.2).bind fun u_175 =>
              if u_175.1 = 0 then (
                (F_X12_line ([84, 104, 97, 116, 32, 105, 115, 32, 99, 108, 111, 115, 101, 100, 46] : List Int32) u_175.2).bind fun u_180 =>
                some (0, u_180.2)
              ) else (
                j_167  u_175.2
              )
            ) else (
              j_167  u_161.2
            )
          )
        ) : Int32 → MS → MR) fun j_158 =>
        if p0 = 9 then (
          j_158 0 u_145.2
        ) else (
          j_158 5 u_145.2
        )
      ) else (
        j_148  u_145.2
      )
    ) else (
      (F_X12_line ([89, 111, 117, 32, 100, 111, 32, 110, 111, 116, 32, 104, 97, 118, 101, 32, 116, 104, 97, 116, 46] : List Int32) σ).bind fun u_190 =>
      some (0, u_190.2)
    )
  ) else
  if p0 = 11 then (
    bnd (((7 * (σ.2 87 (1 : Int32).toNatClampNeg)) + p1)) fun (x_195 : Int32) =>
    if x_195 < 0 ∨ 847 ≤ x_195.toNatClampNeg then none else
    if (σ.2 51 x_195.toNatClampNeg) = 0 then (
      (F_X12_line ([89, 111, 117, 32, 99, 97, 110, 32, 110, 111, 116, 32, 103, 111, 32, 116, 104, 101, 114, 101, 46] : List Int32) σ).bind fun u_202 =>
      some (0, u_202.2)
    ) else (
      bnd (((7 * (σ.2 87 (1 : Int32).toNatClampNeg)) + p1)) fun (x_205 : Int32) =>
      if x_205 < 0 ∨ 847 ≤ x_205.toNatClampNeg then none else
      (F_X12_putIn 1 (σ.2 51 x_205.toNatClampNeg) σ).bind fun u_209 =>
      (F_X12_look u_209.2).bind fun u_211 =>
      some (0, u_211.2)
    )
  ) else
  (
    (F_X12_line ([78, 111, 116, 104, 105, 110, 103, 32, 104, 97, 112, 112, 101, 110, 115, 46] : List Int32) σ).bind fun u_215 =>
    some (0, u_215.2)
  )
set_option maxHeartbeats 4000000 in
set_option maxRecDepth 100000 in
theorem m_X12_does (l : Launch) (dC : Nat → ClassId) (dI : Nat → Nat → Nat) (cB cC cI cJ cZ cP : ClassId) (h qK qS : Nat) (ad : Nat → Nat) (hDD : mDis cB cI cZ h qK qS ad) (sz : Nat)  (p0 : Int32) (p1 : Int32) (p2 : Int32) (σ : MS) (res : Int32 × MS) (hF : F_X12_does p0 p1 p2 σ = some res) : Met l yX12_does (g_ws yX12_does cX12_does 4 none) ({ frames := 129, cells := 0, slots := 0, locals := 2856 }) (va_Pc [.ref h, .int p0, .int p1, .int p2] (m_B (dC, dI) [(cB, .byte), (cC, .char), (cI, .int), (cJ, .long), (cZ, .boolean), (cP, .object "StoryHouse$Play")] sz h ad qK qS (mW cB cI cZ h qK qS ad σ) g_0)) (va_Qv (fun (_ : Unit) => True) (fun _ t => va_P (dC, dI) vwCl (mW cB cI cZ h qK qS ad res.2) t.heap) (mCells h ad sz)) 0 0 (mCells h ad sz) := by
  refine Met.ofW (cc := cX12_does) (maxL := 4) (ret := none) (by decide) rfl ?_
  intro p e s m args below meth c s₁ B hml hv
  obtain ⟨rfl, hsz, hP, hK, hE, hKS, hX⟩ := hv
  have hx := B.exec
  have hb := B.bytes
  have hr := B.returns
  have hts0 := atoms_spec (ws := g_ws yX12_does cX12_does 4 none) B.pre
  have hts : ∀ w ∈ lw_good, w.before ([.ref h, .int p0, .int p1, .int p2] : List Value).toArray s = true := fun w z => hts0 w (List.mem_cons_of_mem _ z)
  have hown : s.vm.findClass RX12 = some m.cls := findClass_of_methodNamed B.named
  have hlocks := B.notSynchronized
  have hS : va_S (mCells h ad sz) s.heap s.heap [] := va_S.rf
  have hl := lv_entry ([.ref h, .int p0, .int p1, .int p2]) (n := 4) (Nat.le_of_ble_eq_true rfl)
  rw [lg_entry_eq]
  generalize (lg_sl ([.ref h, .int p0, .int p1, .int p2]) ++ List.replicate (4 - (lg_sl ([.ref h, .int p0, .int p1, .int p2])).length) Slot.unset).toArray = ls at hl ⊢
  have hl : lv_has ls 4 [(0, .ref h), (1, .int p0), (2, .int p1), (3, .int p2)] := hl
  unfold F_X12_does at hF
  refine lv_iload_n hx hb dX12_does_0 rfl (lv_at hl 1 rfl) ?_
  by_cases c_1 : p0 = 1
  · have hF_2 := ipos c_1 hF
    clear hF
    refine lv_tableIn (off := 59) (tgt := 60) hx hb dX12_does_1 (by rw [c_1]; decide +kernel) (by rw [c_1]; decide +kernel) (by rw [c_1]; decide +kernel) (by decide) ?_
    refine lv_aload_n hx hb dX12_does_60 rfl (lv_at hl 0 rfl) ?_
    obtain ⟨u_3, hu_3, hF_4⟩ := Option.bind_eq_some_iff.mp hF_2
    clear hF_2
    refine m_cv hsz hS (va_runV (As := []) (rest := []) ⟨hx, hb, hml, hown, hts⟩ (m_X12_look l dC dI cB cC cI cJ cZ cP h qK qS ad hDD s.heap.size  σ _ hu_3) (cwV 0 hts (g_gV wq_1752 wq_1753 wq_2193 wq_13 wq_1754) rfl rfl rfl (by decide +kernel) ⟨Nat.le_of_ble_eq_true rfl, Nat.le_of_ble_eq_true rfl⟩) (m_preV g_bl0 hsz hK hP hS hE hKS g_to0) rfl rfl hl.1 rfl (lv_room (Nat.le_of_ble_eq_true rfl)) dX12_does_61 ⟨Nat.le_of_ble_eq_true rfl, Nat.le_of_ble_eq_true rfl⟩) (fun H locs hP hS => ?_)
    refine lv_goto (tgt := 502) hx hb dX12_does_64 (by decide) ?_
    have h9 := Option.some.inj hF_4
    subst h9
    exact W.vret hx hb hr (fun t ht hW => ⟨⟨(), rfl, trivial, m_end ht hP⟩, hS.F ht⟩) hS.2.2 dX12_does_502
  have hF_5 := ineg c_1 hF
  clear hF
  by_cases c_6 : p0 = 2
  · have hF_7 := ipos c_6 hF_5
    clear hF_5
    refine lv_tableIn (off := 66) (tgt := 67) hx hb dX12_does_1 (by rw [c_6]; decide +kernel) (by rw [c_6]; decide +kernel) (by rw [c_6]; decide +kernel) (by decide) ?_
    refine lv_aload_n hx hb dX12_does_67 rfl (lv_at hl 0 rfl) ?_
    obtain ⟨u_8, hu_8, hF_9⟩ := Option.bind_eq_some_iff.mp hF_7
    clear hF_7
    refine m_cv hsz hS (va_runV (As := []) (rest := []) ⟨hx, hb, hml, hown, hts⟩ (m_X12_inventory l dC dI cB cC cI cJ cZ cP h qK qS ad hDD s.heap.size  σ _ hu_8) (cwV 0 hts (g_gV wq_1880 wq_1881 wq_2234 wq_13 wq_1882) rfl rfl rfl (by decide +kernel) ⟨Nat.le_of_ble_eq_true rfl, Nat.le_of_ble_eq_true rfl⟩) (m_preV g_bl0 hsz hK hP hS hE hKS g_to0) rfl rfl hl.1 rfl (lv_room (Nat.le_of_ble_eq_true rfl)) dX12_does_68 ⟨Nat.le_of_ble_eq_true rfl, Nat.le_of_ble_eq_true rfl⟩) (fun H locs hP hS => ?_)
    refine lv_goto (tgt := 502) hx hb dX12_does_71 (by decide) ?_
    have h9 := Option.some.inj hF_9
    subst h9
    exact W.vret hx hb hr (fun t ht hW => ⟨⟨(), rfl, trivial, m_end ht hP⟩, hS.F ht⟩) hS.2.2 dX12_does_502
  have hF_10 := ineg c_6 hF_5
  clear hF_5
  by_cases c_11 : p0 = 3
  · have hF_12 := ipos c_11 hF_10
    clear hF_10
    refine lv_tableIn (off := 73) (tgt := 74) hx hb dX12_does_1 (by rw [c_11]; decide +kernel) (by rw [c_11]; decide +kernel) (by rw [c_11]; decide +kernel) (by decide) ?_
    refine lv_aload_n hx hb dX12_does_74 rfl (lv_at hl 0 rfl) ?_
    obtain ⟨q_13, vq_13, hRq_13, hSq_13⟩ := hE.2.2.2.2 _ (List.mem_of_getElem? (i := 130) rfl)
    refine g_ldcwS (own := RX12) (tx := "Time passes.") hx hb hown hRq_13 dX12_does_75 ?_
    obtain ⟨u_14, hu_14, hF_15⟩ := Option.bind_eq_some_iff.mp hF_12
    clear hF_12
    refine m_cv hsz hS (va_runV (As := [.ref q_13]) (rest := []) ⟨hx, hb, hml, hown, hts⟩ (m_X12_line l dC dI cB cC cI cJ cZ cP h qK qS ad hDD s.heap.size q_13 _ ([84, 105, 109, 101, 32, 112, 97, 115, 115, 101, 115, 46] : List Int32) σ _ hu_14) (cwV 1 hts (g_gV wq_1767 wq_1768 wq_2198 wq_13 wq_1769) rfl rfl rfl (by decide +kernel) ⟨Nat.le_of_ble_eq_true rfl, Nat.le_of_ble_eq_true rfl⟩) (m_preV g_blS hsz hK hP hS hE hKS (g_toS hSq_13 hS (m_narrow hS hsz))) rfl rfl hl.1 rfl (lv_room (Nat.le_of_ble_eq_true rfl)) dX12_does_78 ⟨Nat.le_of_ble_eq_true rfl, Nat.le_of_ble_eq_true rfl⟩) (fun H locs hP hS => ?_)
    refine lv_goto (tgt := 502) hx hb dX12_does_81 (by decide) ?_
    have h9 := Option.some.inj hF_15
    subst h9
    exact W.vret hx hb hr (fun t ht hW => ⟨⟨(), rfl, trivial, m_end ht hP⟩, hS.F ht⟩) hS.2.2 dX12_does_502
  have hF_16 := ineg c_11 hF_10
  clear hF_10
  by_cases c_17 : p0 = 4
  · have hF_18 := ipos c_17 hF_16
    clear hF_16
    refine lv_tableIn (off := 83) (tgt := 84) hx hb dX12_does_1 (by rw [c_17]; decide +kernel) (by rw [c_17]; decide +kernel) (by rw [c_17]; decide +kernel) (by decide) ?_
    refine lv_iload_n hx hb dX12_does_84 rfl (lv_at hl 2 rfl) ?_
    refine lv_iconst (v := 1) hx hb dX12_does_85 (by decide +kernel) ?_
    obtain ⟨j_20, ej_20, hF_21⟩ := bnd_e hF_18
    clear hF_18
    have Jj_20 : ∀  (σ_19 : MS), j_20  σ_19 = some res → ∀ (H : Heap) (locs : List Loc), va_P (dC, dI) vwCl (mW cB cI cZ h qK qS ad σ_19) H → va_S (mCells h ad sz) s.heap H locs → ∀ ls : Array Slot, lv_has ls 4 [(0, .ref h)] → W p l e (headSpec (g_ws yX12_does cX12_does 4 none) { frames := 129, cells := 0, slots := 0, locals := 2856 }).room s m ([.ref h, .int p0, .int p1, .int p2] : List Value).toArray below meth c H locs 0 0 (MQ below (va_Qv (fun (_ : Unit) => True) (fun _ t => va_P (dC, dI) vwCl (mW cB cI cZ h qK qS ad res.2) t.heap) (mCells h ad sz)) ([.ref h, .int p0, .int p1, .int p2] : List Value).toArray s 0 0 (mCells h ad sz)) (F0 m 99 ls []) := by
      intro  σ_19 hF0 H locs hP hS ls hl
      subst ej_20
      have hF_22 := hF0
      clear hF0
      refine lv_aload_n hx hb dX12_does_99 rfl (lv_at hl 0 rfl) ?_
      obtain ⟨q_23, vq_23, hRq_23, hSq_23⟩ := hE.2.2.2.2 _ (List.mem_of_getElem? (i := 131) rfl)
      refine g_ldcwS (own := RX12) (tx := "You have that.") hx hb hown hRq_23 dX12_does_100 ?_
      obtain ⟨u_24, hu_24, hF_25⟩ := Option.bind_eq_some_iff.mp hF_22
      clear hF_22
      refine m_cv hsz hS (va_runV (As := [.ref q_23]) (rest := []) ⟨hx, hb, hml, hown, hts⟩ (m_X12_line l dC dI cB cC cI cJ cZ cP h qK qS ad hDD H.size q_23 _ ([89, 111, 117, 32, 104, 97, 118, 101, 32, 116, 104, 97, 116, 46] : List Int32) σ_19 _ hu_24) (cwV 1 hts (g_gV wq_1767 wq_1768 wq_2198 wq_13 wq_1769) rfl rfl rfl (by decide +kernel) ⟨Nat.le_of_ble_eq_true rfl, Nat.le_of_ble_eq_true rfl⟩) (m_preV g_blS hsz hK hP hS hE hKS (g_toS hSq_23 hS (m_narrow hS hsz))) rfl rfl hl.1 rfl (lv_room (Nat.le_of_ble_eq_true rfl)) dX12_does_103 ⟨Nat.le_of_ble_eq_true rfl, Nat.le_of_ble_eq_true rfl⟩) (fun H locs hP hS => ?_)
      refine lv_goto (tgt := 502) hx hb dX12_does_106 (by decide) ?_
      have h9 := Option.some.inj hF_25
      subst h9
      exact W.vret hx hb hr (fun t ht hW => ⟨⟨(), rfl, trivial, m_end ht hP⟩, hS.F ht⟩) hS.2.2 dX12_does_502
    refine lv_icmp_eq (tgt := 99) hx hb dX12_does_86 (by decide) (fun c_26 => ?_) (fun c_26 => ?_)
    · have hF_27 := ipos c_26 hF_21
      clear hF_21
      exact Jj_20  σ hF_27 _ _ hP hS ls (lv_sub hl [0] rfl)
    · have hF_28 := ineg c_26 hF_21
      clear hF_21
      refine lv_aload_n hx hb dX12_does_89 rfl (lv_at hl 0 rfl) ?_
      refine va_get (D := (dC, dI)) (ci := 12) (v := .ref (ad 87)) (C := RX12) (T := TX12) (N := 123) hx hb hts ii_X12 hown hK hP 0 rfl rfl 87 (by decide) (hts (.fieldLink RX12 182 "StoryHouseModel" "holder" "[I") wq_1443) (fun _ h9 => h9) rfl dX12_does_90 ?_
      refine lv_iload_n hx hb dX12_does_93 rfl (lv_at hl 2 rfl) ?_
      obtain ⟨g_29, hF_30⟩ := nif_e hF_28
      clear hF_28
      refine va_iald (f := σ.2 87) hx hb hK hP 52 2 rfl rfl g_29 dX12_does_94 ?_
      refine lv_iconst (v := 1) hx hb dX12_does_95 (by decide +kernel) ?_
      refine lv_icmp_ne (tgt := 109) hx hb dX12_does_96 (by decide) (fun c_31 => ?_) (fun c_31 => ?_)
      · have hF_33 := ineg c_31 hF_30
        clear hF_30
        refine lv_aload_n hx hb dX12_does_109 rfl (lv_at hl 0 rfl) ?_
        refine lv_iload_n hx hb dX12_does_110 rfl (lv_at hl 2 rfl) ?_
        refine lv_iconst (v := 1) hx hb dX12_does_111 (by decide +kernel) ?_
        refine lv_iconst (v := 1) hx hb dX12_does_112 (by decide +kernel) ?_
        obtain ⟨u_34, hu_34, hF_35⟩ := Option.bind_eq_some_iff.mp hF_33
        clear hF_33
        refine m_ci hsz hS (va_runV (As := [.int p1, .int 1, .int 1]) (rest := []) ⟨hx, hb, hml, hown, hts⟩ (m_X12_has l dC dI cB cC cI cJ cZ cP h qK qS ad hDD s.heap.size  p1 1 1 σ _ hu_34) (cwV 3 hts (g_gV wq_1758 wq_1759 wq_2195 wq_13 wq_1760) rfl rfl rfl (by decide +kernel) ⟨Nat.le_of_ble_eq_true rfl, Nat.le_of_ble_eq_true rfl⟩) (m_preV g_bl0 hsz hK hP hS hE hKS g_to0) rfl rfl hl.1 rfl (lv_room (Nat.le_of_ble_eq_true rfl)) dX12_does_113 ⟨Nat.le_of_ble_eq_true rfl, Nat.le_of_ble_eq_true rfl⟩) (fun H locs hP hS => ?_)
        refine lv_if_eq (tgt := 129) hx hb dX12_does_116 (by decide) (fun c_36 => ?_) (fun c_36 => ?_)
        · have hF_37 := ipos c_36 hF_35
          clear hF_35
          refine lv_aload_n hx hb dX12_does_129 rfl (lv_at hl 0 rfl) ?_
          refine lv_iload_n hx hb dX12_does_130 rfl (lv_at hl 2 rfl) ?_
          refine lv_iconst (v := 1) hx hb dX12_does_131 (by decide +kernel) ?_
          obtain ⟨q_38, vq_38, hRq_38, hSq_38⟩ := hE.2.2.2.2 _ (List.mem_of_getElem? (i := 133) rfl)
          refine g_ldcwS (own := RX12) (tx := "Taken.") hx hb hown hRq_38 dX12_does_132 ?_
          obtain ⟨u_39, hu_39, hF_40⟩ := Option.bind_eq_some_iff.mp hF_37
          clear hF_37
          refine m_cv hsz hS (va_runV (As := [.int p1, .int 1, .ref q_38]) (rest := []) ⟨hx, hb, hml, hown, hts⟩ (m_X12_moves l dC dI cB cC cI cJ cZ cP h qK qS ad hDD H.size q_38 _ p1 1 ([84, 97, 107, 101, 110, 46] : List Int32) u_34.2 _ hu_39) (cwV 3 hts (g_gV wq_1883 wq_1884 wq_2235 wq_13 wq_1885) rfl rfl rfl (by decide +kernel) ⟨Nat.le_of_ble_eq_true rfl, Nat.le_of_ble_eq_true rfl⟩) (m_preV g_blS hsz hK hP hS hE hKS (g_toS hSq_38 hS (m_narrow hS hsz))) rfl rfl hl.1 rfl (lv_room (Nat.le_of_ble_eq_true rfl)) dX12_does_135 ⟨Nat.le_of_ble_eq_true rfl, Nat.le_of_ble_eq_true rfl⟩) (fun H locs hP hS => ?_)
          refine lv_goto (tgt := 502) hx hb dX12_does_138 (by decide) ?_
          have h9 := Option.some.inj hF_40
          subst h9
          exact W.vret hx hb hr (fun t ht hW => ⟨⟨(), rfl, trivial, m_end ht hP⟩, hS.F ht⟩) hS.2.2 dX12_does_502
        · have hF_41 := ineg c_36 hF_35
          clear hF_35
          refine lv_aload_n hx hb dX12_does_119 rfl (lv_at hl 0 rfl) ?_
          obtain ⟨q_42, vq_42, hRq_42, hSq_42⟩ := hE.2.2.2.2 _ (List.mem_of_getElem? (i := 132) rfl)
          refine g_ldcwS (own := RX12) (tx := "That is fixed.") hx hb hown hRq_42 dX12_does_120 ?_
          obtain ⟨u_43, hu_43, hF_44⟩ := Option.bind_eq_some_iff.mp hF_41
          clear hF_41
          refine m_cv hsz hS (va_runV (As := [.ref q_42]) (rest := []) ⟨hx, hb, hml, hown, hts⟩ (m_X12_line l dC dI cB cC cI cJ cZ cP h qK qS ad hDD H.size q_42 _ ([84, 104, 97, 116, 32, 105, 115, 32, 102, 105, 120, 101, 100, 46] : List Int32) u_34.2 _ hu_43) (cwV 1 hts (g_gV wq_1767 wq_1768 wq_2198 wq_13 wq_1769) rfl rfl rfl (by decide +kernel) ⟨Nat.le_of_ble_eq_true rfl, Nat.le_of_ble_eq_true rfl⟩) (m_preV g_blS hsz hK hP hS hE hKS (g_toS hSq_42 hS (m_narrow hS hsz))) rfl rfl hl.1 rfl (lv_room (Nat.le_of_ble_eq_true rfl)) dX12_does_123 ⟨Nat.le_of_ble_eq_true rfl, Nat.le_of_ble_eq_true rfl⟩) (fun H locs hP hS => ?_)
          refine lv_goto (tgt := 502) hx hb dX12_does_126 (by decide) ?_
          have h9 := Option.some.inj hF_44
          subst h9
          exact W.vret hx hb hr (fun t ht hW => ⟨⟨(), rfl, trivial, m_end ht hP⟩, hS.F ht⟩) hS.2.2 dX12_does_502
      · have hF_32 := ipos c_31 hF_30
        clear hF_30
        exact Jj_20  σ hF_32 _ _ hP hS ls (lv_sub hl [0] rfl)
  have hF_45 := ineg c_17 hF_16
  clear hF_16
  by_cases c_46 : p0 = 5
  · have hF_47 := ipos c_46 hF_45
    clear hF_45
    refine lv_tableIn (off := 140) (tgt := 141) hx hb dX12_does_1 (by rw [c_46]; decide +kernel) (by rw [c_46]; decide +kernel) (by rw [c_46]; decide +kernel) (by decide) ?_
    refine lv_aload_n hx hb dX12_does_141 rfl (lv_at hl 0 rfl) ?_
    refine va_get (D := (dC, dI)) (ci := 12) (v := .ref (ad 87)) (C := RX12) (T := TX12) (N := 123) hx hb hts ii_X12 hown hK hP 0 rfl rfl 87 (by decide) (hts (.fieldLink RX12 182 "StoryHouseModel" "holder" "[I") wq_1443) (fun _ h9 => h9) rfl dX12_does_142 ?_
    refine lv_iload_n hx hb dX12_does_145 rfl (lv_at hl 2 rfl) ?_
    obtain ⟨g_48, hF_49⟩ := nif_e hF_47
    clear hF_47
    refine va_iald (f := σ.2 87) hx hb hK hP 52 2 rfl rfl g_48 dX12_does_146 ?_
    refine lv_iconst (v := 1) hx hb dX12_does_147 (by decide +kernel) ?_
    refine lv_icmp_eq (tgt := 161) hx hb dX12_does_148 (by decide) (fun c_50 => ?_) (fun c_50 => ?_)
    · have hF_51 := ipos c_50 hF_49
      clear hF_49
      refine lv_aload_n hx hb dX12_does_161 rfl (lv_at hl 0 rfl) ?_
      refine lv_iload_n hx hb dX12_does_162 rfl (lv_at hl 2 rfl) ?_
      refine lv_aload_n hx hb dX12_does_163 rfl (lv_at hl 0 rfl) ?_
      refine va_get (D := (dC, dI)) (ci := 12) (v := .ref (ad 87)) (C := RX12) (T := TX12) (N := 123) hx hb hts ii_X12 hown hK hP 0 rfl rfl 87 (by decide) (hts (.fieldLink RX12 182 "StoryHouseModel" "holder" "[I") wq_1443) (fun _ h9 => h9) rfl dX12_does_164 ?_
      refine lv_iconst (v := 1) hx hb dX12_does_167 (by decide +kernel) ?_
      refine va_iald (f := σ.2 87) hx hb hK hP 52 2 rfl rfl (vp_in_iff.mpr (by decide +kernel)) dX12_does_168 ?_
      obtain ⟨q_52, vq_52, hRq_52, hSq_52⟩ := hE.2.2.2.2 _ (List.mem_of_getElem? (i := 135) rfl)
      refine g_ldcwS (own := RX12) (tx := "Dropped.") hx hb hown hRq_52 dX12_does_169 ?_
      obtain ⟨u_53, hu_53, hF_54⟩ := Option.bind_eq_some_iff.mp hF_51
      clear hF_51
      refine m_cv hsz hS (va_runV (As := [.int p1, .int (σ.2 87 (1 : Int32).toNatClampNeg), .ref q_52]) (rest := []) ⟨hx, hb, hml, hown, hts⟩ (m_X12_moves l dC dI cB cC cI cJ cZ cP h qK qS ad hDD s.heap.size q_52 _ p1 (σ.2 87 (1 : Int32).toNatClampNeg) ([68, 114, 111, 112, 112, 101, 100, 46] : List Int32) σ _ hu_53) (cwV 3 hts (g_gV wq_1883 wq_1884 wq_2235 wq_13 wq_1885) rfl rfl rfl (by decide +kernel) ⟨Nat.le_of_ble_eq_true rfl, Nat.le_of_ble_eq_true rfl⟩) (m_preV g_blS hsz hK hP hS hE hKS (g_toS hSq_52 hS (m_narrow hS hsz))) rfl rfl hl.1 rfl (lv_room (Nat.le_of_ble_eq_true rfl)) dX12_does_172 ⟨Nat.le_of_ble_eq_true rfl, Nat.le_of_ble_eq_true rfl⟩) (fun H locs hP hS => ?_)
      refine lv_goto (tgt := 502) hx hb dX12_does_175 (by decide) ?_
      have h9 := Option.some.inj hF_54
      subst h9
      exact W.vret hx hb hr (fun t ht hW => ⟨⟨(), rfl, trivial, m_end ht hP⟩, hS.F ht⟩) hS.2.2 dX12_does_502
    · have hF_55 := ineg c_50 hF_49
      clear hF_49
      refine lv_aload_n hx hb dX12_does_151 rfl (lv_at hl 0 rfl) ?_
      obtain ⟨q_56, vq_56, hRq_56, hSq_56⟩ := hE.2.2.2.2 _ (List.mem_of_getElem? (i := 134) rfl)
      refine g_ldcwS (own := RX12) (tx := "You do not have that.") hx hb hown hRq_56 dX12_does_152 ?_
      obtain ⟨u_57, hu_57, hF_58⟩ := Option.bind_eq_some_iff.mp hF_55
      clear hF_55
      refine m_cv hsz hS (va_runV (As := [.ref q_56]) (rest := []) ⟨hx, hb, hml, hown, hts⟩ (m_X12_line l dC dI cB cC cI cJ cZ cP h qK qS ad hDD s.heap.size q_56 _ ([89, 111, 117, 32, 100, 111, 32, 110, 111, 116, 32, 104, 97, 118, 101, 32, 116, 104, 97, 116, 46] : List Int32) σ _ hu_57) (cwV 1 hts (g_gV wq_1767 wq_1768 wq_2198 wq_13 wq_1769) rfl rfl rfl (by decide +kernel) ⟨Nat.le_of_ble_eq_true rfl, Nat.le_of_ble_eq_true rfl⟩) (m_preV g_blS hsz hK hP hS hE hKS (g_toS hSq_56 hS (m_narrow hS hsz))) rfl rfl hl.1 rfl (lv_room (Nat.le_of_ble_eq_true rfl)) dX12_does_155 ⟨Nat.le_of_ble_eq_true rfl, Nat.le_of_ble_eq_true rfl⟩) (fun H locs hP hS => ?_)
      refine lv_goto (tgt := 502) hx hb dX12_does_158 (by decide) ?_
      have h9 := Option.some.inj hF_58
      subst h9
      exact W.vret hx hb hr (fun t ht hW => ⟨⟨(), rfl, trivial, m_end ht hP⟩, hS.F ht⟩) hS.2.2 dX12_does_502
  have hF_59 := ineg c_46 hF_45
  clear hF_45
  by_cases c_60 : p0 = 6
  · have hF_61 := ipos c_60 hF_59
    clear hF_59
    refine lv_tableIn (off := 177) (tgt := 178) hx hb dX12_does_1 (by rw [c_60]; decide +kernel) (by rw [c_60]; decide +kernel) (by rw [c_60]; decide +kernel) (by decide) ?_
    refine lv_aload_n hx hb dX12_does_178 rfl (lv_at hl 0 rfl) ?_
    refine va_get (D := (dC, dI)) (ci := 12) (v := .ref (ad 122)) (C := RX12) (T := TX12) (N := 123) hx hb hts ii_X12 hown hK hP 0 rfl rfl 122 (by decide) (hts (.fieldLink RX12 237 "StoryHouseModel" "told" "[Z") wq_1478) (fun _ h9 => h9) rfl dX12_does_179 ?_
    refine lv_iload_n hx hb dX12_does_182 rfl (lv_at hl 2 rfl) ?_
    obtain ⟨g_62, hF_63⟩ := nif_e hF_61
    clear hF_61
    refine va_zald (f := σ.2 122) hx hb hK hP 69 4 rfl rfl g_62 dX12_does_183 ?_
    refine lv_if_eq (tgt := 212) hx hb dX12_does_184 (by decide) (fun c_64 => ?_) (fun c_64 => ?_)
    · have hF_65 := ipos c_64 hF_63
      clear hF_63
      refine lv_aload_n hx hb dX12_does_212 rfl (lv_at hl 0 rfl) ?_
      obtain ⟨q_66, vq_66, hRq_66, hSq_66⟩ := hE.2.2.2.2 _ (List.mem_of_getElem? (i := 136) rfl)
      refine g_ldcwS (own := RX12) (tx := "You see nothing special.") hx hb hown hRq_66 dX12_does_213 ?_
      obtain ⟨u_67, hu_67, hF_68⟩ := Option.bind_eq_some_iff.mp hF_65
      clear hF_65
      refine m_cv hsz hS (va_runV (As := [.ref q_66]) (rest := []) ⟨hx, hb, hml, hown, hts⟩ (m_X12_line l dC dI cB cC cI cJ cZ cP h qK qS ad hDD s.heap.size q_66 _ ([89, 111, 117, 32, 115, 101, 101, 32, 110, 111, 116, 104, 105, 110, 103, 32, 115, 112, 101, 99, 105, 97, 108, 46] : List Int32) σ _ hu_67) (cwV 1 hts (g_gV wq_1767 wq_1768 wq_2198 wq_13 wq_1769) rfl rfl rfl (by decide +kernel) ⟨Nat.le_of_ble_eq_true rfl, Nat.le_of_ble_eq_true rfl⟩) (m_preV g_blS hsz hK hP hS hE hKS (g_toS hSq_66 hS (m_narrow hS hsz))) rfl rfl hl.1 rfl (lv_room (Nat.le_of_ble_eq_true rfl)) dX12_does_216 ⟨Nat.le_of_ble_eq_true rfl, Nat.le_of_ble_eq_true rfl⟩) (fun H locs hP hS => ?_)
      refine lv_goto (tgt := 502) hx hb dX12_does_219 (by decide) ?_
      have h9 := Option.some.inj hF_68
      subst h9
      exact W.vret hx hb hr (fun t ht hW => ⟨⟨(), rfl, trivial, m_end ht hP⟩, hS.F ht⟩) hS.2.2 dX12_does_502
    · have hF_69 := ineg c_64 hF_63
      clear hF_63
      refine lv_aload_n hx hb dX12_does_187 rfl (lv_at hl 0 rfl) ?_
      refine lv_aload_n hx hb dX12_does_188 rfl (lv_at hl 0 rfl) ?_
      refine va_get (D := (dC, dI)) (ci := 12) (v := .ref (ad 48)) (C := RX12) (T := TX12) (N := 123) hx hb hts ii_X12 hown hK hP 0 rfl rfl 48 (by decide) (hts (.fieldLink RX12 91 "StoryHouseModel" "textAt" "[I") wq_1404) (fun _ h9 => h9) rfl dX12_does_189 ?_
      refine lv_iload_n hx hb dX12_does_192 rfl (lv_at hl 2 rfl) ?_
      obtain ⟨g_70, hF_71⟩ := nif_e hF_69
      clear hF_69
      refine va_iald (f := σ.2 48) hx hb hK hP 22 2 rfl rfl g_70 dX12_does_193 ?_
      refine lv_aload_n hx hb dX12_does_194 rfl (lv_at hl 0 rfl) ?_
      refine va_get (D := (dC, dI)) (ci := 12) (v := .ref (ad 49)) (C := RX12) (T := TX12) (N := 123) hx hb hts ii_X12 hown hK hP 0 rfl rfl 49 (by decide) (hts (.fieldLink RX12 94 "StoryHouseModel" "textSize" "[I") wq_1405) (fun _ h9 => h9) rfl dX12_does_195 ?_
      refine lv_iload_n hx hb dX12_does_198 rfl (lv_at hl 2 rfl) ?_
      obtain ⟨g_72, hF_73⟩ := nif_e hF_71
      clear hF_71
      refine va_iald (f := σ.2 49) hx hb hK hP 23 2 rfl rfl g_72 dX12_does_199 ?_
      obtain ⟨u_74, hu_74, hF_75⟩ := Option.bind_eq_some_iff.mp hF_73
      clear hF_73
      refine m_cv hsz hS (va_runV (As := [.int (σ.2 48 p1.toNatClampNeg), .int (σ.2 49 p1.toNatClampNeg)]) (rest := []) ⟨hx, hb, hml, hown, hts⟩ (m_X12_sayText l dC dI cB cC cI cJ cZ cP h qK qS ad hDD s.heap.size  (σ.2 48 p1.toNatClampNeg) (σ.2 49 p1.toNatClampNeg) σ _ hu_74) (cwV 2 hts (g_gV wq_1779 wq_1780 wq_2202 wq_13 wq_1781) rfl rfl rfl (by decide +kernel) ⟨Nat.le_of_ble_eq_true rfl, Nat.le_of_ble_eq_true rfl⟩) (m_preV g_bl0 hsz hK hP hS hE hKS g_to0) rfl rfl hl.1 rfl (lv_room (Nat.le_of_ble_eq_true rfl)) dX12_does_200 ⟨Nat.le_of_ble_eq_true rfl, Nat.le_of_ble_eq_true rfl⟩) (fun H locs hP hS => ?_)
      refine lv_aload_n hx hb dX12_does_203 rfl (lv_at hl 0 rfl) ?_
      refine lv_bipush (v := 10) hx hb dX12_does_204 (by decide +kernel) ?_
      obtain ⟨u_76, hu_76, hF_77⟩ := Option.bind_eq_some_iff.mp hF_75
      clear hF_75
      refine m_cv hsz hS (va_runV (As := [.int 10]) (rest := []) ⟨hx, hb, hml, hown, hts⟩ (m_X12_put l dC dI cB cC cI cJ cZ cP h qK qS ad hDD H.size  10 u_74.2 _ hu_76) (cwV 1 hts (g_gV wq_1773 wq_1774 wq_2200 wq_13 wq_1775) rfl rfl rfl (by decide +kernel) ⟨Nat.le_of_ble_eq_true rfl, Nat.le_of_ble_eq_true rfl⟩) (m_preV g_bl0 hsz hK hP hS hE hKS g_to0) rfl rfl hl.1 rfl (lv_room (Nat.le_of_ble_eq_true rfl)) dX12_does_206 ⟨Nat.le_of_ble_eq_true rfl, Nat.le_of_ble_eq_true rfl⟩) (fun H locs hP hS => ?_)
      refine lv_goto (tgt := 502) hx hb dX12_does_209 (by decide) ?_
      have h9 := Option.some.inj hF_77
      subst h9
      exact W.vret hx hb hr (fun t ht hW => ⟨⟨(), rfl, trivial, m_end ht hP⟩, hS.F ht⟩) hS.2.2 dX12_does_502
  have hF_78 := ineg c_60 hF_59
  clear hF_59
  by_cases c_79 : p0 = 7 ∨ p0 = 8
  · have hF_80 := ipos c_79 hF_78
    clear hF_78
    refine lv_tableIn (off := 221) (tgt := 222) hx hb dX12_does_1 (by rcases c_79 with q9 | q9 <;> (rw [q9]; decide +kernel)) (by rcases c_79 with q9 | q9 <;> (rw [q9]; decide +kernel)) (by rcases c_79 with q9 | q9 <;> (rw [q9]; decide +kernel)) (by decide) ?_
    refine lv_aload_n hx hb dX12_does_222 rfl (lv_at hl 0 rfl) ?_
    refine lv_iload_n hx hb dX12_does_223 rfl (lv_at hl 2 rfl) ?_
    refine lv_iconst (v := 0) hx hb dX12_does_224 (by decide +kernel) ?_
    refine lv_iconst (v := 1) hx hb dX12_does_225 (by decide +kernel) ?_
    obtain ⟨u_81, hu_81, hF_82⟩ := Option.bind_eq_some_iff.mp hF_80
    clear hF_80
    refine m_ci hsz hS (va_runV (As := [.int p1, .int 0, .int 1]) (rest := []) ⟨hx, hb, hml, hown, hts⟩ (m_X12_has l dC dI cB cC cI cJ cZ cP h qK qS ad hDD s.heap.size  p1 0 1 σ _ hu_81) (cwV 3 hts (g_gV wq_1758 wq_1759 wq_2195 wq_13 wq_1760) rfl rfl rfl (by decide +kernel) ⟨Nat.le_of_ble_eq_true rfl, Nat.le_of_ble_eq_true rfl⟩) (m_preV g_bl0 hsz hK hP hS hE hKS g_to0) rfl rfl hl.1 rfl (lv_room (Nat.le_of_ble_eq_true rfl)) dX12_does_226 ⟨Nat.le_of_ble_eq_true rfl, Nat.le_of_ble_eq_true rfl⟩) (fun H locs hP hS => ?_)
    refine lv_if_ne (tgt := 254) hx hb dX12_does_229 (by decide) (fun c_83 => ?_) (fun c_83 => ?_)
    · have hF_94 := ineg c_83 hF_82
      clear hF_82
      refine lv_aload_n hx hb dX12_does_254 rfl (lv_at hl 0 rfl) ?_
      refine lv_iload_n hx hb dX12_does_255 rfl (lv_at hl 2 rfl) ?_
      refine lv_iconst (v := 4) hx hb dX12_does_256 (by decide +kernel) ?_
      refine lv_iconst (v := 1) hx hb dX12_does_257 (by decide +kernel) ?_
      obtain ⟨u_95, hu_95, hF_96⟩ := Option.bind_eq_some_iff.mp hF_94
      clear hF_94
      refine m_ci hsz hS (va_runV (As := [.int p1, .int 4, .int 1]) (rest := []) ⟨hx, hb, hml, hown, hts⟩ (m_X12_has l dC dI cB cC cI cJ cZ cP h qK qS ad hDD H.size  p1 4 1 u_81.2 _ hu_95) (cwV 3 hts (g_gV wq_1758 wq_1759 wq_2195 wq_13 wq_1760) rfl rfl rfl (by decide +kernel) ⟨Nat.le_of_ble_eq_true rfl, Nat.le_of_ble_eq_true rfl⟩) (m_preV g_bl0 hsz hK hP hS hE hKS g_to0) rfl rfl hl.1 rfl (lv_room (Nat.le_of_ble_eq_true rfl)) dX12_does_258 ⟨Nat.le_of_ble_eq_true rfl, Nat.le_of_ble_eq_true rfl⟩) (fun H locs hP hS => ?_)
      refine lv_iload_n hx hb dX12_does_261 rfl (lv_at hl 1 rfl) ?_
      refine lv_bipush (v := 7) hx hb dX12_does_262 (by decide +kernel) ?_
      obtain ⟨j_99, ej_99, hF_100⟩ := bnd_e hF_96
      clear hF_96
      have Jj_99 : ∀ (t_97 : Int32) (σ_98 : MS), j_99 t_97 σ_98 = some res → ∀ (H : Heap) (locs : List Loc), va_P (dC, dI) vwCl (mW cB cI cZ h qK qS ad σ_98) H → va_S (mCells h ad sz) s.heap H locs → ∀ ls : Array Slot, lv_has ls 4 [(0, .ref h), (1, .int p0), (2, .int p1)] → W p l e (headSpec (g_ws yX12_does cX12_does 4 none) { frames := 129, cells := 0, slots := 0, locals := 2856 }).room s m ([.ref h, .int p0, .int p1, .int p2] : List Value).toArray below meth c H locs 0 0 (MQ below (va_Qv (fun (_ : Unit) => True) (fun _ t => va_P (dC, dI) vwCl (mW cB cI cZ h qK qS ad res.2) t.heap) (mCells h ad sz)) ([.ref h, .int p0, .int p1, .int p2] : List Value).toArray s 0 0 (mCells h ad sz)) (F0 m 272 ls [.int t_97, .int u_95.1]) := by
        intro t_97 σ_98 hF0 H locs hP hS ls hl
        subst ej_99
        have hF_101 := hF0
        clear hF0
        refine lv_icmp_ne (tgt := 297) hx hb dX12_does_272 (by decide) (fun c_102 => ?_) (fun c_102 => ?_)
        · have hF_113 := ineg c_102 hF_101
          clear hF_101
          refine lv_aload_n hx hb dX12_does_297 rfl (lv_at hl 0 rfl) ?_
          refine va_get (D := (dC, dI)) (ci := 12) (v := .ref (ad 90)) (C := RX12) (T := TX12) (N := 123) hx hb hts ii_X12 hown hK hP 0 rfl rfl 90 (by decide) (hts (.fieldLink RX12 191 "StoryHouseModel" "has" "[Z") wq_1446) (fun _ h9 => h9) rfl dX12_does_298 ?_
          refine lv_bipush (v := 7) hx hb dX12_does_301 (by decide +kernel) ?_
          refine lv_iload_n hx hb dX12_does_303 rfl (lv_at hl 2 rfl) ?_
          refine lv_imul hx hb dX12_does_304 ?_
          refine lv_iconst (v := 4) hx hb dX12_does_305 (by decide +kernel) ?_
          refine lv_iadd hx hb dX12_does_306 ?_
          refine lv_iload_n hx hb dX12_does_307 rfl (lv_at hl 1 rfl) ?_
          refine lv_bipush (v := 7) hx hb dX12_does_308 (by decide +kernel) ?_
          obtain ⟨j_116, ej_116, hF_117⟩ := bnd_e hF_113
          clear hF_113
          have Jj_116 : ∀ (t_114 : Int32) (σ_115 : MS), j_116 t_114 σ_115 = some res → ∀ (H : Heap) (locs : List Loc), va_P (dC, dI) vwCl (mW cB cI cZ h qK qS ad σ_115) H → va_S (mCells h ad sz) s.heap H locs → ∀ ls : Array Slot, lv_has ls 4 [(0, .ref h), (1, .int p0)] → W p l e (headSpec (g_ws yX12_does cX12_does 4 none) { frames := 129, cells := 0, slots := 0, locals := 2856 }).room s m ([.ref h, .int p0, .int p1, .int p2] : List Value).toArray below meth c H locs 0 0 (MQ below (va_Qv (fun (_ : Unit) => True) (fun _ t => va_P (dC, dI) vwCl (mW cB cI cZ h qK qS ad res.2) t.heap) (mCells h ad sz)) ([.ref h, .int p0, .int p1, .int p2] : List Value).toArray s 0 0 (mCells h ad sz)) (F0 m 318 ls [.int t_114, .int ((7 * p1) + 4), .ref (ad 90)]) := by
            intro t_114 σ_115 hF0 H locs hP hS ls hl
            subst ej_116
            have hF_118 := hF0
            clear hF0
            obtain ⟨g_119, hF_120⟩ := nif_e hF_118
            clear hF_118
            obtain ⟨σ_121, eσ_121, hF_122⟩ := bnd_e hF_120
            clear hF_120
            refine m_zast (σ' := σ_121) hx hb hK hP (hDD _ _) hS (q0 := 55) (t0 := 4) (f := σ_115.2 90) rfl rfl (by rw [eσ_121]; exact mwA_90) g_119 dX12_does_318 (fun H locs hP hS => ?_)
            refine lv_aload_n hx hb dX12_does_319 rfl (lv_at hl 0 rfl) ?_
            refine lv_iload_n hx hb dX12_does_320 rfl (lv_at hl 1 rfl) ?_
            refine lv_bipush (v := 7) hx hb dX12_does_321 (by decide +kernel) ?_
            refine lv_icmp_ne (tgt := 332) hx hb dX12_does_323 (by decide) (fun c_123 => ?_) (fun c_123 => ?_)
            · have hF_128 := ineg c_123 hF_122
              clear hF_122
              obtain ⟨q_129, vq_129, hRq_129, hSq_129⟩ := hE.2.2.2.2 _ (List.mem_of_getElem? (i := 142) rfl)
              refine g_ldcwS (own := RX12) (tx := "Closed.") hx hb hown hRq_129 dX12_does_332 ?_
              obtain ⟨u_130, hu_130, hF_131⟩ := Option.bind_eq_some_iff.mp hF_128
              clear hF_128
              refine m_cv hsz hS (va_runV (As := [.ref q_129]) (rest := []) ⟨hx, hb, hml, hown, hts⟩ (m_X12_line l dC dI cB cC cI cJ cZ cP h qK qS ad hDD H.size q_129 _ ([67, 108, 111, 115, 101, 100, 46] : List Int32) σ_121 _ hu_130) (cwV 1 hts (g_gV wq_1767 wq_1768 wq_2198 wq_13 wq_1769) rfl rfl rfl (by decide +kernel) ⟨Nat.le_of_ble_eq_true rfl, Nat.le_of_ble_eq_true rfl⟩) (m_preV g_blS hsz hK hP hS hE hKS (g_toS hSq_129 hS (m_narrow hS hsz))) rfl rfl hl.1 rfl (lv_room (Nat.le_of_ble_eq_true rfl)) dX12_does_335 ⟨Nat.le_of_ble_eq_true rfl, Nat.le_of_ble_eq_true rfl⟩) (fun H locs hP hS => ?_)
              refine lv_goto (tgt := 502) hx hb dX12_does_338 (by decide) ?_
              have h9 := Option.some.inj hF_131
              subst h9
              exact W.vret hx hb hr (fun t ht hW => ⟨⟨(), rfl, trivial, m_end ht hP⟩, hS.F ht⟩) hS.2.2 dX12_does_502
            · have hF_124 := ipos c_123 hF_122
              clear hF_122
              obtain ⟨q_125, vq_125, hRq_125, hSq_125⟩ := hE.2.2.2.2 _ (List.mem_of_getElem? (i := 141) rfl)
              refine g_ldcwS (own := RX12) (tx := "Opened.") hx hb hown hRq_125 dX12_does_326 ?_
              refine lv_goto (tgt := 335) hx hb dX12_does_329 (by decide) ?_
              obtain ⟨u_126, hu_126, hF_127⟩ := Option.bind_eq_some_iff.mp hF_124
              clear hF_124
              refine m_cv hsz hS (va_runV (As := [.ref q_125]) (rest := []) ⟨hx, hb, hml, hown, hts⟩ (m_X12_line l dC dI cB cC cI cJ cZ cP h qK qS ad hDD H.size q_125 _ ([79, 112, 101, 110, 101, 100, 46] : List Int32) σ_121 _ hu_126) (cwV 1 hts (g_gV wq_1767 wq_1768 wq_2198 wq_13 wq_1769) rfl rfl rfl (by decide +kernel) ⟨Nat.le_of_ble_eq_true rfl, Nat.le_of_ble_eq_true rfl⟩) (m_preV g_blS hsz hK hP hS hE hKS (g_toS hSq_125 hS (m_narrow hS hsz))) rfl rfl hl.1 rfl (lv_room (Nat.le_of_ble_eq_true rfl)) dX12_does_335 ⟨Nat.le_of_ble_eq_true rfl, Nat.le_of_ble_eq_true rfl⟩) (fun H locs hP hS => ?_)
              refine lv_goto (tgt := 502) hx hb dX12_does_338 (by decide) ?_
              have h9 := Option.some.inj hF_127
              subst h9
              exact W.vret hx hb hr (fun t ht hW => ⟨⟨(), rfl, trivial, m_end ht hP⟩, hS.F ht⟩) hS.2.2 dX12_does_502
          refine lv_icmp_ne (tgt := 317) hx hb dX12_does_310 (by decide) (fun c_132 => ?_) (fun c_132 => ?_)
          · have hF_134 := ineg c_132 hF_117
            clear hF_117
            refine lv_iconst (v := 0) hx hb dX12_does_317 (by decide +kernel) ?_
            exact Jj_116 0 σ_98 hF_134 _ _ hP hS ls (lv_sub hl [0, 1] rfl)
          · have hF_133 := ipos c_132 hF_117
            clear hF_117
            refine lv_iconst (v := 1) hx hb dX12_does_313 (by decide +kernel) ?_
            refine lv_goto (tgt := 318) hx hb dX12_does_314 (by decide) ?_
            exact Jj_116 1 σ_98 hF_133 _ _ hP hS ls (lv_sub hl [0, 1] rfl)
        · have hF_103 := ipos c_102 hF_101
          clear hF_101
          refine lv_aload_n hx hb dX12_does_275 rfl (lv_at hl 0 rfl) ?_
          refine lv_iload_n hx hb dX12_does_276 rfl (lv_at hl 1 rfl) ?_
          refine lv_bipush (v := 7) hx hb dX12_does_277 (by decide +kernel) ?_
          refine lv_icmp_ne (tgt := 288) hx hb dX12_does_279 (by decide) (fun c_104 => ?_) (fun c_104 => ?_)
          · have hF_109 := ineg c_104 hF_103
            clear hF_103
            obtain ⟨q_110, vq_110, hRq_110, hSq_110⟩ := hE.2.2.2.2 _ (List.mem_of_getElem? (i := 140) rfl)
            refine g_ldcwS (own := RX12) (tx := "That is closed.") hx hb hown hRq_110 dX12_does_288 ?_
            obtain ⟨u_111, hu_111, hF_112⟩ := Option.bind_eq_some_iff.mp hF_109
            clear hF_109
            refine m_cv hsz hS (va_runV (As := [.ref q_110]) (rest := []) ⟨hx, hb, hml, hown, hts⟩ (m_X12_line l dC dI cB cC cI cJ cZ cP h qK qS ad hDD H.size q_110 _ ([84, 104, 97, 116, 32, 105, 115, 32, 99, 108, 111, 115, 101, 100, 46] : List Int32) σ_98 _ hu_111) (cwV 1 hts (g_gV wq_1767 wq_1768 wq_2198 wq_13 wq_1769) rfl rfl rfl (by decide +kernel) ⟨Nat.le_of_ble_eq_true rfl, Nat.le_of_ble_eq_true rfl⟩) (m_preV g_blS hsz hK hP hS hE hKS (g_toS hSq_110 hS (m_narrow hS hsz))) rfl rfl hl.1 rfl (lv_room (Nat.le_of_ble_eq_true rfl)) dX12_does_291 ⟨Nat.le_of_ble_eq_true rfl, Nat.le_of_ble_eq_true rfl⟩) (fun H locs hP hS => ?_)
            refine lv_goto (tgt := 502) hx hb dX12_does_294 (by decide) ?_
            have h9 := Option.some.inj hF_112
            subst h9
            exact W.vret hx hb hr (fun t ht hW => ⟨⟨(), rfl, trivial, m_end ht hP⟩, hS.F ht⟩) hS.2.2 dX12_does_502
          · have hF_105 := ipos c_104 hF_103
            clear hF_103
            obtain ⟨q_106, vq_106, hRq_106, hSq_106⟩ := hE.2.2.2.2 _ (List.mem_of_getElem? (i := 139) rfl)
            refine g_ldcwS (own := RX12) (tx := "That is open.") hx hb hown hRq_106 dX12_does_282 ?_
            refine lv_goto (tgt := 291) hx hb dX12_does_285 (by decide) ?_
            obtain ⟨u_107, hu_107, hF_108⟩ := Option.bind_eq_some_iff.mp hF_105
            clear hF_105
            refine m_cv hsz hS (va_runV (As := [.ref q_106]) (rest := []) ⟨hx, hb, hml, hown, hts⟩ (m_X12_line l dC dI cB cC cI cJ cZ cP h qK qS ad hDD H.size q_106 _ ([84, 104, 97, 116, 32, 105, 115, 32, 111, 112, 101, 110, 46] : List Int32) σ_98 _ hu_107) (cwV 1 hts (g_gV wq_1767 wq_1768 wq_2198 wq_13 wq_1769) rfl rfl rfl (by decide +kernel) ⟨Nat.le_of_ble_eq_true rfl, Nat.le_of_ble_eq_true rfl⟩) (m_preV g_blS hsz hK hP hS hE hKS (g_toS hSq_106 hS (m_narrow hS hsz))) rfl rfl hl.1 rfl (lv_room (Nat.le_of_ble_eq_true rfl)) dX12_does_291 ⟨Nat.le_of_ble_eq_true rfl, Nat.le_of_ble_eq_true rfl⟩) (fun H locs hP hS => ?_)
            refine lv_goto (tgt := 502) hx hb dX12_does_294 (by decide) ?_
            have h9 := Option.some.inj hF_108
            subst h9
            exact W.vret hx hb hr (fun t ht hW => ⟨⟨(), rfl, trivial, m_end ht hP⟩, hS.F ht⟩) hS.2.2 dX12_does_502
      refine lv_icmp_ne (tgt := 271) hx hb dX12_does_264 (by decide) (fun c_135 => ?_) (fun c_135 => ?_)
      · have hF_137 := ineg c_135 hF_100
        clear hF_100
        refine lv_iconst (v := 0) hx hb dX12_does_271 (by decide +kernel) ?_
        exact Jj_99 0 u_95.2 hF_137 _ _ hP hS ls (lv_sub hl [0, 1, 2] rfl)
      · have hF_136 := ipos c_135 hF_100
        clear hF_100
        refine lv_iconst (v := 1) hx hb dX12_does_267 (by decide +kernel) ?_
        refine lv_goto (tgt := 272) hx hb dX12_does_268 (by decide) ?_
        exact Jj_99 1 u_95.2 hF_136 _ _ hP hS ls (lv_sub hl [0, 1, 2] rfl)
    · have hF_84 := ipos c_83 hF_82
      clear hF_82
      refine lv_aload_n hx hb dX12_does_232 rfl (lv_at hl 0 rfl) ?_
      refine lv_iload_n hx hb dX12_does_233 rfl (lv_at hl 1 rfl) ?_
      refine lv_bipush (v := 7) hx hb dX12_does_234 (by decide +kernel) ?_
      refine lv_icmp_ne (tgt := 245) hx hb dX12_does_236 (by decide) (fun c_85 => ?_) (fun c_85 => ?_)
      · have hF_90 := ineg c_85 hF_84
        clear hF_84
        obtain ⟨q_91, vq_91, hRq_91, hSq_91⟩ := hE.2.2.2.2 _ (List.mem_of_getElem? (i := 138) rfl)
        refine g_ldcwS (own := RX12) (tx := "You can not close that.") hx hb hown hRq_91 dX12_does_245 ?_
        obtain ⟨u_92, hu_92, hF_93⟩ := Option.bind_eq_some_iff.mp hF_90
        clear hF_90
        refine m_cv hsz hS (va_runV (As := [.ref q_91]) (rest := []) ⟨hx, hb, hml, hown, hts⟩ (m_X12_line l dC dI cB cC cI cJ cZ cP h qK qS ad hDD H.size q_91 _ ([89, 111, 117, 32, 99, 97, 110, 32, 110, 111, 116, 32, 99, 108, 111, 115, 101, 32, 116, 104, 97, 116, 46] : List Int32) u_81.2 _ hu_92) (cwV 1 hts (g_gV wq_1767 wq_1768 wq_2198 wq_13 wq_1769) rfl rfl rfl (by decide +kernel) ⟨Nat.le_of_ble_eq_true rfl, Nat.le_of_ble_eq_true rfl⟩) (m_preV g_blS hsz hK hP hS hE hKS (g_toS hSq_91 hS (m_narrow hS hsz))) rfl rfl hl.1 rfl (lv_room (Nat.le_of_ble_eq_true rfl)) dX12_does_248 ⟨Nat.le_of_ble_eq_true rfl, Nat.le_of_ble_eq_true rfl⟩) (fun H locs hP hS => ?_)
        refine lv_goto (tgt := 502) hx hb dX12_does_251 (by decide) ?_
        have h9 := Option.some.inj hF_93
        subst h9
        exact W.vret hx hb hr (fun t ht hW => ⟨⟨(), rfl, trivial, m_end ht hP⟩, hS.F ht⟩) hS.2.2 dX12_does_502
      · have hF_86 := ipos c_85 hF_84
        clear hF_84
        obtain ⟨q_87, vq_87, hRq_87, hSq_87⟩ := hE.2.2.2.2 _ (List.mem_of_getElem? (i := 137) rfl)
        refine g_ldcwS (own := RX12) (tx := "You can not open that.") hx hb hown hRq_87 dX12_does_239 ?_
        refine lv_goto (tgt := 248) hx hb dX12_does_242 (by decide) ?_
        obtain ⟨u_88, hu_88, hF_89⟩ := Option.bind_eq_some_iff.mp hF_86
        clear hF_86
        refine m_cv hsz hS (va_runV (As := [.ref q_87]) (rest := []) ⟨hx, hb, hml, hown, hts⟩ (m_X12_line l dC dI cB cC cI cJ cZ cP h qK qS ad hDD H.size q_87 _ ([89, 111, 117, 32, 99, 97, 110, 32, 110, 111, 116, 32, 111, 112, 101, 110, 32, 116, 104, 97, 116, 46] : List Int32) u_81.2 _ hu_88) (cwV 1 hts (g_gV wq_1767 wq_1768 wq_2198 wq_13 wq_1769) rfl rfl rfl (by decide +kernel) ⟨Nat.le_of_ble_eq_true rfl, Nat.le_of_ble_eq_true rfl⟩) (m_preV g_blS hsz hK hP hS hE hKS (g_toS hSq_87 hS (m_narrow hS hsz))) rfl rfl hl.1 rfl (lv_room (Nat.le_of_ble_eq_true rfl)) dX12_does_248 ⟨Nat.le_of_ble_eq_true rfl, Nat.le_of_ble_eq_true rfl⟩) (fun H locs hP hS => ?_)
        refine lv_goto (tgt := 502) hx hb dX12_does_251 (by decide) ?_
        have h9 := Option.some.inj hF_89
        subst h9
        exact W.vret hx hb hr (fun t ht hW => ⟨⟨(), rfl, trivial, m_end ht hP⟩, hS.F ht⟩) hS.2.2 dX12_does_502
  have hF_138 := ineg c_79 hF_78
  clear hF_78
  by_cases c_139 : p0 = 9 ∨ p0 = 10
  · have hF_140 := ipos c_139 hF_138
    clear hF_138
    refine lv_tableIn (off := 340) (tgt := 341) hx hb dX12_does_1 (by rcases c_139 with q9 | q9 <;> (rw [q9]; decide +kernel)) (by rcases c_139 with q9 | q9 <;> (rw [q9]; decide +kernel)) (by rcases c_139 with q9 | q9 <;> (rw [q9]; decide +kernel)) (by decide) ?_
    refine lv_aload_n hx hb dX12_does_341 rfl (lv_at hl 0 rfl) ?_
    refine va_get (D := (dC, dI)) (ci := 12) (v := .ref (ad 87)) (C := RX12) (T := TX12) (N := 123) hx hb hts ii_X12 hown hK hP 0 rfl rfl 87 (by decide) (hts (.fieldLink RX12 182 "StoryHouseModel" "holder" "[I") wq_1443) (fun _ h9 => h9) rfl dX12_does_342 ?_
    refine lv_iload_n hx hb dX12_does_345 rfl (lv_at hl 2 rfl) ?_
    obtain ⟨g_141, hF_142⟩ := nif_e hF_140
    clear hF_140
    refine va_iald (f := σ.2 87) hx hb hK hP 52 2 rfl rfl g_141 dX12_does_346 ?_
    refine lv_iconst (v := 1) hx hb dX12_does_347 (by decide +kernel) ?_
    refine lv_icmp_eq (tgt := 361) hx hb dX12_does_348 (by decide) (fun c_143 => ?_) (fun c_143 => ?_)
    · have hF_144 := ipos c_143 hF_142
      clear hF_142
      refine lv_aload_n hx hb dX12_does_361 rfl (lv_at hl 0 rfl) ?_
      refine lv_iload_n hx hb dX12_does_362 rfl (lv_at hl 3 rfl) ?_
      refine lv_iload_n hx hb dX12_does_363 rfl (lv_at hl 2 rfl) ?_
      obtain ⟨u_145, hu_145, hF_146⟩ := Option.bind_eq_some_iff.mp hF_144
      clear hF_144
      refine m_ci hsz hS (va_runV (As := [.int p2, .int p1]) (rest := []) ⟨hx, hb, hml, hown, hts⟩ (m_X12_within l dC dI cB cC cI cJ cZ cP h qK qS ad hDD s.heap.size  p2 p1 σ _ hu_145) (cwV 2 hts (g_gV wq_1871 wq_1872 wq_2231 wq_13 wq_1873) rfl rfl rfl (by decide +kernel) ⟨Nat.le_of_ble_eq_true rfl, Nat.le_of_ble_eq_true rfl⟩) (m_preV g_bl0 hsz hK hP hS hE hKS g_to0) rfl rfl hl.1 rfl (lv_room (Nat.le_of_ble_eq_true rfl)) dX12_does_364 ⟨Nat.le_of_ble_eq_true rfl, Nat.le_of_ble_eq_true rfl⟩) (fun H locs hP hS => ?_)
      obtain ⟨j_148, ej_148, hF_149⟩ := bnd_e hF_146
      clear hF_146
      have Jj_148 : ∀  (σ_147 : MS), j_148  σ_147 = some res → ∀ (H : Heap) (locs : List Loc), va_P (dC, dI) vwCl (mW cB cI cZ h qK qS ad σ_147) H → va_S (mCells h ad sz) s.heap H locs → ∀ ls : Array Slot, lv_has ls 4 [(0, .ref h)] → W p l e (headSpec (g_ws yX12_does cX12_does 4 none) { frames := 129, cells := 0, slots := 0, locals := 2856 }).room s m ([.ref h, .int p0, .int p1, .int p2] : List Value).toArray below meth c H locs 0 0 (MQ below (va_Qv (fun (_ : Unit) => True) (fun _ t => va_P (dC, dI) vwCl (mW cB cI cZ h qK qS ad res.2) t.heap) (mCells h ad sz)) ([.ref h, .int p0, .int p1, .int p2] : List Value).toArray s 0 0 (mCells h ad sz)) (F0 m 390 ls []) := by
        intro  σ_147 hF0 H locs hP hS ls hl
        subst ej_148
        have hF_150 := hF0
        clear hF0
        refine lv_aload_n hx hb dX12_does_390 rfl (lv_at hl 0 rfl) ?_
        obtain ⟨q_151, vq_151, hRq_151, hSq_151⟩ := hE.2.2.2.2 _ (List.mem_of_getElem? (i := 143) rfl)
        refine g_ldcwS (own := RX12) (tx := "You can not do that.") hx hb hown hRq_151 dX12_does_391 ?_
        obtain ⟨u_152, hu_152, hF_153⟩ := Option.bind_eq_some_iff.mp hF_150
        clear hF_150
        refine m_cv hsz hS (va_runV (As := [.ref q_151]) (rest := []) ⟨hx, hb, hml, hown, hts⟩ (m_X12_line l dC dI cB cC cI cJ cZ cP h qK qS ad hDD H.size q_151 _ ([89, 111, 117, 32, 99, 97, 110, 32, 110, 111, 116, 32, 100, 111, 32, 116, 104, 97, 116, 46] : List Int32) σ_147 _ hu_152) (cwV 1 hts (g_gV wq_1767 wq_1768 wq_2198 wq_13 wq_1769) rfl rfl rfl (by decide +kernel) ⟨Nat.le_of_ble_eq_true rfl, Nat.le_of_ble_eq_true rfl⟩) (m_preV g_blS hsz hK hP hS hE hKS (g_toS hSq_151 hS (m_narrow hS hsz))) rfl rfl hl.1 rfl (lv_room (Nat.le_of_ble_eq_true rfl)) dX12_does_394 ⟨Nat.le_of_ble_eq_true rfl, Nat.le_of_ble_eq_true rfl⟩) (fun H locs hP hS => ?_)
        refine lv_goto (tgt := 502) hx hb dX12_does_397 (by decide) ?_
        have h9 := Option.some.inj hF_153
        subst h9
        exact W.vret hx hb hr (fun t ht hW => ⟨⟨(), rfl, trivial, m_end ht hP⟩, hS.F ht⟩) hS.2.2 dX12_does_502
      refine lv_if_ne (tgt := 390) hx hb dX12_does_367 (by decide) (fun c_154 => ?_) (fun c_154 => ?_)
      · have hF_187 := ineg c_154 hF_149
        clear hF_149
        exact Jj_148  u_145.2 hF_187 _ _ hP hS ls (lv_sub hl [0] rfl)
      · have hF_155 := ipos c_154 hF_149
        clear hF_149
        refine lv_aload_n hx hb dX12_does_370 rfl (lv_at hl 0 rfl) ?_
        refine lv_iload_n hx hb dX12_does_371 rfl (lv_at hl 3 rfl) ?_
        refine lv_iload_n hx hb dX12_does_372 rfl (lv_at hl 1 rfl) ?_
        refine lv_bipush (v := 9) hx hb dX12_does_373 (by decide +kernel) ?_
        obtain ⟨j_158, ej_158, hF_159⟩ := bnd_e hF_155
        clear hF_155
        have Jj_158 : ∀ (t_156 : Int32) (σ_157 : MS), j_158 t_156 σ_157 = some res → ∀ (H : Heap) (locs : List Loc), va_P (dC, dI) vwCl (mW cB cI cZ h qK qS ad σ_157) H → va_S (mCells h ad sz) s.heap H locs → ∀ ls : Array Slot, lv_has ls 4 [(0, .ref h), (1, .int p0), (2, .int p1), (3, .int p2)] → W p l e (headSpec (g_ws yX12_does cX12_does 4 none) { frames := 129, cells := 0, slots := 0, locals := 2856 }).room s m ([.ref h, .int p0, .int p1, .int p2] : List Value).toArray below meth c H locs 0 0 (MQ below (va_Qv (fun (_ : Unit) => True) (fun _ t => va_P (dC, dI) vwCl (mW cB cI cZ h qK qS ad res.2) t.heap) (mCells h ad sz)) ([.ref h, .int p0, .int p1, .int p2] : List Value).toArray s 0 0 (mCells h ad sz)) (F0 m 383 ls [.int t_156, .int p2, .ref h]) := by
          intro t_156 σ_157 hF0 H locs hP hS ls hl
          subst ej_158
          have hF_160 := hF0
          clear hF0
          refine lv_iconst (v := 1) hx hb dX12_does_383 (by decide +kernel) ?_
          obtain ⟨u_161, hu_161, hF_162⟩ := Option.bind_eq_some_iff.mp hF_160
          clear hF_160
          refine m_ci hsz hS (va_runV (As := [.int p2, .int t_156, .int 1]) (rest := []) ⟨hx, hb, hml, hown, hts⟩ (m_X12_has l dC dI cB cC cI cJ cZ cP h qK qS ad hDD H.size  p2 t_156 1 σ_157 _ hu_161) (cwV 3 hts (g_gV wq_1758 wq_1759 wq_2195 wq_13 wq_1760) rfl rfl rfl (by decide +kernel) ⟨Nat.le_of_ble_eq_true rfl, Nat.le_of_ble_eq_true rfl⟩) (m_preV g_bl0 hsz hK hP hS hE hKS g_to0) rfl rfl hl.1 rfl (lv_room (Nat.le_of_ble_eq_true rfl)) dX12_does_384 ⟨Nat.le_of_ble_eq_true rfl, Nat.le_of_ble_eq_true rfl⟩) (fun H locs hP hS => ?_)
          refine lv_if_ne (tgt := 400) hx hb dX12_does_387 (by decide) (fun c_163 => ?_) (fun c_163 => ?_)
          · have hF_165 := ineg c_163 hF_162
            clear hF_162
            refine lv_iload_n hx hb dX12_does_400 rfl (lv_at hl 1 rfl) ?_
            refine lv_bipush (v := 9) hx hb dX12_does_401 (by decide +kernel) ?_
            obtain ⟨j_167, ej_167, hF_168⟩ := bnd_e hF_165
            clear hF_165
            have Jj_167 : ∀  (σ_166 : MS), j_167  σ_166 = some res → ∀ (H : Heap) (locs : List Loc), va_P (dC, dI) vwCl (mW cB cI cZ h qK qS ad σ_166) H → va_S (mCells h ad sz) s.heap H locs → ∀ ls : Array Slot, lv_has ls 4 [(0, .ref h), (2, .int p1), (3, .int p2)] → W p l e (headSpec (g_ws yX12_does cX12_does 4 none) { frames := 129, cells := 0, slots := 0, locals := 2856 }).room s m ([.ref h, .int p0, .int p1, .int p2] : List Value).toArray below meth c H locs 0 0 (MQ below (va_Qv (fun (_ : Unit) => True) (fun _ t => va_P (dC, dI) vwCl (mW cB cI cZ h qK qS ad res.2) t.heap) (mCells h ad sz)) ([.ref h, .int p0, .int p1, .int p2] : List Value).toArray s 0 0 (mCells h ad sz)) (F0 m 426 ls []) := by
              intro  σ_166 hF0 H locs hP hS ls hl
              subst ej_167
              have hF_169 := hF0
              clear hF0
              refine lv_aload_n hx hb dX12_does_426 rfl (lv_at hl 0 rfl) ?_
              refine lv_iload_n hx hb dX12_does_427 rfl (lv_at hl 1 rfl) ?_
              refine lv_iload_n hx hb dX12_does_428 rfl (lv_at hl 2 rfl) ?_
              obtain ⟨q_170, vq_170, hRq_170, hSq_170⟩ := hE.2.2.2.2 _ (List.mem_of_getElem? (i := 144) rfl)
              refine g_ldcwS (own := RX12) (tx := "Done.") hx hb hown hRq_170 dX12_does_429 ?_
              obtain ⟨u_171, hu_171, hF_172⟩ := Option.bind_eq_some_iff.mp hF_169
              clear hF_169
              refine m_cv hsz hS (va_runV (As := [.int p1, .int p2, .ref q_170]) (rest := []) ⟨hx, hb, hml, hown, hts⟩ (m_X12_moves l dC dI cB cC cI cJ cZ cP h qK qS ad hDD H.size q_170 _ p1 p2 ([68, 111, 110, 101, 46] : List Int32) σ_166 _ hu_171) (cwV 3 hts (g_gV wq_1883 wq_1884 wq_2235 wq_13 wq_1885) rfl rfl rfl (by decide +kernel) ⟨Nat.le_of_ble_eq_true rfl, Nat.le_of_ble_eq_true rfl⟩) (m_preV g_blS hsz hK hP hS hE hKS (g_toS hSq_170 hS (m_narrow hS hsz))) rfl rfl hl.1 rfl (lv_room (Nat.le_of_ble_eq_true rfl)) dX12_does_432 ⟨Nat.le_of_ble_eq_true rfl, Nat.le_of_ble_eq_true rfl⟩) (fun H locs hP hS => ?_)
              refine lv_goto (tgt := 502) hx hb dX12_does_435 (by decide) ?_
              have h9 := Option.some.inj hF_172
              subst h9
              exact W.vret hx hb hr (fun t ht hW => ⟨⟨(), rfl, trivial, m_end ht hP⟩, hS.F ht⟩) hS.2.2 dX12_does_502
            refine lv_icmp_ne (tgt := 426) hx hb dX12_does_403 (by decide) (fun c_173 => ?_) (fun c_173 => ?_)
            · have hF_183 := ineg c_173 hF_168
              clear hF_168
              exact Jj_167  u_161.2 hF_183 _ _ hP hS ls (lv_sub hl [0, 2, 3] rfl)
            · have hF_174 := ipos c_173 hF_168
              clear hF_168
              refine lv_aload_n hx hb dX12_does_406 rfl (lv_at hl 0 rfl) ?_
              refine lv_iload_n hx hb dX12_does_407 rfl (lv_at hl 3 rfl) ?_
              refine lv_iconst (v := 4) hx hb dX12_does_408 (by decide +kernel) ?_
              refine lv_iconst (v := 1) hx hb dX12_does_409 (by decide +kernel) ?_
              obtain ⟨u_175, hu_175, hF_176⟩ := Option.bind_eq_some_iff.mp hF_174
              clear hF_174
              refine m_ci hsz hS (va_runV (As := [.int p2, .int 4, .int 1]) (rest := []) ⟨hx, hb, hml, hown, hts⟩ (m_X12_has l dC dI cB cC cI cJ cZ cP h qK qS ad hDD H.size  p2 4 1 u_161.2 _ hu_175) (cwV 3 hts (g_gV wq_1758 wq_1759 wq_2195 wq_13 wq_1760) rfl rfl rfl (by decide +kernel) ⟨Nat.le_of_ble_eq_true rfl, Nat.le_of_ble_eq_true rfl⟩) (m_preV g_bl0 hsz hK hP hS hE hKS g_to0) rfl rfl hl.1 rfl (lv_room (Nat.le_of_ble_eq_true rfl)) dX12_does_410 ⟨Nat.le_of_ble_eq_true rfl, Nat.le_of_ble_eq_true rfl⟩) (fun H locs hP hS => ?_)
              refine lv_if_ne (tgt := 426) hx hb dX12_does_413 (by decide) (fun c_177 => ?_) (fun c_177 => ?_)
              · have hF_182 := ineg c_177 hF_176
                clear hF_176
                exact Jj_167  u_175.2 hF_182 _ _ hP hS ls (lv_sub hl [0, 2, 3] rfl)
              · have hF_178 := ipos c_177 hF_176
                clear hF_176
                refine lv_aload_n hx hb dX12_does_416 rfl (lv_at hl 0 rfl) ?_
                obtain ⟨q_179, vq_179, hRq_179, hSq_179⟩ := hE.2.2.2.2 _ (List.mem_of_getElem? (i := 140) rfl)
                refine g_ldcwS (own := RX12) (tx := "That is closed.") hx hb hown hRq_179 dX12_does_417 ?_
                obtain ⟨u_180, hu_180, hF_181⟩ := Option.bind_eq_some_iff.mp hF_178
                clear hF_178
                refine m_cv hsz hS (va_runV (As := [.ref q_179]) (rest := []) ⟨hx, hb, hml, hown, hts⟩ (m_X12_line l dC dI cB cC cI cJ cZ cP h qK qS ad hDD H.size q_179 _ ([84, 104, 97, 116, 32, 105, 115, 32, 99, 108, 111, 115, 101, 100, 46] : List Int32) u_175.2 _ hu_180) (cwV 1 hts (g_gV wq_1767 wq_1768 wq_2198 wq_13 wq_1769) rfl rfl rfl (by decide +kernel) ⟨Nat.le_of_ble_eq_true rfl, Nat.le_of_ble_eq_true rfl⟩) (m_preV g_blS hsz hK hP hS hE hKS (g_toS hSq_179 hS (m_narrow hS hsz))) rfl rfl hl.1 rfl (lv_room (Nat.le_of_ble_eq_true rfl)) dX12_does_420 ⟨Nat.le_of_ble_eq_true rfl, Nat.le_of_ble_eq_true rfl⟩) (fun H locs hP hS => ?_)
                refine lv_goto (tgt := 502) hx hb dX12_does_423 (by decide) ?_
                have h9 := Option.some.inj hF_181
                subst h9
                exact W.vret hx hb hr (fun t ht hW => ⟨⟨(), rfl, trivial, m_end ht hP⟩, hS.F ht⟩) hS.2.2 dX12_does_502
          · have hF_164 := ipos c_163 hF_162
            clear hF_162
            exact Jj_148  u_161.2 hF_164 _ _ hP hS ls (lv_sub hl [0] rfl)
        refine lv_icmp_ne (tgt := 382) hx hb dX12_does_375 (by decide) (fun c_184 => ?_) (fun c_184 => ?_)
        · have hF_186 := ineg c_184 hF_159
          clear hF_159
          refine lv_iconst (v := 5) hx hb dX12_does_382 (by decide +kernel) ?_
          exact Jj_158 5 u_145.2 hF_186 _ _ hP hS ls (lv_sub hl [0, 1, 2, 3] rfl)
        · have hF_185 := ipos c_184 hF_159
          clear hF_159
          refine lv_iconst (v := 0) hx hb dX12_does_378 (by decide +kernel) ?_
          refine lv_goto (tgt := 383) hx hb dX12_does_379 (by decide) ?_
          exact Jj_158 0 u_145.2 hF_185 _ _ hP hS ls (lv_sub hl [0, 1, 2, 3] rfl)
    · have hF_188 := ineg c_143 hF_142
      clear hF_142
      refine lv_aload_n hx hb dX12_does_351 rfl (lv_at hl 0 rfl) ?_
      obtain ⟨q_189, vq_189, hRq_189, hSq_189⟩ := hE.2.2.2.2 _ (List.mem_of_getElem? (i := 134) rfl)
      refine g_ldcwS (own := RX12) (tx := "You do not have that.") hx hb hown hRq_189 dX12_does_352 ?_
      obtain ⟨u_190, hu_190, hF_191⟩ := Option.bind_eq_some_iff.mp hF_188
      clear hF_188
      refine m_cv hsz hS (va_runV (As := [.ref q_189]) (rest := []) ⟨hx, hb, hml, hown, hts⟩ (m_X12_line l dC dI cB cC cI cJ cZ cP h qK qS ad hDD s.heap.size q_189 _ ([89, 111, 117, 32, 100, 111, 32, 110, 111, 116, 32, 104, 97, 118, 101, 32, 116, 104, 97, 116, 46] : List Int32) σ _ hu_190) (cwV 1 hts (g_gV wq_1767 wq_1768 wq_2198 wq_13 wq_1769) rfl rfl rfl (by decide +kernel) ⟨Nat.le_of_ble_eq_true rfl, Nat.le_of_ble_eq_true rfl⟩) (m_preV g_blS hsz hK hP hS hE hKS (g_toS hSq_189 hS (m_narrow hS hsz))) rfl rfl hl.1 rfl (lv_room (Nat.le_of_ble_eq_true rfl)) dX12_does_355 ⟨Nat.le_of_ble_eq_true rfl, Nat.le_of_ble_eq_true rfl⟩) (fun H locs hP hS => ?_)
      refine lv_goto (tgt := 502) hx hb dX12_does_358 (by decide) ?_
      have h9 := Option.some.inj hF_191
      subst h9
      exact W.vret hx hb hr (fun t ht hW => ⟨⟨(), rfl, trivial, m_end ht hP⟩, hS.F ht⟩) hS.2.2 dX12_does_502
  have hF_192 := ineg c_139 hF_138
  clear hF_138
  by_cases c_193 : p0 = 11
  · have hF_194 := ipos c_193 hF_192
    clear hF_192
    refine lv_tableIn (off := 437) (tgt := 438) hx hb dX12_does_1 (by rw [c_193]; decide +kernel) (by rw [c_193]; decide +kernel) (by rw [c_193]; decide +kernel) (by decide) ?_
    refine lv_aload_n hx hb dX12_does_438 rfl (lv_at hl 0 rfl) ?_
    refine va_get (D := (dC, dI)) (ci := 12) (v := .ref (ad 51)) (C := RX12) (T := TX12) (N := 123) hx hb hts ii_X12 hown hK hP 0 rfl rfl 51 (by decide) (hts (.fieldLink RX12 101 "StoryHouseModel" "exits" "[I") wq_1407) (fun _ h9 => h9) rfl dX12_does_439 ?_
    refine lv_bipush (v := 7) hx hb dX12_does_442 (by decide +kernel) ?_
    refine lv_aload_n hx hb dX12_does_444 rfl (lv_at hl 0 rfl) ?_
    refine va_get (D := (dC, dI)) (ci := 12) (v := .ref (ad 87)) (C := RX12) (T := TX12) (N := 123) hx hb hts ii_X12 hown hK hP 0 rfl rfl 87 (by decide) (hts (.fieldLink RX12 182 "StoryHouseModel" "holder" "[I") wq_1443) (fun _ h9 => h9) rfl dX12_does_445 ?_
    refine lv_iconst (v := 1) hx hb dX12_does_448 (by decide +kernel) ?_
    refine va_iald (f := σ.2 87) hx hb hK hP 52 2 rfl rfl (vp_in_iff.mpr (by decide +kernel)) dX12_does_449 ?_
    refine lv_imul hx hb dX12_does_450 ?_
    refine lv_iload_n hx hb dX12_does_451 rfl (lv_at hl 2 rfl) ?_
    refine lv_iadd hx hb dX12_does_452 ?_
    obtain ⟨x_195, ex_195, hF_196⟩ := bnd_e hF_194
    clear hF_194
    refine m_top ex_195 ?_
    obtain ⟨g_197, hF_198⟩ := nif_e hF_196
    clear hF_196
    refine va_iald (f := σ.2 51) hx hb hK hP 25 2 rfl rfl g_197 dX12_does_453 ?_
    refine lv_if_ne (tgt := 467) hx hb dX12_does_454 (by decide) (fun c_199 => ?_) (fun c_199 => ?_)
    · have hF_204 := ineg c_199 hF_198
      clear hF_198
      refine lv_aload_n hx hb dX12_does_467 rfl (lv_at hl 0 rfl) ?_
      refine lv_iconst (v := 1) hx hb dX12_does_468 (by decide +kernel) ?_
      refine lv_aload_n hx hb dX12_does_469 rfl (lv_at hl 0 rfl) ?_
      refine va_get (D := (dC, dI)) (ci := 12) (v := .ref (ad 51)) (C := RX12) (T := TX12) (N := 123) hx hb hts ii_X12 hown hK hP 0 rfl rfl 51 (by decide) (hts (.fieldLink RX12 101 "StoryHouseModel" "exits" "[I") wq_1407) (fun _ h9 => h9) rfl dX12_does_470 ?_
      refine lv_bipush (v := 7) hx hb dX12_does_473 (by decide +kernel) ?_
      refine lv_aload_n hx hb dX12_does_475 rfl (lv_at hl 0 rfl) ?_
      refine va_get (D := (dC, dI)) (ci := 12) (v := .ref (ad 87)) (C := RX12) (T := TX12) (N := 123) hx hb hts ii_X12 hown hK hP 0 rfl rfl 87 (by decide) (hts (.fieldLink RX12 182 "StoryHouseModel" "holder" "[I") wq_1443) (fun _ h9 => h9) rfl dX12_does_476 ?_
      refine lv_iconst (v := 1) hx hb dX12_does_479 (by decide +kernel) ?_
      refine va_iald (f := σ.2 87) hx hb hK hP 52 2 rfl rfl (vp_in_iff.mpr (by decide +kernel)) dX12_does_480 ?_
      refine lv_imul hx hb dX12_does_481 ?_
      refine lv_iload_n hx hb dX12_does_482 rfl (lv_at hl 2 rfl) ?_
      refine lv_iadd hx hb dX12_does_483 ?_
      obtain ⟨x_205, ex_205, hF_206⟩ := bnd_e hF_204
      clear hF_204
      refine m_top ex_205 ?_
      obtain ⟨g_207, hF_208⟩ := nif_e hF_206
      clear hF_206
      refine va_iald (f := σ.2 51) hx hb hK hP 25 2 rfl rfl g_207 dX12_does_484 ?_
      obtain ⟨u_209, hu_209, hF_210⟩ := Option.bind_eq_some_iff.mp hF_208
      clear hF_208
      refine m_cv hsz hS (va_runV (As := [.int 1, .int (σ.2 51 x_205.toNatClampNeg)]) (rest := []) ⟨hx, hb, hml, hown, hts⟩ (m_X12_putIn l dC dI cB cC cI cJ cZ cP h qK qS ad hDD s.heap.size  1 (σ.2 51 x_205.toNatClampNeg) σ _ hu_209) (cwV 2 hts (g_gV wq_1746 wq_1747 wq_2191 wq_13 wq_1748) rfl rfl rfl (by decide +kernel) ⟨Nat.le_of_ble_eq_true rfl, Nat.le_of_ble_eq_true rfl⟩) (m_preV g_bl0 hsz hK hP hS hE hKS g_to0) rfl rfl hl.1 rfl (lv_room (Nat.le_of_ble_eq_true rfl)) dX12_does_485 ⟨Nat.le_of_ble_eq_true rfl, Nat.le_of_ble_eq_true rfl⟩) (fun H locs hP hS => ?_)
      refine lv_aload_n hx hb dX12_does_488 rfl (lv_at hl 0 rfl) ?_
      obtain ⟨u_211, hu_211, hF_212⟩ := Option.bind_eq_some_iff.mp hF_210
      clear hF_210
      refine m_cv hsz hS (va_runV (As := []) (rest := []) ⟨hx, hb, hml, hown, hts⟩ (m_X12_look l dC dI cB cC cI cJ cZ cP h qK qS ad hDD H.size  u_209.2 _ hu_211) (cwV 0 hts (g_gV wq_1752 wq_1753 wq_2193 wq_13 wq_1754) rfl rfl rfl (by decide +kernel) ⟨Nat.le_of_ble_eq_true rfl, Nat.le_of_ble_eq_true rfl⟩) (m_preV g_bl0 hsz hK hP hS hE hKS g_to0) rfl rfl hl.1 rfl (lv_room (Nat.le_of_ble_eq_true rfl)) dX12_does_489 ⟨Nat.le_of_ble_eq_true rfl, Nat.le_of_ble_eq_true rfl⟩) (fun H locs hP hS => ?_)
      refine lv_goto (tgt := 502) hx hb dX12_does_492 (by decide) ?_
      have h9 := Option.some.inj hF_212
      subst h9
      exact W.vret hx hb hr (fun t ht hW => ⟨⟨(), rfl, trivial, m_end ht hP⟩, hS.F ht⟩) hS.2.2 dX12_does_502
    · have hF_200 := ipos c_199 hF_198
      clear hF_198
      refine lv_aload_n hx hb dX12_does_457 rfl (lv_at hl 0 rfl) ?_
      obtain ⟨q_201, vq_201, hRq_201, hSq_201⟩ := hE.2.2.2.2 _ (List.mem_of_getElem? (i := 145) rfl)
      refine g_ldcwS (own := RX12) (tx := "You can not go there.") hx hb hown hRq_201 dX12_does_458 ?_
      obtain ⟨u_202, hu_202, hF_203⟩ := Option.bind_eq_some_iff.mp hF_200
      clear hF_200
      refine m_cv hsz hS (va_runV (As := [.ref q_201]) (rest := []) ⟨hx, hb, hml, hown, hts⟩ (m_X12_line l dC dI cB cC cI cJ cZ cP h qK qS ad hDD s.heap.size q_201 _ ([89, 111, 117, 32, 99, 97, 110, 32, 110, 111, 116, 32, 103, 111, 32, 116, 104, 101, 114, 101, 46] : List Int32) σ _ hu_202) (cwV 1 hts (g_gV wq_1767 wq_1768 wq_2198 wq_13 wq_1769) rfl rfl rfl (by decide +kernel) ⟨Nat.le_of_ble_eq_true rfl, Nat.le_of_ble_eq_true rfl⟩) (m_preV g_blS hsz hK hP hS hE hKS (g_toS hSq_201 hS (m_narrow hS hsz))) rfl rfl hl.1 rfl (lv_room (Nat.le_of_ble_eq_true rfl)) dX12_does_461 ⟨Nat.le_of_ble_eq_true rfl, Nat.le_of_ble_eq_true rfl⟩) (fun H locs hP hS => ?_)
      refine lv_goto (tgt := 502) hx hb dX12_does_464 (by decide) ?_
      have h9 := Option.some.inj hF_203
      subst h9
      exact W.vret hx hb hr (fun t ht hW => ⟨⟨(), rfl, trivial, m_end ht hP⟩, hS.F ht⟩) hS.2.2 dX12_does_502
  have hF_213 := ineg c_193 hF_192
  clear hF_192
  refine m_tabD (lo := 1) (n := 11) (tgt := 495) hx hb dX12_does_1 (by decide +kernel) (by decide) (fun j9 h9 e9 => by
      match j9, h9 with
      | 0, _ => exact absurd ((by rw [e9]; decide +kernel)) c_1
      | 1, _ => exact absurd ((by rw [e9]; decide +kernel)) c_6
      | 2, _ => exact absurd ((by rw [e9]; decide +kernel)) c_11
      | 3, _ => exact absurd ((by rw [e9]; decide +kernel)) c_17
      | 4, _ => exact absurd ((by rw [e9]; decide +kernel)) c_46
      | 5, _ => exact absurd ((by rw [e9]; decide +kernel)) c_60
      | 6, _ => exact absurd (Or.inl (by rw [e9]; decide +kernel)) c_79
      | 7, _ => exact absurd (Or.inr ((by rw [e9]; decide +kernel))) c_79
      | 8, _ => exact absurd (Or.inl (by rw [e9]; decide +kernel)) c_139
      | 9, _ => exact absurd (Or.inr ((by rw [e9]; decide +kernel))) c_139
      | 10, _ => exact absurd ((by rw [e9]; decide +kernel)) c_193
      | n9 + 11, h9 => exact absurd h9 (by omega)) ?_
  refine lv_aload_n hx hb dX12_does_495 rfl (lv_at hl 0 rfl) ?_
  obtain ⟨q_214, vq_214, hRq_214, hSq_214⟩ := hE.2.2.2.2 _ (List.mem_of_getElem? (i := 146) rfl)
  refine g_ldcwS (own := RX12) (tx := "Nothing happens.") hx hb hown hRq_214 dX12_does_496 ?_
  obtain ⟨u_215, hu_215, hF_216⟩ := Option.bind_eq_some_iff.mp hF_213
  clear hF_213
  refine m_cv hsz hS (va_runV (As := [.ref q_214]) (rest := []) ⟨hx, hb, hml, hown, hts⟩ (m_X12_line l dC dI cB cC cI cJ cZ cP h qK qS ad hDD s.heap.size q_214 _ ([78, 111, 116, 104, 105, 110, 103, 32, 104, 97, 112, 112, 101, 110, 115, 46] : List Int32) σ _ hu_215) (cwV 1 hts (g_gV wq_1767 wq_1768 wq_2198 wq_13 wq_1769) rfl rfl rfl (by decide +kernel) ⟨Nat.le_of_ble_eq_true rfl, Nat.le_of_ble_eq_true rfl⟩) (m_preV g_blS hsz hK hP hS hE hKS (g_toS hSq_214 hS (m_narrow hS hsz))) rfl rfl hl.1 rfl (lv_room (Nat.le_of_ble_eq_true rfl)) dX12_does_499 ⟨Nat.le_of_ble_eq_true rfl, Nat.le_of_ble_eq_true rfl⟩) (fun H locs hP hS => ?_)
  have h9 := Option.some.inj hF_216
  subst h9
  exact W.vret hx hb hr (fun t ht hW => ⟨⟨(), rfl, trivial, m_end ht hP⟩, hS.F ht⟩) hS.2.2 dX12_does_502
theorem dX12_act_0 : decode cX12_act 0 = .ok (.aload_n 0, 1) := by decide +kernel
theorem dX12_act_1 : decode cX12_act 1 = .ok (.iload_n 3, 1) := by decide +kernel
theorem dX12_act_2 : decode cX12_act 2 = .ok (.putfield 730, 3) := by decide +kernel
theorem dX12_act_5 : decode cX12_act 5 = .ok (.aload_n 0, 1) := by decide +kernel
theorem dX12_act_6 : decode cX12_act 6 = .ok (.iload 4, 2) := by decide +kernel
theorem dX12_act_8 : decode cX12_act 8 = .ok (.putfield 733, 3) := by decide +kernel
theorem dX12_act_11 : decode cX12_act 11 = .ok (.iconst 0, 1) := by decide +kernel
theorem dX12_act_12 : decode cX12_act 12 = .ok (.istore 5, 2) := by decide +kernel
theorem dX12_act_14 : decode cX12_act 14 = .ok (.iload 5, 2) := by decide +kernel
theorem dX12_act_16 : decode cX12_act 16 = .ok (.aload_n 0, 1) := by decide +kernel
theorem dX12_act_17 : decode cX12_act 17 = .ok (.getfield 615, 3) := by decide +kernel
theorem dX12_act_20 : decode cX12_act 20 = .ok (.if_icmp .ge 129, 3) := by decide +kernel
theorem dX12_act_23 : decode cX12_act 23 = .ok (.aload_n 0, 1) := by decide +kernel
theorem dX12_act_24 : decode cX12_act 24 = .ok (.getfield 685, 3) := by decide +kernel
theorem dX12_act_27 : decode cX12_act 27 = .ok (.ifCond .ne 122, 3) := by decide +kernel
theorem dX12_act_30 : decode cX12_act 30 = .ok (.aload_n 0, 1) := by decide +kernel
theorem dX12_act_31 : decode cX12_act 31 = .ok (.getfield 155, 3) := by decide +kernel
theorem dX12_act_34 : decode cX12_act 34 = .ok (.iload 5, 2) := by decide +kernel
theorem dX12_act_36 : decode cX12_act 36 = .ok (.iaload, 1) := by decide +kernel
theorem dX12_act_37 : decode cX12_act 37 = .ok (.iload_n 1, 1) := by decide +kernel
theorem dX12_act_38 : decode cX12_act 38 = .ok (.if_icmp .ne 85, 3) := by decide +kernel
theorem dX12_act_41 : decode cX12_act 41 = .ok (.aload_n 0, 1) := by decide +kernel
theorem dX12_act_42 : decode cX12_act 42 = .ok (.getfield 158, 3) := by decide +kernel
theorem dX12_act_45 : decode cX12_act 45 = .ok (.iload 5, 2) := by decide +kernel
theorem dX12_act_47 : decode cX12_act 47 = .ok (.iaload, 1) := by decide +kernel
theorem dX12_act_48 : decode cX12_act 48 = .ok (.iload_n 2, 1) := by decide +kernel
theorem dX12_act_49 : decode cX12_act 49 = .ok (.if_icmp .gt 74, 3) := by decide +kernel
theorem dX12_act_52 : decode cX12_act 52 = .ok (.aload_n 0, 1) := by decide +kernel
theorem dX12_act_53 : decode cX12_act 53 = .ok (.getfield 158, 3) := by decide +kernel
theorem dX12_act_56 : decode cX12_act 56 = .ok (.iload 5, 2) := by decide +kernel
theorem dX12_act_58 : decode cX12_act 58 = .ok (.iaload, 1) := by decide +kernel
theorem dX12_act_59 : decode cX12_act 59 = .ok (.iconst 1, 1) := by decide +kernel
theorem dX12_act_60 : decode cX12_act 60 = .ok (.if_icmp .lt 25, 3) := by decide +kernel
theorem dX12_act_63 : decode cX12_act 63 = .ok (.aload_n 0, 1) := by decide +kernel
theorem dX12_act_64 : decode cX12_act 64 = .ok (.getfield 161, 3) := by decide +kernel
theorem dX12_act_67 : decode cX12_act 67 = .ok (.iload 5, 2) := by decide +kernel
theorem dX12_act_69 : decode cX12_act 69 = .ok (.iaload, 1) := by decide +kernel
theorem dX12_act_70 : decode cX12_act 70 = .ok (.iconst (-1), 1) := by decide +kernel
theorem dX12_act_71 : decode cX12_act 71 = .ok (.if_icmp .eq 14, 3) := by decide +kernel
theorem dX12_act_74 : decode cX12_act 74 = .ok (.aload_n 0, 1) := by decide +kernel
theorem dX12_act_75 : decode cX12_act 75 = .ok (.getfield 161, 3) := by decide +kernel
theorem dX12_act_78 : decode cX12_act 78 = .ok (.iload 5, 2) := by decide +kernel
theorem dX12_act_80 : decode cX12_act 80 = .ok (.iaload, 1) := by decide +kernel
theorem dX12_act_81 : decode cX12_act 81 = .ok (.iload_n 3, 1) := by decide +kernel
theorem dX12_act_82 : decode cX12_act 82 = .ok (.if_icmp .ne 41, 3) := by decide +kernel
theorem dX12_act_85 : decode cX12_act 85 = .ok (.aload_n 0, 1) := by decide +kernel
theorem dX12_act_86 : decode cX12_act 86 = .ok (.getfield 158, 3) := by decide +kernel
theorem dX12_act_89 : decode cX12_act 89 = .ok (.iload 5, 2) := by decide +kernel
theorem dX12_act_91 : decode cX12_act 91 = .ok (.iaload, 1) := by decide +kernel
theorem dX12_act_92 : decode cX12_act 92 = .ok (.iconst 2, 1) := by decide +kernel
theorem dX12_act_93 : decode cX12_act 93 = .ok (.if_icmp .lt 26, 3) := by decide +kernel
theorem dX12_act_96 : decode cX12_act 96 = .ok (.aload_n 0, 1) := by decide +kernel
theorem dX12_act_97 : decode cX12_act 97 = .ok (.getfield 164, 3) := by decide +kernel
theorem dX12_act_100 : decode cX12_act 100 = .ok (.iload 5, 2) := by decide +kernel
theorem dX12_act_102 : decode cX12_act 102 = .ok (.iaload, 1) := by decide +kernel
theorem dX12_act_103 : decode cX12_act 103 = .ok (.iconst (-1), 1) := by decide +kernel
theorem dX12_act_104 : decode cX12_act 104 = .ok (.if_icmp .eq 15, 3) := by decide +kernel
theorem dX12_act_107 : decode cX12_act 107 = .ok (.aload_n 0, 1) := by decide +kernel
theorem dX12_act_108 : decode cX12_act 108 = .ok (.getfield 164, 3) := by decide +kernel
theorem dX12_act_111 : decode cX12_act 111 = .ok (.iload 5, 2) := by decide +kernel
theorem dX12_act_113 : decode cX12_act 113 = .ok (.iaload, 1) := by decide +kernel
theorem dX12_act_114 : decode cX12_act 114 = .ok (.iload 4, 2) := by decide +kernel
theorem dX12_act_116 : decode cX12_act 116 = .ok (.if_icmp .ne 7, 3) := by decide +kernel
theorem dX12_act_119 : decode cX12_act 119 = .ok (.iconst 1, 1) := by decide +kernel
theorem dX12_act_120 : decode cX12_act 120 = .ok (.goto 4, 3) := by decide +kernel
theorem dX12_act_123 : decode cX12_act 123 = .ok (.iconst 0, 1) := by decide +kernel
theorem dX12_act_124 : decode cX12_act 124 = .ok (.istore 6, 2) := by decide +kernel
theorem dX12_act_126 : decode cX12_act 126 = .ok (.iload 6, 2) := by decide +kernel
theorem dX12_act_128 : decode cX12_act 128 = .ok (.ifCond .eq 15, 3) := by decide +kernel
theorem dX12_act_131 : decode cX12_act 131 = .ok (.aload_n 0, 1) := by decide +kernel
theorem dX12_act_132 : decode cX12_act 132 = .ok (.aload_n 0, 1) := by decide +kernel
theorem dX12_act_133 : decode cX12_act 133 = .ok (.getfield 167, 3) := by decide +kernel
theorem dX12_act_136 : decode cX12_act 136 = .ok (.iload 5, 2) := by decide +kernel
theorem dX12_act_138 : decode cX12_act 138 = .ok (.iaload, 1) := by decide +kernel
theorem dX12_act_139 : decode cX12_act 139 = .ok (.iconst 0, 1) := by decide +kernel
theorem dX12_act_140 : decode cX12_act 140 = .ok (.invokevirtual 921, 3) := by decide +kernel
theorem dX12_act_143 : decode cX12_act 143 = .ok (.iinc 5 1, 3) := by decide +kernel
theorem dX12_act_146 : decode cX12_act 146 = .ok (.goto (-132), 3) := by decide +kernel
theorem dX12_act_149 : decode cX12_act 149 = .ok (.aload_n 0, 1) := by decide +kernel
theorem dX12_act_150 : decode cX12_act 150 = .ok (.getfield 685, 3) := by decide +kernel
theorem dX12_act_153 : decode cX12_act 153 = .ok (.iconst 1, 1) := by decide +kernel
theorem dX12_act_154 : decode cX12_act 154 = .ok (.if_icmp .ne 11, 3) := by decide +kernel
theorem dX12_act_157 : decode cX12_act 157 = .ok (.aload_n 0, 1) := by decide +kernel
theorem dX12_act_158 : decode cX12_act 158 = .ok (.iconst 0, 1) := by decide +kernel
theorem dX12_act_159 : decode cX12_act 159 = .ok (.putfield 685, 3) := by decide +kernel
theorem dX12_act_162 : decode cX12_act 162 = .ok (.goto 18, 3) := by decide +kernel
theorem dX12_act_165 : decode cX12_act 165 = .ok (.aload_n 0, 1) := by decide +kernel
theorem dX12_act_166 : decode cX12_act 166 = .ok (.getfield 685, 3) := by decide +kernel
theorem dX12_act_169 : decode cX12_act 169 = .ok (.ifCond .ne 11, 3) := by decide +kernel
theorem dX12_act_172 : decode cX12_act 172 = .ok (.aload_n 0, 1) := by decide +kernel
theorem dX12_act_173 : decode cX12_act 173 = .ok (.iload_n 1, 1) := by decide +kernel
theorem dX12_act_174 : decode cX12_act 174 = .ok (.iload_n 3, 1) := by decide +kernel
theorem dX12_act_175 : decode cX12_act 175 = .ok (.iload 4, 2) := by decide +kernel
theorem dX12_act_177 : decode cX12_act 177 = .ok (.invokevirtual 923, 3) := by decide +kernel
theorem dX12_act_180 : decode cX12_act 180 = .ok (.return_, 1) := by decide +kernel
def F_X12_act (p0 : Int32) (p1 : Int32) (p2 : Int32) (p3 : Int32) (σ : MS) : MR :=
  bnd (mI σ 108 p2) fun σ_1 =>
  bnd (mI σ_1 109 p3) fun σ_3 =>
  loopF (fun (again_6 : (Int32 × MS) → MR) (s_5 : Int32 × MS) => (
    bnd (fun  (σ_9 : MS) => (
      if (σ_9.1 104) = 1 then (
        bnd (mI σ_9 104 0) fun σ_15 =>
        some (0, σ_15)
      ) else (
        if (σ_9.1 104) = 0 then (
          (F_X12_does p0 p2 p3 σ_9).bind fun u_20 =>
          some (0, u_20.2)
        ) else (
          some (0, σ_9)
        )
      )
    ) : MS → MR) fun j_10 =>
    if (s_5.2.1 83) ≤ s_5.1 then (
      j_10  s_5.2
    ) else (
      if (s_5.2.1 104) = 0 then (
        if s_5.1 < 0 ∨ 200 ≤ s_5.1.toNatClampNeg then none else
        bnd (fun (t_30 : Int32) (σ_31 : MS) => (
          bnd (fun  (σ_35 : MS) => (
            bnd (s_5.1 + 1) fun (x_39 : Int32) =>
            again_6 (x_39, σ_35)
          ) : MS → MR) fun j_36 =>
          if t_30 = 0 then (
            j_36  σ_31
          ) else (
            if s_5.1 < 0 ∨ 200 ≤ s_5.1.toNatClampNeg then none else
            (F_X12_block_ (σ_31.2 74 s_5.1.toNatClampNeg) 0 σ_31).bind fun u_46 =>
            j_36  u_46.2
          )
        ) : Int32 → MS → MR) fun j_32 =>
        bnd (fun  (σ_48 : MS) => (
          j_32 0 σ_48
        ) : MS → MR) fun j_49 =>
        if (s_5.2.2 70 s_5.1.toNatClampNeg) = p0 then (
          if s_5.1 < 0 ∨ 200 ≤ s_5.1.toNatClampNeg then none else
          if p1 < (s_5.2.2 71 s_5.1.toNatClampNeg) then (
            j_49  s_5.2
          ) else (
            if s_5.1 < 0 ∨ 200 ≤ s_5.1.toNatClampNeg then none else
            bnd (fun  (σ_61 : MS) => (
              if s_5.1 < 0 ∨ 200 ≤ s_5.1.toNatClampNeg then none else
              bnd (fun  (σ_67 : MS) => (
                j_32 1 σ_67
              ) : MS → MR) fun j_68 =>
              if (σ_61.2 71 s_5.1.toNatClampNeg) < 2 then (
                j_68  σ_61
              ) else (
                if s_5.1 < 0 ∨ 200 ≤ s_5.1.toNatClampNeg then none else
                if (σ_61.2 73 s_5.1.toNatClampNeg) = (-1) then (
                  j_68  σ_61
                ) else (
                  if s_5.1 < 0 ∨ 200 ≤ s_5.1.toNatClampNeg then none else
                  if (σ_61.2 73 s_5.1.toNatClampNeg) = p3 then (
                    j_68  σ_61
                  ) else (
                    j_49  σ_61
                  )
                )
              )
            ) : MS → MR) fun j_62 =>
            if (s_5.2.2 71 s_5.1.toNatClampNeg) < 1 then (
              j_62  s_5.2
            ) else (
              if s_5.1 < 0 ∨ 200 ≤ s_5.1.toNatClampNeg then none else
              if (s_5.2.2 72 s_5.1.toNatClampNeg) = (-1) then (
                j_62  s_5.2
              ) else (
                if s_5.1 < 0 ∨ 200 ≤ s_5.1.toNatClampNeg then none else
                if (s_5.2.2 72 s_5.1.toNatClampNeg) = p2 then (
                  j_62  s_5.2
                ) else (
                  j_49  s_5.2
                )
              )
            )
          )
        ) else (
          j_49  s_5.2
        )
      ) else (
        j_10  s_5.2
      )
    )
  )) FU (0, σ_3)
set_option maxHeartbeats 4000000 in
set_option maxRecDepth 100000 in
theorem m_X12_act (l : Launch) (dC : Nat → ClassId) (dI : Nat → Nat → Nat) (cB cC cI cJ cZ cP : ClassId) (h qK qS : Nat) (ad : Nat → Nat) (hDD : mDis cB cI cZ h qK qS ad) (sz : Nat)  (p0 : Int32) (p1 : Int32) (p2 : Int32) (p3 : Int32) (σ : MS) (res : Int32 × MS) (hF : F_X12_act p0 p1 p2 p3 σ = some res) : Met l yX12_act (g_ws yX12_act cX12_act 7 none) ({ frames := 1309, cells := 0, slots := 0, locals := 34016 }) (va_Pc [.ref h, .int p0, .int p1, .int p2, .int p3] (m_B (dC, dI) [(cB, .byte), (cC, .char), (cI, .int), (cJ, .long), (cZ, .boolean), (cP, .object "StoryHouse$Play")] sz h ad qK qS (mW cB cI cZ h qK qS ad σ) g_0)) (va_Qv (fun (_ : Unit) => True) (fun _ t => va_P (dC, dI) vwCl (mW cB cI cZ h qK qS ad res.2) t.heap) (mCells h ad sz)) 0 0 (mCells h ad sz) := by
  refine Met.ofW (cc := cX12_act) (maxL := 7) (ret := none) (by decide) rfl ?_
  intro p e s m args below meth c s₁ B hml hv
  obtain ⟨rfl, hsz, hP, hK, hE, hKS, hX⟩ := hv
  have hx := B.exec
  have hb := B.bytes
  have hr := B.returns
  have hts0 := atoms_spec (ws := g_ws yX12_act cX12_act 7 none) B.pre
  have hts : ∀ w ∈ lw_good, w.before ([.ref h, .int p0, .int p1, .int p2, .int p3] : List Value).toArray s = true := fun w z => hts0 w (List.mem_cons_of_mem _ z)
  have hown : s.vm.findClass RX12 = some m.cls := findClass_of_methodNamed B.named
  have hlocks := B.notSynchronized
  have hS : va_S (mCells h ad sz) s.heap s.heap [] := va_S.rf
  have hl := lv_entry ([.ref h, .int p0, .int p1, .int p2, .int p3]) (n := 7) (Nat.le_of_ble_eq_true rfl)
  rw [lg_entry_eq]
  generalize (lg_sl ([.ref h, .int p0, .int p1, .int p2, .int p3]) ++ List.replicate (7 - (lg_sl ([.ref h, .int p0, .int p1, .int p2, .int p3])).length) Slot.unset).toArray = ls at hl ⊢
  have hl : lv_has ls 7 [(0, .ref h), (1, .int p0), (2, .int p1), (3, .int p2), (4, .int p3)] := hl
  unfold F_X12_act at hF
  refine lv_aload_n hx hb dX12_act_0 rfl (lv_at hl 0 rfl) ?_
  refine lv_iload_n hx hb dX12_act_1 rfl (lv_at hl 3 rfl) ?_
  obtain ⟨σ_1, eσ_1, hF_2⟩ := bnd_e hF
  clear hF
  refine m_put (σ' := σ_1) (v := .int p2) (ty := .int) hx hb hts hown hK hP (hDD _ _) hS (by rw [eσ_1]; exact mwI_108) (k := 108) (by decide) (hts (.fieldLink RX12 730 "StoryHouseModel" "noun" "I") wq_1464) (fun _ h9 => h9) rfl (by decide +kernel) rfl rfl dX12_act_2 (fun H locs hP hS => ?_)
  refine lv_aload_n hx hb dX12_act_5 rfl (lv_at hl 0 rfl) ?_
  refine lv_iload hx hb dX12_act_6 (lv_at hl 4 rfl) ?_
  obtain ⟨σ_3, eσ_3, hF_4⟩ := bnd_e hF_2
  clear hF_2
  refine m_put (σ' := σ_3) (v := .int p3) (ty := .int) hx hb hts hown hK hP (hDD _ _) hS (by rw [eσ_3]; exact mwI_109) (k := 109) (by decide) (hts (.fieldLink RX12 733 "StoryHouseModel" "second" "I") wq_1465) (fun _ h9 => h9) rfl (by decide +kernel) rfl rfl dX12_act_8 (fun H locs hP hS => ?_)
  refine lv_iconst (v := 0) hx hb dX12_act_11 (by decide +kernel) ?_
  refine lv_istore (lv' := [(5, .int 0), (0, .ref h), (1, .int p0), (2, .int p1), (3, .int p2), (4, .int p3)]) hx hb dX12_act_12 hl (by decide) rfl (fun ls hl => ?_)
  refine loopF_ind (P := fun (s_5 : Int32 × MS) => ∀ (H : Heap) (locs : List Loc), va_P (dC, dI) vwCl (mW cB cI cZ h qK qS ad s_5.2) H → va_S (mCells h ad sz) s.heap H locs → ∀ ls : Array Slot, lv_has ls 7 [(0, .ref h), (1, .int p0), (2, .int p1), (3, .int p2), (4, .int p3), (5, .int s_5.1)] → W p l e (headSpec (g_ws yX12_act cX12_act 7 none) { frames := 1309, cells := 0, slots := 0, locals := 34016 }).room s m ([.ref h, .int p0, .int p1, .int p2, .int p3] : List Value).toArray below meth c H locs 0 0 (MQ below (va_Qv (fun (_ : Unit) => True) (fun _ t => va_P (dC, dI) vwCl (mW cB cI cZ h qK qS ad res.2) t.heap) (mCells h ad sz)) ([.ref h, .int p0, .int p1, .int p2, .int p3] : List Value).toArray s 0 0 (mCells h ad sz)) (F0 m 14 ls [])) ?_ _ _ hF_4 _ _ hP hS ls (lv_sub hl [1, 2, 3, 4, 5, 0] rfl)
  intro again_6 s_5 ih_7 hF_8
  intro H locs hP hS ls hl
  refine lv_iload hx hb dX12_act_14 (lv_at hl 5 rfl) ?_
  refine lv_aload_n hx hb dX12_act_16 rfl (lv_at hl 0 rfl) ?_
  refine va_get (D := (dC, dI)) (ci := 12) (v := .int (s_5.2.1 83)) (C := RX12) (T := TX12) (N := 123) hx hb hts ii_X12 hown hK hP 0 rfl rfl 83 (by decide) (hts (.fieldLink RX12 615 "StoryHouseModel" "nOns" "I") wq_1439) (fun _ h9 => h9) rfl dX12_act_17 ?_
  obtain ⟨j_10, ej_10, hF_11⟩ := bnd_e hF_8
  clear hF_8
  have Jj_10 : ∀  (σ_9 : MS), j_10  σ_9 = some res → ∀ (H : Heap) (locs : List Loc), va_P (dC, dI) vwCl (mW cB cI cZ h qK qS ad σ_9) H → va_S (mCells h ad sz) s.heap H locs → ∀ ls : Array Slot, lv_has ls 7 [(0, .ref h), (1, .int p0), (3, .int p2), (4, .int p3)] → W p l e (headSpec (g_ws yX12_act cX12_act 7 none) { frames := 1309, cells := 0, slots := 0, locals := 34016 }).room s m ([.ref h, .int p0, .int p1, .int p2, .int p3] : List Value).toArray below meth c H locs 0 0 (MQ below (va_Qv (fun (_ : Unit) => True) (fun _ t => va_P (dC, dI) vwCl (mW cB cI cZ h qK qS ad res.2) t.heap) (mCells h ad sz)) ([.ref h, .int p0, .int p1, .int p2, .int p3] : List Value).toArray s 0 0 (mCells h ad sz)) (F0 m 149 ls []) := by
    intro  σ_9 hF0 H locs hP hS ls hl
    subst ej_10
    have hF_12 := hF0
    clear hF0
    refine lv_aload_n hx hb dX12_act_149 rfl (lv_at hl 0 rfl) ?_
    refine va_get (D := (dC, dI)) (ci := 12) (v := .int (σ_9.1 104)) (C := RX12) (T := TX12) (N := 123) hx hb hts ii_X12 hown hK hP 0 rfl rfl 104 (by decide) (hts (.fieldLink RX12 685 "StoryHouseModel" "stop" "I") wq_1460) (fun _ h9 => h9) rfl dX12_act_150 ?_
    refine lv_iconst (v := 1) hx hb dX12_act_153 (by decide +kernel) ?_
    refine lv_icmp_ne (tgt := 165) hx hb dX12_act_154 (by decide) (fun c_13 => ?_) (fun c_13 => ?_)
    · have hF_17 := ineg c_13 hF_12
      clear hF_12
      refine lv_aload_n hx hb dX12_act_165 rfl (lv_at hl 0 rfl) ?_
      refine va_get (D := (dC, dI)) (ci := 12) (v := .int (σ_9.1 104)) (C := RX12) (T := TX12) (N := 123) hx hb hts ii_X12 hown hK hP 0 rfl rfl 104 (by decide) (hts (.fieldLink RX12 685 "StoryHouseModel" "stop" "I") wq_1460) (fun _ h9 => h9) rfl dX12_act_166 ?_
      refine lv_if_ne (tgt := 180) hx hb dX12_act_169 (by decide) (fun c_18 => ?_) (fun c_18 => ?_)
      · have hF_22 := ineg c_18 hF_17
        clear hF_17
        have h9 := Option.some.inj hF_22
        subst h9
        exact W.vret hx hb hr (fun t ht hW => ⟨⟨(), rfl, trivial, m_end ht hP⟩, hS.F ht⟩) hS.2.2 dX12_act_180
      · have hF_19 := ipos c_18 hF_17
        clear hF_17
        refine lv_aload_n hx hb dX12_act_172 rfl (lv_at hl 0 rfl) ?_
        refine lv_iload_n hx hb dX12_act_173 rfl (lv_at hl 1 rfl) ?_
        refine lv_iload_n hx hb dX12_act_174 rfl (lv_at hl 2 rfl) ?_
        refine lv_iload hx hb dX12_act_175 (lv_at hl 3 rfl) ?_
        obtain ⟨u_20, hu_20, hF_21⟩ := Option.bind_eq_some_iff.mp hF_19
        clear hF_19
        refine m_cv hsz hS (va_runV (As := [.int p0, .int p2, .int p3]) (rest := []) ⟨hx, hb, hml, hown, hts⟩ (m_X12_does l dC dI cB cC cI cJ cZ cP h qK qS ad hDD H.size  p0 p2 p3 σ_9 _ hu_20) (cwV 3 hts (g_gV wq_1877 wq_1878 wq_2233 wq_13 wq_1879) rfl rfl rfl (by decide +kernel) ⟨Nat.le_of_ble_eq_true rfl, Nat.le_of_ble_eq_true rfl⟩) (m_preV g_bl0 hsz hK hP hS hE hKS g_to0) rfl rfl hl.1 rfl (lv_room (Nat.le_of_ble_eq_true rfl)) dX12_act_177 ⟨Nat.le_of_ble_eq_true rfl, Nat.le_of_ble_eq_true rfl⟩) (fun H locs hP hS => ?_)
        have h9 := Option.some.inj hF_21
        subst h9
        exact W.vret hx hb hr (fun t ht hW => ⟨⟨(), rfl, trivial, m_end ht hP⟩, hS.F ht⟩) hS.2.2 dX12_act_180
    · have hF_14 := ipos c_13 hF_12
      clear hF_12
      refine lv_aload_n hx hb dX12_act_157 rfl (lv_at hl 0 rfl) ?_
      refine lv_iconst (v := 0) hx hb dX12_act_158 (by decide +kernel) ?_
      obtain ⟨σ_15, eσ_15, hF_16⟩ := bnd_e hF_14
      clear hF_14
      refine m_put (σ' := σ_15) (v := .int 0) (ty := .int) hx hb hts hown hK hP (hDD _ _) hS (by rw [eσ_15]; exact mwI_104) (k := 104) (by decide) (hts (.fieldLink RX12 685 "StoryHouseModel" "stop" "I") wq_1460) (fun _ h9 => h9) rfl (by decide +kernel) rfl rfl dX12_act_159 (fun H locs hP hS => ?_)
      refine lv_goto (tgt := 180) hx hb dX12_act_162 (by decide) ?_
      have h9 := Option.some.inj hF_16
      subst h9
      exact W.vret hx hb hr (fun t ht hW => ⟨⟨(), rfl, trivial, m_end ht hP⟩, hS.F ht⟩) hS.2.2 dX12_act_180
  refine lv_icmp_ge (tgt := 149) hx hb dX12_act_20 (by decide) (fun c_23 => ?_) (fun c_23 => ?_)
  · have hF_24 := ipos c_23 hF_11
    clear hF_11
    exact Jj_10  s_5.2 hF_24 _ _ hP hS ls (lv_sub hl [0, 1, 3, 4] rfl)
  · have hF_25 := ineg c_23 hF_11
    clear hF_11
    refine lv_aload_n hx hb dX12_act_23 rfl (lv_at hl 0 rfl) ?_
    refine va_get (D := (dC, dI)) (ci := 12) (v := .int (s_5.2.1 104)) (C := RX12) (T := TX12) (N := 123) hx hb hts ii_X12 hown hK hP 0 rfl rfl 104 (by decide) (hts (.fieldLink RX12 685 "StoryHouseModel" "stop" "I") wq_1460) (fun _ h9 => h9) rfl dX12_act_24 ?_
    refine lv_if_ne (tgt := 149) hx hb dX12_act_27 (by decide) (fun c_26 => ?_) (fun c_26 => ?_)
    · have hF_98 := ineg c_26 hF_25
      clear hF_25
      exact Jj_10  s_5.2 hF_98 _ _ hP hS ls (lv_sub hl [0, 1, 3, 4] rfl)
    · have hF_27 := ipos c_26 hF_25
      clear hF_25
      refine lv_aload_n hx hb dX12_act_30 rfl (lv_at hl 0 rfl) ?_
      refine va_get (D := (dC, dI)) (ci := 12) (v := .ref (ad 70)) (C := RX12) (T := TX12) (N := 123) hx hb hts ii_X12 hown hK hP 0 rfl rfl 70 (by decide) (hts (.fieldLink RX12 155 "StoryHouseModel" "onVerb" "[I") wq_1426) (fun _ h9 => h9) rfl dX12_act_31 ?_
      refine lv_iload hx hb dX12_act_34 (lv_at hl 5 rfl) ?_
      obtain ⟨g_28, hF_29⟩ := nif_e hF_27
      clear hF_27
      refine va_iald (f := s_5.2.2 70) hx hb hK hP 43 2 rfl rfl g_28 dX12_act_36 ?_
      refine lv_iload_n hx hb dX12_act_37 rfl (lv_at hl 1 rfl) ?_
      obtain ⟨j_32, ej_32, hF_33⟩ := bnd_e hF_29
      clear hF_29
      have Jj_32 : ∀ (t_30 : Int32) (σ_31 : MS), j_32 t_30 σ_31 = some res → ∀ (H : Heap) (locs : List Loc), va_P (dC, dI) vwCl (mW cB cI cZ h qK qS ad σ_31) H → va_S (mCells h ad sz) s.heap H locs → ∀ ls : Array Slot, lv_has ls 7 [(0, .ref h), (1, .int p0), (2, .int p1), (3, .int p2), (4, .int p3), (5, .int s_5.1)] → W p l e (headSpec (g_ws yX12_act cX12_act 7 none) { frames := 1309, cells := 0, slots := 0, locals := 34016 }).room s m ([.ref h, .int p0, .int p1, .int p2, .int p3] : List Value).toArray below meth c H locs 0 0 (MQ below (va_Qv (fun (_ : Unit) => True) (fun _ t => va_P (dC, dI) vwCl (mW cB cI cZ h qK qS ad res.2) t.heap) (mCells h ad sz)) ([.ref h, .int p0, .int p1, .int p2, .int p3] : List Value).toArray s 0 0 (mCells h ad sz)) (F0 m 124 ls [.int t_30]) := by
        intro t_30 σ_31 hF0 H locs hP hS ls hl
        subst ej_32
        have hF_34 := hF0
        clear hF0
        refine lv_istore (lv' := [(6, .int t_30), (0, .ref h), (1, .int p0), (2, .int p1), (3, .int p2), (4, .int p3), (5, .int s_5.1)]) hx hb dX12_act_124 hl (by decide) rfl (fun ls hl => ?_)
        refine lv_iload hx hb dX12_act_126 (lv_at hl 0 rfl) ?_
        obtain ⟨j_36, ej_36, hF_37⟩ := bnd_e hF_34
        clear hF_34
        have Jj_36 : ∀  (σ_35 : MS), j_36  σ_35 = some res → ∀ (H : Heap) (locs : List Loc), va_P (dC, dI) vwCl (mW cB cI cZ h qK qS ad σ_35) H → va_S (mCells h ad sz) s.heap H locs → ∀ ls : Array Slot, lv_has ls 7 [(0, .ref h), (1, .int p0), (2, .int p1), (3, .int p2), (4, .int p3), (5, .int s_5.1)] → W p l e (headSpec (g_ws yX12_act cX12_act 7 none) { frames := 1309, cells := 0, slots := 0, locals := 34016 }).room s m ([.ref h, .int p0, .int p1, .int p2, .int p3] : List Value).toArray below meth c H locs 0 0 (MQ below (va_Qv (fun (_ : Unit) => True) (fun _ t => va_P (dC, dI) vwCl (mW cB cI cZ h qK qS ad res.2) t.heap) (mCells h ad sz)) ([.ref h, .int p0, .int p1, .int p2, .int p3] : List Value).toArray s 0 0 (mCells h ad sz)) (F0 m 143 ls []) := by
          intro  σ_35 hF0 H locs hP hS ls hl
          subst ej_36
          have hF_38 := hF0
          clear hF0
          obtain ⟨x_39, ex_39, hF_40⟩ := bnd_e hF_38
          clear hF_38
          refine lv_iinc (v := x_39) (lv' := [(5, .int x_39), (0, .ref h), (1, .int p0), (2, .int p1), (3, .int p2), (4, .int p3)]) hx hb dX12_act_143 hl (k := 5) rfl (by rw [ex_39]; rfl) (by decide) rfl (fun ls hl => ?_)
          refine lv_goto (tgt := 14) hx hb dX12_act_146 (by decide) ?_
          exact ih_7 (x_39, σ_35) hF_40 _ _ hP hS ls (lv_sub hl [1, 2, 3, 4, 5, 0] rfl)
        refine lv_if_eq (tgt := 143) hx hb dX12_act_128 (by decide) (fun c_41 => ?_) (fun c_41 => ?_)
        · have hF_42 := ipos c_41 hF_37
          clear hF_37
          exact Jj_36  σ_31 hF_42 _ _ hP hS ls (lv_sub hl [1, 2, 3, 4, 5, 6] rfl)
        · have hF_43 := ineg c_41 hF_37
          clear hF_37
          refine lv_aload_n hx hb dX12_act_131 rfl (lv_at hl 1 rfl) ?_
          refine lv_aload_n hx hb dX12_act_132 rfl (lv_at hl 1 rfl) ?_
          refine va_get (D := (dC, dI)) (ci := 12) (v := .ref (ad 74)) (C := RX12) (T := TX12) (N := 123) hx hb hts ii_X12 hown hK hP 0 rfl rfl 74 (by decide) (hts (.fieldLink RX12 167 "StoryHouseModel" "onBody" "[I") wq_1430) (fun _ h9 => h9) rfl dX12_act_133 ?_
          refine lv_iload hx hb dX12_act_136 (lv_at hl 6 rfl) ?_
          obtain ⟨g_44, hF_45⟩ := nif_e hF_43
          clear hF_43
          refine va_iald (f := σ_31.2 74) hx hb hK hP 47 2 rfl rfl g_44 dX12_act_138 ?_
          refine lv_iconst (v := 0) hx hb dX12_act_139 (by decide +kernel) ?_
          obtain ⟨u_46, hu_46, hF_47⟩ := Option.bind_eq_some_iff.mp hF_45
          clear hF_45
          refine m_cv hsz hS (va_runV (As := [.int (σ_31.2 74 s_5.1.toNatClampNeg), .int 0]) (rest := []) ⟨hx, hb, hml, hown, hts⟩ (m_X12_block_ l dC dI cB cC cI cJ cZ cP h qK qS ad hDD H.size  (σ_31.2 74 s_5.1.toNatClampNeg) 0 σ_31 _ hu_46) (cwV 2 hts (g_gV wq_1810 wq_1811 wq_2211 wq_13 wq_1812) rfl rfl rfl (by decide +kernel) ⟨Nat.le_of_ble_eq_true rfl, Nat.le_of_ble_eq_true rfl⟩) (m_preV g_bl0 hsz hK hP hS hE hKS g_to0) rfl rfl hl.1 rfl (lv_room (Nat.le_of_ble_eq_true rfl)) dX12_act_140 ⟨Nat.le_of_ble_eq_true rfl, Nat.le_of_ble_eq_true rfl⟩) (fun H locs hP hS => ?_)
          exact Jj_36  u_46.2 hF_47 _ _ hP hS ls (lv_sub hl [1, 2, 3, 4, 5, 6] rfl)
      obtain ⟨j_49, ej_49, hF_50⟩ := bnd_e hF_33
      clear hF_33
      have Jj_49 : ∀  (σ_48 : MS), j_49  σ_48 = some res → ∀ (H : Heap) (locs : List Loc), va_P (dC, dI) vwCl (mW cB cI cZ h qK qS ad σ_48) H → va_S (mCells h ad sz) s.heap H locs → ∀ ls : Array Slot, lv_has ls 7 [(0, .ref h), (1, .int p0), (2, .int p1), (3, .int p2), (4, .int p3), (5, .int s_5.1)] → W p l e (headSpec (g_ws yX12_act cX12_act 7 none) { frames := 1309, cells := 0, slots := 0, locals := 34016 }).room s m ([.ref h, .int p0, .int p1, .int p2, .int p3] : List Value).toArray below meth c H locs 0 0 (MQ below (va_Qv (fun (_ : Unit) => True) (fun _ t => va_P (dC, dI) vwCl (mW cB cI cZ h qK qS ad res.2) t.heap) (mCells h ad sz)) ([.ref h, .int p0, .int p1, .int p2, .int p3] : List Value).toArray s 0 0 (mCells h ad sz)) (F0 m 123 ls []) := by
        intro  σ_48 hF0 H locs hP hS ls hl
        subst ej_49
        have hF_51 := hF0
        clear hF0
        refine lv_iconst (v := 0) hx hb dX12_act_123 (by decide +kernel) ?_
        exact Jj_32 0 σ_48 hF_51 _ _ hP hS ls (lv_sub hl [0, 1, 2, 3, 4, 5] rfl)
      refine lv_icmp_ne (tgt := 123) hx hb dX12_act_38 (by decide) (fun c_52 => ?_) (fun c_52 => ?_)
      · have hF_97 := ineg c_52 hF_50
        clear hF_50
        exact Jj_49  s_5.2 hF_97 _ _ hP hS ls (lv_sub hl [0, 1, 2, 3, 4, 5] rfl)
      · have hF_53 := ipos c_52 hF_50
        clear hF_50
        refine lv_aload_n hx hb dX12_act_41 rfl (lv_at hl 0 rfl) ?_
        refine va_get (D := (dC, dI)) (ci := 12) (v := .ref (ad 71)) (C := RX12) (T := TX12) (N := 123) hx hb hts ii_X12 hown hK hP 0 rfl rfl 71 (by decide) (hts (.fieldLink RX12 158 "StoryHouseModel" "onMany" "[I") wq_1427) (fun _ h9 => h9) rfl dX12_act_42 ?_
        refine lv_iload hx hb dX12_act_45 (lv_at hl 5 rfl) ?_
        obtain ⟨g_54, hF_55⟩ := nif_e hF_53
        clear hF_53
        refine va_iald (f := s_5.2.2 71) hx hb hK hP 44 2 rfl rfl g_54 dX12_act_47 ?_
        refine lv_iload_n hx hb dX12_act_48 rfl (lv_at hl 2 rfl) ?_
        refine lv_icmp_gt (tgt := 123) hx hb dX12_act_49 (by decide) (fun c_56 => ?_) (fun c_56 => ?_)
        · have hF_57 := ipos c_56 hF_55
          clear hF_55
          exact Jj_49  s_5.2 hF_57 _ _ hP hS ls (lv_sub hl [0, 1, 2, 3, 4, 5] rfl)
        · have hF_58 := ineg c_56 hF_55
          clear hF_55
          refine lv_aload_n hx hb dX12_act_52 rfl (lv_at hl 0 rfl) ?_
          refine va_get (D := (dC, dI)) (ci := 12) (v := .ref (ad 71)) (C := RX12) (T := TX12) (N := 123) hx hb hts ii_X12 hown hK hP 0 rfl rfl 71 (by decide) (hts (.fieldLink RX12 158 "StoryHouseModel" "onMany" "[I") wq_1427) (fun _ h9 => h9) rfl dX12_act_53 ?_
          refine lv_iload hx hb dX12_act_56 (lv_at hl 5 rfl) ?_
          obtain ⟨g_59, hF_60⟩ := nif_e hF_58
          clear hF_58
          refine va_iald (f := s_5.2.2 71) hx hb hK hP 44 2 rfl rfl g_59 dX12_act_58 ?_
          refine lv_iconst (v := 1) hx hb dX12_act_59 (by decide +kernel) ?_
          obtain ⟨j_62, ej_62, hF_63⟩ := bnd_e hF_60
          clear hF_60
          have Jj_62 : ∀  (σ_61 : MS), j_62  σ_61 = some res → ∀ (H : Heap) (locs : List Loc), va_P (dC, dI) vwCl (mW cB cI cZ h qK qS ad σ_61) H → va_S (mCells h ad sz) s.heap H locs → ∀ ls : Array Slot, lv_has ls 7 [(0, .ref h), (1, .int p0), (2, .int p1), (3, .int p2), (4, .int p3), (5, .int s_5.1)] → W p l e (headSpec (g_ws yX12_act cX12_act 7 none) { frames := 1309, cells := 0, slots := 0, locals := 34016 }).room s m ([.ref h, .int p0, .int p1, .int p2, .int p3] : List Value).toArray below meth c H locs 0 0 (MQ below (va_Qv (fun (_ : Unit) => True) (fun _ t => va_P (dC, dI) vwCl (mW cB cI cZ h qK qS ad res.2) t.heap) (mCells h ad sz)) ([.ref h, .int p0, .int p1, .int p2, .int p3] : List Value).toArray s 0 0 (mCells h ad sz)) (F0 m 85 ls []) := by
            intro  σ_61 hF0 H locs hP hS ls hl
            subst ej_62
            have hF_64 := hF0
            clear hF0
            refine lv_aload_n hx hb dX12_act_85 rfl (lv_at hl 0 rfl) ?_
            refine va_get (D := (dC, dI)) (ci := 12) (v := .ref (ad 71)) (C := RX12) (T := TX12) (N := 123) hx hb hts ii_X12 hown hK hP 0 rfl rfl 71 (by decide) (hts (.fieldLink RX12 158 "StoryHouseModel" "onMany" "[I") wq_1427) (fun _ h9 => h9) rfl dX12_act_86 ?_
            refine lv_iload hx hb dX12_act_89 (lv_at hl 5 rfl) ?_
            obtain ⟨g_65, hF_66⟩ := nif_e hF_64
            clear hF_64
            refine va_iald (f := σ_61.2 71) hx hb hK hP 44 2 rfl rfl g_65 dX12_act_91 ?_
            refine lv_iconst (v := 2) hx hb dX12_act_92 (by decide +kernel) ?_
            obtain ⟨j_68, ej_68, hF_69⟩ := bnd_e hF_66
            clear hF_66
            have Jj_68 : ∀  (σ_67 : MS), j_68  σ_67 = some res → ∀ (H : Heap) (locs : List Loc), va_P (dC, dI) vwCl (mW cB cI cZ h qK qS ad σ_67) H → va_S (mCells h ad sz) s.heap H locs → ∀ ls : Array Slot, lv_has ls 7 [(0, .ref h), (1, .int p0), (2, .int p1), (3, .int p2), (4, .int p3), (5, .int s_5.1)] → W p l e (headSpec (g_ws yX12_act cX12_act 7 none) { frames := 1309, cells := 0, slots := 0, locals := 34016 }).room s m ([.ref h, .int p0, .int p1, .int p2, .int p3] : List Value).toArray below meth c H locs 0 0 (MQ below (va_Qv (fun (_ : Unit) => True) (fun _ t => va_P (dC, dI) vwCl (mW cB cI cZ h qK qS ad res.2) t.heap) (mCells h ad sz)) ([.ref h, .int p0, .int p1, .int p2, .int p3] : List Value).toArray s 0 0 (mCells h ad sz)) (F0 m 119 ls []) := by
              intro  σ_67 hF0 H locs hP hS ls hl
              subst ej_68
              have hF_70 := hF0
              clear hF0
              refine lv_iconst (v := 1) hx hb dX12_act_119 (by decide +kernel) ?_
              refine lv_goto (tgt := 124) hx hb dX12_act_120 (by decide) ?_
              exact Jj_32 1 σ_67 hF_70 _ _ hP hS ls (lv_sub hl [0, 1, 2, 3, 4, 5] rfl)
            refine lv_icmp_lt (tgt := 119) hx hb dX12_act_93 (by decide) (fun c_71 => ?_) (fun c_71 => ?_)
            · have hF_72 := ipos c_71 hF_69
              clear hF_69
              exact Jj_68  σ_61 hF_72 _ _ hP hS ls (lv_sub hl [0, 1, 2, 3, 4, 5] rfl)
            · have hF_73 := ineg c_71 hF_69
              clear hF_69
              refine lv_aload_n hx hb dX12_act_96 rfl (lv_at hl 0 rfl) ?_
              refine va_get (D := (dC, dI)) (ci := 12) (v := .ref (ad 73)) (C := RX12) (T := TX12) (N := 123) hx hb hts ii_X12 hown hK hP 0 rfl rfl 73 (by decide) (hts (.fieldLink RX12 164 "StoryHouseModel" "onTwo" "[I") wq_1429) (fun _ h9 => h9) rfl dX12_act_97 ?_
              refine lv_iload hx hb dX12_act_100 (lv_at hl 5 rfl) ?_
              obtain ⟨g_74, hF_75⟩ := nif_e hF_73
              clear hF_73
              refine va_iald (f := σ_61.2 73) hx hb hK hP 46 2 rfl rfl g_74 dX12_act_102 ?_
              refine lv_iconst (v := (-1)) hx hb dX12_act_103 (by decide +kernel) ?_
              refine lv_icmp_eq (tgt := 119) hx hb dX12_act_104 (by decide) (fun c_76 => ?_) (fun c_76 => ?_)
              · have hF_77 := ipos c_76 hF_75
                clear hF_75
                exact Jj_68  σ_61 hF_77 _ _ hP hS ls (lv_sub hl [0, 1, 2, 3, 4, 5] rfl)
              · have hF_78 := ineg c_76 hF_75
                clear hF_75
                refine lv_aload_n hx hb dX12_act_107 rfl (lv_at hl 0 rfl) ?_
                refine va_get (D := (dC, dI)) (ci := 12) (v := .ref (ad 73)) (C := RX12) (T := TX12) (N := 123) hx hb hts ii_X12 hown hK hP 0 rfl rfl 73 (by decide) (hts (.fieldLink RX12 164 "StoryHouseModel" "onTwo" "[I") wq_1429) (fun _ h9 => h9) rfl dX12_act_108 ?_
                refine lv_iload hx hb dX12_act_111 (lv_at hl 5 rfl) ?_
                obtain ⟨g_79, hF_80⟩ := nif_e hF_78
                clear hF_78
                refine va_iald (f := σ_61.2 73) hx hb hK hP 46 2 rfl rfl g_79 dX12_act_113 ?_
                refine lv_iload hx hb dX12_act_114 (lv_at hl 4 rfl) ?_
                refine lv_icmp_ne (tgt := 123) hx hb dX12_act_116 (by decide) (fun c_81 => ?_) (fun c_81 => ?_)
                · have hF_83 := ineg c_81 hF_80
                  clear hF_80
                  exact Jj_49  σ_61 hF_83 _ _ hP hS ls (lv_sub hl [0, 1, 2, 3, 4, 5] rfl)
                · have hF_82 := ipos c_81 hF_80
                  clear hF_80
                  exact Jj_68  σ_61 hF_82 _ _ hP hS ls (lv_sub hl [0, 1, 2, 3, 4, 5] rfl)
          refine lv_icmp_lt (tgt := 85) hx hb dX12_act_60 (by decide) (fun c_84 => ?_) (fun c_84 => ?_)
          · have hF_85 := ipos c_84 hF_63
            clear hF_63
            exact Jj_62  s_5.2 hF_85 _ _ hP hS ls (lv_sub hl [0, 1, 2, 3, 4, 5] rfl)
          · have hF_86 := ineg c_84 hF_63
            clear hF_63
            refine lv_aload_n hx hb dX12_act_63 rfl (lv_at hl 0 rfl) ?_
            refine va_get (D := (dC, dI)) (ci := 12) (v := .ref (ad 72)) (C := RX12) (T := TX12) (N := 123) hx hb hts ii_X12 hown hK hP 0 rfl rfl 72 (by decide) (hts (.fieldLink RX12 161 "StoryHouseModel" "onOne" "[I") wq_1428) (fun _ h9 => h9) rfl dX12_act_64 ?_
            refine lv_iload hx hb dX12_act_67 (lv_at hl 5 rfl) ?_
            obtain ⟨g_87, hF_88⟩ := nif_e hF_86
            clear hF_86
            refine va_iald (f := s_5.2.2 72) hx hb hK hP 45 2 rfl rfl g_87 dX12_act_69 ?_
            refine lv_iconst (v := (-1)) hx hb dX12_act_70 (by decide +kernel) ?_
            refine lv_icmp_eq (tgt := 85) hx hb dX12_act_71 (by decide) (fun c_89 => ?_) (fun c_89 => ?_)
            · have hF_90 := ipos c_89 hF_88
              clear hF_88
              exact Jj_62  s_5.2 hF_90 _ _ hP hS ls (lv_sub hl [0, 1, 2, 3, 4, 5] rfl)
            · have hF_91 := ineg c_89 hF_88
              clear hF_88
              refine lv_aload_n hx hb dX12_act_74 rfl (lv_at hl 0 rfl) ?_
              refine va_get (D := (dC, dI)) (ci := 12) (v := .ref (ad 72)) (C := RX12) (T := TX12) (N := 123) hx hb hts ii_X12 hown hK hP 0 rfl rfl 72 (by decide) (hts (.fieldLink RX12 161 "StoryHouseModel" "onOne" "[I") wq_1428) (fun _ h9 => h9) rfl dX12_act_75 ?_
              refine lv_iload hx hb dX12_act_78 (lv_at hl 5 rfl) ?_
              obtain ⟨g_92, hF_93⟩ := nif_e hF_91
              clear hF_91
              refine va_iald (f := s_5.2.2 72) hx hb hK hP 45 2 rfl rfl g_92 dX12_act_80 ?_
              refine lv_iload_n hx hb dX12_act_81 rfl (lv_at hl 3 rfl) ?_
              refine lv_icmp_ne (tgt := 123) hx hb dX12_act_82 (by decide) (fun c_94 => ?_) (fun c_94 => ?_)
              · have hF_96 := ineg c_94 hF_93
                clear hF_93
                exact Jj_49  s_5.2 hF_96 _ _ hP hS ls (lv_sub hl [0, 1, 2, 3, 4, 5] rfl)
              · have hF_95 := ipos c_94 hF_93
                clear hF_93
                exact Jj_62  s_5.2 hF_95 _ _ hP hS ls (lv_sub hl [0, 1, 2, 3, 4, 5] rfl)
theorem dX12_ends_0 : decode cX12_ends 0 = .ok (.aload_n 0, 1) := by decide +kernel
theorem dX12_ends_1 : decode cX12_ends 1 = .ok (.getfield 685, 3) := by decide +kernel
theorem dX12_ends_4 : decode cX12_ends 4 = .ok (.ifCond .ne 60, 3) := by decide +kernel
theorem dX12_ends_7 : decode cX12_ends 7 = .ok (.aload_n 0, 1) := by decide +kernel
theorem dX12_ends_8 : decode cX12_ends 8 = .ok (.dup, 1) := by decide +kernel
theorem dX12_ends_9 : decode cX12_ends 9 = .ok (.getfield 660, 3) := by decide +kernel
theorem dX12_ends_12 : decode cX12_ends 12 = .ok (.iconst 1, 1) := by decide +kernel
theorem dX12_ends_13 : decode cX12_ends 13 = .ok (.iadd, 1) := by decide +kernel
theorem dX12_ends_14 : decode cX12_ends 14 = .ok (.putfield 660, 3) := by decide +kernel
theorem dX12_ends_17 : decode cX12_ends 17 = .ok (.iconst 0, 1) := by decide +kernel
theorem dX12_ends_18 : decode cX12_ends 18 = .ok (.istore_n 1, 1) := by decide +kernel
theorem dX12_ends_19 : decode cX12_ends 19 = .ok (.iload_n 1, 1) := by decide +kernel
theorem dX12_ends_20 : decode cX12_ends 20 = .ok (.aload_n 0, 1) := by decide +kernel
theorem dX12_ends_21 : decode cX12_ends 21 = .ok (.getfield 618, 3) := by decide +kernel
theorem dX12_ends_24 : decode cX12_ends 24 = .ok (.if_icmp .ge 40, 3) := by decide +kernel
theorem dX12_ends_27 : decode cX12_ends 27 = .ok (.aload_n 0, 1) := by decide +kernel
theorem dX12_ends_28 : decode cX12_ends 28 = .ok (.getfield 685, 3) := by decide +kernel
theorem dX12_ends_31 : decode cX12_ends 31 = .ok (.ifCond .ne 33, 3) := by decide +kernel
theorem dX12_ends_34 : decode cX12_ends 34 = .ok (.aload_n 0, 1) := by decide +kernel
theorem dX12_ends_35 : decode cX12_ends 35 = .ok (.aload_n 0, 1) := by decide +kernel
theorem dX12_ends_36 : decode cX12_ends 36 = .ok (.getfield 170, 3) := by decide +kernel
theorem dX12_ends_39 : decode cX12_ends 39 = .ok (.iload_n 1, 1) := by decide +kernel
theorem dX12_ends_40 : decode cX12_ends 40 = .ok (.iaload, 1) := by decide +kernel
theorem dX12_ends_41 : decode cX12_ends 41 = .ok (.iconst 0, 1) := by decide +kernel
theorem dX12_ends_42 : decode cX12_ends 42 = .ok (.invokevirtual 921, 3) := by decide +kernel
theorem dX12_ends_45 : decode cX12_ends 45 = .ok (.aload_n 0, 1) := by decide +kernel
theorem dX12_ends_46 : decode cX12_ends 46 = .ok (.getfield 685, 3) := by decide +kernel
theorem dX12_ends_49 : decode cX12_ends 49 = .ok (.iconst 1, 1) := by decide +kernel
theorem dX12_ends_50 : decode cX12_ends 50 = .ok (.if_icmp .ne 8, 3) := by decide +kernel
theorem dX12_ends_53 : decode cX12_ends 53 = .ok (.aload_n 0, 1) := by decide +kernel
theorem dX12_ends_54 : decode cX12_ends 54 = .ok (.iconst 0, 1) := by decide +kernel
theorem dX12_ends_55 : decode cX12_ends 55 = .ok (.putfield 685, 3) := by decide +kernel
theorem dX12_ends_58 : decode cX12_ends 58 = .ok (.iinc 1 1, 3) := by decide +kernel
theorem dX12_ends_61 : decode cX12_ends 61 = .ok (.goto (-42), 3) := by decide +kernel
theorem dX12_ends_64 : decode cX12_ends 64 = .ok (.aload_n 0, 1) := by decide +kernel
theorem dX12_ends_65 : decode cX12_ends 65 = .ok (.getfield 685, 3) := by decide +kernel
theorem dX12_ends_68 : decode cX12_ends 68 = .ok (.iconst 3, 1) := by decide +kernel
theorem dX12_ends_69 : decode cX12_ends 69 = .ok (.if_icmp .ne 38, 3) := by decide +kernel
theorem dX12_ends_72 : decode cX12_ends 72 = .ok (.aload_n 0, 1) := by decide +kernel
theorem dX12_ends_73 : decode cX12_ends 73 = .ok (.bipush 9, 2) := by decide +kernel
theorem dX12_ends_75 : decode cX12_ends 75 = .ok (.invokevirtual 926, 3) := by decide +kernel
theorem dX12_ends_78 : decode cX12_ends 78 = .ok (.aload_n 0, 1) := by decide +kernel
theorem dX12_ends_79 : decode cX12_ends 79 = .ok (.iconst 0, 1) := by decide +kernel
theorem dX12_ends_80 : decode cX12_ends 80 = .ok (.putfield 668, 3) := by decide +kernel
theorem dX12_ends_83 : decode cX12_ends 83 = .ok (.aload_n 0, 1) := by decide +kernel
theorem dX12_ends_84 : decode cX12_ends 84 = .ok (.ldc_w 928, 3) := by decide +kernel
theorem dX12_ends_87 : decode cX12_ends 87 = .ok (.invokevirtual 673, 3) := by decide +kernel
theorem dX12_ends_90 : decode cX12_ends 90 = .ok (.aload_n 0, 1) := by decide +kernel
theorem dX12_ends_91 : decode cX12_ends 91 = .ok (.aload_n 0, 1) := by decide +kernel
theorem dX12_ends_92 : decode cX12_ends 92 = .ok (.getfield 688, 3) := by decide +kernel
theorem dX12_ends_95 : decode cX12_ends 95 = .ok (.invokevirtual 780, 3) := by decide +kernel
theorem dX12_ends_98 : decode cX12_ends 98 = .ok (.aload_n 0, 1) := by decide +kernel
theorem dX12_ends_99 : decode cX12_ends 99 = .ok (.ldc_w 930, 3) := by decide +kernel
theorem dX12_ends_102 : decode cX12_ends 102 = .ok (.invokevirtual 768, 3) := by decide +kernel
theorem dX12_ends_105 : decode cX12_ends 105 = .ok (.iconst 2, 1) := by decide +kernel
theorem dX12_ends_106 : decode cX12_ends 106 = .ok (.ireturn, 1) := by decide +kernel
theorem dX12_ends_107 : decode cX12_ends 107 = .ok (.bipush 7, 2) := by decide +kernel
theorem dX12_ends_109 : decode cX12_ends 109 = .ok (.istore_n 1, 1) := by decide +kernel
theorem dX12_ends_110 : decode cX12_ends 110 = .ok (.iload_n 1, 1) := by decide +kernel
theorem dX12_ends_111 : decode cX12_ends 111 = .ok (.iconst 4, 1) := by decide +kernel
theorem dX12_ends_112 : decode cX12_ends 112 = .ok (.if_icmp .lt 50, 3) := by decide +kernel
theorem dX12_ends_115 : decode cX12_ends 115 = .ok (.iconst 0, 1) := by decide +kernel
theorem dX12_ends_116 : decode cX12_ends 116 = .ok (.istore_n 2, 1) := by decide +kernel
theorem dX12_ends_117 : decode cX12_ends 117 = .ok (.iload_n 2, 1) := by decide +kernel
theorem dX12_ends_118 : decode cX12_ends 118 = .ok (.sipush 2600, 3) := by decide +kernel
theorem dX12_ends_121 : decode cX12_ends 121 = .ok (.if_icmp .ge 35, 3) := by decide +kernel
theorem dX12_ends_124 : decode cX12_ends 124 = .ok (.aload_n 0, 1) := by decide +kernel
theorem dX12_ends_125 : decode cX12_ends 125 = .ok (.getfield 206, 3) := by decide +kernel
theorem dX12_ends_128 : decode cX12_ends 128 = .ok (.sipush 2600, 3) := by decide +kernel
theorem dX12_ends_131 : decode cX12_ends 131 = .ok (.iload_n 1, 1) := by decide +kernel
theorem dX12_ends_132 : decode cX12_ends 132 = .ok (.iconst 1, 1) := by decide +kernel
theorem dX12_ends_133 : decode cX12_ends 133 = .ok (.iadd, 1) := by decide +kernel
theorem dX12_ends_134 : decode cX12_ends 134 = .ok (.imul, 1) := by decide +kernel
theorem dX12_ends_135 : decode cX12_ends 135 = .ok (.iload_n 2, 1) := by decide +kernel
theorem dX12_ends_136 : decode cX12_ends 136 = .ok (.iadd, 1) := by decide +kernel
theorem dX12_ends_137 : decode cX12_ends 137 = .ok (.aload_n 0, 1) := by decide +kernel
theorem dX12_ends_138 : decode cX12_ends 138 = .ok (.getfield 206, 3) := by decide +kernel
theorem dX12_ends_141 : decode cX12_ends 141 = .ok (.sipush 2600, 3) := by decide +kernel
theorem dX12_ends_144 : decode cX12_ends 144 = .ok (.iload_n 1, 1) := by decide +kernel
theorem dX12_ends_145 : decode cX12_ends 145 = .ok (.imul, 1) := by decide +kernel
theorem dX12_ends_146 : decode cX12_ends 146 = .ok (.iload_n 2, 1) := by decide +kernel
theorem dX12_ends_147 : decode cX12_ends 147 = .ok (.iadd, 1) := by decide +kernel
theorem dX12_ends_148 : decode cX12_ends 148 = .ok (.iaload, 1) := by decide +kernel
theorem dX12_ends_149 : decode cX12_ends 149 = .ok (.iastore, 1) := by decide +kernel
theorem dX12_ends_150 : decode cX12_ends 150 = .ok (.iinc 2 1, 3) := by decide +kernel
theorem dX12_ends_153 : decode cX12_ends 153 = .ok (.goto (-36), 3) := by decide +kernel
theorem dX12_ends_156 : decode cX12_ends 156 = .ok (.iinc 1 (-1), 3) := by decide +kernel
theorem dX12_ends_159 : decode cX12_ends 159 = .ok (.goto (-49), 3) := by decide +kernel
theorem dX12_ends_162 : decode cX12_ends 162 = .ok (.iconst 0, 1) := by decide +kernel
theorem dX12_ends_163 : decode cX12_ends 163 = .ok (.istore_n 1, 1) := by decide +kernel
theorem dX12_ends_164 : decode cX12_ends 164 = .ok (.iload_n 1, 1) := by decide +kernel
theorem dX12_ends_165 : decode cX12_ends 165 = .ok (.sipush 2600, 3) := by decide +kernel
theorem dX12_ends_168 : decode cX12_ends 168 = .ok (.if_icmp .ge 29, 3) := by decide +kernel
theorem dX12_ends_171 : decode cX12_ends 171 = .ok (.aload_n 0, 1) := by decide +kernel
theorem dX12_ends_172 : decode cX12_ends 172 = .ok (.getfield 206, 3) := by decide +kernel
theorem dX12_ends_175 : decode cX12_ends 175 = .ok (.sipush 10400, 3) := by decide +kernel
theorem dX12_ends_178 : decode cX12_ends 178 = .ok (.iload_n 1, 1) := by decide +kernel
theorem dX12_ends_179 : decode cX12_ends 179 = .ok (.iadd, 1) := by decide +kernel
theorem dX12_ends_180 : decode cX12_ends 180 = .ok (.aload_n 0, 1) := by decide +kernel
theorem dX12_ends_181 : decode cX12_ends 181 = .ok (.getfield 206, 3) := by decide +kernel
theorem dX12_ends_184 : decode cX12_ends 184 = .ok (.sipush 23400, 3) := by decide +kernel
theorem dX12_ends_187 : decode cX12_ends 187 = .ok (.iload_n 1, 1) := by decide +kernel
theorem dX12_ends_188 : decode cX12_ends 188 = .ok (.iadd, 1) := by decide +kernel
theorem dX12_ends_189 : decode cX12_ends 189 = .ok (.iaload, 1) := by decide +kernel
theorem dX12_ends_190 : decode cX12_ends 190 = .ok (.iastore, 1) := by decide +kernel
theorem dX12_ends_191 : decode cX12_ends 191 = .ok (.iinc 1 1, 3) := by decide +kernel
theorem dX12_ends_194 : decode cX12_ends 194 = .ok (.goto (-30), 3) := by decide +kernel
theorem dX12_ends_197 : decode cX12_ends 197 = .ok (.aload_n 0, 1) := by decide +kernel
theorem dX12_ends_198 : decode cX12_ends 198 = .ok (.iconst 5, 1) := by decide +kernel
theorem dX12_ends_199 : decode cX12_ends 199 = .ok (.aload_n 0, 1) := by decide +kernel
theorem dX12_ends_200 : decode cX12_ends 200 = .ok (.getfield 786, 3) := by decide +kernel
theorem dX12_ends_203 : decode cX12_ends 203 = .ok (.iconst 1, 1) := by decide +kernel
theorem dX12_ends_204 : decode cX12_ends 204 = .ok (.iadd, 1) := by decide +kernel
theorem dX12_ends_205 : decode cX12_ends 205 = .ok (.invokestatic 293, 3) := by decide +kernel
theorem dX12_ends_208 : decode cX12_ends 208 = .ok (.putfield 786, 3) := by decide +kernel
theorem dX12_ends_211 : decode cX12_ends 211 = .ok (.aload_n 0, 1) := by decide +kernel
theorem dX12_ends_212 : decode cX12_ends 212 = .ok (.getfield 663, 3) := by decide +kernel
theorem dX12_ends_215 : decode cX12_ends 215 = .ok (.ifCond .le 7, 3) := by decide +kernel
theorem dX12_ends_218 : decode cX12_ends 218 = .ok (.iconst 3, 1) := by decide +kernel
theorem dX12_ends_219 : decode cX12_ends 219 = .ok (.goto 4, 3) := by decide +kernel
theorem dX12_ends_222 : decode cX12_ends 222 = .ok (.iconst 1, 1) := by decide +kernel
theorem dX12_ends_223 : decode cX12_ends 223 = .ok (.ireturn, 1) := by decide +kernel
def F_X12_ends  (σ : MS) : MR :=
  bnd (fun  (σ_1 : MS) => (
    if (σ_1.1 104) = 3 then (
      (F_X12_take 9 σ_1).bind fun u_7 =>
      bnd (mI u_7.2 103 0) fun σ_9 =>
      (F_X12_say ([91, 98, 114, 101, 97, 107, 32] : List Int32) σ_9).bind fun u_12 =>
      (F_X12_sayNumber (u_12.2.1 105) u_12.2).bind fun u_14 =>
      (F_X12_line ([93] : List Int32) u_14.2).bind fun u_17 =>
      some (2, u_17.2)
    ) else (
      loopF (fun (again_21 : (Int32 × MS) → MR) (s_20 : Int32 × MS) => (
        if s_20.1 < 4 then (
          loopF (fun (again_27 : (Int32 × MS) → MR) (s_26 : Int32 × MS) => (
            if 2600 ≤ s_26.1 then (
              bnd ((if ((s_26.2.1 101) + 1) < 5 then ((s_26.2.1 101) + 1) else 5)) fun (x_32 : Int32) =>
              bnd (mI s_26.2 101 x_32) fun σ_34 =>
              if (σ_34.1 95) ≤ 0 then (
                some (1, σ_34)
              ) else (
                some (3, σ_34)
              )
            ) else (
              bnd ((23400 + s_26.1)) fun (x_40 : Int32) =>
              if x_40 < 0 ∨ 26000 ≤ x_40.toNatClampNeg then none else
              bnd ((s_26.2.2 99 x_40.toNatClampNeg)) fun (x_44 : Int32) =>
              if (10400 + s_26.1) < 0 ∨ 26000 ≤ (10400 + s_26.1).toNatClampNeg then none else
              bnd (mA s_26.2 99 (upd (s_26.2.2 99) (10400 + s_26.1).toNatClampNeg x_44)) fun σ_48 =>
              bnd (s_26.1 + 1) fun (x_50 : Int32) =>
              again_27 (x_50, σ_48)
            )
          )) FU (0, s_20.2)
        ) else (
          loopF (fun (again_54 : (Int32 × MS) → MR) (s_53 : Int32 × MS) => (
            if 2600 ≤ s_53.1 then (
              bnd (s_20.1 + (-1)) fun (x_59 : Int32) =>
              again_21 (x_59, s_53.2)
            ) else (
              bnd (((2600 * s_20.1) + s_53.1)) fun (x_62 : Int32) =>
              if x_62 < 0 ∨ 26000 ≤ x_62.toNatClampNeg then none else
              bnd ((s_53.2.2 99 x_62.toNatClampNeg)) fun (x_66 : Int32) =>
              if ((2600 * (s_20.1 + 1)) + s_53.1) < 0 ∨ 26000 ≤ ((2600 * (s_20.1 + 1)) + s_53.1).toNatClampNeg then none else
              bnd (mA s_53.2 99 (upd (s_53.2.2 99) ((2600 * (s_20.1 + 1)) + s_53.1).toNatClampNeg x_66)) fun σ_70 =>
              bnd (s_53.1 + 1) fun (x_72 : Int32) =>
              again_54 (x_72, σ_70)
            )
          )) FU (0, s_20.2)
        )
      )) FU (7, σ_1)
    )
  ) : MS → MR) fun j_2 =>
  if (σ.1 104) = 0 then (
    bnd (mI σ 94 ((σ.1 94) + 1)) fun σ_76 =>
    loopF (fun (again_79 : (Int32 × MS) → MR) (s_78 : Int32 × MS) => (
      if (s_78.2.1 84) ≤ s_78.1 then (
        j_2  s_78.2
      ) else (
        if (s_78.2.1 104) = 0 then (
          if s_78.1 < 0 ∨ 20 ≤ s_78.1.toNatClampNeg then none else
          (F_X12_block_ (s_78.2.2 75 s_78.1.toNatClampNeg) 0 s_78.2).bind fun u_89 =>
          bnd (fun  (σ_91 : MS) => (
            bnd (s_78.1 + 1) fun (x_95 : Int32) =>
            again_79 (x_95, σ_91)
          ) : MS → MR) fun j_92 =>
          if (u_89.2.1 104) = 1 then (
            bnd (mI u_89.2 104 0) fun σ_99 =>
            j_92  σ_99
          ) else (
            j_92  u_89.2
          )
        ) else (
          j_2  s_78.2
        )
      )
    )) FU (0, σ_76)
  ) else (
    j_2  σ
  )
set_option maxHeartbeats 4000000 in
set_option maxRecDepth 100000 in
theorem m_X12_ends (l : Launch) (dC : Nat → ClassId) (dI : Nat → Nat → Nat) (cB cC cI cJ cZ cP : ClassId) (h qK qS : Nat) (ad : Nat → Nat) (hDD : mDis cB cI cZ h qK qS ad) (sz : Nat)   (σ : MS) (res : Int32 × MS) (hF : F_X12_ends  σ = some res) : Met l yX12_ends (g_ws yX12_ends cX12_ends 3 (some .int)) ({ frames := 1309, cells := 0, slots := 0, locals := 34016 }) (va_Pc [.ref h] (m_B (dC, dI) [(cB, .byte), (cC, .char), (cI, .int), (cJ, .long), (cZ, .boolean), (cP, .object "StoryHouse$Play")] sz h ad qK qS (mW cB cI cZ h qK qS ad σ) g_0)) (va_Qi (fun r (_ : Unit) => r = res.1) (fun _ t => va_P (dC, dI) vwCl (mW cB cI cZ h qK qS ad res.2) t.heap) (mCells h ad sz)) 0 0 (mCells h ad sz) := by
  refine Met.ofW (cc := cX12_ends) (maxL := 3) (ret := (some .int)) (by decide) rfl ?_
  intro p e s m args below meth c s₁ B hml hv
  obtain ⟨rfl, hsz, hP, hK, hE, hKS, hX⟩ := hv
  have hx := B.exec
  have hb := B.bytes
  have hr := B.returns
  have hts0 := atoms_spec (ws := g_ws yX12_ends cX12_ends 3 (some .int)) B.pre
  have hts : ∀ w ∈ lw_good, w.before ([.ref h] : List Value).toArray s = true := fun w z => hts0 w (List.mem_cons_of_mem _ z)
  have hown : s.vm.findClass RX12 = some m.cls := findClass_of_methodNamed B.named
  have hlocks := B.notSynchronized
  have hS : va_S (mCells h ad sz) s.heap s.heap [] := va_S.rf
  have hl := lv_entry ([.ref h]) (n := 3) (Nat.le_of_ble_eq_true rfl)
  rw [lg_entry_eq]
  generalize (lg_sl ([.ref h]) ++ List.replicate (3 - (lg_sl ([.ref h])).length) Slot.unset).toArray = ls at hl ⊢
  have hl : lv_has ls 3 [(0, .ref h)] := hl
  unfold F_X12_ends at hF
  refine lv_aload_n hx hb dX12_ends_0 rfl (lv_at hl 0 rfl) ?_
  refine va_get (D := (dC, dI)) (ci := 12) (v := .int (σ.1 104)) (C := RX12) (T := TX12) (N := 123) hx hb hts ii_X12 hown hK hP 0 rfl rfl 104 (by decide) (hts (.fieldLink RX12 685 "StoryHouseModel" "stop" "I") wq_1460) (fun _ h9 => h9) rfl dX12_ends_1 ?_
  obtain ⟨j_2, ej_2, hF_3⟩ := bnd_e hF
  clear hF
  have Jj_2 : ∀  (σ_1 : MS), j_2  σ_1 = some res → ∀ (H : Heap) (locs : List Loc), va_P (dC, dI) vwCl (mW cB cI cZ h qK qS ad σ_1) H → va_S (mCells h ad sz) s.heap H locs → ∀ ls : Array Slot, lv_has ls 3 [(0, .ref h)] → W p l e (headSpec (g_ws yX12_ends cX12_ends 3 (some .int)) { frames := 1309, cells := 0, slots := 0, locals := 34016 }).room s m ([.ref h] : List Value).toArray below meth c H locs 0 0 (MQ below (va_Qi (fun r (_ : Unit) => r = res.1) (fun _ t => va_P (dC, dI) vwCl (mW cB cI cZ h qK qS ad res.2) t.heap) (mCells h ad sz)) ([.ref h] : List Value).toArray s 0 0 (mCells h ad sz)) (F0 m 64 ls []) := by
    intro  σ_1 hF0 H locs hP hS ls hl
    subst ej_2
    have hF_4 := hF0
    clear hF0
    refine lv_aload_n hx hb dX12_ends_64 rfl (lv_at hl 0 rfl) ?_
    refine va_get (D := (dC, dI)) (ci := 12) (v := .int (σ_1.1 104)) (C := RX12) (T := TX12) (N := 123) hx hb hts ii_X12 hown hK hP 0 rfl rfl 104 (by decide) (hts (.fieldLink RX12 685 "StoryHouseModel" "stop" "I") wq_1460) (fun _ h9 => h9) rfl dX12_ends_65 ?_
    refine lv_iconst (v := 3) hx hb dX12_ends_68 (by decide +kernel) ?_
    refine lv_icmp_ne (tgt := 107) hx hb dX12_ends_69 (by decide) (fun c_5 => ?_) (fun c_5 => ?_)
    · have hF_19 := ineg c_5 hF_4
      clear hF_4
      refine lv_bipush (v := 7) hx hb dX12_ends_107 (by decide +kernel) ?_
      refine lv_istore_n (lv' := [(1, .int 7), (0, .ref h)]) hx hb dX12_ends_109 rfl hl (by decide) rfl (fun ls hl => ?_)
      refine loopF_ind (P := fun (s_20 : Int32 × MS) => ∀ (H : Heap) (locs : List Loc), va_P (dC, dI) vwCl (mW cB cI cZ h qK qS ad s_20.2) H → va_S (mCells h ad sz) s.heap H locs → ∀ ls : Array Slot, lv_has ls 3 [(0, .ref h), (1, .int s_20.1)] → W p l e (headSpec (g_ws yX12_ends cX12_ends 3 (some .int)) { frames := 1309, cells := 0, slots := 0, locals := 34016 }).room s m ([.ref h] : List Value).toArray below meth c H locs 0 0 (MQ below (va_Qi (fun r (_ : Unit) => r = res.1) (fun _ t => va_P (dC, dI) vwCl (mW cB cI cZ h qK qS ad res.2) t.heap) (mCells h ad sz)) ([.ref h] : List Value).toArray s 0 0 (mCells h ad sz)) (F0 m 110 ls [])) ?_ _ _ hF_19 _ _ hP hS ls (lv_sub hl [1, 0] rfl)
      intro again_21 s_20 ih_22 hF_23
      intro H locs hP hS ls hl
      refine lv_iload_n hx hb dX12_ends_110 rfl (lv_at hl 1 rfl) ?_
      refine lv_iconst (v := 4) hx hb dX12_ends_111 (by decide +kernel) ?_
      refine lv_icmp_lt (tgt := 162) hx hb dX12_ends_112 (by decide) (fun c_24 => ?_) (fun c_24 => ?_)
      · have hF_25 := ipos c_24 hF_23
        clear hF_23
        refine lv_iconst (v := 0) hx hb dX12_ends_162 (by decide +kernel) ?_
        refine lv_istore_n (lv' := [(1, .int 0), (0, .ref h)]) hx hb dX12_ends_163 rfl hl (by decide) rfl (fun ls hl => ?_)
        refine loopF_ind (P := fun (s_26 : Int32 × MS) => ∀ (H : Heap) (locs : List Loc), va_P (dC, dI) vwCl (mW cB cI cZ h qK qS ad s_26.2) H → va_S (mCells h ad sz) s.heap H locs → ∀ ls : Array Slot, lv_has ls 3 [(0, .ref h), (1, .int s_26.1)] → W p l e (headSpec (g_ws yX12_ends cX12_ends 3 (some .int)) { frames := 1309, cells := 0, slots := 0, locals := 34016 }).room s m ([.ref h] : List Value).toArray below meth c H locs 0 0 (MQ below (va_Qi (fun r (_ : Unit) => r = res.1) (fun _ t => va_P (dC, dI) vwCl (mW cB cI cZ h qK qS ad res.2) t.heap) (mCells h ad sz)) ([.ref h] : List Value).toArray s 0 0 (mCells h ad sz)) (F0 m 164 ls [])) ?_ _ _ hF_25 _ _ hP hS ls (lv_sub hl [1, 0] rfl)
        intro again_27 s_26 ih_28 hF_29
        intro H locs hP hS ls hl
        refine lv_iload_n hx hb dX12_ends_164 rfl (lv_at hl 1 rfl) ?_
        refine lv_sipush (v := 2600) hx hb dX12_ends_165 (by decide +kernel) ?_
        refine lv_icmp_ge (tgt := 197) hx hb dX12_ends_168 (by decide) (fun c_30 => ?_) (fun c_30 => ?_)
        · have hF_31 := ipos c_30 hF_29
          clear hF_29
          refine lv_aload_n hx hb dX12_ends_197 rfl (lv_at hl 0 rfl) ?_
          refine lv_iconst (v := 5) hx hb dX12_ends_198 (by decide +kernel) ?_
          refine lv_aload_n hx hb dX12_ends_199 rfl (lv_at hl 0 rfl) ?_
          refine va_get (D := (dC, dI)) (ci := 12) (v := .int (s_26.2.1 101)) (C := RX12) (T := TX12) (N := 123) hx hb hts ii_X12 hown hK hP 0 rfl rfl 101 (by decide) (hts (.fieldLink RX12 786 "StoryHouseModel" "undos" "I") wq_1457) (fun _ h9 => h9) rfl dX12_ends_200 ?_
          refine lv_iconst (v := 1) hx hb dX12_ends_203 (by decide +kernel) ?_
          refine lv_iadd hx hb dX12_ends_204 ?_
          refine va_mmin hx hb (hml.trans hl.1.symm) hown (hts (.methodLink RX12 293 yJ9_min_7cf53) wq_1520) (hts (.static yJ9_min_7cf53) wq_331) (hts (.initialized RJ9) wq_19) (hts (.code yJ9_min_7cf53 cJ9_min_7cf53 2 (some .int)) wq_332) (Nat.le_of_ble_eq_true rfl) (Nat.le_of_ble_eq_true rfl) (Nat.le_of_ble_eq_true rfl) (Nat.le_of_ble_eq_true rfl) dX12_ends_205 ?_
          obtain ⟨x_32, ex_32, hF_33⟩ := bnd_e hF_31
          clear hF_31
          refine m_top ex_32 ?_
          obtain ⟨σ_34, eσ_34, hF_35⟩ := bnd_e hF_33
          clear hF_33
          refine m_put (σ' := σ_34) (v := .int x_32) (ty := .int) hx hb hts hown hK hP (hDD _ _) hS (by rw [eσ_34]; exact mwI_101) (k := 101) (by decide) (hts (.fieldLink RX12 786 "StoryHouseModel" "undos" "I") wq_1457) (fun _ h9 => h9) rfl (by decide +kernel) rfl rfl dX12_ends_208 (fun H locs hP hS => ?_)
          refine lv_aload_n hx hb dX12_ends_211 rfl (lv_at hl 0 rfl) ?_
          refine va_get (D := (dC, dI)) (ci := 12) (v := .int (σ_34.1 95)) (C := RX12) (T := TX12) (N := 123) hx hb hts ii_X12 hown hK hP 0 rfl rfl 95 (by decide) (hts (.fieldLink RX12 663 "StoryHouseModel" "ended" "I") wq_1451) (fun _ h9 => h9) rfl dX12_ends_212 ?_
          refine lv_if_le (tgt := 222) hx hb dX12_ends_215 (by decide) (fun c_36 => ?_) (fun c_36 => ?_)
          · have hF_37 := ipos c_36 hF_35
            clear hF_35
            refine lv_iconst (v := 1) hx hb dX12_ends_222 (by decide +kernel) ?_
            have h9 := Option.some.inj hF_37
            subst h9
            exact W.iret (v := 1) hx hb hr (fun t ht hW => ⟨⟨1, (), rfl, rfl, m_end ht hP⟩, hS.F ht⟩) hS.2.2 dX12_ends_223
          · have hF_38 := ineg c_36 hF_35
            clear hF_35
            refine lv_iconst (v := 3) hx hb dX12_ends_218 (by decide +kernel) ?_
            refine lv_goto (tgt := 223) hx hb dX12_ends_219 (by decide) ?_
            have h9 := Option.some.inj hF_38
            subst h9
            exact W.iret (v := 3) hx hb hr (fun t ht hW => ⟨⟨3, (), rfl, rfl, m_end ht hP⟩, hS.F ht⟩) hS.2.2 dX12_ends_223
        · have hF_39 := ineg c_30 hF_29
          clear hF_29
          refine lv_aload_n hx hb dX12_ends_171 rfl (lv_at hl 0 rfl) ?_
          refine va_get (D := (dC, dI)) (ci := 12) (v := .ref (ad 99)) (C := RX12) (T := TX12) (N := 123) hx hb hts ii_X12 hown hK hP 0 rfl rfl 99 (by decide) (hts (.fieldLink RX12 206 "StoryHouseModel" "plays" "[I") wq_1455) (fun _ h9 => h9) rfl dX12_ends_172 ?_
          refine lv_sipush (v := 10400) hx hb dX12_ends_175 (by decide +kernel) ?_
          refine lv_iload_n hx hb dX12_ends_178 rfl (lv_at hl 1 rfl) ?_
          refine lv_iadd hx hb dX12_ends_179 ?_
          refine lv_aload_n hx hb dX12_ends_180 rfl (lv_at hl 0 rfl) ?_
          refine va_get (D := (dC, dI)) (ci := 12) (v := .ref (ad 99)) (C := RX12) (T := TX12) (N := 123) hx hb hts ii_X12 hown hK hP 0 rfl rfl 99 (by decide) (hts (.fieldLink RX12 206 "StoryHouseModel" "plays" "[I") wq_1455) (fun _ h9 => h9) rfl dX12_ends_181 ?_
          refine lv_sipush (v := 23400) hx hb dX12_ends_184 (by decide +kernel) ?_
          refine lv_iload_n hx hb dX12_ends_187 rfl (lv_at hl 1 rfl) ?_
          refine lv_iadd hx hb dX12_ends_188 ?_
          obtain ⟨x_40, ex_40, hF_41⟩ := bnd_e hF_39
          clear hF_39
          refine m_top ex_40 ?_
          obtain ⟨g_42, hF_43⟩ := nif_e hF_41
          clear hF_41
          refine va_iald (f := s_26.2.2 99) hx hb hK hP 59 2 rfl rfl g_42 dX12_ends_189 ?_
          obtain ⟨x_44, ex_44, hF_45⟩ := bnd_e hF_43
          clear hF_43
          refine m_top ex_44 ?_
          obtain ⟨g_46, hF_47⟩ := nif_e hF_45
          clear hF_45
          obtain ⟨σ_48, eσ_48, hF_49⟩ := bnd_e hF_47
          clear hF_47
          refine m_iast (σ' := σ_48) hx hb hK hP (hDD _ _) hS (q0 := 59) (t0 := 2) (f := s_26.2.2 99) rfl rfl (by rw [eσ_48]; exact mwA_99) g_46 dX12_ends_190 (fun H locs hP hS => ?_)
          obtain ⟨x_50, ex_50, hF_51⟩ := bnd_e hF_49
          clear hF_49
          refine lv_iinc (v := x_50) (lv' := [(1, .int x_50), (0, .ref h)]) hx hb dX12_ends_191 hl (k := 1) rfl (by rw [ex_50]; rfl) (by decide) rfl (fun ls hl => ?_)
          refine lv_goto (tgt := 164) hx hb dX12_ends_194 (by decide) ?_
          exact ih_28 (x_50, σ_48) hF_51 _ _ hP hS ls (lv_sub hl [1, 0] rfl)
      · have hF_52 := ineg c_24 hF_23
        clear hF_23
        refine lv_iconst (v := 0) hx hb dX12_ends_115 (by decide +kernel) ?_
        refine lv_istore_n (lv' := [(2, .int 0), (0, .ref h), (1, .int s_20.1)]) hx hb dX12_ends_116 rfl hl (by decide) rfl (fun ls hl => ?_)
        refine loopF_ind (P := fun (s_53 : Int32 × MS) => ∀ (H : Heap) (locs : List Loc), va_P (dC, dI) vwCl (mW cB cI cZ h qK qS ad s_53.2) H → va_S (mCells h ad sz) s.heap H locs → ∀ ls : Array Slot, lv_has ls 3 [(0, .ref h), (1, .int s_20.1), (2, .int s_53.1)] → W p l e (headSpec (g_ws yX12_ends cX12_ends 3 (some .int)) { frames := 1309, cells := 0, slots := 0, locals := 34016 }).room s m ([.ref h] : List Value).toArray below meth c H locs 0 0 (MQ below (va_Qi (fun r (_ : Unit) => r = res.1) (fun _ t => va_P (dC, dI) vwCl (mW cB cI cZ h qK qS ad res.2) t.heap) (mCells h ad sz)) ([.ref h] : List Value).toArray s 0 0 (mCells h ad sz)) (F0 m 117 ls [])) ?_ _ _ hF_52 _ _ hP hS ls (lv_sub hl [1, 2, 0] rfl)
        intro again_54 s_53 ih_55 hF_56
        intro H locs hP hS ls hl
        refine lv_iload_n hx hb dX12_ends_117 rfl (lv_at hl 2 rfl) ?_
        refine lv_sipush (v := 2600) hx hb dX12_ends_118 (by decide +kernel) ?_
        refine lv_icmp_ge (tgt := 156) hx hb dX12_ends_121 (by decide) (fun c_57 => ?_) (fun c_57 => ?_)
        · have hF_58 := ipos c_57 hF_56
          clear hF_56
          obtain ⟨x_59, ex_59, hF_60⟩ := bnd_e hF_58
          clear hF_58
          refine lv_iinc (v := x_59) (lv' := [(1, .int x_59), (0, .ref h), (2, .int s_53.1)]) hx hb dX12_ends_156 hl (k := 1) rfl (by rw [ex_59]; rfl) (by decide) rfl (fun ls hl => ?_)
          refine lv_goto (tgt := 110) hx hb dX12_ends_159 (by decide) ?_
          exact ih_22 (x_59, s_53.2) hF_60 _ _ hP hS ls (lv_sub hl [1, 0] rfl)
        · have hF_61 := ineg c_57 hF_56
          clear hF_56
          refine lv_aload_n hx hb dX12_ends_124 rfl (lv_at hl 0 rfl) ?_
          refine va_get (D := (dC, dI)) (ci := 12) (v := .ref (ad 99)) (C := RX12) (T := TX12) (N := 123) hx hb hts ii_X12 hown hK hP 0 rfl rfl 99 (by decide) (hts (.fieldLink RX12 206 "StoryHouseModel" "plays" "[I") wq_1455) (fun _ h9 => h9) rfl dX12_ends_125 ?_
          refine lv_sipush (v := 2600) hx hb dX12_ends_128 (by decide +kernel) ?_
          refine lv_iload_n hx hb dX12_ends_131 rfl (lv_at hl 1 rfl) ?_
          refine lv_iconst (v := 1) hx hb dX12_ends_132 (by decide +kernel) ?_
          refine lv_iadd hx hb dX12_ends_133 ?_
          refine lv_imul hx hb dX12_ends_134 ?_
          refine lv_iload_n hx hb dX12_ends_135 rfl (lv_at hl 2 rfl) ?_
          refine lv_iadd hx hb dX12_ends_136 ?_
          refine lv_aload_n hx hb dX12_ends_137 rfl (lv_at hl 0 rfl) ?_
          refine va_get (D := (dC, dI)) (ci := 12) (v := .ref (ad 99)) (C := RX12) (T := TX12) (N := 123) hx hb hts ii_X12 hown hK hP 0 rfl rfl 99 (by decide) (hts (.fieldLink RX12 206 "StoryHouseModel" "plays" "[I") wq_1455) (fun _ h9 => h9) rfl dX12_ends_138 ?_
          refine lv_sipush (v := 2600) hx hb dX12_ends_141 (by decide +kernel) ?_
          refine lv_iload_n hx hb dX12_ends_144 rfl (lv_at hl 1 rfl) ?_
          refine lv_imul hx hb dX12_ends_145 ?_
          refine lv_iload_n hx hb dX12_ends_146 rfl (lv_at hl 2 rfl) ?_
          refine lv_iadd hx hb dX12_ends_147 ?_
          obtain ⟨x_62, ex_62, hF_63⟩ := bnd_e hF_61
          clear hF_61
          refine m_top ex_62 ?_
          obtain ⟨g_64, hF_65⟩ := nif_e hF_63
          clear hF_63
          refine va_iald (f := s_53.2.2 99) hx hb hK hP 59 2 rfl rfl g_64 dX12_ends_148 ?_
          obtain ⟨x_66, ex_66, hF_67⟩ := bnd_e hF_65
          clear hF_65
          refine m_top ex_66 ?_
          obtain ⟨g_68, hF_69⟩ := nif_e hF_67
          clear hF_67
          obtain ⟨σ_70, eσ_70, hF_71⟩ := bnd_e hF_69
          clear hF_69
          refine m_iast (σ' := σ_70) hx hb hK hP (hDD _ _) hS (q0 := 59) (t0 := 2) (f := s_53.2.2 99) rfl rfl (by rw [eσ_70]; exact mwA_99) g_68 dX12_ends_149 (fun H locs hP hS => ?_)
          obtain ⟨x_72, ex_72, hF_73⟩ := bnd_e hF_71
          clear hF_71
          refine lv_iinc (v := x_72) (lv' := [(2, .int x_72), (0, .ref h), (1, .int s_20.1)]) hx hb dX12_ends_150 hl (k := 2) rfl (by rw [ex_72]; rfl) (by decide) rfl (fun ls hl => ?_)
          refine lv_goto (tgt := 117) hx hb dX12_ends_153 (by decide) ?_
          exact ih_55 (x_72, σ_70) hF_73 _ _ hP hS ls (lv_sub hl [1, 2, 0] rfl)
    · have hF_6 := ipos c_5 hF_4
      clear hF_4
      refine lv_aload_n hx hb dX12_ends_72 rfl (lv_at hl 0 rfl) ?_
      refine lv_bipush (v := 9) hx hb dX12_ends_73 (by decide +kernel) ?_
      obtain ⟨u_7, hu_7, hF_8⟩ := Option.bind_eq_some_iff.mp hF_6
      clear hF_6
      refine m_cv hsz hS (va_runV (As := [.int 9]) (rest := []) ⟨hx, hb, hml, hown, hts⟩ (m_X12_take l dC dI cB cC cI cJ cZ cP h qK qS ad hDD H.size  9 σ_1 _ hu_7) (cwV 1 hts (g_gV wq_1889 wq_1890 wq_2237 wq_13 wq_1891) rfl rfl rfl (by decide +kernel) ⟨Nat.le_of_ble_eq_true rfl, Nat.le_of_ble_eq_true rfl⟩) (m_preV g_bl0 hsz hK hP hS hE hKS g_to0) rfl rfl hl.1 rfl (lv_room (Nat.le_of_ble_eq_true rfl)) dX12_ends_75 ⟨Nat.le_of_ble_eq_true rfl, Nat.le_of_ble_eq_true rfl⟩) (fun H locs hP hS => ?_)
      refine lv_aload_n hx hb dX12_ends_78 rfl (lv_at hl 0 rfl) ?_
      refine lv_iconst (v := 0) hx hb dX12_ends_79 (by decide +kernel) ?_
      obtain ⟨σ_9, eσ_9, hF_10⟩ := bnd_e hF_8
      clear hF_8
      refine m_put (σ' := σ_9) (v := .int 0) (ty := .int) hx hb hts hown hK hP (hDD _ _) hS (by rw [eσ_9]; exact mwI_103) (k := 103) (by decide) (hts (.fieldLink RX12 668 "StoryHouseModel" "said" "I") wq_1459) (fun _ h9 => h9) rfl (by decide +kernel) rfl rfl dX12_ends_80 (fun H locs hP hS => ?_)
      refine lv_aload_n hx hb dX12_ends_83 rfl (lv_at hl 0 rfl) ?_
      obtain ⟨q_11, vq_11, hRq_11, hSq_11⟩ := hE.2.2.2.2 _ (List.mem_of_getElem? (i := 147) rfl)
      refine g_ldcwS (own := RX12) (tx := "[break ") hx hb hown hRq_11 dX12_ends_84 ?_
      obtain ⟨u_12, hu_12, hF_13⟩ := Option.bind_eq_some_iff.mp hF_10
      clear hF_10
      refine m_cv hsz hS (va_runV (As := [.ref q_11]) (rest := []) ⟨hx, hb, hml, hown, hts⟩ (m_X12_say l dC dI cB cC cI cJ cZ cP h qK qS ad hDD H.size q_11 _ ([91, 98, 114, 101, 97, 107, 32] : List Int32) σ_9 _ hu_12) (cwV 1 hts (g_gV wq_1770 wq_1771 wq_2199 wq_13 wq_1772) rfl rfl rfl (by decide +kernel) ⟨Nat.le_of_ble_eq_true rfl, Nat.le_of_ble_eq_true rfl⟩) (m_preV g_blS hsz hK hP hS hE hKS (g_toS hSq_11 hS (m_narrow hS hsz))) rfl rfl hl.1 rfl (lv_room (Nat.le_of_ble_eq_true rfl)) dX12_ends_87 ⟨Nat.le_of_ble_eq_true rfl, Nat.le_of_ble_eq_true rfl⟩) (fun H locs hP hS => ?_)
      refine lv_aload_n hx hb dX12_ends_90 rfl (lv_at hl 0 rfl) ?_
      refine lv_aload_n hx hb dX12_ends_91 rfl (lv_at hl 0 rfl) ?_
      refine va_get (D := (dC, dI)) (ci := 12) (v := .int (u_12.2.1 105)) (C := RX12) (T := TX12) (N := 123) hx hb hts ii_X12 hown hK hP 0 rfl rfl 105 (by decide) (hts (.fieldLink RX12 688 "StoryHouseModel" "broke" "I") wq_1461) (fun _ h9 => h9) rfl dX12_ends_92 ?_
      obtain ⟨u_14, hu_14, hF_15⟩ := Option.bind_eq_some_iff.mp hF_13
      clear hF_13
      refine m_cv hsz hS (va_runV (As := [.int (u_12.2.1 105)]) (rest := []) ⟨hx, hb, hml, hown, hts⟩ (m_X12_sayNumber l dC dI cB cC cI cJ cZ cP h qK qS ad hDD H.size  (u_12.2.1 105) u_12.2 _ hu_14) (cwV 1 hts (g_gV wq_1862 wq_1863 wq_2228 wq_13 wq_1864) rfl rfl rfl (by decide +kernel) ⟨Nat.le_of_ble_eq_true rfl, Nat.le_of_ble_eq_true rfl⟩) (m_preV g_bl0 hsz hK hP hS hE hKS g_to0) rfl rfl hl.1 rfl (lv_room (Nat.le_of_ble_eq_true rfl)) dX12_ends_95 ⟨Nat.le_of_ble_eq_true rfl, Nat.le_of_ble_eq_true rfl⟩) (fun H locs hP hS => ?_)
      refine lv_aload_n hx hb dX12_ends_98 rfl (lv_at hl 0 rfl) ?_
      obtain ⟨q_16, vq_16, hRq_16, hSq_16⟩ := hE.2.2.2.2 _ (List.mem_of_getElem? (i := 148) rfl)
      refine g_ldcwS (own := RX12) (tx := "]") hx hb hown hRq_16 dX12_ends_99 ?_
      obtain ⟨u_17, hu_17, hF_18⟩ := Option.bind_eq_some_iff.mp hF_15
      clear hF_15
      refine m_cv hsz hS (va_runV (As := [.ref q_16]) (rest := []) ⟨hx, hb, hml, hown, hts⟩ (m_X12_line l dC dI cB cC cI cJ cZ cP h qK qS ad hDD H.size q_16 _ ([93] : List Int32) u_14.2 _ hu_17) (cwV 1 hts (g_gV wq_1767 wq_1768 wq_2198 wq_13 wq_1769) rfl rfl rfl (by decide +kernel) ⟨Nat.le_of_ble_eq_true rfl, Nat.le_of_ble_eq_true rfl⟩) (m_preV g_blS hsz hK hP hS hE hKS (g_toS hSq_16 hS (m_narrow hS hsz))) rfl rfl hl.1 rfl (lv_room (Nat.le_of_ble_eq_true rfl)) dX12_ends_102 ⟨Nat.le_of_ble_eq_true rfl, Nat.le_of_ble_eq_true rfl⟩) (fun H locs hP hS => ?_)
      refine lv_iconst (v := 2) hx hb dX12_ends_105 (by decide +kernel) ?_
      have h9 := Option.some.inj hF_18
      subst h9
      exact W.iret (v := 2) hx hb hr (fun t ht hW => ⟨⟨2, (), rfl, rfl, m_end ht hP⟩, hS.F ht⟩) hS.2.2 dX12_ends_106
  refine lv_if_ne (tgt := 64) hx hb dX12_ends_4 (by decide) (fun c_74 => ?_) (fun c_74 => ?_)
  · have hF_103 := ineg c_74 hF_3
    clear hF_3
    exact Jj_2  σ hF_103 _ _ hP hS ls (lv_sub hl [0] rfl)
  · have hF_75 := ipos c_74 hF_3
    clear hF_3
    refine lv_aload_n hx hb dX12_ends_7 rfl (lv_at hl 0 rfl) ?_
    refine lv_dup hx hb dX12_ends_8 rfl ?_
    refine va_get (D := (dC, dI)) (ci := 12) (v := .int (σ.1 94)) (C := RX12) (T := TX12) (N := 123) hx hb hts ii_X12 hown hK hP 0 rfl rfl 94 (by decide) (hts (.fieldLink RX12 660 "StoryHouseModel" "turns" "I") wq_1450) (fun _ h9 => h9) rfl dX12_ends_9 ?_
    refine lv_iconst (v := 1) hx hb dX12_ends_12 (by decide +kernel) ?_
    refine lv_iadd hx hb dX12_ends_13 ?_
    obtain ⟨σ_76, eσ_76, hF_77⟩ := bnd_e hF_75
    clear hF_75
    refine m_put (σ' := σ_76) (v := .int ((σ.1 94) + 1)) (ty := .int) hx hb hts hown hK hP (hDD _ _) hS (by rw [eσ_76]; exact mwI_94) (k := 94) (by decide) (hts (.fieldLink RX12 660 "StoryHouseModel" "turns" "I") wq_1450) (fun _ h9 => h9) rfl (by decide +kernel) rfl rfl dX12_ends_14 (fun H locs hP hS => ?_)
    refine lv_iconst (v := 0) hx hb dX12_ends_17 (by decide +kernel) ?_
    refine lv_istore_n (lv' := [(1, .int 0), (0, .ref h)]) hx hb dX12_ends_18 rfl hl (by decide) rfl (fun ls hl => ?_)
    refine loopF_ind (P := fun (s_78 : Int32 × MS) => ∀ (H : Heap) (locs : List Loc), va_P (dC, dI) vwCl (mW cB cI cZ h qK qS ad s_78.2) H → va_S (mCells h ad sz) s.heap H locs → ∀ ls : Array Slot, lv_has ls 3 [(0, .ref h), (1, .int s_78.1)] → W p l e (headSpec (g_ws yX12_ends cX12_ends 3 (some .int)) { frames := 1309, cells := 0, slots := 0, locals := 34016 }).room s m ([.ref h] : List Value).toArray below meth c H locs 0 0 (MQ below (va_Qi (fun r (_ : Unit) => r = res.1) (fun _ t => va_P (dC, dI) vwCl (mW cB cI cZ h qK qS ad res.2) t.heap) (mCells h ad sz)) ([.ref h] : List Value).toArray s 0 0 (mCells h ad sz)) (F0 m 19 ls [])) ?_ _ _ hF_77 _ _ hP hS ls (lv_sub hl [1, 0] rfl)
    intro again_79 s_78 ih_80 hF_81
    intro H locs hP hS ls hl
    refine lv_iload_n hx hb dX12_ends_19 rfl (lv_at hl 1 rfl) ?_
    refine lv_aload_n hx hb dX12_ends_20 rfl (lv_at hl 0 rfl) ?_
    refine va_get (D := (dC, dI)) (ci := 12) (v := .int (s_78.2.1 84)) (C := RX12) (T := TX12) (N := 123) hx hb hts ii_X12 hown hK hP 0 rfl rfl 84 (by decide) (hts (.fieldLink RX12 618 "StoryHouseModel" "nEachs" "I") wq_1440) (fun _ h9 => h9) rfl dX12_ends_21 ?_
    refine lv_icmp_ge (tgt := 64) hx hb dX12_ends_24 (by decide) (fun c_82 => ?_) (fun c_82 => ?_)
    · have hF_83 := ipos c_82 hF_81
      clear hF_81
      exact Jj_2  s_78.2 hF_83 _ _ hP hS ls (lv_sub hl [0] rfl)
    · have hF_84 := ineg c_82 hF_81
      clear hF_81
      refine lv_aload_n hx hb dX12_ends_27 rfl (lv_at hl 0 rfl) ?_
      refine va_get (D := (dC, dI)) (ci := 12) (v := .int (s_78.2.1 104)) (C := RX12) (T := TX12) (N := 123) hx hb hts ii_X12 hown hK hP 0 rfl rfl 104 (by decide) (hts (.fieldLink RX12 685 "StoryHouseModel" "stop" "I") wq_1460) (fun _ h9 => h9) rfl dX12_ends_28 ?_
      refine lv_if_ne (tgt := 64) hx hb dX12_ends_31 (by decide) (fun c_85 => ?_) (fun c_85 => ?_)
      · have hF_102 := ineg c_85 hF_84
        clear hF_84
        exact Jj_2  s_78.2 hF_102 _ _ hP hS ls (lv_sub hl [0] rfl)
      · have hF_86 := ipos c_85 hF_84
        clear hF_84
        refine lv_aload_n hx hb dX12_ends_34 rfl (lv_at hl 0 rfl) ?_
        refine lv_aload_n hx hb dX12_ends_35 rfl (lv_at hl 0 rfl) ?_
        refine va_get (D := (dC, dI)) (ci := 12) (v := .ref (ad 75)) (C := RX12) (T := TX12) (N := 123) hx hb hts ii_X12 hown hK hP 0 rfl rfl 75 (by decide) (hts (.fieldLink RX12 170 "StoryHouseModel" "eachBody" "[I") wq_1431) (fun _ h9 => h9) rfl dX12_ends_36 ?_
        refine lv_iload_n hx hb dX12_ends_39 rfl (lv_at hl 1 rfl) ?_
        obtain ⟨g_87, hF_88⟩ := nif_e hF_86
        clear hF_86
        refine va_iald (f := s_78.2.2 75) hx hb hK hP 48 2 rfl rfl g_87 dX12_ends_40 ?_
        refine lv_iconst (v := 0) hx hb dX12_ends_41 (by decide +kernel) ?_
        obtain ⟨u_89, hu_89, hF_90⟩ := Option.bind_eq_some_iff.mp hF_88
        clear hF_88
        refine m_cv hsz hS (va_runV (As := [.int (s_78.2.2 75 s_78.1.toNatClampNeg), .int 0]) (rest := []) ⟨hx, hb, hml, hown, hts⟩ (m_X12_block_ l dC dI cB cC cI cJ cZ cP h qK qS ad hDD H.size  (s_78.2.2 75 s_78.1.toNatClampNeg) 0 s_78.2 _ hu_89) (cwV 2 hts (g_gV wq_1810 wq_1811 wq_2211 wq_13 wq_1812) rfl rfl rfl (by decide +kernel) ⟨Nat.le_of_ble_eq_true rfl, Nat.le_of_ble_eq_true rfl⟩) (m_preV g_bl0 hsz hK hP hS hE hKS g_to0) rfl rfl hl.1 rfl (lv_room (Nat.le_of_ble_eq_true rfl)) dX12_ends_42 ⟨Nat.le_of_ble_eq_true rfl, Nat.le_of_ble_eq_true rfl⟩) (fun H locs hP hS => ?_)
        refine lv_aload_n hx hb dX12_ends_45 rfl (lv_at hl 0 rfl) ?_
        refine va_get (D := (dC, dI)) (ci := 12) (v := .int (u_89.2.1 104)) (C := RX12) (T := TX12) (N := 123) hx hb hts ii_X12 hown hK hP 0 rfl rfl 104 (by decide) (hts (.fieldLink RX12 685 "StoryHouseModel" "stop" "I") wq_1460) (fun _ h9 => h9) rfl dX12_ends_46 ?_
        refine lv_iconst (v := 1) hx hb dX12_ends_49 (by decide +kernel) ?_
        obtain ⟨j_92, ej_92, hF_93⟩ := bnd_e hF_90
        clear hF_90
        have Jj_92 : ∀  (σ_91 : MS), j_92  σ_91 = some res → ∀ (H : Heap) (locs : List Loc), va_P (dC, dI) vwCl (mW cB cI cZ h qK qS ad σ_91) H → va_S (mCells h ad sz) s.heap H locs → ∀ ls : Array Slot, lv_has ls 3 [(0, .ref h), (1, .int s_78.1)] → W p l e (headSpec (g_ws yX12_ends cX12_ends 3 (some .int)) { frames := 1309, cells := 0, slots := 0, locals := 34016 }).room s m ([.ref h] : List Value).toArray below meth c H locs 0 0 (MQ below (va_Qi (fun r (_ : Unit) => r = res.1) (fun _ t => va_P (dC, dI) vwCl (mW cB cI cZ h qK qS ad res.2) t.heap) (mCells h ad sz)) ([.ref h] : List Value).toArray s 0 0 (mCells h ad sz)) (F0 m 58 ls []) := by
          intro  σ_91 hF0 H locs hP hS ls hl
          subst ej_92
          have hF_94 := hF0
          clear hF0
          obtain ⟨x_95, ex_95, hF_96⟩ := bnd_e hF_94
          clear hF_94
          refine lv_iinc (v := x_95) (lv' := [(1, .int x_95), (0, .ref h)]) hx hb dX12_ends_58 hl (k := 1) rfl (by rw [ex_95]; rfl) (by decide) rfl (fun ls hl => ?_)
          refine lv_goto (tgt := 19) hx hb dX12_ends_61 (by decide) ?_
          exact ih_80 (x_95, σ_91) hF_96 _ _ hP hS ls (lv_sub hl [1, 0] rfl)
        refine lv_icmp_ne (tgt := 58) hx hb dX12_ends_50 (by decide) (fun c_97 => ?_) (fun c_97 => ?_)
        · have hF_101 := ineg c_97 hF_93
          clear hF_93
          exact Jj_92  u_89.2 hF_101 _ _ hP hS ls (lv_sub hl [0, 1] rfl)
        · have hF_98 := ipos c_97 hF_93
          clear hF_93
          refine lv_aload_n hx hb dX12_ends_53 rfl (lv_at hl 0 rfl) ?_
          refine lv_iconst (v := 0) hx hb dX12_ends_54 (by decide +kernel) ?_
          obtain ⟨σ_99, eσ_99, hF_100⟩ := bnd_e hF_98
          clear hF_98
          refine m_put (σ' := σ_99) (v := .int 0) (ty := .int) hx hb hts hown hK hP (hDD _ _) hS (by rw [eσ_99]; exact mwI_104) (k := 104) (by decide) (hts (.fieldLink RX12 685 "StoryHouseModel" "stop" "I") wq_1460) (fun _ h9 => h9) rfl (by decide +kernel) rfl rfl dX12_ends_55 (fun H locs hP hS => ?_)
          exact Jj_92  σ_99 hF_100 _ _ hP hS ls (lv_sub hl [0, 1] rfl)
theorem dX12_starts_0 : decode cX12_starts 0 = .ok (.aload_n 0, 1) := by decide +kernel
theorem dX12_starts_1 : decode cX12_starts 1 = .ok (.bipush 9, 2) := by decide +kernel
theorem dX12_starts_3 : decode cX12_starts 3 = .ok (.invokevirtual 908, 3) := by decide +kernel
theorem dX12_starts_6 : decode cX12_starts 6 = .ok (.aload_n 0, 1) := by decide +kernel
theorem dX12_starts_7 : decode cX12_starts 7 = .ok (.aload_n 0, 1) := by decide +kernel
theorem dX12_starts_8 : decode cX12_starts 8 = .ok (.getfield 794, 3) := by decide +kernel
theorem dX12_starts_11 : decode cX12_starts 11 = .ok (.putfield 203, 3) := by decide +kernel
theorem dX12_starts_14 : decode cX12_starts 14 = .ok (.iconst 0, 1) := by decide +kernel
theorem dX12_starts_15 : decode cX12_starts 15 = .ok (.istore_n 1, 1) := by decide +kernel
theorem dX12_starts_16 : decode cX12_starts 16 = .ok (.iload_n 1, 1) := by decide +kernel
theorem dX12_starts_17 : decode cX12_starts 17 = .ok (.aload_n 0, 1) := by decide +kernel
theorem dX12_starts_18 : decode cX12_starts 18 = .ok (.getfield 794, 3) := by decide +kernel
theorem dX12_starts_21 : decode cX12_starts 21 = .ok (.if_icmp .ge 21, 3) := by decide +kernel
theorem dX12_starts_24 : decode cX12_starts 24 = .ok (.aload_n 0, 1) := by decide +kernel
theorem dX12_starts_25 : decode cX12_starts 25 = .ok (.getfield 200, 3) := by decide +kernel
theorem dX12_starts_28 : decode cX12_starts 28 = .ok (.iload_n 1, 1) := by decide +kernel
theorem dX12_starts_29 : decode cX12_starts 29 = .ok (.aload_n 0, 1) := by decide +kernel
theorem dX12_starts_30 : decode cX12_starts 30 = .ok (.getfield 225, 3) := by decide +kernel
theorem dX12_starts_33 : decode cX12_starts 33 = .ok (.iload_n 1, 1) := by decide +kernel
theorem dX12_starts_34 : decode cX12_starts 34 = .ok (.baload, 1) := by decide +kernel
theorem dX12_starts_35 : decode cX12_starts 35 = .ok (.bastore, 1) := by decide +kernel
theorem dX12_starts_36 : decode cX12_starts 36 = .ok (.iinc 1 1, 3) := by decide +kernel
theorem dX12_starts_39 : decode cX12_starts 39 = .ok (.goto (-23), 3) := by decide +kernel
theorem dX12_starts_42 : decode cX12_starts 42 = .ok (.aload_n 0, 1) := by decide +kernel
theorem dX12_starts_43 : decode cX12_starts 43 = .ok (.iconst 0, 1) := by decide +kernel
theorem dX12_starts_44 : decode cX12_starts 44 = .ok (.putfield 685, 3) := by decide +kernel
theorem dX12_starts_47 : decode cX12_starts 47 = .ok (.aload_n 0, 1) := by decide +kernel
theorem dX12_starts_48 : decode cX12_starts 48 = .ok (.iconst 0, 1) := by decide +kernel
theorem dX12_starts_49 : decode cX12_starts 49 = .ok (.putfield 694, 3) := by decide +kernel
theorem dX12_starts_52 : decode cX12_starts 52 = .ok (.aload_n 0, 1) := by decide +kernel
theorem dX12_starts_53 : decode cX12_starts 53 = .ok (.iconst 0, 1) := by decide +kernel
theorem dX12_starts_54 : decode cX12_starts 54 = .ok (.putfield 745, 3) := by decide +kernel
theorem dX12_starts_57 : decode cX12_starts 57 = .ok (.return_, 1) := by decide +kernel
def F_X12_starts  (σ : MS) : MR :=
  (F_X12_keep 9 σ).bind fun u_1 =>
  bnd (mI u_1.2 98 (u_1.2.1 117)) fun σ_3 =>
  loopF (fun (again_6 : (Int32 × MS) → MR) (s_5 : Int32 × MS) => (
    if (s_5.2.1 117) ≤ s_5.1 then (
      bnd (mI s_5.2 104 0) fun σ_11 =>
      bnd (mI σ_11 106 0) fun σ_13 =>
      bnd (mI σ_13 107 0) fun σ_15 =>
      some (0, σ_15)
    ) else (
      if s_5.1 < 0 ∨ 120 ≤ s_5.1.toNatClampNeg then none else
      bnd ((s_5.2.2 116 s_5.1.toNatClampNeg)) fun (x_20 : Int32) =>
      if s_5.1 < 0 ∨ 120 ≤ s_5.1.toNatClampNeg then none else
      bnd (mA s_5.2 97 (upd (s_5.2.2 97) s_5.1.toNatClampNeg (vp_nar .byte x_20))) fun σ_24 =>
      bnd (s_5.1 + 1) fun (x_26 : Int32) =>
      again_6 (x_26, σ_24)
    )
  )) FU (0, σ_3)
set_option maxHeartbeats 4000000 in
set_option maxRecDepth 100000 in
theorem m_X12_starts (l : Launch) (dC : Nat → ClassId) (dI : Nat → Nat → Nat) (cB cC cI cJ cZ cP : ClassId) (h qK qS : Nat) (ad : Nat → Nat) (hDD : mDis cB cI cZ h qK qS ad) (sz : Nat)   (σ : MS) (res : Int32 × MS) (hF : F_X12_starts  σ = some res) : Met l yX12_starts (g_ws yX12_starts cX12_starts 2 none) ({ frames := 2, cells := 0, slots := 0, locals := 65 }) (va_Pc [.ref h] (m_B (dC, dI) [(cB, .byte), (cC, .char), (cI, .int), (cJ, .long), (cZ, .boolean), (cP, .object "StoryHouse$Play")] sz h ad qK qS (mW cB cI cZ h qK qS ad σ) g_0)) (va_Qv (fun (_ : Unit) => True) (fun _ t => va_P (dC, dI) vwCl (mW cB cI cZ h qK qS ad res.2) t.heap) (mCells h ad sz)) 0 0 (mCells h ad sz) := by
  refine Met.ofW (cc := cX12_starts) (maxL := 2) (ret := none) (by decide) rfl ?_
  intro p e s m args below meth c s₁ B hml hv
  obtain ⟨rfl, hsz, hP, hK, hE, hKS, hX⟩ := hv
  have hx := B.exec
  have hb := B.bytes
  have hr := B.returns
  have hts0 := atoms_spec (ws := g_ws yX12_starts cX12_starts 2 none) B.pre
  have hts : ∀ w ∈ lw_good, w.before ([.ref h] : List Value).toArray s = true := fun w z => hts0 w (List.mem_cons_of_mem _ z)
  have hown : s.vm.findClass RX12 = some m.cls := findClass_of_methodNamed B.named
  have hlocks := B.notSynchronized
  have hS : va_S (mCells h ad sz) s.heap s.heap [] := va_S.rf
  have hl := lv_entry ([.ref h]) (n := 2) (Nat.le_of_ble_eq_true rfl)
  rw [lg_entry_eq]
  generalize (lg_sl ([.ref h]) ++ List.replicate (2 - (lg_sl ([.ref h])).length) Slot.unset).toArray = ls at hl ⊢
  have hl : lv_has ls 2 [(0, .ref h)] := hl
  unfold F_X12_starts at hF
  refine lv_aload_n hx hb dX12_starts_0 rfl (lv_at hl 0 rfl) ?_
  refine lv_bipush (v := 9) hx hb dX12_starts_1 (by decide +kernel) ?_
  obtain ⟨u_1, hu_1, hF_2⟩ := Option.bind_eq_some_iff.mp hF
  clear hF
  refine m_cv hsz hS (va_runV (As := [.int 9]) (rest := []) ⟨hx, hb, hml, hown, hts⟩ (m_X12_keep l dC dI cB cC cI cJ cZ cP h qK qS ad hDD s.heap.size  9 σ _ hu_1) (cwV 1 hts (g_gV wq_1804 wq_1805 wq_2209 wq_13 wq_1806) rfl rfl rfl (by decide +kernel) ⟨Nat.le_of_ble_eq_true rfl, Nat.le_of_ble_eq_true rfl⟩) (m_preV g_bl0 hsz hK hP hS hE hKS g_to0) rfl rfl hl.1 rfl (lv_room (Nat.le_of_ble_eq_true rfl)) dX12_starts_3 ⟨Nat.le_of_ble_eq_true rfl, Nat.le_of_ble_eq_true rfl⟩) (fun H locs hP hS => ?_)
  refine lv_aload_n hx hb dX12_starts_6 rfl (lv_at hl 0 rfl) ?_
  refine lv_aload_n hx hb dX12_starts_7 rfl (lv_at hl 0 rfl) ?_
  refine va_get (D := (dC, dI)) (ci := 12) (v := .int (u_1.2.1 117)) (C := RX12) (T := TX12) (N := 123) hx hb hts ii_X12 hown hK hP 0 rfl rfl 117 (by decide) (hts (.fieldLink RX12 794 "StoryHouseModel" "typedSize" "I") wq_1473) (fun _ h9 => h9) rfl dX12_starts_8 ?_
  obtain ⟨σ_3, eσ_3, hF_4⟩ := bnd_e hF_2
  clear hF_2
  refine m_put (σ' := σ_3) (v := .int (u_1.2.1 117)) (ty := .int) hx hb hts hown hK hP (hDD _ _) hS (by rw [eσ_3]; exact mwI_98) (k := 98) (by decide) (hts (.fieldLink RX12 203 "StoryHouseModel" "latestSize" "I") wq_1454) (fun _ h9 => h9) rfl (by decide +kernel) rfl rfl dX12_starts_11 (fun H locs hP hS => ?_)
  refine lv_iconst (v := 0) hx hb dX12_starts_14 (by decide +kernel) ?_
  refine lv_istore_n (lv' := [(1, .int 0), (0, .ref h)]) hx hb dX12_starts_15 rfl hl (by decide) rfl (fun ls hl => ?_)
  refine loopF_ind (P := fun (s_5 : Int32 × MS) => ∀ (H : Heap) (locs : List Loc), va_P (dC, dI) vwCl (mW cB cI cZ h qK qS ad s_5.2) H → va_S (mCells h ad sz) s.heap H locs → ∀ ls : Array Slot, lv_has ls 2 [(0, .ref h), (1, .int s_5.1)] → W p l e (headSpec (g_ws yX12_starts cX12_starts 2 none) { frames := 2, cells := 0, slots := 0, locals := 65 }).room s m ([.ref h] : List Value).toArray below meth c H locs 0 0 (MQ below (va_Qv (fun (_ : Unit) => True) (fun _ t => va_P (dC, dI) vwCl (mW cB cI cZ h qK qS ad res.2) t.heap) (mCells h ad sz)) ([.ref h] : List Value).toArray s 0 0 (mCells h ad sz)) (F0 m 16 ls [])) ?_ _ _ hF_4 _ _ hP hS ls (lv_sub hl [1, 0] rfl)
  intro again_6 s_5 ih_7 hF_8
  intro H locs hP hS ls hl
  refine lv_iload_n hx hb dX12_starts_16 rfl (lv_at hl 1 rfl) ?_
  refine lv_aload_n hx hb dX12_starts_17 rfl (lv_at hl 0 rfl) ?_
  refine va_get (D := (dC, dI)) (ci := 12) (v := .int (s_5.2.1 117)) (C := RX12) (T := TX12) (N := 123) hx hb hts ii_X12 hown hK hP 0 rfl rfl 117 (by decide) (hts (.fieldLink RX12 794 "StoryHouseModel" "typedSize" "I") wq_1473) (fun _ h9 => h9) rfl dX12_starts_18 ?_
  refine lv_icmp_ge (tgt := 42) hx hb dX12_starts_21 (by decide) (fun c_9 => ?_) (fun c_9 => ?_)
  · have hF_10 := ipos c_9 hF_8
    clear hF_8
    refine lv_aload_n hx hb dX12_starts_42 rfl (lv_at hl 0 rfl) ?_
    refine lv_iconst (v := 0) hx hb dX12_starts_43 (by decide +kernel) ?_
    obtain ⟨σ_11, eσ_11, hF_12⟩ := bnd_e hF_10
    clear hF_10
    refine m_put (σ' := σ_11) (v := .int 0) (ty := .int) hx hb hts hown hK hP (hDD _ _) hS (by rw [eσ_11]; exact mwI_104) (k := 104) (by decide) (hts (.fieldLink RX12 685 "StoryHouseModel" "stop" "I") wq_1460) (fun _ h9 => h9) rfl (by decide +kernel) rfl rfl dX12_starts_44 (fun H locs hP hS => ?_)
    refine lv_aload_n hx hb dX12_starts_47 rfl (lv_at hl 0 rfl) ?_
    refine lv_iconst (v := 0) hx hb dX12_starts_48 (by decide +kernel) ?_
    obtain ⟨σ_13, eσ_13, hF_14⟩ := bnd_e hF_12
    clear hF_12
    refine m_put (σ' := σ_13) (v := .int 0) (ty := .int) hx hb hts hown hK hP (hDD _ _) hS (by rw [eσ_13]; exact mwI_106) (k := 106) (by decide) (hts (.fieldLink RX12 694 "StoryHouseModel" "passes" "I") wq_1462) (fun _ h9 => h9) rfl (by decide +kernel) rfl rfl dX12_starts_49 (fun H locs hP hS => ?_)
    refine lv_aload_n hx hb dX12_starts_52 rfl (lv_at hl 0 rfl) ?_
    refine lv_iconst (v := 0) hx hb dX12_starts_53 (by decide +kernel) ?_
    obtain ⟨σ_15, eσ_15, hF_16⟩ := bnd_e hF_14
    clear hF_14
    refine m_put (σ' := σ_15) (v := .int 0) (ty := .int) hx hb hts hown hK hP (hDD _ _) hS (by rw [eσ_15]; exact mwI_107) (k := 107) (by decide) (hts (.fieldLink RX12 745 "StoryHouseModel" "calls" "I") wq_1463) (fun _ h9 => h9) rfl (by decide +kernel) rfl rfl dX12_starts_54 (fun H locs hP hS => ?_)
    have h9 := Option.some.inj hF_16
    subst h9
    exact W.vret hx hb hr (fun t ht hW => ⟨⟨(), rfl, trivial, m_end ht hP⟩, hS.F ht⟩) hS.2.2 dX12_starts_57
  · have hF_17 := ineg c_9 hF_8
    clear hF_8
    refine lv_aload_n hx hb dX12_starts_24 rfl (lv_at hl 0 rfl) ?_
    refine va_get (D := (dC, dI)) (ci := 12) (v := .ref (ad 97)) (C := RX12) (T := TX12) (N := 123) hx hb hts ii_X12 hown hK hP 0 rfl rfl 97 (by decide) (hts (.fieldLink RX12 200 "StoryHouseModel" "latest" "[B") wq_1453) (fun _ h9 => h9) rfl dX12_starts_25 ?_
    refine lv_iload_n hx hb dX12_starts_28 rfl (lv_at hl 1 rfl) ?_
    refine lv_aload_n hx hb dX12_starts_29 rfl (lv_at hl 0 rfl) ?_
    refine va_get (D := (dC, dI)) (ci := 12) (v := .ref (ad 116)) (C := RX12) (T := TX12) (N := 123) hx hb hts ii_X12 hown hK hP 0 rfl rfl 116 (by decide) (hts (.fieldLink RX12 225 "StoryHouseModel" "typed" "[B") wq_1472) (fun _ h9 => h9) rfl dX12_starts_30 ?_
    refine lv_iload_n hx hb dX12_starts_33 rfl (lv_at hl 1 rfl) ?_
    obtain ⟨g_18, hF_19⟩ := nif_e hF_17
    clear hF_17
    refine va_bald (f := s_5.2.2 116) hx hb hK hP 65 0 rfl rfl g_18 dX12_starts_34 ?_
    obtain ⟨x_20, ex_20, hF_21⟩ := bnd_e hF_19
    clear hF_19
    refine m_top ex_20 ?_
    obtain ⟨g_22, hF_23⟩ := nif_e hF_21
    clear hF_21
    obtain ⟨σ_24, eσ_24, hF_25⟩ := bnd_e hF_23
    clear hF_23
    refine m_bast (σ' := σ_24) hx hb hK hP (hDD _ _) hS (q0 := 58) (t0 := 0) (f := s_5.2.2 97) rfl rfl (by rw [eσ_24]; exact mwA_97) g_22 dX12_starts_35 (fun H locs hP hS => ?_)
    obtain ⟨x_26, ex_26, hF_27⟩ := bnd_e hF_25
    clear hF_25
    refine lv_iinc (v := x_26) (lv' := [(1, .int x_26), (0, .ref h)]) hx hb dX12_starts_36 hl (k := 1) rfl (by rw [ex_26]; rfl) (by decide) rfl (fun ls hl => ?_)
    refine lv_goto (tgt := 16) hx hb dX12_starts_39 (by decide) ?_
    exact ih_7 (x_26, σ_24) hF_27 _ _ hP hS ls (lv_sub hl [1, 0] rfl)
theorem dX12_command_0 : decode cX12_command 0 = .ok (.aload_n 0, 1) := by decide +kernel
theorem dX12_command_1 : decode cX12_command 1 = .ok (.invokevirtual 911, 3) := by decide +kernel
theorem dX12_command_4 : decode cX12_command 4 = .ok (.iload_n 2, 1) := by decide +kernel
theorem dX12_command_5 : decode cX12_command 5 = .ok (.ifCond .le 14, 3) := by decide +kernel
theorem dX12_command_8 : decode cX12_command 8 = .ok (.iload_n 1, 1) := by decide +kernel
theorem dX12_command_9 : decode cX12_command 9 = .ok (.bipush 11, 2) := by decide +kernel
theorem dX12_command_11 : decode cX12_command 11 = .ok (.if_icmp .eq 8, 3) := by decide +kernel
theorem dX12_command_14 : decode cX12_command 14 = .ok (.aload_n 0, 1) := by decide +kernel
theorem dX12_command_15 : decode cX12_command 15 = .ok (.iload_n 3, 1) := by decide +kernel
theorem dX12_command_16 : decode cX12_command 16 = .ok (.putfield 665, 3) := by decide +kernel
theorem dX12_command_19 : decode cX12_command 19 = .ok (.aload_n 0, 1) := by decide +kernel
theorem dX12_command_20 : decode cX12_command 20 = .ok (.iload_n 1, 1) := by decide +kernel
theorem dX12_command_21 : decode cX12_command 21 = .ok (.iload_n 2, 1) := by decide +kernel
theorem dX12_command_22 : decode cX12_command 22 = .ok (.iload_n 3, 1) := by decide +kernel
theorem dX12_command_23 : decode cX12_command 23 = .ok (.iload 4, 2) := by decide +kernel
theorem dX12_command_25 : decode cX12_command 25 = .ok (.invokevirtual 914, 3) := by decide +kernel
theorem dX12_command_28 : decode cX12_command 28 = .ok (.aload_n 0, 1) := by decide +kernel
theorem dX12_command_29 : decode cX12_command 29 = .ok (.invokevirtual 918, 3) := by decide +kernel
theorem dX12_command_32 : decode cX12_command 32 = .ok (.ireturn, 1) := by decide +kernel
def F_X12_command (p0 : Int32) (p1 : Int32) (p2 : Int32) (p3 : Int32) (σ : MS) : MR :=
  (F_X12_starts σ).bind fun u_1 =>
  bnd (fun  (σ_3 : MS) => (
    (F_X12_act p0 p1 p2 p3 σ_3).bind fun u_7 =>
    (F_X12_ends u_7.2).bind fun u_9 =>
    some (u_9.1, u_9.2)
  ) : MS → MR) fun j_4 =>
  if p1 ≤ 0 then (
    j_4  u_1.2
  ) else (
    if p0 = 11 then (
      j_4  u_1.2
    ) else (
      bnd (mI u_1.2 96 p2) fun σ_17 =>
      j_4  σ_17
    )
  )
set_option maxHeartbeats 4000000 in
set_option maxRecDepth 100000 in
theorem m_X12_command (l : Launch) (dC : Nat → ClassId) (dI : Nat → Nat → Nat) (cB cC cI cJ cZ cP : ClassId) (h qK qS : Nat) (ad : Nat → Nat) (hDD : mDis cB cI cZ h qK qS ad) (sz : Nat)  (p0 : Int32) (p1 : Int32) (p2 : Int32) (p3 : Int32) (σ : MS) (res : Int32 × MS) (hF : F_X12_command p0 p1 p2 p3 σ = some res) : Met l yX12_command (g_ws yX12_command cX12_command 5 (some .int)) ({ frames := 1310, cells := 0, slots := 0, locals := 34042 }) (va_Pc [.ref h, .int p0, .int p1, .int p2, .int p3] (m_B (dC, dI) [(cB, .byte), (cC, .char), (cI, .int), (cJ, .long), (cZ, .boolean), (cP, .object "StoryHouse$Play")] sz h ad qK qS (mW cB cI cZ h qK qS ad σ) g_0)) (va_Qi (fun r (_ : Unit) => r = res.1) (fun _ t => va_P (dC, dI) vwCl (mW cB cI cZ h qK qS ad res.2) t.heap) (mCells h ad sz)) 0 0 (mCells h ad sz) := by
  refine Met.ofW (cc := cX12_command) (maxL := 5) (ret := (some .int)) (by decide) rfl ?_
  intro p e s m args below meth c s₁ B hml hv
  obtain ⟨rfl, hsz, hP, hK, hE, hKS, hX⟩ := hv
  have hx := B.exec
  have hb := B.bytes
  have hr := B.returns
  have hts0 := atoms_spec (ws := g_ws yX12_command cX12_command 5 (some .int)) B.pre
  have hts : ∀ w ∈ lw_good, w.before ([.ref h, .int p0, .int p1, .int p2, .int p3] : List Value).toArray s = true := fun w z => hts0 w (List.mem_cons_of_mem _ z)
  have hown : s.vm.findClass RX12 = some m.cls := findClass_of_methodNamed B.named
  have hlocks := B.notSynchronized
  have hS : va_S (mCells h ad sz) s.heap s.heap [] := va_S.rf
  have hl := lv_entry ([.ref h, .int p0, .int p1, .int p2, .int p3]) (n := 5) (Nat.le_of_ble_eq_true rfl)
  rw [lg_entry_eq]
  generalize (lg_sl ([.ref h, .int p0, .int p1, .int p2, .int p3]) ++ List.replicate (5 - (lg_sl ([.ref h, .int p0, .int p1, .int p2, .int p3])).length) Slot.unset).toArray = ls at hl ⊢
  have hl : lv_has ls 5 [(0, .ref h), (1, .int p0), (2, .int p1), (3, .int p2), (4, .int p3)] := hl
  unfold F_X12_command at hF
  refine lv_aload_n hx hb dX12_command_0 rfl (lv_at hl 0 rfl) ?_
  obtain ⟨u_1, hu_1, hF_2⟩ := Option.bind_eq_some_iff.mp hF
  clear hF
  refine m_cv hsz hS (va_runV (As := []) (rest := []) ⟨hx, hb, hml, hown, hts⟩ (m_X12_starts l dC dI cB cC cI cJ cZ cP h qK qS ad hDD s.heap.size  σ _ hu_1) (cwV 0 hts (g_gV wq_1801 wq_1802 wq_2208 wq_13 wq_1803) rfl rfl rfl (by decide +kernel) ⟨Nat.le_of_ble_eq_true rfl, Nat.le_of_ble_eq_true rfl⟩) (m_preV g_bl0 hsz hK hP hS hE hKS g_to0) rfl rfl hl.1 rfl (lv_room (Nat.le_of_ble_eq_true rfl)) dX12_command_1 ⟨Nat.le_of_ble_eq_true rfl, Nat.le_of_ble_eq_true rfl⟩) (fun H locs hP hS => ?_)
  refine lv_iload_n hx hb dX12_command_4 rfl (lv_at hl 2 rfl) ?_
  obtain ⟨j_4, ej_4, hF_5⟩ := bnd_e hF_2
  clear hF_2
  have Jj_4 : ∀  (σ_3 : MS), j_4  σ_3 = some res → ∀ (H : Heap) (locs : List Loc), va_P (dC, dI) vwCl (mW cB cI cZ h qK qS ad σ_3) H → va_S (mCells h ad sz) s.heap H locs → ∀ ls : Array Slot, lv_has ls 5 [(0, .ref h), (1, .int p0), (2, .int p1), (3, .int p2), (4, .int p3)] → W p l e (headSpec (g_ws yX12_command cX12_command 5 (some .int)) { frames := 1310, cells := 0, slots := 0, locals := 34042 }).room s m ([.ref h, .int p0, .int p1, .int p2, .int p3] : List Value).toArray below meth c H locs 0 0 (MQ below (va_Qi (fun r (_ : Unit) => r = res.1) (fun _ t => va_P (dC, dI) vwCl (mW cB cI cZ h qK qS ad res.2) t.heap) (mCells h ad sz)) ([.ref h, .int p0, .int p1, .int p2, .int p3] : List Value).toArray s 0 0 (mCells h ad sz)) (F0 m 19 ls []) := by
    intro  σ_3 hF0 H locs hP hS ls hl
    subst ej_4
    have hF_6 := hF0
    clear hF0
    refine lv_aload_n hx hb dX12_command_19 rfl (lv_at hl 0 rfl) ?_
    refine lv_iload_n hx hb dX12_command_20 rfl (lv_at hl 1 rfl) ?_
    refine lv_iload_n hx hb dX12_command_21 rfl (lv_at hl 2 rfl) ?_
    refine lv_iload_n hx hb dX12_command_22 rfl (lv_at hl 3 rfl) ?_
    refine lv_iload hx hb dX12_command_23 (lv_at hl 4 rfl) ?_
    obtain ⟨u_7, hu_7, hF_8⟩ := Option.bind_eq_some_iff.mp hF_6
    clear hF_6
    refine m_cv hsz hS (va_runV (As := [.int p0, .int p1, .int p2, .int p3]) (rest := []) ⟨hx, hb, hml, hown, hts⟩ (m_X12_act l dC dI cB cC cI cJ cZ cP h qK qS ad hDD H.size  p0 p1 p2 p3 σ_3 _ hu_7) (cwV 4 hts (g_gV wq_1807 wq_1808 wq_2210 wq_13 wq_1809) rfl rfl rfl (by decide +kernel) ⟨Nat.le_of_ble_eq_true rfl, Nat.le_of_ble_eq_true rfl⟩) (m_preV g_bl0 hsz hK hP hS hE hKS g_to0) rfl rfl hl.1 rfl (lv_room (Nat.le_of_ble_eq_true rfl)) dX12_command_25 ⟨Nat.le_of_ble_eq_true rfl, Nat.le_of_ble_eq_true rfl⟩) (fun H locs hP hS => ?_)
    refine lv_aload_n hx hb dX12_command_28 rfl (lv_at hl 0 rfl) ?_
    obtain ⟨u_9, hu_9, hF_10⟩ := Option.bind_eq_some_iff.mp hF_8
    clear hF_8
    refine m_ci hsz hS (va_runV (As := []) (rest := []) ⟨hx, hb, hml, hown, hts⟩ (m_X12_ends l dC dI cB cC cI cJ cZ cP h qK qS ad hDD H.size  u_7.2 _ hu_9) (cwV 0 hts (g_gV wq_1886 wq_1887 wq_2236 wq_13 wq_1888) rfl rfl rfl (by decide +kernel) ⟨Nat.le_of_ble_eq_true rfl, Nat.le_of_ble_eq_true rfl⟩) (m_preV g_bl0 hsz hK hP hS hE hKS g_to0) rfl rfl hl.1 rfl (lv_room (Nat.le_of_ble_eq_true rfl)) dX12_command_29 ⟨Nat.le_of_ble_eq_true rfl, Nat.le_of_ble_eq_true rfl⟩) (fun H locs hP hS => ?_)
    have h9 := Option.some.inj hF_10
    subst h9
    exact W.iret (v := u_9.1) hx hb hr (fun t ht hW => ⟨⟨u_9.1, (), rfl, rfl, m_end ht hP⟩, hS.F ht⟩) hS.2.2 dX12_command_32
  refine lv_if_le (tgt := 19) hx hb dX12_command_5 (by decide) (fun c_11 => ?_) (fun c_11 => ?_)
  · have hF_12 := ipos c_11 hF_5
    clear hF_5
    exact Jj_4  u_1.2 hF_12 _ _ hP hS ls (lv_sub hl [0, 1, 2, 3, 4] rfl)
  · have hF_13 := ineg c_11 hF_5
    clear hF_5
    refine lv_iload_n hx hb dX12_command_8 rfl (lv_at hl 1 rfl) ?_
    refine lv_bipush (v := 11) hx hb dX12_command_9 (by decide +kernel) ?_
    refine lv_icmp_eq (tgt := 19) hx hb dX12_command_11 (by decide) (fun c_14 => ?_) (fun c_14 => ?_)
    · have hF_15 := ipos c_14 hF_13
      clear hF_13
      exact Jj_4  u_1.2 hF_15 _ _ hP hS ls (lv_sub hl [0, 1, 2, 3, 4] rfl)
    · have hF_16 := ineg c_14 hF_13
      clear hF_13
      refine lv_aload_n hx hb dX12_command_14 rfl (lv_at hl 0 rfl) ?_
      refine lv_iload_n hx hb dX12_command_15 rfl (lv_at hl 3 rfl) ?_
      obtain ⟨σ_17, eσ_17, hF_18⟩ := bnd_e hF_16
      clear hF_16
      refine m_put (σ' := σ_17) (v := .int p2) (ty := .int) hx hb hts hown hK hP (hDD _ _) hS (by rw [eσ_17]; exact mwI_96) (k := 96) (by decide) (hts (.fieldLink RX12 665 "StoryHouseModel" "it" "I") wq_1452) (fun _ h9 => h9) rfl (by decide +kernel) rfl rfl dX12_command_16 (fun H locs hP hS => ?_)
      exact Jj_4  σ_17 hF_18 _ _ hP hS ls (lv_sub hl [0, 1, 2, 3, 4] rfl)
theorem dX12_no_0 : decode cX12_no 0 = .ok (.aload_n 0, 1) := by decide +kernel
theorem dX12_no_1 : decode cX12_no 1 = .ok (.aload_n 1, 1) := by decide +kernel
theorem dX12_no_2 : decode cX12_no 2 = .ok (.invokevirtual 768, 3) := by decide +kernel
theorem dX12_no_5 : decode cX12_no 5 = .ok (.iconst 0, 1) := by decide +kernel
theorem dX12_no_6 : decode cX12_no 6 = .ok (.ireturn, 1) := by decide +kernel
def F_X12_no (b0 : List Int32) (σ : MS) : MR :=
  (F_X12_line b0 σ).bind fun u_1 =>
  some (0, u_1.2)
set_option maxHeartbeats 4000000 in
set_option maxRecDepth 100000 in
theorem m_X12_no (l : Launch) (dC : Nat → ClassId) (dI : Nat → Nat → Nat) (cB cC cI cJ cZ cP : ClassId) (h qK qS : Nat) (ad : Nat → Nat) (hDD : mDis cB cI cZ h qK qS ad) (sz : Nat) (q0 vq0 : Nat) (b0 : List Int32) (σ : MS) (res : Int32 × MS) (hF : F_X12_no b0 σ = some res) : Met l yX12_no (g_ws yX12_no cX12_no 2 (some .int)) ({ frames := 7, cells := 0, slots := 0, locals := 168 }) (va_Pc [.ref h, .ref q0] (m_B (dC, dI) [(cB, .byte), (cC, .char), (cI, .int), (cJ, .long), (cZ, .boolean), (cP, .object "StoryHouse$Play")] sz h ad qK qS (mW cB cI cZ h qK qS ad σ) (fun U : State => g_S q0 vq0 b0 (mCells h ad sz) U U.heap))) (va_Qi (fun r (_ : Unit) => r = res.1) (fun _ t => va_P (dC, dI) vwCl (mW cB cI cZ h qK qS ad res.2) t.heap) (mCells h ad sz)) 0 0 (mCells h ad sz) := by
  refine Met.ofW (cc := cX12_no) (maxL := 2) (ret := (some .int)) (by decide) rfl ?_
  intro p e s m args below meth c s₁ B hml hv
  obtain ⟨rfl, hsz, hP, hK, hE, hKS, hX⟩ := hv
  have hStr_q0 := hX
  have hx := B.exec
  have hb := B.bytes
  have hr := B.returns
  have hts0 := atoms_spec (ws := g_ws yX12_no cX12_no 2 (some .int)) B.pre
  have hts : ∀ w ∈ lw_good, w.before ([.ref h, .ref q0] : List Value).toArray s = true := fun w z => hts0 w (List.mem_cons_of_mem _ z)
  have hown : s.vm.findClass RX12 = some m.cls := findClass_of_methodNamed B.named
  have hlocks := B.notSynchronized
  have hS : va_S (mCells h ad sz) s.heap s.heap [] := va_S.rf
  have hl := lv_entry ([.ref h, .ref q0]) (n := 2) (Nat.le_of_ble_eq_true rfl)
  rw [lg_entry_eq]
  generalize (lg_sl ([.ref h, .ref q0]) ++ List.replicate (2 - (lg_sl ([.ref h, .ref q0])).length) Slot.unset).toArray = ls at hl ⊢
  have hl : lv_has ls 2 [(0, .ref h), (1, .ref q0)] := hl
  unfold F_X12_no at hF
  refine lv_aload_n hx hb dX12_no_0 rfl (lv_at hl 0 rfl) ?_
  refine lv_aload_n hx hb dX12_no_1 rfl (lv_at hl 1 rfl) ?_
  obtain ⟨u_1, hu_1, hF_2⟩ := Option.bind_eq_some_iff.mp hF
  clear hF
  refine m_cv hsz hS (va_runV (As := [.ref q0]) (rest := []) ⟨hx, hb, hml, hown, hts⟩ (m_X12_line l dC dI cB cC cI cJ cZ cP h qK qS ad hDD s.heap.size q0 _ b0 σ _ hu_1) (cwV 1 hts (g_gV wq_1767 wq_1768 wq_2198 wq_13 wq_1769) rfl rfl rfl (by decide +kernel) ⟨Nat.le_of_ble_eq_true rfl, Nat.le_of_ble_eq_true rfl⟩) (m_preV g_blS hsz hK hP hS hE hKS (g_toS hStr_q0 hS (m_narrow hS hsz))) rfl rfl hl.1 rfl (lv_room (Nat.le_of_ble_eq_true rfl)) dX12_no_2 ⟨Nat.le_of_ble_eq_true rfl, Nat.le_of_ble_eq_true rfl⟩) (fun H locs hP hS => ?_)
  refine lv_iconst (v := 0) hx hb dX12_no_5 (by decide +kernel) ?_
  have h9 := Option.some.inj hF_2
  subst h9
  exact W.iret (v := 0) hx hb hr (fun t ht hW => ⟨⟨0, (), rfl, rfl, m_end ht hP⟩, hS.F ht⟩) hS.2.2 dX12_no_6
