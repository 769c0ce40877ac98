/-! methods of the reference: what each does is its function -/
theorem dX12_all_0 : decode cX12_all 0 = .ok (.iload_n 1, 1) := by decide +kernel
theorem dX12_all_1 : decode cX12_all 1 = .ok (.iconst 4, 1) := by decide +kernel
theorem dX12_all_2 : decode cX12_all 2 = .ok (.if_icmp .ne 12, 3) := by decide +kernel
theorem dX12_all_5 : decode cX12_all 5 = .ok (.aload_n 0, 1) := by decide +kernel
theorem dX12_all_6 : decode cX12_all 6 = .ok (.getfield 182, 3) := by decide +kernel
theorem dX12_all_9 : decode cX12_all 9 = .ok (.iconst 1, 1) := by decide +kernel
theorem dX12_all_10 : decode cX12_all 10 = .ok (.iaload, 1) := by decide +kernel
theorem dX12_all_11 : decode cX12_all 11 = .ok (.goto 4, 3) := by decide +kernel
theorem dX12_all_14 : decode cX12_all 14 = .ok (.iconst 1, 1) := by decide +kernel
theorem dX12_all_15 : decode cX12_all 15 = .ok (.istore_n 2, 1) := by decide +kernel
theorem dX12_all_16 : decode cX12_all 16 = .ok (.iconst 0, 1) := by decide +kernel
theorem dX12_all_17 : decode cX12_all 17 = .ok (.istore_n 3, 1) := by decide +kernel
theorem dX12_all_18 : decode cX12_all 18 = .ok (.iload_n 1, 1) := by decide +kernel
theorem dX12_all_19 : decode cX12_all 19 = .ok (.iconst 4, 1) := by decide +kernel
theorem dX12_all_20 : decode cX12_all 20 = .ok (.if_icmp .ne 14, 3) := by decide +kernel
theorem dX12_all_23 : decode cX12_all 23 = .ok (.aload_n 0, 1) := by decide +kernel
theorem dX12_all_24 : decode cX12_all 24 = .ok (.invokevirtual 885, 3) := by decide +kernel
theorem dX12_all_27 : decode cX12_all 27 = .ok (.ifCond .ne 7, 3) := by decide +kernel
theorem dX12_all_30 : decode cX12_all 30 = .ok (.iconst 0, 1) := by decide +kernel
theorem dX12_all_31 : decode cX12_all 31 = .ok (.goto 9, 3) := by decide +kernel
theorem dX12_all_34 : decode cX12_all 34 = .ok (.aload_n 0, 1) := by decide +kernel
theorem dX12_all_35 : decode cX12_all 35 = .ok (.getfield 185, 3) := by decide +kernel
theorem dX12_all_38 : decode cX12_all 38 = .ok (.iload_n 2, 1) := by decide +kernel
theorem dX12_all_39 : decode cX12_all 39 = .ok (.iaload, 1) := by decide +kernel
theorem dX12_all_40 : decode cX12_all 40 = .ok (.istore 4, 2) := by decide +kernel
theorem dX12_all_42 : decode cX12_all 42 = .ok (.iload 4, 2) := by decide +kernel
theorem dX12_all_44 : decode cX12_all 44 = .ok (.ifCond .eq 59, 3) := by decide +kernel
theorem dX12_all_47 : decode cX12_all 47 = .ok (.aload_n 0, 1) := by decide +kernel
theorem dX12_all_48 : decode cX12_all 48 = .ok (.iload 4, 2) := by decide +kernel
theorem dX12_all_50 : decode cX12_all 50 = .ok (.iconst 2, 1) := by decide +kernel
theorem dX12_all_51 : decode cX12_all 51 = .ok (.iconst 1, 1) := by decide +kernel
theorem dX12_all_52 : decode cX12_all 52 = .ok (.invokevirtual 896, 3) := by decide +kernel
theorem dX12_all_55 : decode cX12_all 55 = .ok (.ifCond .ne 36, 3) := by decide +kernel
theorem dX12_all_58 : decode cX12_all 58 = .ok (.iload 4, 2) := by decide +kernel
theorem dX12_all_60 : decode cX12_all 60 = .ok (.iconst 1, 1) := by decide +kernel
theorem dX12_all_61 : decode cX12_all 61 = .ok (.if_icmp .eq 30, 3) := by decide +kernel
theorem dX12_all_64 : decode cX12_all 64 = .ok (.iload_n 1, 1) := by decide +kernel
theorem dX12_all_65 : decode cX12_all 65 = .ok (.iconst 4, 1) := by decide +kernel
theorem dX12_all_66 : decode cX12_all 66 = .ok (.if_icmp .ne 14, 3) := by decide +kernel
theorem dX12_all_69 : decode cX12_all 69 = .ok (.aload_n 0, 1) := by decide +kernel
theorem dX12_all_70 : decode cX12_all 70 = .ok (.iload 4, 2) := by decide +kernel
theorem dX12_all_72 : decode cX12_all 72 = .ok (.iconst 1, 1) := by decide +kernel
theorem dX12_all_73 : decode cX12_all 73 = .ok (.iconst 1, 1) := by decide +kernel
theorem dX12_all_74 : decode cX12_all 74 = .ok (.invokevirtual 896, 3) := by decide +kernel
theorem dX12_all_77 : decode cX12_all 77 = .ok (.ifCond .ne 14, 3) := by decide +kernel
theorem dX12_all_80 : decode cX12_all 80 = .ok (.aload_n 0, 1) := by decide +kernel
theorem dX12_all_81 : decode cX12_all 81 = .ok (.getfield 234, 3) := by decide +kernel
theorem dX12_all_84 : decode cX12_all 84 = .ok (.iload_n 3, 1) := by decide +kernel
theorem dX12_all_85 : decode cX12_all 85 = .ok (.iinc 3 1, 3) := by decide +kernel
theorem dX12_all_88 : decode cX12_all 88 = .ok (.iload 4, 2) := by decide +kernel
theorem dX12_all_90 : decode cX12_all 90 = .ok (.iastore, 1) := by decide +kernel
theorem dX12_all_91 : decode cX12_all 91 = .ok (.aload_n 0, 1) := by decide +kernel
theorem dX12_all_92 : decode cX12_all 92 = .ok (.getfield 188, 3) := by decide +kernel
theorem dX12_all_95 : decode cX12_all 95 = .ok (.iload 4, 2) := by decide +kernel
theorem dX12_all_97 : decode cX12_all 97 = .ok (.iaload, 1) := by decide +kernel
theorem dX12_all_98 : decode cX12_all 98 = .ok (.istore 4, 2) := by decide +kernel
theorem dX12_all_100 : decode cX12_all 100 = .ok (.goto (-58), 3) := by decide +kernel
theorem dX12_all_103 : decode cX12_all 103 = .ok (.iload_n 3, 1) := by decide +kernel
theorem dX12_all_104 : decode cX12_all 104 = .ok (.ifCond .ne 11, 3) := by decide +kernel
theorem dX12_all_107 : decode cX12_all 107 = .ok (.aload_n 0, 1) := by decide +kernel
theorem dX12_all_108 : decode cX12_all 108 = .ok (.ldc_w 932, 3) := by decide +kernel
theorem dX12_all_111 : decode cX12_all 111 = .ok (.invokevirtual 852, 3) := by decide +kernel
theorem dX12_all_114 : decode cX12_all 114 = .ok (.ireturn, 1) := by decide +kernel
theorem dX12_all_115 : decode cX12_all 115 = .ok (.aload_n 0, 1) := by decide +kernel
theorem dX12_all_116 : decode cX12_all 116 = .ok (.invokevirtual 911, 3) := by decide +kernel
theorem dX12_all_119 : decode cX12_all 119 = .ok (.iconst 0, 1) := by decide +kernel
theorem dX12_all_120 : decode cX12_all 120 = .ok (.istore 4, 2) := by decide +kernel
theorem dX12_all_122 : decode cX12_all 122 = .ok (.iload 4, 2) := by decide +kernel
theorem dX12_all_124 : decode cX12_all 124 = .ok (.iload_n 3, 1) := by decide +kernel
theorem dX12_all_125 : decode cX12_all 125 = .ok (.if_icmp .ge 67, 3) := by decide +kernel
theorem dX12_all_128 : decode cX12_all 128 = .ok (.aload_n 0, 1) := by decide +kernel
theorem dX12_all_129 : decode cX12_all 129 = .ok (.getfield 685, 3) := by decide +kernel
theorem dX12_all_132 : decode cX12_all 132 = .ok (.ifCond .ne 60, 3) := by decide +kernel
theorem dX12_all_135 : decode cX12_all 135 = .ok (.aload_n 0, 1) := by decide +kernel
theorem dX12_all_136 : decode cX12_all 136 = .ok (.getfield 234, 3) := by decide +kernel
theorem dX12_all_139 : decode cX12_all 139 = .ok (.iload 4, 2) := by decide +kernel
theorem dX12_all_141 : decode cX12_all 141 = .ok (.iaload, 1) := by decide +kernel
theorem dX12_all_142 : decode cX12_all 142 = .ok (.istore 5, 2) := by decide +kernel
theorem dX12_all_144 : decode cX12_all 144 = .ok (.aload_n 0, 1) := by decide +kernel
theorem dX12_all_145 : decode cX12_all 145 = .ok (.getfield 182, 3) := by decide +kernel
theorem dX12_all_148 : decode cX12_all 148 = .ok (.iload 5, 2) := by decide +kernel
theorem dX12_all_150 : decode cX12_all 150 = .ok (.iaload, 1) := by decide +kernel
theorem dX12_all_151 : decode cX12_all 151 = .ok (.iload_n 2, 1) := by decide +kernel
theorem dX12_all_152 : decode cX12_all 152 = .ok (.if_icmp .eq 6, 3) := by decide +kernel
theorem dX12_all_155 : decode cX12_all 155 = .ok (.goto 31, 3) := by decide +kernel
theorem dX12_all_158 : decode cX12_all 158 = .ok (.aload_n 0, 1) := by decide +kernel
theorem dX12_all_159 : decode cX12_all 159 = .ok (.iload 5, 2) := by decide +kernel
theorem dX12_all_161 : decode cX12_all 161 = .ok (.putfield 665, 3) := by decide +kernel
theorem dX12_all_164 : decode cX12_all 164 = .ok (.aload_n 0, 1) := by decide +kernel
theorem dX12_all_165 : decode cX12_all 165 = .ok (.iload 5, 2) := by decide +kernel
theorem dX12_all_167 : decode cX12_all 167 = .ok (.invokevirtual 783, 3) := by decide +kernel
theorem dX12_all_170 : decode cX12_all 170 = .ok (.aload_n 0, 1) := by decide +kernel
theorem dX12_all_171 : decode cX12_all 171 = .ok (.ldc_w 934, 3) := by decide +kernel
theorem dX12_all_174 : decode cX12_all 174 = .ok (.invokevirtual 673, 3) := by decide +kernel
theorem dX12_all_177 : decode cX12_all 177 = .ok (.aload_n 0, 1) := by decide +kernel
theorem dX12_all_178 : decode cX12_all 178 = .ok (.iload_n 1, 1) := by decide +kernel
theorem dX12_all_179 : decode cX12_all 179 = .ok (.iconst 1, 1) := by decide +kernel
theorem dX12_all_180 : decode cX12_all 180 = .ok (.iload 5, 2) := by decide +kernel
theorem dX12_all_182 : decode cX12_all 182 = .ok (.iconst 0, 1) := by decide +kernel
theorem dX12_all_183 : decode cX12_all 183 = .ok (.invokevirtual 914, 3) := by decide +kernel
theorem dX12_all_186 : decode cX12_all 186 = .ok (.iinc 4 1, 3) := by decide +kernel
theorem dX12_all_189 : decode cX12_all 189 = .ok (.goto (-67), 3) := by decide +kernel
theorem dX12_all_192 : decode cX12_all 192 = .ok (.aload_n 0, 1) := by decide +kernel
theorem dX12_all_193 : decode cX12_all 193 = .ok (.invokevirtual 918, 3) := by decide +kernel
theorem dX12_all_196 : decode cX12_all 196 = .ok (.ireturn, 1) := by decide +kernel
def F_X12_all (p0 : Int32) (σ : MS) : MR :=
  bnd (fun (t_1 : Int32) (σ_2 : MS) => (
    bnd (fun (t_6 : Int32) (σ_7 : MS) => (
      loopF (fun (again_12 : (Int32 × Int32 × MS) → MR) (s_11 : Int32 × Int32 × MS) => (
        if s_11.2.1 = 0 then (
          if s_11.1 = 0 then (
            (F_X12_no ([84, 104, 101, 114, 101, 32, 105, 115, 32, 110, 111, 116, 104, 105, 110, 103, 32, 116, 111, 32, 100, 111, 46] : List Int32) s_11.2.2).bind fun u_20 =>
            some (u_20.1, u_20.2)
          ) else (
            (F_X12_starts s_11.2.2).bind fun u_23 =>
            loopF (fun (again_26 : (Int32 × MS) → MR) (s_25 : Int32 × MS) => (
              bnd (fun  (σ_29 : MS) => (
                (F_X12_ends σ_29).bind fun u_33 =>
                some (u_33.1, u_33.2)
              ) : MS → MR) fun j_30 =>
              if s_11.1 ≤ s_25.1 then (
                j_30  s_25.2
              ) else (
                if (s_25.2.1 104) = 0 then (
                  if s_25.1 < 0 ∨ 121 ≤ s_25.1.toNatClampNeg then none else
                  bnd ((s_25.2.2 121 s_25.1.toNatClampNeg)) fun (x_42 : Int32) =>
                  if x_42 < 0 ∨ 121 ≤ x_42.toNatClampNeg then none else
                  bnd (fun  (σ_46 : MS) => (
                    bnd (s_25.1 + 1) fun (x_50 : Int32) =>
                    again_26 (x_50, σ_46)
                  ) : MS → MR) fun j_47 =>
                  if (s_25.2.2 87 x_42.toNatClampNeg) = t_1 then (
                    bnd (mI s_25.2 96 x_42) fun σ_54 =>
                    (F_X12_sayName x_42 σ_54).bind fun u_56 =>
                    (F_X12_say ([58, 32] : List Int32) u_56.2).bind fun u_59 =>
                    (F_X12_act p0 1 x_42 0 u_59.2).bind fun u_61 =>
                    j_47  u_61.2
                  ) else (
                    j_47  s_25.2
                  )
                ) else (
                  j_30  s_25.2
                )
              )
            )) FU (0, u_23.2)
          )
        ) else (
          (F_X12_has s_11.2.1 2 1 s_11.2.2).bind fun u_66 =>
          bnd (fun (v3_68 : Int32) (σ_69 : MS) => (
            if s_11.2.1 < 0 ∨ 121 ≤ s_11.2.1.toNatClampNeg then none else
            bnd ((σ_69.2 89 s_11.2.1.toNatClampNeg)) fun (x_75 : Int32) =>
            again_12 (v3_68, x_75, σ_69)
          ) : Int32 → MS → MR) fun j_70 =>
          if u_66.1 = 0 then (
            if s_11.2.1 = 1 then (
              j_70 s_11.1 u_66.2
            ) else (
              bnd (fun  (σ_82 : MS) => (
                bnd (s_11.1 + 1) fun (x_86 : Int32) =>
                if s_11.1 < 0 ∨ 121 ≤ s_11.1.toNatClampNeg then none else
                bnd (mA σ_82 121 (upd (σ_82.2 121) s_11.1.toNatClampNeg s_11.2.1)) fun σ_90 =>
                j_70 x_86 σ_90
              ) : MS → MR) fun j_83 =>
              if p0 = 4 then (
                (F_X12_has s_11.2.1 1 1 u_66.2).bind fun u_94 =>
                if u_94.1 = 0 then (
                  j_83  u_94.2
                ) else (
                  j_70 s_11.1 u_94.2
                )
              ) else (
                j_83  u_66.2
              )
            )
          ) else (
            j_70 s_11.1 u_66.2
          )
        )
      )) FU (0, t_6, σ_7)
    ) : Int32 → MS → MR) fun j_8 =>
    bnd (fun  (σ_101 : MS) => (
      if t_1 < 0 ∨ 121 ≤ t_1.toNatClampNeg then none else
      j_8 (σ_101.2 88 t_1.toNatClampNeg) σ_101
    ) : MS → MR) fun j_102 =>
    if p0 = 4 then (
      (F_X12_isLight σ_2).bind fun u_109 =>
      if u_109.1 = 0 then (
        j_8 0 u_109.2
      ) else (
        j_102  u_109.2
      )
    ) else (
      j_102  σ_2
    )
  ) : Int32 → MS → MR) fun j_3 =>
  if p0 = 4 then (
    j_3 (σ.2 87 (1 : Int32).toNatClampNeg) σ
  ) else (
    j_3 1 σ
  )
set_option maxHeartbeats 4000000 in
set_option maxRecDepth 100000 in
theorem m_X12_all (l : Launch) (dC : Nat → ClassId) (dI : Nat → Nat → Nat) (cB cC cI cJ cZ cP : ClassId) (h qK qS : Nat) (ad : Nat → Nat) (hDD : mDis cB cI cZ h qK qS ad) (sz : Nat)  (p0 : Int32) (σ : MS) (res : Int32 × MS) (hF : F_X12_all p0 σ = some res) : Met l yX12_all (g_ws yX12_all cX12_all 6 (some .int)) ({ frames := 1310, cells := 0, slots := 0, locals := 34042 }) (va_Pc [.ref h, .int p0] (m_B (dC, dI) [(cB, .byte), (cC, .char), (cI, .int), (cJ, .long), (cZ, .boolean), (cP, .object "StoryHouse$Play")] sz h ad qK qS (mW cB cI cZ h qK qS ad σ) g_0)) (va_Qi (fun r (_ : Unit) => r = res.1) (fun _ t => va_P (dC, dI) vwCl (mW cB cI cZ h qK qS ad res.2) t.heap) (mCells h ad sz)) 0 0 (mCells h ad sz) := by
  refine Met.ofW (cc := cX12_all) (maxL := 6) (ret := (some .int)) (by decide) rfl ?_
  intro p e s m args below meth c s₁ B hml hv
  obtain ⟨rfl, hsz, hP, hK, hE, hKS, hX⟩ := hv
  have hx := B.exec
  have hb := B.bytes
  have hr := B.returns
  have hts0 := atoms_spec (ws := g_ws yX12_all cX12_all 6 (some .int)) B.pre
  have hts : ∀ w ∈ lw_good, w.before ([.ref h, .int p0] : List Value).toArray s = true := fun w z => hts0 w (List.mem_cons_of_mem _ z)
  have hown : s.vm.findClass RX12 = some m.cls := findClass_of_methodNamed B.named
  have hlocks := B.notSynchronized
  have hS : va_S (mCells h ad sz) s.heap s.heap [] := va_S.rf
  have hl := lv_entry ([.ref h, .int p0]) (n := 6) (Nat.le_of_ble_eq_true rfl)
  rw [lg_entry_eq]
  generalize (lg_sl ([.ref h, .int p0]) ++ List.replicate (6 - (lg_sl ([.ref h, .int p0])).length) Slot.unset).toArray = ls at hl ⊢
  have hl : lv_has ls 6 [(0, .ref h), (1, .int p0)] := hl
  unfold F_X12_all at hF
  refine lv_iload_n hx hb dX12_all_0 rfl (lv_at hl 1 rfl) ?_
  refine lv_iconst (v := 4) hx hb dX12_all_1 (by decide +kernel) ?_
  obtain ⟨j_3, ej_3, hF_4⟩ := bnd_e hF
  clear hF
  have Jj_3 : ∀ (t_1 : Int32) (σ_2 : MS), j_3 t_1 σ_2 = some res → ∀ (H : Heap) (locs : List Loc), va_P (dC, dI) vwCl (mW cB cI cZ h qK qS ad σ_2) H → va_S (mCells h ad sz) s.heap H locs → ∀ ls : Array Slot, lv_has ls 6 [(0, .ref h), (1, .int p0)] → W p l e (headSpec (g_ws yX12_all cX12_all 6 (some .int)) { frames := 1310, cells := 0, slots := 0, locals := 34042 }).room s m ([.ref h, .int p0] : List Value).toArray below meth c H locs 0 0 (MQ below (va_Qi (fun r (_ : Unit) => r = res.1) (fun _ t => va_P (dC, dI) vwCl (mW cB cI cZ h qK qS ad res.2) t.heap) (mCells h ad sz)) ([.ref h, .int p0] : List Value).toArray s 0 0 (mCells h ad sz)) (F0 m 15 ls [.int t_1]) := by
    intro t_1 σ_2 hF0 H locs hP hS ls hl
    subst ej_3
    have hF_5 := hF0
    clear hF0
    refine lv_istore_n (lv' := [(2, .int t_1), (0, .ref h), (1, .int p0)]) hx hb dX12_all_15 rfl hl (by decide) rfl (fun ls hl => ?_)
    refine lv_iconst (v := 0) hx hb dX12_all_16 (by decide +kernel) ?_
    refine lv_istore_n (lv' := [(3, .int 0), (2, .int t_1), (0, .ref h), (1, .int p0)]) hx hb dX12_all_17 rfl hl (by decide) rfl (fun ls hl => ?_)
    refine lv_iload_n hx hb dX12_all_18 rfl (lv_at hl 3 rfl) ?_
    refine lv_iconst (v := 4) hx hb dX12_all_19 (by decide +kernel) ?_
    obtain ⟨j_8, ej_8, hF_9⟩ := bnd_e hF_5
    clear hF_5
    have Jj_8 : ∀ (t_6 : Int32) (σ_7 : MS), j_8 t_6 σ_7 = some res → ∀ (H : Heap) (locs : List Loc), va_P (dC, dI) vwCl (mW cB cI cZ h qK qS ad σ_7) H → va_S (mCells h ad sz) s.heap H locs → ∀ ls : Array Slot, lv_has ls 6 [(0, .ref h), (1, .int p0), (2, .int t_1), (3, .int 0)] → W p l e (headSpec (g_ws yX12_all cX12_all 6 (some .int)) { frames := 1310, cells := 0, slots := 0, locals := 34042 }).room s m ([.ref h, .int p0] : List Value).toArray below meth c H locs 0 0 (MQ below (va_Qi (fun r (_ : Unit) => r = res.1) (fun _ t => va_P (dC, dI) vwCl (mW cB cI cZ h qK qS ad res.2) t.heap) (mCells h ad sz)) ([.ref h, .int p0] : List Value).toArray s 0 0 (mCells h ad sz)) (F0 m 40 ls [.int t_6]) := by
      intro t_6 σ_7 hF0 H locs hP hS ls hl
      subst ej_8
      have hF_10 := hF0
      clear hF0
      refine lv_istore (lv' := [(4, .int t_6), (0, .ref h), (1, .int p0), (2, .int t_1), (3, .int 0)]) hx hb dX12_all_40 hl (by decide) rfl (fun ls hl => ?_)
      refine loopF_ind (P := fun (s_11 : Int32 × Int32 × MS) => ∀ (H : Heap) (locs : List Loc), va_P (dC, dI) vwCl (mW cB cI cZ h qK qS ad s_11.2.2) H → va_S (mCells h ad sz) s.heap H locs → ∀ ls : Array Slot, lv_has ls 6 [(0, .ref h), (1, .int p0), (2, .int t_1), (3, .int s_11.1), (4, .int s_11.2.1)] → W p l e (headSpec (g_ws yX12_all cX12_all 6 (some .int)) { frames := 1310, cells := 0, slots := 0, locals := 34042 }).room s m ([.ref h, .int p0] : List Value).toArray below meth c H locs 0 0 (MQ below (va_Qi (fun r (_ : Unit) => r = res.1) (fun _ t => va_P (dC, dI) vwCl (mW cB cI cZ h qK qS ad res.2) t.heap) (mCells h ad sz)) ([.ref h, .int p0] : List Value).toArray s 0 0 (mCells h ad sz)) (F0 m 42 ls [])) ?_ _ _ hF_10 _ _ hP hS ls (lv_sub hl [1, 2, 3, 4, 0] rfl)
      intro again_12 s_11 ih_13 hF_14
      intro H locs hP hS ls hl
      refine lv_iload hx hb dX12_all_42 (lv_at hl 4 rfl) ?_
      refine lv_if_eq (tgt := 103) hx hb dX12_all_44 (by decide) (fun c_15 => ?_) (fun c_15 => ?_)
      · have hF_16 := ipos c_15 hF_14
        clear hF_14
        refine lv_iload_n hx hb dX12_all_103 rfl (lv_at hl 3 rfl) ?_
        refine lv_if_ne (tgt := 115) hx hb dX12_all_104 (by decide) (fun c_17 => ?_) (fun c_17 => ?_)
        · have hF_22 := ineg c_17 hF_16
          clear hF_16
          refine lv_aload_n hx hb dX12_all_115 rfl (lv_at hl 0 rfl) ?_
          obtain ⟨u_23, hu_23, hF_24⟩ := Option.bind_eq_some_iff.mp hF_22
          clear hF_22
          refine m_cv hsz hS (va_runV (As := []) (rest := []) ⟨hx, hb, hml, hown, hts⟩ (m_X12_starts l dC dI cB cC cI cJ cZ cP h qK qS ad hDD H.size  s_11.2.2 _ hu_23) (cwV 0 hts (g_gV wq_1801 wq_1802 wq_2208 wq_13 wq_1803) rfl rfl rfl (by decide +kernel) ⟨Nat.le_of_ble_eq_true rfl, Nat.le_of_ble_eq_true rfl⟩) (m_preV g_bl0 hsz hK hP hS hE hKS g_to0) rfl rfl hl.1 rfl (lv_room (Nat.le_of_ble_eq_true rfl)) dX12_all_116 ⟨Nat.le_of_ble_eq_true rfl, Nat.le_of_ble_eq_true rfl⟩) (fun H locs hP hS => ?_)
          refine lv_iconst (v := 0) hx hb dX12_all_119 (by decide +kernel) ?_
          refine lv_istore (lv' := [(4, .int 0), (0, .ref h), (1, .int p0), (2, .int t_1), (3, .int s_11.1)]) hx hb dX12_all_120 hl (by decide) rfl (fun ls hl => ?_)
          refine loopF_ind (P := fun (s_25 : Int32 × MS) => ∀ (H : Heap) (locs : List Loc), va_P (dC, dI) vwCl (mW cB cI cZ h qK qS ad s_25.2) H → va_S (mCells h ad sz) s.heap H locs → ∀ ls : Array Slot, lv_has ls 6 [(0, .ref h), (1, .int p0), (2, .int t_1), (3, .int s_11.1), (4, .int s_25.1)] → W p l e (headSpec (g_ws yX12_all cX12_all 6 (some .int)) { frames := 1310, cells := 0, slots := 0, locals := 34042 }).room s m ([.ref h, .int p0] : List Value).toArray below meth c H locs 0 0 (MQ below (va_Qi (fun r (_ : Unit) => r = res.1) (fun _ t => va_P (dC, dI) vwCl (mW cB cI cZ h qK qS ad res.2) t.heap) (mCells h ad sz)) ([.ref h, .int p0] : List Value).toArray s 0 0 (mCells h ad sz)) (F0 m 122 ls [])) ?_ _ _ hF_24 _ _ hP hS ls (lv_sub hl [1, 2, 3, 4, 0] rfl)
          intro again_26 s_25 ih_27 hF_28
          intro H locs hP hS ls hl
          refine lv_iload hx hb dX12_all_122 (lv_at hl 4 rfl) ?_
          refine lv_iload_n hx hb dX12_all_124 rfl (lv_at hl 3 rfl) ?_
          obtain ⟨j_30, ej_30, hF_31⟩ := bnd_e hF_28
          clear hF_28
          have Jj_30 : ∀  (σ_29 : MS), j_30  σ_29 = some res → ∀ (H : Heap) (locs : List Loc), va_P (dC, dI) vwCl (mW cB cI cZ h qK qS ad σ_29) H → va_S (mCells h ad sz) s.heap H locs → ∀ ls : Array Slot, lv_has ls 6 [(0, .ref h)] → W p l e (headSpec (g_ws yX12_all cX12_all 6 (some .int)) { frames := 1310, cells := 0, slots := 0, locals := 34042 }).room s m ([.ref h, .int p0] : List Value).toArray below meth c H locs 0 0 (MQ below (va_Qi (fun r (_ : Unit) => r = res.1) (fun _ t => va_P (dC, dI) vwCl (mW cB cI cZ h qK qS ad res.2) t.heap) (mCells h ad sz)) ([.ref h, .int p0] : List Value).toArray s 0 0 (mCells h ad sz)) (F0 m 192 ls []) := by
            intro  σ_29 hF0 H locs hP hS ls hl
            subst ej_30
            have hF_32 := hF0
            clear hF0
            refine lv_aload_n hx hb dX12_all_192 rfl (lv_at hl 0 rfl) ?_
            obtain ⟨u_33, hu_33, hF_34⟩ := Option.bind_eq_some_iff.mp hF_32
            clear hF_32
            refine m_ci hsz hS (va_runV (As := []) (rest := []) ⟨hx, hb, hml, hown, hts⟩ (m_X12_ends l dC dI cB cC cI cJ cZ cP h qK qS ad hDD H.size  σ_29 _ hu_33) (cwV 0 hts (g_gV wq_1886 wq_1887 wq_2236 wq_13 wq_1888) rfl rfl rfl (by decide +kernel) ⟨Nat.le_of_ble_eq_true rfl, Nat.le_of_ble_eq_true rfl⟩) (m_preV g_bl0 hsz hK hP hS hE hKS g_to0) rfl rfl hl.1 rfl (lv_room (Nat.le_of_ble_eq_true rfl)) dX12_all_193 ⟨Nat.le_of_ble_eq_true rfl, Nat.le_of_ble_eq_true rfl⟩) (fun H locs hP hS => ?_)
            have h9 := Option.some.inj hF_34
            subst h9
            exact W.iret (v := u_33.1) hx hb hr (fun t ht hW => ⟨⟨u_33.1, (), rfl, rfl, m_end ht hP⟩, hS.F ht⟩) hS.2.2 dX12_all_196
          refine lv_icmp_ge (tgt := 192) hx hb dX12_all_125 (by decide) (fun c_35 => ?_) (fun c_35 => ?_)
          · have hF_36 := ipos c_35 hF_31
            clear hF_31
            exact Jj_30  s_25.2 hF_36 _ _ hP hS ls (lv_sub hl [0] rfl)
          · have hF_37 := ineg c_35 hF_31
            clear hF_31
            refine lv_aload_n hx hb dX12_all_128 rfl (lv_at hl 0 rfl) ?_
            refine va_get (D := (dC, dI)) (ci := 12) (v := .int (s_25.2.1 104)) (C := RX12) (T := TX12) (N := 123) hx hb hts ii_X12 hown hK hP 0 rfl rfl 104 (by decide) (hts (.fieldLink RX12 685 "StoryHouseModel" "stop" "I") wq_1460) (fun _ h9 => h9) rfl dX12_all_129 ?_
            refine lv_if_ne (tgt := 192) hx hb dX12_all_132 (by decide) (fun c_38 => ?_) (fun c_38 => ?_)
            · have hF_64 := ineg c_38 hF_37
              clear hF_37
              exact Jj_30  s_25.2 hF_64 _ _ hP hS ls (lv_sub hl [0] rfl)
            · have hF_39 := ipos c_38 hF_37
              clear hF_37
              refine lv_aload_n hx hb dX12_all_135 rfl (lv_at hl 0 rfl) ?_
              refine va_get (D := (dC, dI)) (ci := 12) (v := .ref (ad 121)) (C := RX12) (T := TX12) (N := 123) hx hb hts ii_X12 hown hK hP 0 rfl rfl 121 (by decide) (hts (.fieldLink RX12 234 "StoryHouseModel" "listed" "[I") wq_1477) (fun _ h9 => h9) rfl dX12_all_136 ?_
              refine lv_iload hx hb dX12_all_139 (lv_at hl 4 rfl) ?_
              obtain ⟨g_40, hF_41⟩ := nif_e hF_39
              clear hF_39
              refine va_iald (f := s_25.2.2 121) hx hb hK hP 68 2 rfl rfl g_40 dX12_all_141 ?_
              obtain ⟨x_42, ex_42, hF_43⟩ := bnd_e hF_41
              clear hF_41
              refine m_top ex_42 ?_
              refine lv_istore (lv' := [(5, .int x_42), (0, .ref h), (1, .int p0), (2, .int t_1), (3, .int s_11.1), (4, .int s_25.1)]) hx hb dX12_all_142 hl (by decide) rfl (fun ls hl => ?_)
              refine lv_aload_n hx hb dX12_all_144 rfl (lv_at hl 1 rfl) ?_
              refine va_get (D := (dC, dI)) (ci := 12) (v := .ref (ad 87)) (C := RX12) (T := TX12) (N := 123) hx hb hts ii_X12 hown hK hP 0 rfl rfl 87 (by decide) (hts (.fieldLink RX12 182 "StoryHouseModel" "holder" "[I") wq_1443) (fun _ h9 => h9) rfl dX12_all_145 ?_
              refine lv_iload hx hb dX12_all_148 (lv_at hl 0 rfl) ?_
              obtain ⟨g_44, hF_45⟩ := nif_e hF_43
              clear hF_43
              refine va_iald (f := s_25.2.2 87) hx hb hK hP 52 2 rfl rfl g_44 dX12_all_150 ?_
              refine lv_iload_n hx hb dX12_all_151 rfl (lv_at hl 3 rfl) ?_
              obtain ⟨j_47, ej_47, hF_48⟩ := bnd_e hF_45
              clear hF_45
              have Jj_47 : ∀  (σ_46 : MS), j_47  σ_46 = some res → ∀ (H : Heap) (locs : List Loc), va_P (dC, dI) vwCl (mW cB cI cZ h qK qS ad σ_46) H → va_S (mCells h ad sz) s.heap H locs → ∀ ls : Array Slot, lv_has ls 6 [(0, .ref h), (1, .int p0), (2, .int t_1), (3, .int s_11.1), (4, .int s_25.1)] → W p l e (headSpec (g_ws yX12_all cX12_all 6 (some .int)) { frames := 1310, cells := 0, slots := 0, locals := 34042 }).room s m ([.ref h, .int p0] : List Value).toArray below meth c H locs 0 0 (MQ below (va_Qi (fun r (_ : Unit) => r = res.1) (fun _ t => va_P (dC, dI) vwCl (mW cB cI cZ h qK qS ad res.2) t.heap) (mCells h ad sz)) ([.ref h, .int p0] : List Value).toArray s 0 0 (mCells h ad sz)) (F0 m 186 ls []) := by
                intro  σ_46 hF0 H locs hP hS ls hl
                subst ej_47
                have hF_49 := hF0
                clear hF0
                obtain ⟨x_50, ex_50, hF_51⟩ := bnd_e hF_49
                clear hF_49
                refine lv_iinc (v := x_50) (lv' := [(4, .int x_50), (0, .ref h), (1, .int p0), (2, .int t_1), (3, .int s_11.1)]) hx hb dX12_all_186 hl (k := 4) rfl (by rw [ex_50]; rfl) (by decide) rfl (fun ls hl => ?_)
                refine lv_goto (tgt := 122) hx hb dX12_all_189 (by decide) ?_
                exact ih_27 (x_50, σ_46) hF_51 _ _ hP hS ls (lv_sub hl [1, 2, 3, 4, 0] rfl)
              refine lv_icmp_eq (tgt := 158) hx hb dX12_all_152 (by decide) (fun c_52 => ?_) (fun c_52 => ?_)
              · have hF_53 := ipos c_52 hF_48
                clear hF_48
                refine lv_aload_n hx hb dX12_all_158 rfl (lv_at hl 1 rfl) ?_
                refine lv_iload hx hb dX12_all_159 (lv_at hl 0 rfl) ?_
                obtain ⟨σ_54, eσ_54, hF_55⟩ := bnd_e hF_53
                clear hF_53
                refine m_put (σ' := σ_54) (v := .int x_42) (ty := .int) hx hb hts hown hK hP (hDD _ _) hS (by rw [eσ_54]; exact mwI_96) (k := 96) (by decide) (hts (.fieldLink RX12 665 "StoryHouseModel" "it" "I") wq_1452) (fun _ h9 => h9) rfl (by decide +kernel) rfl rfl dX12_all_161 (fun H locs hP hS => ?_)
                refine lv_aload_n hx hb dX12_all_164 rfl (lv_at hl 1 rfl) ?_
                refine lv_iload hx hb dX12_all_165 (lv_at hl 0 rfl) ?_
                obtain ⟨u_56, hu_56, hF_57⟩ := Option.bind_eq_some_iff.mp hF_55
                clear hF_55
                refine m_cv hsz hS (va_runV (As := [.int x_42]) (rest := []) ⟨hx, hb, hml, hown, hts⟩ (m_X12_sayName l dC dI cB cC cI cJ cZ cP h qK qS ad hDD H.size  x_42 σ_54 _ hu_56) (cwV 1 hts (g_gV wq_1776 wq_1777 wq_2201 wq_13 wq_1778) rfl rfl rfl (by decide +kernel) ⟨Nat.le_of_ble_eq_true rfl, Nat.le_of_ble_eq_true rfl⟩) (m_preV g_bl0 hsz hK hP hS hE hKS g_to0) rfl rfl hl.1 rfl (lv_room (Nat.le_of_ble_eq_true rfl)) dX12_all_167 ⟨Nat.le_of_ble_eq_true rfl, Nat.le_of_ble_eq_true rfl⟩) (fun H locs hP hS => ?_)
                refine lv_aload_n hx hb dX12_all_170 rfl (lv_at hl 1 rfl) ?_
                obtain ⟨q_58, vq_58, hRq_58, hSq_58⟩ := hE.2.2.2.2 _ (List.mem_of_getElem? (i := 156) rfl)
                refine g_ldcwS (own := RX12) (tx := ": ") hx hb hown hRq_58 dX12_all_171 ?_
                obtain ⟨u_59, hu_59, hF_60⟩ := Option.bind_eq_some_iff.mp hF_57
                clear hF_57
                refine m_cv hsz hS (va_runV (As := [.ref q_58]) (rest := []) ⟨hx, hb, hml, hown, hts⟩ (m_X12_say l dC dI cB cC cI cJ cZ cP h qK qS ad hDD H.size q_58 _ ([58, 32] : List Int32) u_56.2 _ hu_59) (cwV 1 hts (g_gV wq_1770 wq_1771 wq_2199 wq_13 wq_1772) rfl rfl rfl (by decide +kernel) ⟨Nat.le_of_ble_eq_true rfl, Nat.le_of_ble_eq_true rfl⟩) (m_preV g_blS hsz hK hP hS hE hKS (g_toS hSq_58 hS (m_narrow hS hsz))) rfl rfl hl.1 rfl (lv_room (Nat.le_of_ble_eq_true rfl)) dX12_all_174 ⟨Nat.le_of_ble_eq_true rfl, Nat.le_of_ble_eq_true rfl⟩) (fun H locs hP hS => ?_)
                refine lv_aload_n hx hb dX12_all_177 rfl (lv_at hl 1 rfl) ?_
                refine lv_iload_n hx hb dX12_all_178 rfl (lv_at hl 2 rfl) ?_
                refine lv_iconst (v := 1) hx hb dX12_all_179 (by decide +kernel) ?_
                refine lv_iload hx hb dX12_all_180 (lv_at hl 0 rfl) ?_
                refine lv_iconst (v := 0) hx hb dX12_all_182 (by decide +kernel) ?_
                obtain ⟨u_61, hu_61, hF_62⟩ := Option.bind_eq_some_iff.mp hF_60
                clear hF_60
                refine m_cv hsz hS (va_runV (As := [.int p0, .int 1, .int x_42, .int 0]) (rest := []) ⟨hx, hb, hml, hown, hts⟩ (m_X12_act l dC dI cB cC cI cJ cZ cP h qK qS ad hDD H.size  p0 1 x_42 0 u_59.2 _ hu_61) (cwV 4 hts (g_gV wq_1807 wq_1808 wq_2210 wq_13 wq_1809) rfl rfl rfl (by decide +kernel) ⟨Nat.le_of_ble_eq_true rfl, Nat.le_of_ble_eq_true rfl⟩) (m_preV g_bl0 hsz hK hP hS hE hKS g_to0) rfl rfl hl.1 rfl (lv_room (Nat.le_of_ble_eq_true rfl)) dX12_all_183 ⟨Nat.le_of_ble_eq_true rfl, Nat.le_of_ble_eq_true rfl⟩) (fun H locs hP hS => ?_)
                exact Jj_47  u_61.2 hF_62 _ _ hP hS ls (lv_sub hl [1, 2, 3, 4, 5] rfl)
              · have hF_63 := ineg c_52 hF_48
                clear hF_48
                refine lv_goto (tgt := 186) hx hb dX12_all_155 (by decide) ?_
                exact Jj_47  s_25.2 hF_63 _ _ hP hS ls (lv_sub hl [1, 2, 3, 4, 5] rfl)
        · have hF_18 := ipos c_17 hF_16
          clear hF_16
          refine lv_aload_n hx hb dX12_all_107 rfl (lv_at hl 0 rfl) ?_
          obtain ⟨q_19, vq_19, hRq_19, hSq_19⟩ := hE.2.2.2.2 _ (List.mem_of_getElem? (i := 155) rfl)
          refine g_ldcwS (own := RX12) (tx := "There is nothing to do.") hx hb hown hRq_19 dX12_all_108 ?_
          obtain ⟨u_20, hu_20, hF_21⟩ := Option.bind_eq_some_iff.mp hF_18
          clear hF_18
          refine m_ci hsz hS (va_runV (As := [.ref q_19]) (rest := []) ⟨hx, hb, hml, hown, hts⟩ (m_X12_no l dC dI cB cC cI cJ cZ cP h qK qS ad hDD H.size q_19 _ ([84, 104, 101, 114, 101, 32, 105, 115, 32, 110, 111, 116, 104, 105, 110, 103, 32, 116, 111, 32, 100, 111, 46] : List Int32) s_11.2.2 _ hu_20) (cwV 1 hts (g_gV wq_1892 wq_1893 wq_2238 wq_13 wq_1894) rfl rfl rfl (by decide +kernel) ⟨Nat.le_of_ble_eq_true rfl, Nat.le_of_ble_eq_true rfl⟩) (m_preV g_blS hsz hK hP hS hE hKS (g_toS hSq_19 hS (m_narrow hS hsz))) rfl rfl hl.1 rfl (lv_room (Nat.le_of_ble_eq_true rfl)) dX12_all_111 ⟨Nat.le_of_ble_eq_true rfl, Nat.le_of_ble_eq_true rfl⟩) (fun H locs hP hS => ?_)
          have h9 := Option.some.inj hF_21
          subst h9
          exact W.iret (v := u_20.1) hx hb hr (fun t ht hW => ⟨⟨u_20.1, (), rfl, rfl, m_end ht hP⟩, hS.F ht⟩) hS.2.2 dX12_all_114
      · have hF_65 := ineg c_15 hF_14
        clear hF_14
        refine lv_aload_n hx hb dX12_all_47 rfl (lv_at hl 0 rfl) ?_
        refine lv_iload hx hb dX12_all_48 (lv_at hl 4 rfl) ?_
        refine lv_iconst (v := 2) hx hb dX12_all_50 (by decide +kernel) ?_
        refine lv_iconst (v := 1) hx hb dX12_all_51 (by decide +kernel) ?_
        obtain ⟨u_66, hu_66, hF_67⟩ := Option.bind_eq_some_iff.mp hF_65
        clear hF_65
        refine m_ci hsz hS (va_runV (As := [.int s_11.2.1, .int 2, .int 1]) (rest := []) ⟨hx, hb, hml, hown, hts⟩ (m_X12_has l dC dI cB cC cI cJ cZ cP h qK qS ad hDD H.size  s_11.2.1 2 1 s_11.2.2 _ hu_66) (cwV 3 hts (g_gV wq_1758 wq_1759 wq_2195 wq_13 wq_1760) rfl rfl rfl (by decide +kernel) ⟨Nat.le_of_ble_eq_true rfl, Nat.le_of_ble_eq_true rfl⟩) (m_preV g_bl0 hsz hK hP hS hE hKS g_to0) rfl rfl hl.1 rfl (lv_room (Nat.le_of_ble_eq_true rfl)) dX12_all_52 ⟨Nat.le_of_ble_eq_true rfl, Nat.le_of_ble_eq_true rfl⟩) (fun H locs hP hS => ?_)
        obtain ⟨j_70, ej_70, hF_71⟩ := bnd_e hF_67
        clear hF_67
        have Jj_70 : ∀ (v3_68 : Int32) (σ_69 : MS), j_70 v3_68 σ_69 = some res → ∀ (H : Heap) (locs : List Loc), va_P (dC, dI) vwCl (mW cB cI cZ h qK qS ad σ_69) H → va_S (mCells h ad sz) s.heap H locs → ∀ ls : Array Slot, lv_has ls 6 [(0, .ref h), (1, .int p0), (2, .int t_1), (3, .int v3_68), (4, .int s_11.2.1)] → W p l e (headSpec (g_ws yX12_all cX12_all 6 (some .int)) { frames := 1310, cells := 0, slots := 0, locals := 34042 }).room s m ([.ref h, .int p0] : List Value).toArray below meth c H locs 0 0 (MQ below (va_Qi (fun r (_ : Unit) => r = res.1) (fun _ t => va_P (dC, dI) vwCl (mW cB cI cZ h qK qS ad res.2) t.heap) (mCells h ad sz)) ([.ref h, .int p0] : List Value).toArray s 0 0 (mCells h ad sz)) (F0 m 91 ls []) := by
          intro v3_68 σ_69 hF0 H locs hP hS ls hl
          subst ej_70
          have hF_72 := hF0
          clear hF0
          refine lv_aload_n hx hb dX12_all_91 rfl (lv_at hl 0 rfl) ?_
          refine va_get (D := (dC, dI)) (ci := 12) (v := .ref (ad 89)) (C := RX12) (T := TX12) (N := 123) hx hb hts ii_X12 hown hK hP 0 rfl rfl 89 (by decide) (hts (.fieldLink RX12 188 "StoryHouseModel" "next" "[I") wq_1445) (fun _ h9 => h9) rfl dX12_all_92 ?_
          refine lv_iload hx hb dX12_all_95 (lv_at hl 4 rfl) ?_
          obtain ⟨g_73, hF_74⟩ := nif_e hF_72
          clear hF_72
          refine va_iald (f := σ_69.2 89) hx hb hK hP 54 2 rfl rfl g_73 dX12_all_97 ?_
          obtain ⟨x_75, ex_75, hF_76⟩ := bnd_e hF_74
          clear hF_74
          refine m_top ex_75 ?_
          refine lv_istore (lv' := [(4, .int x_75), (0, .ref h), (1, .int p0), (2, .int t_1), (3, .int v3_68)]) hx hb dX12_all_98 hl (by decide) rfl (fun ls hl => ?_)
          refine lv_goto (tgt := 42) hx hb dX12_all_100 (by decide) ?_
          exact ih_13 (v3_68, x_75, σ_69) hF_76 _ _ hP hS ls (lv_sub hl [1, 2, 3, 4, 0] rfl)
        refine lv_if_ne (tgt := 91) hx hb dX12_all_55 (by decide) (fun c_77 => ?_) (fun c_77 => ?_)
        · have hF_100 := ineg c_77 hF_71
          clear hF_71
          exact Jj_70 s_11.1 u_66.2 hF_100 _ _ hP hS ls (lv_sub hl [0, 1, 2, 3, 4] rfl)
        · have hF_78 := ipos c_77 hF_71
          clear hF_71
          refine lv_iload hx hb dX12_all_58 (lv_at hl 4 rfl) ?_
          refine lv_iconst (v := 1) hx hb dX12_all_60 (by decide +kernel) ?_
          refine lv_icmp_eq (tgt := 91) hx hb dX12_all_61 (by decide) (fun c_79 => ?_) (fun c_79 => ?_)
          · have hF_80 := ipos c_79 hF_78
            clear hF_78
            exact Jj_70 s_11.1 u_66.2 hF_80 _ _ hP hS ls (lv_sub hl [0, 1, 2, 3, 4] rfl)
          · have hF_81 := ineg c_79 hF_78
            clear hF_78
            refine lv_iload_n hx hb dX12_all_64 rfl (lv_at hl 1 rfl) ?_
            refine lv_iconst (v := 4) hx hb dX12_all_65 (by decide +kernel) ?_
            obtain ⟨j_83, ej_83, hF_84⟩ := bnd_e hF_81
            clear hF_81
            have Jj_83 : ∀  (σ_82 : MS), j_83  σ_82 = some res → ∀ (H : Heap) (locs : List Loc), va_P (dC, dI) vwCl (mW cB cI cZ h qK qS ad σ_82) H → va_S (mCells h ad sz) s.heap H locs → ∀ ls : Array Slot, lv_has ls 6 [(0, .ref h), (1, .int p0), (2, .int t_1), (3, .int s_11.1), (4, .int s_11.2.1)] → W p l e (headSpec (g_ws yX12_all cX12_all 6 (some .int)) { frames := 1310, cells := 0, slots := 0, locals := 34042 }).room s m ([.ref h, .int p0] : List Value).toArray below meth c H locs 0 0 (MQ below (va_Qi (fun r (_ : Unit) => r = res.1) (fun _ t => va_P (dC, dI) vwCl (mW cB cI cZ h qK qS ad res.2) t.heap) (mCells h ad sz)) ([.ref h, .int p0] : List Value).toArray s 0 0 (mCells h ad sz)) (F0 m 80 ls []) := by
              intro  σ_82 hF0 H locs hP hS ls hl
              subst ej_83
              have hF_85 := hF0
              clear hF0
              refine lv_aload_n hx hb dX12_all_80 rfl (lv_at hl 0 rfl) ?_
              refine va_get (D := (dC, dI)) (ci := 12) (v := .ref (ad 121)) (C := RX12) (T := TX12) (N := 123) hx hb hts ii_X12 hown hK hP 0 rfl rfl 121 (by decide) (hts (.fieldLink RX12 234 "StoryHouseModel" "listed" "[I") wq_1477) (fun _ h9 => h9) rfl dX12_all_81 ?_
              refine lv_iload_n hx hb dX12_all_84 rfl (lv_at hl 3 rfl) ?_
              obtain ⟨x_86, ex_86, hF_87⟩ := bnd_e hF_85
              clear hF_85
              refine lv_iinc (v := x_86) (lv' := [(3, .int x_86), (0, .ref h), (1, .int p0), (2, .int t_1), (4, .int s_11.2.1)]) hx hb dX12_all_85 hl (k := 3) rfl (by rw [ex_86]; rfl) (by decide) rfl (fun ls hl => ?_)
              refine lv_iload hx hb dX12_all_88 (lv_at hl 4 rfl) ?_
              obtain ⟨g_88, hF_89⟩ := nif_e hF_87
              clear hF_87
              obtain ⟨σ_90, eσ_90, hF_91⟩ := bnd_e hF_89
              clear hF_89
              refine m_iast (σ' := σ_90) hx hb hK hP (hDD _ _) hS (q0 := 68) (t0 := 2) (f := σ_82.2 121) rfl rfl (by rw [eσ_90]; exact mwA_121) g_88 dX12_all_90 (fun H locs hP hS => ?_)
              exact Jj_70 x_86 σ_90 hF_91 _ _ hP hS ls (lv_sub hl [1, 2, 3, 0, 4] rfl)
            refine lv_icmp_ne (tgt := 80) hx hb dX12_all_66 (by decide) (fun c_92 => ?_) (fun c_92 => ?_)
            · have hF_99 := ineg c_92 hF_84
              clear hF_84
              exact Jj_83  u_66.2 hF_99 _ _ hP hS ls (lv_sub hl [0, 1, 2, 3, 4] rfl)
            · have hF_93 := ipos c_92 hF_84
              clear hF_84
              refine lv_aload_n hx hb dX12_all_69 rfl (lv_at hl 0 rfl) ?_
              refine lv_iload hx hb dX12_all_70 (lv_at hl 4 rfl) ?_
              refine lv_iconst (v := 1) hx hb dX12_all_72 (by decide +kernel) ?_
              refine lv_iconst (v := 1) hx hb dX12_all_73 (by decide +kernel) ?_
              obtain ⟨u_94, hu_94, hF_95⟩ := Option.bind_eq_some_iff.mp hF_93
              clear hF_93
              refine m_ci hsz hS (va_runV (As := [.int s_11.2.1, .int 1, .int 1]) (rest := []) ⟨hx, hb, hml, hown, hts⟩ (m_X12_has l dC dI cB cC cI cJ cZ cP h qK qS ad hDD H.size  s_11.2.1 1 1 u_66.2 _ hu_94) (cwV 3 hts (g_gV wq_1758 wq_1759 wq_2195 wq_13 wq_1760) rfl rfl rfl (by decide +kernel) ⟨Nat.le_of_ble_eq_true rfl, Nat.le_of_ble_eq_true rfl⟩) (m_preV g_bl0 hsz hK hP hS hE hKS g_to0) rfl rfl hl.1 rfl (lv_room (Nat.le_of_ble_eq_true rfl)) dX12_all_74 ⟨Nat.le_of_ble_eq_true rfl, Nat.le_of_ble_eq_true rfl⟩) (fun H locs hP hS => ?_)
              refine lv_if_ne (tgt := 91) hx hb dX12_all_77 (by decide) (fun c_96 => ?_) (fun c_96 => ?_)
              · have hF_98 := ineg c_96 hF_95
                clear hF_95
                exact Jj_70 s_11.1 u_94.2 hF_98 _ _ hP hS ls (lv_sub hl [0, 1, 2, 3, 4] rfl)
              · have hF_97 := ipos c_96 hF_95
                clear hF_95
                exact Jj_83  u_94.2 hF_97 _ _ hP hS ls (lv_sub hl [0, 1, 2, 3, 4] rfl)
    obtain ⟨j_102, ej_102, hF_103⟩ := bnd_e hF_9
    clear hF_9
    have Jj_102 : ∀  (σ_101 : MS), j_102  σ_101 = some res → ∀ (H : Heap) (locs : List Loc), va_P (dC, dI) vwCl (mW cB cI cZ h qK qS ad σ_101) H → va_S (mCells h ad sz) s.heap H locs → ∀ ls : Array Slot, lv_has ls 6 [(0, .ref h), (1, .int p0), (2, .int t_1), (3, .int 0)] → W p l e (headSpec (g_ws yX12_all cX12_all 6 (some .int)) { frames := 1310, cells := 0, slots := 0, locals := 34042 }).room s m ([.ref h, .int p0] : List Value).toArray below meth c H locs 0 0 (MQ below (va_Qi (fun r (_ : Unit) => r = res.1) (fun _ t => va_P (dC, dI) vwCl (mW cB cI cZ h qK qS ad res.2) t.heap) (mCells h ad sz)) ([.ref h, .int p0] : List Value).toArray s 0 0 (mCells h ad sz)) (F0 m 34 ls []) := by
      intro  σ_101 hF0 H locs hP hS ls hl
      subst ej_102
      have hF_104 := hF0
      clear hF0
      refine lv_aload_n hx hb dX12_all_34 rfl (lv_at hl 0 rfl) ?_
      refine va_get (D := (dC, dI)) (ci := 12) (v := .ref (ad 88)) (C := RX12) (T := TX12) (N := 123) hx hb hts ii_X12 hown hK hP 0 rfl rfl 88 (by decide) (hts (.fieldLink RX12 185 "StoryHouseModel" "first" "[I") wq_1444) (fun _ h9 => h9) rfl dX12_all_35 ?_
      refine lv_iload_n hx hb dX12_all_38 rfl (lv_at hl 2 rfl) ?_
      obtain ⟨g_105, hF_106⟩ := nif_e hF_104
      clear hF_104
      refine va_iald (f := σ_101.2 88) hx hb hK hP 53 2 rfl rfl g_105 dX12_all_39 ?_
      exact Jj_8 (σ_101.2 88 t_1.toNatClampNeg) σ_101 hF_106 _ _ hP hS ls (lv_sub hl [0, 1, 2, 3] rfl)
    refine lv_icmp_ne (tgt := 34) hx hb dX12_all_20 (by decide) (fun c_107 => ?_) (fun c_107 => ?_)
    · have hF_114 := ineg c_107 hF_103
      clear hF_103
      exact Jj_102  σ_2 hF_114 _ _ hP hS ls (lv_sub hl [2, 3, 1, 0] rfl)
    · have hF_108 := ipos c_107 hF_103
      clear hF_103
      refine lv_aload_n hx hb dX12_all_23 rfl (lv_at hl 2 rfl) ?_
      obtain ⟨u_109, hu_109, hF_110⟩ := Option.bind_eq_some_iff.mp hF_108
      clear hF_108
      refine m_ci hsz hS (va_runV (As := []) (rest := []) ⟨hx, hb, hml, hown, hts⟩ (m_X12_isLight l dC dI cB cC cI cJ cZ cP h qK qS ad hDD H.size  σ_2 _ hu_109) (cwV 0 hts (g_gV wq_1755 wq_1756 wq_2194 wq_13 wq_1757) rfl rfl rfl (by decide +kernel) ⟨Nat.le_of_ble_eq_true rfl, Nat.le_of_ble_eq_true rfl⟩) (m_preV g_bl0 hsz hK hP hS hE hKS g_to0) rfl rfl hl.1 rfl (lv_room (Nat.le_of_ble_eq_true rfl)) dX12_all_24 ⟨Nat.le_of_ble_eq_true rfl, Nat.le_of_ble_eq_true rfl⟩) (fun H locs hP hS => ?_)
      refine lv_if_ne (tgt := 34) hx hb dX12_all_27 (by decide) (fun c_111 => ?_) (fun c_111 => ?_)
      · have hF_113 := ineg c_111 hF_110
        clear hF_110
        exact Jj_102  u_109.2 hF_113 _ _ hP hS ls (lv_sub hl [2, 3, 1, 0] rfl)
      · have hF_112 := ipos c_111 hF_110
        clear hF_110
        refine lv_iconst (v := 0) hx hb dX12_all_30 (by decide +kernel) ?_
        refine lv_goto (tgt := 40) hx hb dX12_all_31 (by decide) ?_
        exact Jj_8 0 u_109.2 hF_112 _ _ hP hS ls (lv_sub hl [2, 3, 1, 0] rfl)
  refine lv_icmp_ne (tgt := 14) hx hb dX12_all_2 (by decide) (fun c_115 => ?_) (fun c_115 => ?_)
  · have hF_117 := ineg c_115 hF_4
    clear hF_4
    refine lv_iconst (v := 1) hx hb dX12_all_14 (by decide +kernel) ?_
    exact Jj_3 1 σ hF_117 _ _ hP hS ls (lv_sub hl [0, 1] rfl)
  · have hF_116 := ipos c_115 hF_4
    clear hF_4
    refine lv_aload_n hx hb dX12_all_5 rfl (lv_at hl 0 rfl) ?_
    refine va_get (D := (dC, dI)) (ci := 12) (v := .ref (ad 87)) (C := RX12) (T := TX12) (N := 123) hx hb hts ii_X12 hown hK hP 0 rfl rfl 87 (by decide) (hts (.fieldLink RX12 182 "StoryHouseModel" "holder" "[I") wq_1443) (fun _ h9 => h9) rfl dX12_all_6 ?_
    refine lv_iconst (v := 1) hx hb dX12_all_9 (by decide +kernel) ?_
    refine va_iald (f := σ.2 87) hx hb hK hP 52 2 rfl rfl (vp_in_iff.mpr (by decide +kernel)) dX12_all_10 ?_
    refine lv_goto (tgt := 15) hx hb dX12_all_11 (by decide) ?_
    exact Jj_3 (σ.2 87 (1 : Int32).toNatClampNeg) σ hF_116 _ _ hP hS ls (lv_sub hl [0, 1] rfl)
theorem dX12_hasWord_0 : decode cX12_hasWord 0 = .ok (.bipush 10, 2) := by decide +kernel
theorem dX12_hasWord_2 : decode cX12_hasWord 2 = .ok (.iload_n 1, 1) := by decide +kernel
theorem dX12_hasWord_3 : decode cX12_hasWord 3 = .ok (.imul, 1) := by decide +kernel
theorem dX12_hasWord_4 : decode cX12_hasWord 4 = .ok (.istore_n 3, 1) := by decide +kernel
theorem dX12_hasWord_5 : decode cX12_hasWord 5 = .ok (.iload_n 3, 1) := by decide +kernel
theorem dX12_hasWord_6 : decode cX12_hasWord 6 = .ok (.bipush 10, 2) := by decide +kernel
theorem dX12_hasWord_8 : decode cX12_hasWord 8 = .ok (.iload_n 1, 1) := by decide +kernel
theorem dX12_hasWord_9 : decode cX12_hasWord 9 = .ok (.imul, 1) := by decide +kernel
theorem dX12_hasWord_10 : decode cX12_hasWord 10 = .ok (.aload_n 0, 1) := by decide +kernel
theorem dX12_hasWord_11 : decode cX12_hasWord 11 = .ok (.getfield 116, 3) := by decide +kernel
theorem dX12_hasWord_14 : decode cX12_hasWord 14 = .ok (.iload_n 1, 1) := by decide +kernel
theorem dX12_hasWord_15 : decode cX12_hasWord 15 = .ok (.iaload, 1) := by decide +kernel
theorem dX12_hasWord_16 : decode cX12_hasWord 16 = .ok (.iadd, 1) := by decide +kernel
theorem dX12_hasWord_17 : decode cX12_hasWord 17 = .ok (.if_icmp .ge 33, 3) := by decide +kernel
theorem dX12_hasWord_20 : decode cX12_hasWord 20 = .ok (.aload_n 0, 1) := by decide +kernel
theorem dX12_hasWord_21 : decode cX12_hasWord 21 = .ok (.iload_n 2, 1) := by decide +kernel
theorem dX12_hasWord_22 : decode cX12_hasWord 22 = .ok (.aload_n 0, 1) := by decide +kernel
theorem dX12_hasWord_23 : decode cX12_hasWord 23 = .ok (.getfield 110, 3) := by decide +kernel
theorem dX12_hasWord_26 : decode cX12_hasWord 26 = .ok (.bipush 9, 2) := by decide +kernel
theorem dX12_hasWord_28 : decode cX12_hasWord 28 = .ok (.iload_n 3, 1) := by decide +kernel
theorem dX12_hasWord_29 : decode cX12_hasWord 29 = .ok (.imul, 1) := by decide +kernel
theorem dX12_hasWord_30 : decode cX12_hasWord 30 = .ok (.aload_n 0, 1) := by decide +kernel
theorem dX12_hasWord_31 : decode cX12_hasWord 31 = .ok (.getfield 113, 3) := by decide +kernel
theorem dX12_hasWord_34 : decode cX12_hasWord 34 = .ok (.iload_n 3, 1) := by decide +kernel
theorem dX12_hasWord_35 : decode cX12_hasWord 35 = .ok (.iaload, 1) := by decide +kernel
theorem dX12_hasWord_36 : decode cX12_hasWord 36 = .ok (.invokevirtual 840, 3) := by decide +kernel
theorem dX12_hasWord_39 : decode cX12_hasWord 39 = .ok (.ifCond .eq 5, 3) := by decide +kernel
theorem dX12_hasWord_42 : decode cX12_hasWord 42 = .ok (.iconst 1, 1) := by decide +kernel
theorem dX12_hasWord_43 : decode cX12_hasWord 43 = .ok (.ireturn, 1) := by decide +kernel
theorem dX12_hasWord_44 : decode cX12_hasWord 44 = .ok (.iinc 3 1, 3) := by decide +kernel
theorem dX12_hasWord_47 : decode cX12_hasWord 47 = .ok (.goto (-42), 3) := by decide +kernel
theorem dX12_hasWord_50 : decode cX12_hasWord 50 = .ok (.iconst 0, 1) := by decide +kernel
theorem dX12_hasWord_51 : decode cX12_hasWord 51 = .ok (.ireturn, 1) := by decide +kernel
def F_X12_hasWord (p0 : Int32) (p1 : Int32) (σ : MS) : MR :=
  loopF (fun (again_2 : (Int32 × MS) → MR) (s_1 : Int32 × MS) => (
    if p0 < 0 ∨ 121 ≤ p0.toNatClampNeg then none else
    bnd (((10 * p0) + (s_1.2.2 56 p0.toNatClampNeg))) fun (x_7 : Int32) =>
    if x_7 ≤ s_1.1 then (
      some (0, s_1.2)
    ) else (
      if s_1.1 < 0 ∨ 1210 ≤ s_1.1.toNatClampNeg then none else
      (F_X12_isTerm__wordBytes p1 (9 * s_1.1) (s_1.2.2 55 s_1.1.toNatClampNeg) s_1.2).bind fun u_14 =>
      if u_14.1 = 0 then (
        bnd (s_1.1 + 1) fun (x_18 : Int32) =>
        again_2 (x_18, u_14.2)
      ) else (
        some (1, u_14.2)
      )
    )
  )) FU ((10 * p0), σ)
set_option maxHeartbeats 4000000 in
set_option maxRecDepth 100000 in
theorem m_X12_hasWord (l : Launch) (dC : Nat → ClassId) (dI : Nat → Nat → Nat) (cB cC cI cJ cZ cP : ClassId) (h qK qS : Nat) (ad : Nat → Nat) (hDD : mDis cB cI cZ h qK qS ad) (sz : Nat)  (p0 : Int32) (p1 : Int32) (σ : MS) (res : Int32 × MS) (hF : F_X12_hasWord p0 p1 σ = some res) : Met l yX12_hasWord (g_ws yX12_hasWord cX12_hasWord 4 (some .boolean)) ({ frames := 2, cells := 0, slots := 0, locals := 66 }) (va_Pc [.ref h, .int p0, .int p1] (m_B (dC, dI) [(cB, .byte), (cC, .char), (cI, .int), (cJ, .long), (cZ, .boolean), (cP, .object "StoryHouse$Play")] sz h ad qK qS (mW cB cI cZ h qK qS ad σ) g_0)) (va_Qi (fun r (_ : Unit) => r = res.1) (fun _ t => va_P (dC, dI) vwCl (mW cB cI cZ h qK qS ad res.2) t.heap) (mCells h ad sz)) 0 0 (mCells h ad sz) := by
  refine Met.ofW (cc := cX12_hasWord) (maxL := 4) (ret := (some .boolean)) (by decide) rfl ?_
  intro p e s m args below meth c s₁ B hml hv
  obtain ⟨rfl, hsz, hP, hK, hE, hKS, hX⟩ := hv
  have hx := B.exec
  have hb := B.bytes
  have hr := B.returns
  have hts0 := atoms_spec (ws := g_ws yX12_hasWord cX12_hasWord 4 (some .boolean)) B.pre
  have hts : ∀ w ∈ lw_good, w.before ([.ref h, .int p0, .int p1] : List Value).toArray s = true := fun w z => hts0 w (List.mem_cons_of_mem _ z)
  have hown : s.vm.findClass RX12 = some m.cls := findClass_of_methodNamed B.named
  have hlocks := B.notSynchronized
  have hS : va_S (mCells h ad sz) s.heap s.heap [] := va_S.rf
  have hl := lv_entry ([.ref h, .int p0, .int p1]) (n := 4) (Nat.le_of_ble_eq_true rfl)
  rw [lg_entry_eq]
  generalize (lg_sl ([.ref h, .int p0, .int p1]) ++ List.replicate (4 - (lg_sl ([.ref h, .int p0, .int p1])).length) Slot.unset).toArray = ls at hl ⊢
  have hl : lv_has ls 4 [(0, .ref h), (1, .int p0), (2, .int p1)] := hl
  unfold F_X12_hasWord at hF
  refine lv_bipush (v := 10) hx hb dX12_hasWord_0 (by decide +kernel) ?_
  refine lv_iload_n hx hb dX12_hasWord_2 rfl (lv_at hl 1 rfl) ?_
  refine lv_imul hx hb dX12_hasWord_3 ?_
  refine lv_istore_n (lv' := [(3, .int (10 * p0)), (0, .ref h), (1, .int p0), (2, .int p1)]) hx hb dX12_hasWord_4 rfl hl (by decide) rfl (fun ls hl => ?_)
  refine loopF_ind (P := fun (s_1 : Int32 × MS) => ∀ (H : Heap) (locs : List Loc), va_P (dC, dI) vwCl (mW cB cI cZ h qK qS ad s_1.2) H → va_S (mCells h ad sz) s.heap H locs → ∀ ls : Array Slot, lv_has ls 4 [(0, .ref h), (1, .int p0), (2, .int p1), (3, .int s_1.1)] → W p l e (headSpec (g_ws yX12_hasWord cX12_hasWord 4 (some .boolean)) { frames := 2, cells := 0, slots := 0, locals := 66 }).room s m ([.ref h, .int p0, .int p1] : List Value).toArray below meth c H locs 0 0 (MQ below (va_Qi (fun r (_ : Unit) => r = res.1) (fun _ t => va_P (dC, dI) vwCl (mW cB cI cZ h qK qS ad res.2) t.heap) (mCells h ad sz)) ([.ref h, .int p0, .int p1] : List Value).toArray s 0 0 (mCells h ad sz)) (F0 m 5 ls [])) ?_ _ _ hF _ _ hP hS ls (lv_sub hl [1, 2, 3, 0] rfl)
  intro again_2 s_1 ih_3 hF_4
  intro H locs hP hS ls hl
  refine lv_iload_n hx hb dX12_hasWord_5 rfl (lv_at hl 3 rfl) ?_
  refine lv_bipush (v := 10) hx hb dX12_hasWord_6 (by decide +kernel) ?_
  refine lv_iload_n hx hb dX12_hasWord_8 rfl (lv_at hl 1 rfl) ?_
  refine lv_imul hx hb dX12_hasWord_9 ?_
  refine lv_aload_n hx hb dX12_hasWord_10 rfl (lv_at hl 0 rfl) ?_
  refine va_get (D := (dC, dI)) (ci := 12) (v := .ref (ad 56)) (C := RX12) (T := TX12) (N := 123) hx hb hts ii_X12 hown hK hP 0 rfl rfl 56 (by decide) (hts (.fieldLink RX12 116 "StoryHouseModel" "wordCount" "[I") wq_1412) (fun _ h9 => h9) rfl dX12_hasWord_11 ?_
  refine lv_iload_n hx hb dX12_hasWord_14 rfl (lv_at hl 1 rfl) ?_
  obtain ⟨g_5, hF_6⟩ := nif_e hF_4
  clear hF_4
  refine va_iald (f := s_1.2.2 56) hx hb hK hP 30 2 rfl rfl g_5 dX12_hasWord_15 ?_
  refine lv_iadd hx hb dX12_hasWord_16 ?_
  obtain ⟨x_7, ex_7, hF_8⟩ := bnd_e hF_6
  clear hF_6
  refine m_top ex_7 ?_
  refine lv_icmp_ge (tgt := 50) hx hb dX12_hasWord_17 (by decide) (fun c_9 => ?_) (fun c_9 => ?_)
  · have hF_10 := ipos c_9 hF_8
    clear hF_8
    refine lv_iconst (v := 0) hx hb dX12_hasWord_50 (by decide +kernel) ?_
    have h9 := Option.some.inj hF_10
    subst h9
    exact W.zret (v := 0) hx hb hr (by decide +kernel) (fun t ht hW => ⟨⟨0, (), rfl, rfl, m_end ht hP⟩, hS.F ht⟩) hS.2.2 dX12_hasWord_51
  · have hF_11 := ineg c_9 hF_8
    clear hF_8
    refine lv_aload_n hx hb dX12_hasWord_20 rfl (lv_at hl 0 rfl) ?_
    refine lv_iload_n hx hb dX12_hasWord_21 rfl (lv_at hl 2 rfl) ?_
    refine lv_aload_n hx hb dX12_hasWord_22 rfl (lv_at hl 0 rfl) ?_
    refine va_get (D := (dC, dI)) (ci := 12) (v := .ref (ad 54)) (C := RX12) (T := TX12) (N := 123) hx hb hts ii_X12 hown hK hP 0 rfl rfl 54 (by decide) (hts (.fieldLink RX12 110 "StoryHouseModel" "wordBytes" "[B") wq_1410) (fun _ h9 => h9) rfl dX12_hasWord_23 ?_
    refine lv_bipush (v := 9) hx hb dX12_hasWord_26 (by decide +kernel) ?_
    refine lv_iload_n hx hb dX12_hasWord_28 rfl (lv_at hl 3 rfl) ?_
    refine lv_imul hx hb dX12_hasWord_29 ?_
    refine lv_aload_n hx hb dX12_hasWord_30 rfl (lv_at hl 0 rfl) ?_
    refine va_get (D := (dC, dI)) (ci := 12) (v := .ref (ad 55)) (C := RX12) (T := TX12) (N := 123) hx hb hts ii_X12 hown hK hP 0 rfl rfl 55 (by decide) (hts (.fieldLink RX12 113 "StoryHouseModel" "wordSize" "[I") wq_1411) (fun _ h9 => h9) rfl dX12_hasWord_31 ?_
    refine lv_iload_n hx hb dX12_hasWord_34 rfl (lv_at hl 3 rfl) ?_
    obtain ⟨g_12, hF_13⟩ := nif_e hF_11
    clear hF_11
    refine va_iald (f := s_1.2.2 55) hx hb hK hP 29 2 rfl rfl g_12 dX12_hasWord_35 ?_
    obtain ⟨u_14, hu_14, hF_15⟩ := Option.bind_eq_some_iff.mp hF_13
    clear hF_13
    refine m_ci hsz hS (va_runV (As := [.int p1, .ref (ad 54), .int (9 * s_1.1), .int (s_1.2.2 55 s_1.1.toNatClampNeg)]) (rest := []) ⟨hx, hb, hml, hown, hts⟩ (m_X12_isTerm__wordBytes l dC dI cB cC cI cJ cZ cP h qK qS ad hDD H.size  p1 (9 * s_1.1) (s_1.2.2 55 s_1.1.toNatClampNeg) s_1.2 _ hu_14) (cwV 4 hts (g_gV wq_1898 wq_1899 wq_2240 wq_13 wq_1900) rfl rfl rfl (by decide +kernel) ⟨Nat.le_of_ble_eq_true rfl, Nat.le_of_ble_eq_true rfl⟩) (m_preV g_bl0 hsz hK hP hS hE hKS g_to0) rfl rfl hl.1 rfl (lv_room (Nat.le_of_ble_eq_true rfl)) dX12_hasWord_36 ⟨Nat.le_of_ble_eq_true rfl, Nat.le_of_ble_eq_true rfl⟩) (fun H locs hP hS => ?_)
    refine lv_if_eq (tgt := 44) hx hb dX12_hasWord_39 (by decide) (fun c_16 => ?_) (fun c_16 => ?_)
    · have hF_17 := ipos c_16 hF_15
      clear hF_15
      obtain ⟨x_18, ex_18, hF_19⟩ := bnd_e hF_17
      clear hF_17
      refine lv_iinc (v := x_18) (lv' := [(3, .int x_18), (0, .ref h), (1, .int p0), (2, .int p1)]) hx hb dX12_hasWord_44 hl (k := 3) rfl (by rw [ex_18]; rfl) (by decide) rfl (fun ls hl => ?_)
      refine lv_goto (tgt := 5) hx hb dX12_hasWord_47 (by decide) ?_
      exact ih_3 (x_18, u_14.2) hF_19 _ _ hP hS ls (lv_sub hl [1, 2, 3, 0] rfl)
    · have hF_20 := ineg c_16 hF_15
      clear hF_15
      refine lv_iconst (v := 1) hx hb dX12_hasWord_42 (by decide +kernel) ?_
      have h9 := Option.some.inj hF_20
      subst h9
      exact W.zret (v := 1) hx hb hr (by decide +kernel) (fun t ht hW => ⟨⟨1, (), rfl, rfl, m_end ht hP⟩, hS.F ht⟩) hS.2.2 dX12_hasWord_43
theorem dX12_byPlayer_0 : decode cX12_byPlayer 0 = .ok (.aload_n 0, 1) := by decide +kernel
theorem dX12_byPlayer_1 : decode cX12_byPlayer 1 = .ok (.getfield 182, 3) := by decide +kernel
theorem dX12_byPlayer_4 : decode cX12_byPlayer 4 = .ok (.iload_n 1, 1) := by decide +kernel
theorem dX12_byPlayer_5 : decode cX12_byPlayer 5 = .ok (.iaload, 1) := by decide +kernel
theorem dX12_byPlayer_6 : decode cX12_byPlayer 6 = .ok (.istore_n 2, 1) := by decide +kernel
theorem dX12_byPlayer_7 : decode cX12_byPlayer 7 = .ok (.iload_n 2, 1) := by decide +kernel
theorem dX12_byPlayer_8 : decode cX12_byPlayer 8 = .ok (.ifCond .eq 20, 3) := by decide +kernel
theorem dX12_byPlayer_11 : decode cX12_byPlayer 11 = .ok (.iload_n 2, 1) := by decide +kernel
theorem dX12_byPlayer_12 : decode cX12_byPlayer 12 = .ok (.iconst 1, 1) := by decide +kernel
theorem dX12_byPlayer_13 : decode cX12_byPlayer 13 = .ok (.if_icmp .eq 11, 3) := by decide +kernel
theorem dX12_byPlayer_16 : decode cX12_byPlayer 16 = .ok (.aload_n 0, 1) := by decide +kernel
theorem dX12_byPlayer_17 : decode cX12_byPlayer 17 = .ok (.iload_n 2, 1) := by decide +kernel
theorem dX12_byPlayer_18 : decode cX12_byPlayer 18 = .ok (.invokevirtual 905, 3) := by decide +kernel
theorem dX12_byPlayer_21 : decode cX12_byPlayer 21 = .ok (.ifCond .eq 7, 3) := by decide +kernel
theorem dX12_byPlayer_24 : decode cX12_byPlayer 24 = .ok (.iconst 1, 1) := by decide +kernel
theorem dX12_byPlayer_25 : decode cX12_byPlayer 25 = .ok (.goto 4, 3) := by decide +kernel
theorem dX12_byPlayer_28 : decode cX12_byPlayer 28 = .ok (.iconst 0, 1) := by decide +kernel
theorem dX12_byPlayer_29 : decode cX12_byPlayer 29 = .ok (.ireturn, 1) := by decide +kernel
def F_X12_byPlayer (rec : GF) (p0 : Int32) (σ : MS) : MR :=
  if p0 < 0 ∨ 121 ≤ p0.toNatClampNeg then none else
  bnd ((σ.2 87 p0.toNatClampNeg)) fun (x_3 : Int32) =>
  if x_3 = 0 then (
    some (0, σ)
  ) else (
    if x_3 = 1 then (
      some (1, σ)
    ) else (
      (rec 0 x_3 0 0 σ).bind fun u_11 =>
      if u_11.1 = 0 then (
        some (0, u_11.2)
      ) else (
        some (1, u_11.2)
      )
    )
  )
set_option maxHeartbeats 4000000 in
set_option maxRecDepth 100000 in
theorem m_X12_byPlayer_st (l : Launch) (dC : Nat → ClassId) (dI : Nat → Nat → Nat) (cB cC cI cJ cZ cP : ClassId) (h qK qS : Nat) (ad : Nat → Nat) (hDD : mDis cB cI cZ h qK qS ad) (d : Nat) (rec : GF) (hI0 : ∀ (sz : Nat) (p0 : Int32) (σ : MS) (res : Int32 × MS), rec 0 p0 0 0 σ = some res → Met l yX12_byPlayer (g_ws yX12_byPlayer cX12_byPlayer 3 (some .boolean)) ({ frames := 1 + d, cells := 0, slots := 0, locals := 40 + 22 * d }) (va_Pc [.ref h, .int p0] (m_B (dC, dI) [(cB, .byte), (cC, .char), (cI, .int), (cJ, .long), (cZ, .boolean), (cP, .object "StoryHouse$Play")] sz h ad qK qS (mW cB cI cZ h qK qS ad σ) g_0)) (va_Qi (fun r (_ : Unit) => r = res.1) (fun _ t => va_P (dC, dI) vwCl (mW cB cI cZ h qK qS ad res.2) t.heap) (mCells h ad sz)) 0 0 (mCells h ad sz)) (sz : Nat)  (p0 : Int32) (σ : MS) (res : Int32 × MS) (hF : F_X12_byPlayer rec p0 σ = some res) : Met l yX12_byPlayer (g_ws yX12_byPlayer cX12_byPlayer 3 (some .boolean)) ({ frames := 1 + (d + 1), cells := 0, slots := 0, locals := 40 + 22 * (d + 1) }) (va_Pc [.ref h, .int p0] (m_B (dC, dI) [(cB, .byte), (cC, .char), (cI, .int), (cJ, .long), (cZ, .boolean), (cP, .object "StoryHouse$Play")] sz h ad qK qS (mW cB cI cZ h qK qS ad σ) g_0)) (va_Qi (fun r (_ : Unit) => r = res.1) (fun _ t => va_P (dC, dI) vwCl (mW cB cI cZ h qK qS ad res.2) t.heap) (mCells h ad sz)) 0 0 (mCells h ad sz) := by
  refine Met.ofW (cc := cX12_byPlayer) (maxL := 3) (ret := (some .boolean)) (by decide) rfl ?_
  intro p e s m args below meth c s₁ B hml hv
  obtain ⟨rfl, hsz, hP, hK, hE, hKS, hX⟩ := hv
  have hx := B.exec
  have hb := B.bytes
  have hr := B.returns
  have hts0 := atoms_spec (ws := g_ws yX12_byPlayer cX12_byPlayer 3 (some .boolean)) B.pre
  have hts : ∀ w ∈ lw_good, w.before ([.ref h, .int p0] : List Value).toArray s = true := fun w z => hts0 w (List.mem_cons_of_mem _ z)
  have hown : s.vm.findClass RX12 = some m.cls := findClass_of_methodNamed B.named
  have hlocks := B.notSynchronized
  have hS : va_S (mCells h ad sz) s.heap s.heap [] := va_S.rf
  have hl := lv_entry ([.ref h, .int p0]) (n := 3) (Nat.le_of_ble_eq_true rfl)
  rw [lg_entry_eq]
  generalize (lg_sl ([.ref h, .int p0]) ++ List.replicate (3 - (lg_sl ([.ref h, .int p0])).length) Slot.unset).toArray = ls at hl ⊢
  have hl : lv_has ls 3 [(0, .ref h), (1, .int p0)] := hl
  unfold F_X12_byPlayer at hF
  refine lv_aload_n hx hb dX12_byPlayer_0 rfl (lv_at hl 0 rfl) ?_
  refine va_get (D := (dC, dI)) (ci := 12) (v := .ref (ad 87)) (C := RX12) (T := TX12) (N := 123) hx hb hts ii_X12 hown hK hP 0 rfl rfl 87 (by decide) (hts (.fieldLink RX12 182 "StoryHouseModel" "holder" "[I") wq_1443) (fun _ h9 => h9) rfl dX12_byPlayer_1 ?_
  refine lv_iload_n hx hb dX12_byPlayer_4 rfl (lv_at hl 1 rfl) ?_
  obtain ⟨g_1, hF_2⟩ := nif_e hF
  clear hF
  refine va_iald (f := σ.2 87) hx hb hK hP 52 2 rfl rfl g_1 dX12_byPlayer_5 ?_
  obtain ⟨x_3, ex_3, hF_4⟩ := bnd_e hF_2
  clear hF_2
  refine m_top ex_3 ?_
  refine lv_istore_n (lv' := [(2, .int x_3), (0, .ref h), (1, .int p0)]) hx hb dX12_byPlayer_6 rfl hl (by decide) rfl (fun ls hl => ?_)
  refine lv_iload_n hx hb dX12_byPlayer_7 rfl (lv_at hl 0 rfl) ?_
  refine lv_if_eq (tgt := 28) hx hb dX12_byPlayer_8 (by decide) (fun c_5 => ?_) (fun c_5 => ?_)
  · have hF_6 := ipos c_5 hF_4
    clear hF_4
    refine lv_iconst (v := 0) hx hb dX12_byPlayer_28 (by decide +kernel) ?_
    have h9 := Option.some.inj hF_6
    subst h9
    exact W.zret (v := 0) hx hb hr (by decide +kernel) (fun t ht hW => ⟨⟨0, (), rfl, rfl, m_end ht hP⟩, hS.F ht⟩) hS.2.2 dX12_byPlayer_29
  · have hF_7 := ineg c_5 hF_4
    clear hF_4
    refine lv_iload_n hx hb dX12_byPlayer_11 rfl (lv_at hl 0 rfl) ?_
    refine lv_iconst (v := 1) hx hb dX12_byPlayer_12 (by decide +kernel) ?_
    refine lv_icmp_eq (tgt := 24) hx hb dX12_byPlayer_13 (by decide) (fun c_8 => ?_) (fun c_8 => ?_)
    · have hF_9 := ipos c_8 hF_7
      clear hF_7
      refine lv_iconst (v := 1) hx hb dX12_byPlayer_24 (by decide +kernel) ?_
      refine lv_goto (tgt := 29) hx hb dX12_byPlayer_25 (by decide) ?_
      have h9 := Option.some.inj hF_9
      subst h9
      exact W.zret (v := 1) hx hb hr (by decide +kernel) (fun t ht hW => ⟨⟨1, (), rfl, rfl, m_end ht hP⟩, hS.F ht⟩) hS.2.2 dX12_byPlayer_29
    · have hF_10 := ineg c_8 hF_7
      clear hF_7
      refine lv_aload_n hx hb dX12_byPlayer_16 rfl (lv_at hl 1 rfl) ?_
      refine lv_iload_n hx hb dX12_byPlayer_17 rfl (lv_at hl 0 rfl) ?_
      obtain ⟨u_11, hu_11, hF_12⟩ := Option.bind_eq_some_iff.mp hF_10
      clear hF_10
      refine m_ci hsz hS (va_runV (As := [.int x_3]) (rest := []) ⟨hx, hb, hml, hown, hts⟩ (hI0 s.heap.size x_3 σ _ hu_11) (cwV 1 hts (g_gV wq_1910 wq_1911 wq_2244 wq_13 wq_1912) rfl rfl rfl (by decide +kernel) ⟨by show 1 + d + 1 ≤ 1 + (d + 1); omega, by show 8 + (3 + 11) + (40 + 22 * d) ≤ 40 + 22 * (d + 1); omega⟩) (m_preV g_bl0 hsz hK hP hS hE hKS g_to0) rfl rfl hl.1 rfl (lv_room (Nat.le_of_ble_eq_true rfl)) dX12_byPlayer_18 ⟨Nat.le_of_ble_eq_true rfl, Nat.le_of_ble_eq_true rfl⟩) (fun H locs hP hS => ?_)
      refine lv_if_eq (tgt := 28) hx hb dX12_byPlayer_21 (by decide) (fun c_13 => ?_) (fun c_13 => ?_)
      · have hF_14 := ipos c_13 hF_12
        clear hF_12
        refine lv_iconst (v := 0) hx hb dX12_byPlayer_28 (by decide +kernel) ?_
        have h9 := Option.some.inj hF_14
        subst h9
        exact W.zret (v := 0) hx hb hr (by decide +kernel) (fun t ht hW => ⟨⟨0, (), rfl, rfl, m_end ht hP⟩, hS.F ht⟩) hS.2.2 dX12_byPlayer_29
      · have hF_15 := ineg c_13 hF_12
        clear hF_12
        refine lv_iconst (v := 1) hx hb dX12_byPlayer_24 (by decide +kernel) ?_
        refine lv_goto (tgt := 29) hx hb dX12_byPlayer_25 (by decide) ?_
        have h9 := Option.some.inj hF_15
        subst h9
        exact W.zret (v := 1) hx hb hr (by decide +kernel) (fun t ht hW => ⟨⟨1, (), rfl, rfl, m_end ht hP⟩, hS.F ht⟩) hS.2.2 dX12_byPlayer_29

/-- the group, by its depth -/
def gP : Nat → GF
  | 0, _, _, _, _, _ => none
  | d + 1, t, a, b, c, σ => if t = 0 then F_X12_byPlayer (gP d) a σ else none
theorem gP_0 (d : Nat) (a b c : Int32) (σ : MS) : gP (d + 1) 0 a b c σ = F_X12_byPlayer (gP d) a σ := by
  rw [gP]
  exact if_pos rfl
set_option maxHeartbeats 4000000 in
theorem gP_all (l : Launch) (dC : Nat → ClassId) (dI : Nat → Nat → Nat) (cB cC cI cJ cZ cP : ClassId) (h qK qS : Nat) (ad : Nat → Nat) (hDD : mDis cB cI cZ h qK qS ad) : ∀ d : Nat, (∀ (sz : Nat) (p0 : Int32) (σ : MS) (res : Int32 × MS), gP d 0 p0 0 0 σ = some res → Met l yX12_byPlayer (g_ws yX12_byPlayer cX12_byPlayer 3 (some .boolean)) ({ frames := 1 + d, cells := 0, slots := 0, locals := 40 + 22 * d }) (va_Pc [.ref h, .int p0] (m_B (dC, dI) [(cB, .byte), (cC, .char), (cI, .int), (cJ, .long), (cZ, .boolean), (cP, .object "StoryHouse$Play")] sz h ad qK qS (mW cB cI cZ h qK qS ad σ) g_0)) (va_Qi (fun r (_ : Unit) => r = res.1) (fun _ t => va_P (dC, dI) vwCl (mW cB cI cZ h qK qS ad res.2) t.heap) (mCells h ad sz)) 0 0 (mCells h ad sz)) := by
  intro d
  induction d with
  | zero => exact (fun sz p0 σ res hz => by cases hz)
  | succ d ih =>
    have hI0 := ih
    exact (fun sz p0 σ res hF => m_X12_byPlayer_st l dC dI cB cC cI cJ cZ cP h qK qS ad hDD d (gP d) hI0 sz p0 σ res ((gP_0 d p0 0 0 σ).symm.trans hF))

def G_X12_byPlayer (p0 : Int32) (σ : MS) : MR := gP 123 0 p0 0 0 σ
theorem m_X12_byPlayer (l : Launch) (dC : Nat → ClassId) (dI : Nat → Nat → Nat) (cB cC cI cJ cZ cP : ClassId) (h qK qS : Nat) (ad : Nat → Nat) (hDD : mDis cB cI cZ h qK qS ad) : ∀ (sz : Nat) (p0 : Int32) (σ : MS) (res : Int32 × MS), G_X12_byPlayer p0 σ = some res → Met l yX12_byPlayer (g_ws yX12_byPlayer cX12_byPlayer 3 (some .boolean)) ({ frames := 124, cells := 0, slots := 0, locals := 2746 }) (va_Pc [.ref h, .int p0] (m_B (dC, dI) [(cB, .byte), (cC, .char), (cI, .int), (cJ, .long), (cZ, .boolean), (cP, .object "StoryHouse$Play")] sz h ad qK qS (mW cB cI cZ h qK qS ad σ) g_0)) (va_Qi (fun r (_ : Unit) => r = res.1) (fun _ t => va_P (dC, dI) vwCl (mW cB cI cZ h qK qS ad res.2) t.heap) (mCells h ad sz)) 0 0 (mCells h ad sz) := (gP_all l dC dI cB cC cI cJ cZ cP h qK qS ad hDD 123)
theorem dX12_inScope_0 : decode cX12_inScope 0 = .ok (.iload_n 1, 1) := by decide +kernel
theorem dX12_inScope_1 : decode cX12_inScope 1 = .ok (.iconst 1, 1) := by decide +kernel
theorem dX12_inScope_2 : decode cX12_inScope 2 = .ok (.if_icmp .eq 23, 3) := by decide +kernel
theorem dX12_inScope_5 : decode cX12_inScope 5 = .ok (.aload_n 0, 1) := by decide +kernel
theorem dX12_inScope_6 : decode cX12_inScope 6 = .ok (.iload_n 1, 1) := by decide +kernel
theorem dX12_inScope_7 : decode cX12_inScope 7 = .ok (.invokevirtual 899, 3) := by decide +kernel
theorem dX12_inScope_10 : decode cX12_inScope 10 = .ok (.ifCond .eq 19, 3) := by decide +kernel
theorem dX12_inScope_13 : decode cX12_inScope 13 = .ok (.iload_n 2, 1) := by decide +kernel
theorem dX12_inScope_14 : decode cX12_inScope 14 = .ok (.ifCond .ne 11, 3) := by decide +kernel
theorem dX12_inScope_17 : decode cX12_inScope 17 = .ok (.aload_n 0, 1) := by decide +kernel
theorem dX12_inScope_18 : decode cX12_inScope 18 = .ok (.iload_n 1, 1) := by decide +kernel
theorem dX12_inScope_19 : decode cX12_inScope 19 = .ok (.invokevirtual 905, 3) := by decide +kernel
theorem dX12_inScope_22 : decode cX12_inScope 22 = .ok (.ifCond .eq 7, 3) := by decide +kernel
theorem dX12_inScope_25 : decode cX12_inScope 25 = .ok (.iconst 1, 1) := by decide +kernel
theorem dX12_inScope_26 : decode cX12_inScope 26 = .ok (.goto 4, 3) := by decide +kernel
theorem dX12_inScope_29 : decode cX12_inScope 29 = .ok (.iconst 0, 1) := by decide +kernel
theorem dX12_inScope_30 : decode cX12_inScope 30 = .ok (.ireturn, 1) := by decide +kernel
def F_X12_inScope (p0 : Int32) (p1 : Int32) (σ : MS) : MR :=
  if p0 = 1 then (
    some (1, σ)
  ) else (
    (G_X12_isSeen p0 σ).bind fun u_4 =>
    if u_4.1 = 0 then (
      some (0, u_4.2)
    ) else (
      if p1 = 0 then (
        (G_X12_byPlayer p0 u_4.2).bind fun u_11 =>
        if u_11.1 = 0 then (
          some (0, u_11.2)
        ) else (
          some (1, u_11.2)
        )
      ) else (
        some (1, u_4.2)
      )
    )
  )
set_option maxHeartbeats 4000000 in
set_option maxRecDepth 100000 in
theorem m_X12_inScope (l : Launch) (dC : Nat → ClassId) (dI : Nat → Nat → Nat) (cB cC cI cJ cZ cP : ClassId) (h qK qS : Nat) (ad : Nat → Nat) (hDD : mDis cB cI cZ h qK qS ad) (sz : Nat)  (p0 : Int32) (p1 : Int32) (σ : MS) (res : Int32 × MS) (hF : F_X12_inScope p0 p1 σ = some res) : Met l yX12_inScope (g_ws yX12_inScope cX12_inScope 3 (some .boolean)) ({ frames := 127, cells := 0, slots := 0, locals := 2812 }) (va_Pc [.ref h, .int p0, .int p1] (m_B (dC, dI) [(cB, .byte), (cC, .char), (cI, .int), (cJ, .long), (cZ, .boolean), (cP, .object "StoryHouse$Play")] sz h ad qK qS (mW cB cI cZ h qK qS ad σ) g_0)) (va_Qi (fun r (_ : Unit) => r = res.1) (fun _ t => va_P (dC, dI) vwCl (mW cB cI cZ h qK qS ad res.2) t.heap) (mCells h ad sz)) 0 0 (mCells h ad sz) := by
  refine Met.ofW (cc := cX12_inScope) (maxL := 3) (ret := (some .boolean)) (by decide) rfl ?_
  intro p e s m args below meth c s₁ B hml hv
  obtain ⟨rfl, hsz, hP, hK, hE, hKS, hX⟩ := hv
  have hx := B.exec
  have hb := B.bytes
  have hr := B.returns
  have hts0 := atoms_spec (ws := g_ws yX12_inScope cX12_inScope 3 (some .boolean)) B.pre
  have hts : ∀ w ∈ lw_good, w.before ([.ref h, .int p0, .int p1] : List Value).toArray s = true := fun w z => hts0 w (List.mem_cons_of_mem _ z)
  have hown : s.vm.findClass RX12 = some m.cls := findClass_of_methodNamed B.named
  have hlocks := B.notSynchronized
  have hS : va_S (mCells h ad sz) s.heap s.heap [] := va_S.rf
  have hl := lv_entry ([.ref h, .int p0, .int p1]) (n := 3) (Nat.le_of_ble_eq_true rfl)
  rw [lg_entry_eq]
  generalize (lg_sl ([.ref h, .int p0, .int p1]) ++ List.replicate (3 - (lg_sl ([.ref h, .int p0, .int p1])).length) Slot.unset).toArray = ls at hl ⊢
  have hl : lv_has ls 3 [(0, .ref h), (1, .int p0), (2, .int p1)] := hl
  unfold F_X12_inScope at hF
  refine lv_iload_n hx hb dX12_inScope_0 rfl (lv_at hl 1 rfl) ?_
  refine lv_iconst (v := 1) hx hb dX12_inScope_1 (by decide +kernel) ?_
  refine lv_icmp_eq (tgt := 25) hx hb dX12_inScope_2 (by decide) (fun c_1 => ?_) (fun c_1 => ?_)
  · have hF_2 := ipos c_1 hF
    clear hF
    refine lv_iconst (v := 1) hx hb dX12_inScope_25 (by decide +kernel) ?_
    refine lv_goto (tgt := 30) hx hb dX12_inScope_26 (by decide) ?_
    have h9 := Option.some.inj hF_2
    subst h9
    exact W.zret (v := 1) hx hb hr (by decide +kernel) (fun t ht hW => ⟨⟨1, (), rfl, rfl, m_end ht hP⟩, hS.F ht⟩) hS.2.2 dX12_inScope_30
  · have hF_3 := ineg c_1 hF
    clear hF
    refine lv_aload_n hx hb dX12_inScope_5 rfl (lv_at hl 0 rfl) ?_
    refine lv_iload_n hx hb dX12_inScope_6 rfl (lv_at hl 1 rfl) ?_
    obtain ⟨u_4, hu_4, hF_5⟩ := Option.bind_eq_some_iff.mp hF_3
    clear hF_3
    refine m_ci hsz hS (va_runV (As := [.int p0]) (rest := []) ⟨hx, hb, hml, hown, hts⟩ (m_X12_isSeen l dC dI cB cC cI cJ cZ cP h qK qS ad hDD s.heap.size  p0 σ _ hu_4) (cwV 1 hts (g_gV wq_1761 wq_1762 wq_2196 wq_13 wq_1763) rfl rfl rfl (by decide +kernel) ⟨Nat.le_of_ble_eq_true rfl, Nat.le_of_ble_eq_true rfl⟩) (m_preV g_bl0 hsz hK hP hS hE hKS g_to0) rfl rfl hl.1 rfl (lv_room (Nat.le_of_ble_eq_true rfl)) dX12_inScope_7 ⟨Nat.le_of_ble_eq_true rfl, Nat.le_of_ble_eq_true rfl⟩) (fun H locs hP hS => ?_)
    refine lv_if_eq (tgt := 29) hx hb dX12_inScope_10 (by decide) (fun c_6 => ?_) (fun c_6 => ?_)
    · have hF_7 := ipos c_6 hF_5
      clear hF_5
      refine lv_iconst (v := 0) hx hb dX12_inScope_29 (by decide +kernel) ?_
      have h9 := Option.some.inj hF_7
      subst h9
      exact W.zret (v := 0) hx hb hr (by decide +kernel) (fun t ht hW => ⟨⟨0, (), rfl, rfl, m_end ht hP⟩, hS.F ht⟩) hS.2.2 dX12_inScope_30
    · have hF_8 := ineg c_6 hF_5
      clear hF_5
      refine lv_iload_n hx hb dX12_inScope_13 rfl (lv_at hl 2 rfl) ?_
      refine lv_if_ne (tgt := 25) hx hb dX12_inScope_14 (by decide) (fun c_9 => ?_) (fun c_9 => ?_)
      · have hF_16 := ineg c_9 hF_8
        clear hF_8
        refine lv_iconst (v := 1) hx hb dX12_inScope_25 (by decide +kernel) ?_
        refine lv_goto (tgt := 30) hx hb dX12_inScope_26 (by decide) ?_
        have h9 := Option.some.inj hF_16
        subst h9
        exact W.zret (v := 1) hx hb hr (by decide +kernel) (fun t ht hW => ⟨⟨1, (), rfl, rfl, m_end ht hP⟩, hS.F ht⟩) hS.2.2 dX12_inScope_30
      · have hF_10 := ipos c_9 hF_8
        clear hF_8
        refine lv_aload_n hx hb dX12_inScope_17 rfl (lv_at hl 0 rfl) ?_
        refine lv_iload_n hx hb dX12_inScope_18 rfl (lv_at hl 1 rfl) ?_
        obtain ⟨u_11, hu_11, hF_12⟩ := Option.bind_eq_some_iff.mp hF_10
        clear hF_10
        refine m_ci hsz hS (va_runV (As := [.int p0]) (rest := []) ⟨hx, hb, hml, hown, hts⟩ (m_X12_byPlayer l dC dI cB cC cI cJ cZ cP h qK qS ad hDD H.size  p0 u_4.2 _ hu_11) (cwV 1 hts (g_gV wq_1910 wq_1911 wq_2244 wq_13 wq_1912) rfl rfl rfl (by decide +kernel) ⟨Nat.le_of_ble_eq_true rfl, Nat.le_of_ble_eq_true rfl⟩) (m_preV g_bl0 hsz hK hP hS hE hKS g_to0) rfl rfl hl.1 rfl (lv_room (Nat.le_of_ble_eq_true rfl)) dX12_inScope_19 ⟨Nat.le_of_ble_eq_true rfl, Nat.le_of_ble_eq_true rfl⟩) (fun H locs hP hS => ?_)
        refine lv_if_eq (tgt := 29) hx hb dX12_inScope_22 (by decide) (fun c_13 => ?_) (fun c_13 => ?_)
        · have hF_14 := ipos c_13 hF_12
          clear hF_12
          refine lv_iconst (v := 0) hx hb dX12_inScope_29 (by decide +kernel) ?_
          have h9 := Option.some.inj hF_14
          subst h9
          exact W.zret (v := 0) hx hb hr (by decide +kernel) (fun t ht hW => ⟨⟨0, (), rfl, rfl, m_end ht hP⟩, hS.F ht⟩) hS.2.2 dX12_inScope_30
        · have hF_15 := ineg c_13 hF_12
          clear hF_12
          refine lv_iconst (v := 1) hx hb dX12_inScope_25 (by decide +kernel) ?_
          refine lv_goto (tgt := 30) hx hb dX12_inScope_26 (by decide) ?_
          have h9 := Option.some.inj hF_15
          subst h9
          exact W.zret (v := 1) hx hb hr (by decide +kernel) (fun t ht hW => ⟨⟨1, (), rfl, rfl, m_end ht hP⟩, hS.F ht⟩) hS.2.2 dX12_inScope_30
theorem dX12_nounOf_0 : decode cX12_nounOf 0 = .ok (.iload_n 2, 1) := by decide +kernel
theorem dX12_nounOf_1 : decode cX12_nounOf 1 = .ok (.istore 4, 2) := by decide +kernel
theorem dX12_nounOf_3 : decode cX12_nounOf 3 = .ok (.iload_n 3, 1) := by decide +kernel
theorem dX12_nounOf_4 : decode cX12_nounOf 4 = .ok (.iload_n 2, 1) := by decide +kernel
theorem dX12_nounOf_5 : decode cX12_nounOf 5 = .ok (.isub, 1) := by decide +kernel
theorem dX12_nounOf_6 : decode cX12_nounOf 6 = .ok (.iconst 1, 1) := by decide +kernel
theorem dX12_nounOf_7 : decode cX12_nounOf 7 = .ok (.if_icmp .le 42, 3) := by decide +kernel
theorem dX12_nounOf_10 : decode cX12_nounOf 10 = .ok (.aload_n 0, 1) := by decide +kernel
theorem dX12_nounOf_11 : decode cX12_nounOf 11 = .ok (.iload 4, 2) := by decide +kernel
theorem dX12_nounOf_13 : decode cX12_nounOf 13 = .ok (.ldc_w 880, 3) := by decide +kernel
theorem dX12_nounOf_16 : decode cX12_nounOf 16 = .ok (.invokevirtual 799, 3) := by decide +kernel
theorem dX12_nounOf_19 : decode cX12_nounOf 19 = .ok (.ifCond .ne 27, 3) := by decide +kernel
theorem dX12_nounOf_22 : decode cX12_nounOf 22 = .ok (.aload_n 0, 1) := by decide +kernel
theorem dX12_nounOf_23 : decode cX12_nounOf 23 = .ok (.iload 4, 2) := by decide +kernel
theorem dX12_nounOf_25 : decode cX12_nounOf 25 = .ok (.ldc_w 882, 3) := by decide +kernel
theorem dX12_nounOf_28 : decode cX12_nounOf 28 = .ok (.invokevirtual 799, 3) := by decide +kernel
theorem dX12_nounOf_31 : decode cX12_nounOf 31 = .ok (.ifCond .ne 15, 3) := by decide +kernel
theorem dX12_nounOf_34 : decode cX12_nounOf 34 = .ok (.aload_n 0, 1) := by decide +kernel
theorem dX12_nounOf_35 : decode cX12_nounOf 35 = .ok (.iload 4, 2) := by decide +kernel
theorem dX12_nounOf_37 : decode cX12_nounOf 37 = .ok (.ldc_w 883, 3) := by decide +kernel
theorem dX12_nounOf_40 : decode cX12_nounOf 40 = .ok (.invokevirtual 799, 3) := by decide +kernel
theorem dX12_nounOf_43 : decode cX12_nounOf 43 = .ok (.ifCond .eq 6, 3) := by decide +kernel
theorem dX12_nounOf_46 : decode cX12_nounOf 46 = .ok (.iinc 4 1, 3) := by decide +kernel
theorem dX12_nounOf_49 : decode cX12_nounOf 49 = .ok (.aload_n 0, 1) := by decide +kernel
theorem dX12_nounOf_50 : decode cX12_nounOf 50 = .ok (.invokevirtual 885, 3) := by decide +kernel
theorem dX12_nounOf_53 : decode cX12_nounOf 53 = .ok (.istore 5, 2) := by decide +kernel
theorem dX12_nounOf_55 : decode cX12_nounOf 55 = .ok (.iload_n 3, 1) := by decide +kernel
theorem dX12_nounOf_56 : decode cX12_nounOf 56 = .ok (.iload 4, 2) := by decide +kernel
theorem dX12_nounOf_58 : decode cX12_nounOf 58 = .ok (.isub, 1) := by decide +kernel
theorem dX12_nounOf_59 : decode cX12_nounOf 59 = .ok (.iconst 1, 1) := by decide +kernel
theorem dX12_nounOf_60 : decode cX12_nounOf 60 = .ok (.if_icmp .ne 44, 3) := by decide +kernel
theorem dX12_nounOf_63 : decode cX12_nounOf 63 = .ok (.aload_n 0, 1) := by decide +kernel
theorem dX12_nounOf_64 : decode cX12_nounOf 64 = .ok (.iload 4, 2) := by decide +kernel
theorem dX12_nounOf_66 : decode cX12_nounOf 66 = .ok (.ldc_w 888, 3) := by decide +kernel
theorem dX12_nounOf_69 : decode cX12_nounOf 69 = .ok (.invokevirtual 799, 3) := by decide +kernel
theorem dX12_nounOf_72 : decode cX12_nounOf 72 = .ok (.ifCond .eq 32, 3) := by decide +kernel
theorem dX12_nounOf_75 : decode cX12_nounOf 75 = .ok (.aload_n 0, 1) := by decide +kernel
theorem dX12_nounOf_76 : decode cX12_nounOf 76 = .ok (.getfield 665, 3) := by decide +kernel
theorem dX12_nounOf_79 : decode cX12_nounOf 79 = .ok (.ifCond .le 23, 3) := by decide +kernel
theorem dX12_nounOf_82 : decode cX12_nounOf 82 = .ok (.aload_n 0, 1) := by decide +kernel
theorem dX12_nounOf_83 : decode cX12_nounOf 83 = .ok (.aload_n 0, 1) := by decide +kernel
theorem dX12_nounOf_84 : decode cX12_nounOf 84 = .ok (.getfield 665, 3) := by decide +kernel
theorem dX12_nounOf_87 : decode cX12_nounOf 87 = .ok (.iload 5, 2) := by decide +kernel
theorem dX12_nounOf_89 : decode cX12_nounOf 89 = .ok (.invokevirtual 889, 3) := by decide +kernel
theorem dX12_nounOf_92 : decode cX12_nounOf 92 = .ok (.ifCond .eq 10, 3) := by decide +kernel
theorem dX12_nounOf_95 : decode cX12_nounOf 95 = .ok (.aload_n 0, 1) := by decide +kernel
theorem dX12_nounOf_96 : decode cX12_nounOf 96 = .ok (.getfield 665, 3) := by decide +kernel
theorem dX12_nounOf_99 : decode cX12_nounOf 99 = .ok (.goto 4, 3) := by decide +kernel
theorem dX12_nounOf_102 : decode cX12_nounOf 102 = .ok (.iconst (-1), 1) := by decide +kernel
theorem dX12_nounOf_103 : decode cX12_nounOf 103 = .ok (.ireturn, 1) := by decide +kernel
theorem dX12_nounOf_104 : decode cX12_nounOf 104 = .ok (.iload_n 3, 1) := by decide +kernel
theorem dX12_nounOf_105 : decode cX12_nounOf 105 = .ok (.iload 4, 2) := by decide +kernel
theorem dX12_nounOf_107 : decode cX12_nounOf 107 = .ok (.isub, 1) := by decide +kernel
theorem dX12_nounOf_108 : decode cX12_nounOf 108 = .ok (.iconst 1, 1) := by decide +kernel
theorem dX12_nounOf_109 : decode cX12_nounOf 109 = .ok (.if_icmp .ne 28, 3) := by decide +kernel
theorem dX12_nounOf_112 : decode cX12_nounOf 112 = .ok (.aload_n 0, 1) := by decide +kernel
theorem dX12_nounOf_113 : decode cX12_nounOf 113 = .ok (.iload 4, 2) := by decide +kernel
theorem dX12_nounOf_115 : decode cX12_nounOf 115 = .ok (.ldc_w 892, 3) := by decide +kernel
theorem dX12_nounOf_118 : decode cX12_nounOf 118 = .ok (.invokevirtual 799, 3) := by decide +kernel
theorem dX12_nounOf_121 : decode cX12_nounOf 121 = .ok (.ifCond .eq 16, 3) := by decide +kernel
theorem dX12_nounOf_124 : decode cX12_nounOf 124 = .ok (.iload_n 1, 1) := by decide +kernel
theorem dX12_nounOf_125 : decode cX12_nounOf 125 = .ok (.iconst 4, 1) := by decide +kernel
theorem dX12_nounOf_126 : decode cX12_nounOf 126 = .ok (.if_icmp .eq 8, 3) := by decide +kernel
theorem dX12_nounOf_129 : decode cX12_nounOf 129 = .ok (.iload_n 1, 1) := by decide +kernel
theorem dX12_nounOf_130 : decode cX12_nounOf 130 = .ok (.iconst 5, 1) := by decide +kernel
theorem dX12_nounOf_131 : decode cX12_nounOf 131 = .ok (.if_icmp .ne 6, 3) := by decide +kernel
theorem dX12_nounOf_134 : decode cX12_nounOf 134 = .ok (.bipush (-3), 2) := by decide +kernel
theorem dX12_nounOf_136 : decode cX12_nounOf 136 = .ok (.ireturn, 1) := by decide +kernel
theorem dX12_nounOf_137 : decode cX12_nounOf 137 = .ok (.iconst (-1), 1) := by decide +kernel
theorem dX12_nounOf_138 : decode cX12_nounOf 138 = .ok (.istore 6, 2) := by decide +kernel
theorem dX12_nounOf_140 : decode cX12_nounOf 140 = .ok (.iconst 1, 1) := by decide +kernel
theorem dX12_nounOf_141 : decode cX12_nounOf 141 = .ok (.istore 7, 2) := by decide +kernel
theorem dX12_nounOf_143 : decode cX12_nounOf 143 = .ok (.iload 7, 2) := by decide +kernel
theorem dX12_nounOf_145 : decode cX12_nounOf 145 = .ok (.aload_n 0, 1) := by decide +kernel
theorem dX12_nounOf_146 : decode cX12_nounOf 146 = .ok (.getfield 587, 3) := by decide +kernel
theorem dX12_nounOf_149 : decode cX12_nounOf 149 = .ok (.if_icmp .gt 87, 3) := by decide +kernel
theorem dX12_nounOf_152 : decode cX12_nounOf 152 = .ok (.aload_n 0, 1) := by decide +kernel
theorem dX12_nounOf_153 : decode cX12_nounOf 153 = .ok (.getfield 97, 3) := by decide +kernel
theorem dX12_nounOf_156 : decode cX12_nounOf 156 = .ok (.iload 7, 2) := by decide +kernel
theorem dX12_nounOf_158 : decode cX12_nounOf 158 = .ok (.baload, 1) := by decide +kernel
theorem dX12_nounOf_159 : decode cX12_nounOf 159 = .ok (.ifCond .ne 71, 3) := by decide +kernel
theorem dX12_nounOf_162 : decode cX12_nounOf 162 = .ok (.aload_n 0, 1) := by decide +kernel
theorem dX12_nounOf_163 : decode cX12_nounOf 163 = .ok (.iload 7, 2) := by decide +kernel
theorem dX12_nounOf_165 : decode cX12_nounOf 165 = .ok (.iload 5, 2) := by decide +kernel
theorem dX12_nounOf_167 : decode cX12_nounOf 167 = .ok (.invokevirtual 889, 3) := by decide +kernel
theorem dX12_nounOf_170 : decode cX12_nounOf 170 = .ok (.ifCond .ne 6, 3) := by decide +kernel
theorem dX12_nounOf_173 : decode cX12_nounOf 173 = .ok (.goto 57, 3) := by decide +kernel
theorem dX12_nounOf_176 : decode cX12_nounOf 176 = .ok (.iconst 1, 1) := by decide +kernel
theorem dX12_nounOf_177 : decode cX12_nounOf 177 = .ok (.istore 8, 2) := by decide +kernel
theorem dX12_nounOf_179 : decode cX12_nounOf 179 = .ok (.iload 4, 2) := by decide +kernel
theorem dX12_nounOf_181 : decode cX12_nounOf 181 = .ok (.istore 9, 2) := by decide +kernel
theorem dX12_nounOf_183 : decode cX12_nounOf 183 = .ok (.iload 9, 2) := by decide +kernel
theorem dX12_nounOf_185 : decode cX12_nounOf 185 = .ok (.iload_n 3, 1) := by decide +kernel
theorem dX12_nounOf_186 : decode cX12_nounOf 186 = .ok (.if_icmp .ge 24, 3) := by decide +kernel
theorem dX12_nounOf_189 : decode cX12_nounOf 189 = .ok (.iload 8, 2) := by decide +kernel
theorem dX12_nounOf_191 : decode cX12_nounOf 191 = .ok (.ifCond .eq 19, 3) := by decide +kernel
theorem dX12_nounOf_194 : decode cX12_nounOf 194 = .ok (.aload_n 0, 1) := by decide +kernel
theorem dX12_nounOf_195 : decode cX12_nounOf 195 = .ok (.iload 7, 2) := by decide +kernel
theorem dX12_nounOf_197 : decode cX12_nounOf 197 = .ok (.iload 9, 2) := by decide +kernel
theorem dX12_nounOf_199 : decode cX12_nounOf 199 = .ok (.invokevirtual 893, 3) := by decide +kernel
theorem dX12_nounOf_202 : decode cX12_nounOf 202 = .ok (.istore 8, 2) := by decide +kernel
theorem dX12_nounOf_204 : decode cX12_nounOf 204 = .ok (.iinc 9 1, 3) := by decide +kernel
theorem dX12_nounOf_207 : decode cX12_nounOf 207 = .ok (.goto (-24), 3) := by decide +kernel
theorem dX12_nounOf_210 : decode cX12_nounOf 210 = .ok (.iload 8, 2) := by decide +kernel
theorem dX12_nounOf_212 : decode cX12_nounOf 212 = .ok (.ifCond .eq 18, 3) := by decide +kernel
theorem dX12_nounOf_215 : decode cX12_nounOf 215 = .ok (.iload 6, 2) := by decide +kernel
theorem dX12_nounOf_217 : decode cX12_nounOf 217 = .ok (.iconst (-1), 1) := by decide +kernel
theorem dX12_nounOf_218 : decode cX12_nounOf 218 = .ok (.if_icmp .ne 8, 3) := by decide +kernel
theorem dX12_nounOf_221 : decode cX12_nounOf 221 = .ok (.iload 7, 2) := by decide +kernel
theorem dX12_nounOf_223 : decode cX12_nounOf 223 = .ok (.goto 5, 3) := by decide +kernel
theorem dX12_nounOf_226 : decode cX12_nounOf 226 = .ok (.bipush (-2), 2) := by decide +kernel
theorem dX12_nounOf_228 : decode cX12_nounOf 228 = .ok (.istore 6, 2) := by decide +kernel
theorem dX12_nounOf_230 : decode cX12_nounOf 230 = .ok (.iinc 7 1, 3) := by decide +kernel
theorem dX12_nounOf_233 : decode cX12_nounOf 233 = .ok (.goto (-90), 3) := by decide +kernel
theorem dX12_nounOf_236 : decode cX12_nounOf 236 = .ok (.iload 6, 2) := by decide +kernel
theorem dX12_nounOf_238 : decode cX12_nounOf 238 = .ok (.ireturn, 1) := by decide +kernel
def F_X12_nounOf (p0 : Int32) (p1 : Int32) (p2 : Int32) (σ : MS) : MR :=
  bnd (fun (v4_1 : Int32) (σ_2 : MS) => (
    (F_X12_isLight σ_2).bind fun u_6 =>
    bnd (fun  (σ_8 : MS) => (
      bnd (fun  (σ_12 : MS) => (
        loopF (fun (again_17 : (Int32 × Int32 × MS) → MR) (s_16 : Int32 × Int32 × MS) => (
          if (s_16.2.2.1 78) < s_16.2.1 then (
            some (s_16.1, s_16.2.2)
          ) else (
            if s_16.2.1 < 0 ∨ 121 ≤ s_16.2.1.toNatClampNeg then none else
            bnd (fun (v6_25 : Int32) (σ_26 : MS) => (
              bnd (s_16.2.1 + 1) fun (x_30 : Int32) =>
              again_17 (v6_25, x_30, σ_26)
            ) : Int32 → MS → MR) fun j_27 =>
            if (s_16.2.2.2 50 s_16.2.1.toNatClampNeg) = 0 then (
              (F_X12_inScope s_16.2.1 u_6.1 s_16.2.2).bind fun u_34 =>
              if u_34.1 = 0 then (
                j_27 s_16.1 u_34.2
              ) else (
                loopF (fun (again_40 : (Int32 × Int32 × MS) → MR) (s_39 : Int32 × Int32 × MS) => (
                  bnd (fun  (σ_43 : MS) => (
                    if s_39.1 = 0 then (
                      j_27 s_16.1 σ_43
                    ) else (
                      bnd (fun (t_50 : Int32) (σ_51 : MS) => (
                        j_27 t_50 σ_51
                      ) : Int32 → MS → MR) fun j_52 =>
                      if s_16.1 = (-1) then (
                        j_52 s_16.2.1 σ_43
                      ) else (
                        j_52 (-2) σ_43
                      )
                    )
                  ) : MS → MR) fun j_44 =>
                  if p2 ≤ s_39.2.1 then (
                    j_44  s_39.2.2
                  ) else (
                    if s_39.1 = 0 then (
                      j_44  s_39.2.2
                    ) else (
                      (F_X12_hasWord s_16.2.1 s_39.2.1 s_39.2.2).bind fun u_64 =>
                      bnd (s_39.2.1 + 1) fun (x_66 : Int32) =>
                      again_40 (u_64.1, x_66, u_64.2)
                    )
                  )
                )) FU (1, v4_1, u_34.2)
              )
            ) else (
              j_27 s_16.1 s_16.2.2
            )
          )
        )) FU ((-1), 1, σ_12)
      ) : MS → MR) fun j_13 =>
      if (p2 - v4_1) = 1 then (
        (F_X12_isTerm v4_1 ([97, 108, 108] : List Int32) σ_8).bind fun u_72 =>
        if u_72.1 = 0 then (
          j_13  u_72.2
        ) else (
          if p0 = 4 then (
            some ((-3), u_72.2)
          ) else (
            if p0 = 5 then (
              some ((-3), u_72.2)
            ) else (
              j_13  u_72.2
            )
          )
        )
      ) else (
        j_13  σ_8
      )
    ) : MS → MR) fun j_9 =>
    if (p2 - v4_1) = 1 then (
      (F_X12_isTerm v4_1 ([105, 116] : List Int32) u_6.2).bind fun u_87 =>
      if u_87.1 = 0 then (
        j_9  u_87.2
      ) else (
        if (u_87.2.1 96) ≤ 0 then (
          some ((-1), u_87.2)
        ) else (
          (F_X12_inScope (u_87.2.1 96) u_6.1 u_87.2).bind fun u_95 =>
          if u_95.1 = 0 then (
            some ((-1), u_95.2)
          ) else (
            some ((u_95.2.1 96), u_95.2)
          )
        )
      )
    ) else (
      j_9  u_6.2
    )
  ) : Int32 → MS → MR) fun j_3 =>
  if (p2 - p1) ≤ 1 then (
    j_3 p1 σ
  ) else (
    (F_X12_isTerm p1 ([116, 104, 101] : List Int32) σ).bind fun u_105 =>
    bnd (fun  (σ_107 : MS) => (
      bnd (p1 + 1) fun (x_111 : Int32) =>
      j_3 x_111 σ_107
    ) : MS → MR) fun j_108 =>
    if u_105.1 = 0 then (
      (F_X12_isTerm p1 ([97] : List Int32) u_105.2).bind fun u_116 =>
      if u_116.1 = 0 then (
        (F_X12_isTerm p1 ([97, 110] : List Int32) u_116.2).bind fun u_121 =>
        if u_121.1 = 0 then (
          j_3 p1 u_121.2
        ) else (
          j_108  u_121.2
        )
      ) else (
        j_108  u_116.2
      )
    ) else (
      j_108  u_105.2
    )
  )
set_option maxHeartbeats 4000000 in
set_option maxRecDepth 100000 in
theorem m_X12_nounOf (l : Launch) (dC : Nat → ClassId) (dI : Nat → Nat → Nat) (cB cC cI cJ cZ cP : ClassId) (h qK qS : Nat) (ad : Nat → Nat) (hDD : mDis cB cI cZ h qK qS ad) (sz : Nat)  (p0 : Int32) (p1 : Int32) (p2 : Int32) (σ : MS) (res : Int32 × MS) (hF : F_X12_nounOf p0 p1 p2 σ = some res) : Met l yX12_nounOf (g_ws yX12_nounOf cX12_nounOf 10 (some .int)) ({ frames := 128, cells := 0, slots := 0, locals := 2834 }) (va_Pc [.ref h, .int p0, .int p1, .int p2] (m_B (dC, dI) [(cB, .byte), (cC, .char), (cI, .int), (cJ, .long), (cZ, .boolean), (cP, .object "StoryHouse$Play")] sz h ad qK qS (mW cB cI cZ h qK qS ad σ) g_0)) (va_Qi (fun r (_ : Unit) => r = res.1) (fun _ t => va_P (dC, dI) vwCl (mW cB cI cZ h qK qS ad res.2) t.heap) (mCells h ad sz)) 0 0 (mCells h ad sz) := by
  refine Met.ofW (cc := cX12_nounOf) (maxL := 10) (ret := (some .int)) (by decide) rfl ?_
  intro p e s m args below meth c s₁ B hml hv
  obtain ⟨rfl, hsz, hP, hK, hE, hKS, hX⟩ := hv
  have hx := B.exec
  have hb := B.bytes
  have hr := B.returns
  have hts0 := atoms_spec (ws := g_ws yX12_nounOf cX12_nounOf 10 (some .int)) B.pre
  have hts : ∀ w ∈ lw_good, w.before ([.ref h, .int p0, .int p1, .int p2] : List Value).toArray s = true := fun w z => hts0 w (List.mem_cons_of_mem _ z)
  have hown : s.vm.findClass RX12 = some m.cls := findClass_of_methodNamed B.named
  have hlocks := B.notSynchronized
  have hS : va_S (mCells h ad sz) s.heap s.heap [] := va_S.rf
  have hl := lv_entry ([.ref h, .int p0, .int p1, .int p2]) (n := 10) (Nat.le_of_ble_eq_true rfl)
  rw [lg_entry_eq]
  generalize (lg_sl ([.ref h, .int p0, .int p1, .int p2]) ++ List.replicate (10 - (lg_sl ([.ref h, .int p0, .int p1, .int p2])).length) Slot.unset).toArray = ls at hl ⊢
  have hl : lv_has ls 10 [(0, .ref h), (1, .int p0), (2, .int p1), (3, .int p2)] := hl
  unfold F_X12_nounOf at hF
  refine lv_iload_n hx hb dX12_nounOf_0 rfl (lv_at hl 2 rfl) ?_
  refine lv_istore (lv' := [(4, .int p1), (0, .ref h), (1, .int p0), (2, .int p1), (3, .int p2)]) hx hb dX12_nounOf_1 hl (by decide) rfl (fun ls hl => ?_)
  refine lv_iload_n hx hb dX12_nounOf_3 rfl (lv_at hl 4 rfl) ?_
  refine lv_iload_n hx hb dX12_nounOf_4 rfl (lv_at hl 3 rfl) ?_
  refine lv_isub hx hb dX12_nounOf_5 ?_
  refine lv_iconst (v := 1) hx hb dX12_nounOf_6 (by decide +kernel) ?_
  obtain ⟨j_3, ej_3, hF_4⟩ := bnd_e hF
  clear hF
  have Jj_3 : ∀ (v4_1 : Int32) (σ_2 : MS), j_3 v4_1 σ_2 = some res → ∀ (H : Heap) (locs : List Loc), va_P (dC, dI) vwCl (mW cB cI cZ h qK qS ad σ_2) H → va_S (mCells h ad sz) s.heap H locs → ∀ ls : Array Slot, lv_has ls 10 [(0, .ref h), (1, .int p0), (3, .int p2), (4, .int v4_1)] → W p l e (headSpec (g_ws yX12_nounOf cX12_nounOf 10 (some .int)) { frames := 128, cells := 0, slots := 0, locals := 2834 }).room s m ([.ref h, .int p0, .int p1, .int p2] : List Value).toArray below meth c H locs 0 0 (MQ below (va_Qi (fun r (_ : Unit) => r = res.1) (fun _ t => va_P (dC, dI) vwCl (mW cB cI cZ h qK qS ad res.2) t.heap) (mCells h ad sz)) ([.ref h, .int p0, .int p1, .int p2] : List Value).toArray s 0 0 (mCells h ad sz)) (F0 m 49 ls []) := by
    intro v4_1 σ_2 hF0 H locs hP hS ls hl
    subst ej_3
    have hF_5 := hF0
    clear hF0
    refine lv_aload_n hx hb dX12_nounOf_49 rfl (lv_at hl 0 rfl) ?_
    obtain ⟨u_6, hu_6, hF_7⟩ := Option.bind_eq_some_iff.mp hF_5
    clear hF_5
    refine m_ci hsz hS (va_runV (As := []) (rest := []) ⟨hx, hb, hml, hown, hts⟩ (m_X12_isLight l dC dI cB cC cI cJ cZ cP h qK qS ad hDD H.size  σ_2 _ hu_6) (cwV 0 hts (g_gV wq_1755 wq_1756 wq_2194 wq_13 wq_1757) rfl rfl rfl (by decide +kernel) ⟨Nat.le_of_ble_eq_true rfl, Nat.le_of_ble_eq_true rfl⟩) (m_preV g_bl0 hsz hK hP hS hE hKS g_to0) rfl rfl hl.1 rfl (lv_room (Nat.le_of_ble_eq_true rfl)) dX12_nounOf_50 ⟨Nat.le_of_ble_eq_true rfl, Nat.le_of_ble_eq_true rfl⟩) (fun H locs hP hS => ?_)
    refine lv_istore (lv' := [(5, .int u_6.1), (0, .ref h), (1, .int p0), (3, .int p2), (4, .int v4_1)]) hx hb dX12_nounOf_53 hl (by decide) rfl (fun ls hl => ?_)
    refine lv_iload_n hx hb dX12_nounOf_55 rfl (lv_at hl 3 rfl) ?_
    refine lv_iload hx hb dX12_nounOf_56 (lv_at hl 4 rfl) ?_
    refine lv_isub hx hb dX12_nounOf_58 ?_
    refine lv_iconst (v := 1) hx hb dX12_nounOf_59 (by decide +kernel) ?_
    obtain ⟨j_9, ej_9, hF_10⟩ := bnd_e hF_7
    clear hF_7
    have Jj_9 : ∀  (σ_8 : MS), j_9  σ_8 = some res → ∀ (H : Heap) (locs : List Loc), va_P (dC, dI) vwCl (mW cB cI cZ h qK qS ad σ_8) H → va_S (mCells h ad sz) s.heap H locs → ∀ ls : Array Slot, lv_has ls 10 [(0, .ref h), (1, .int p0), (3, .int p2), (4, .int v4_1), (5, .int u_6.1)] → W p l e (headSpec (g_ws yX12_nounOf cX12_nounOf 10 (some .int)) { frames := 128, cells := 0, slots := 0, locals := 2834 }).room s m ([.ref h, .int p0, .int p1, .int p2] : List Value).toArray below meth c H locs 0 0 (MQ below (va_Qi (fun r (_ : Unit) => r = res.1) (fun _ t => va_P (dC, dI) vwCl (mW cB cI cZ h qK qS ad res.2) t.heap) (mCells h ad sz)) ([.ref h, .int p0, .int p1, .int p2] : List Value).toArray s 0 0 (mCells h ad sz)) (F0 m 104 ls []) := by
      intro  σ_8 hF0 H locs hP hS ls hl
      subst ej_9
      have hF_11 := hF0
      clear hF0
      refine lv_iload_n hx hb dX12_nounOf_104 rfl (lv_at hl 2 rfl) ?_
      refine lv_iload hx hb dX12_nounOf_105 (lv_at hl 3 rfl) ?_
      refine lv_isub hx hb dX12_nounOf_107 ?_
      refine lv_iconst (v := 1) hx hb dX12_nounOf_108 (by decide +kernel) ?_
      obtain ⟨j_13, ej_13, hF_14⟩ := bnd_e hF_11
      clear hF_11
      have Jj_13 : ∀  (σ_12 : MS), j_13  σ_12 = some res → ∀ (H : Heap) (locs : List Loc), va_P (dC, dI) vwCl (mW cB cI cZ h qK qS ad σ_12) H → va_S (mCells h ad sz) s.heap H locs → ∀ ls : Array Slot, lv_has ls 10 [(0, .ref h), (3, .int p2), (4, .int v4_1), (5, .int u_6.1)] → W p l e (headSpec (g_ws yX12_nounOf cX12_nounOf 10 (some .int)) { frames := 128, cells := 0, slots := 0, locals := 2834 }).room s m ([.ref h, .int p0, .int p1, .int p2] : List Value).toArray below meth c H locs 0 0 (MQ below (va_Qi (fun r (_ : Unit) => r = res.1) (fun _ t => va_P (dC, dI) vwCl (mW cB cI cZ h qK qS ad res.2) t.heap) (mCells h ad sz)) ([.ref h, .int p0, .int p1, .int p2] : List Value).toArray s 0 0 (mCells h ad sz)) (F0 m 137 ls []) := by
        intro  σ_12 hF0 H locs hP hS ls hl
        subst ej_13
        have hF_15 := hF0
        clear hF0
        refine lv_iconst (v := (-1)) hx hb dX12_nounOf_137 (by decide +kernel) ?_
        refine lv_istore (lv' := [(6, .int (-1)), (0, .ref h), (3, .int p2), (4, .int v4_1), (5, .int u_6.1)]) hx hb dX12_nounOf_138 hl (by decide) rfl (fun ls hl => ?_)
        refine lv_iconst (v := 1) hx hb dX12_nounOf_140 (by decide +kernel) ?_
        refine lv_istore (lv' := [(7, .int 1), (6, .int (-1)), (0, .ref h), (3, .int p2), (4, .int v4_1), (5, .int u_6.1)]) hx hb dX12_nounOf_141 hl (by decide) rfl (fun ls hl => ?_)
        refine loopF_ind (P := fun (s_16 : Int32 × Int32 × MS) => ∀ (H : Heap) (locs : List Loc), va_P (dC, dI) vwCl (mW cB cI cZ h qK qS ad s_16.2.2) H → va_S (mCells h ad sz) s.heap H locs → ∀ ls : Array Slot, lv_has ls 10 [(0, .ref h), (3, .int p2), (4, .int v4_1), (5, .int u_6.1), (6, .int s_16.1), (7, .int s_16.2.1)] → W p l e (headSpec (g_ws yX12_nounOf cX12_nounOf 10 (some .int)) { frames := 128, cells := 0, slots := 0, locals := 2834 }).room s m ([.ref h, .int p0, .int p1, .int p2] : List Value).toArray below meth c H locs 0 0 (MQ below (va_Qi (fun r (_ : Unit) => r = res.1) (fun _ t => va_P (dC, dI) vwCl (mW cB cI cZ h qK qS ad res.2) t.heap) (mCells h ad sz)) ([.ref h, .int p0, .int p1, .int p2] : List Value).toArray s 0 0 (mCells h ad sz)) (F0 m 143 ls [])) ?_ _ _ hF_15 _ _ hP hS ls (lv_sub hl [2, 3, 4, 5, 1, 0] rfl)
        intro again_17 s_16 ih_18 hF_19
        intro H locs hP hS ls hl
        refine lv_iload hx hb dX12_nounOf_143 (lv_at hl 5 rfl) ?_
        refine lv_aload_n hx hb dX12_nounOf_145 rfl (lv_at hl 0 rfl) ?_
        refine va_get (D := (dC, dI)) (ci := 12) (v := .int (s_16.2.2.1 78)) (C := RX12) (T := TX12) (N := 123) hx hb hts ii_X12 hown hK hP 0 rfl rfl 78 (by decide) (hts (.fieldLink RX12 587 "StoryHouseModel" "nObjects" "I") wq_1434) (fun _ h9 => h9) rfl dX12_nounOf_146 ?_
        refine lv_icmp_gt (tgt := 236) hx hb dX12_nounOf_149 (by decide) (fun c_20 => ?_) (fun c_20 => ?_)
        · have hF_21 := ipos c_20 hF_19
          clear hF_19
          refine lv_iload hx hb dX12_nounOf_236 (lv_at hl 4 rfl) ?_
          have h9 := Option.some.inj hF_21
          subst h9
          exact W.iret (v := s_16.1) hx hb hr (fun t ht hW => ⟨⟨s_16.1, (), rfl, rfl, m_end ht hP⟩, hS.F ht⟩) hS.2.2 dX12_nounOf_238
        · have hF_22 := ineg c_20 hF_19
          clear hF_19
          refine lv_aload_n hx hb dX12_nounOf_152 rfl (lv_at hl 0 rfl) ?_
          refine va_get (D := (dC, dI)) (ci := 12) (v := .ref (ad 50)) (C := RX12) (T := TX12) (N := 123) hx hb hts ii_X12 hown hK hP 0 rfl rfl 50 (by decide) (hts (.fieldLink RX12 97 "StoryHouseModel" "isRoom" "[Z") wq_1406) (fun _ h9 => h9) rfl dX12_nounOf_153 ?_
          refine lv_iload hx hb dX12_nounOf_156 (lv_at hl 5 rfl) ?_
          obtain ⟨g_23, hF_24⟩ := nif_e hF_22
          clear hF_22
          refine va_zald (f := s_16.2.2.2 50) hx hb hK hP 24 4 rfl rfl g_23 dX12_nounOf_158 ?_
          obtain ⟨j_27, ej_27, hF_28⟩ := bnd_e hF_24
          clear hF_24
          have Jj_27 : ∀ (v6_25 : Int32) (σ_26 : MS), j_27 v6_25 σ_26 = some res → ∀ (H : Heap) (locs : List Loc), va_P (dC, dI) vwCl (mW cB cI cZ h qK qS ad σ_26) H → va_S (mCells h ad sz) s.heap H locs → ∀ ls : Array Slot, lv_has ls 10 [(0, .ref h), (3, .int p2), (4, .int v4_1), (5, .int u_6.1), (6, .int v6_25), (7, .int s_16.2.1)] → W p l e (headSpec (g_ws yX12_nounOf cX12_nounOf 10 (some .int)) { frames := 128, cells := 0, slots := 0, locals := 2834 }).room s m ([.ref h, .int p0, .int p1, .int p2] : List Value).toArray below meth c H locs 0 0 (MQ below (va_Qi (fun r (_ : Unit) => r = res.1) (fun _ t => va_P (dC, dI) vwCl (mW cB cI cZ h qK qS ad res.2) t.heap) (mCells h ad sz)) ([.ref h, .int p0, .int p1, .int p2] : List Value).toArray s 0 0 (mCells h ad sz)) (F0 m 230 ls []) := by
            intro v6_25 σ_26 hF0 H locs hP hS ls hl
            subst ej_27
            have hF_29 := hF0
            clear hF0
            obtain ⟨x_30, ex_30, hF_31⟩ := bnd_e hF_29
            clear hF_29
            refine lv_iinc (v := x_30) (lv' := [(7, .int x_30), (0, .ref h), (3, .int p2), (4, .int v4_1), (5, .int u_6.1), (6, .int v6_25)]) hx hb dX12_nounOf_230 hl (k := 5) rfl (by rw [ex_30]; rfl) (by decide) rfl (fun ls hl => ?_)
            refine lv_goto (tgt := 143) hx hb dX12_nounOf_233 (by decide) ?_
            exact ih_18 (v6_25, x_30, σ_26) hF_31 _ _ hP hS ls (lv_sub hl [1, 2, 3, 4, 5, 0] rfl)
          refine lv_if_ne (tgt := 230) hx hb dX12_nounOf_159 (by decide) (fun c_32 => ?_) (fun c_32 => ?_)
          · have hF_68 := ineg c_32 hF_28
            clear hF_28
            exact Jj_27 s_16.1 s_16.2.2 hF_68 _ _ hP hS ls (lv_sub hl [0, 1, 2, 3, 4, 5] rfl)
          · have hF_33 := ipos c_32 hF_28
            clear hF_28
            refine lv_aload_n hx hb dX12_nounOf_162 rfl (lv_at hl 0 rfl) ?_
            refine lv_iload hx hb dX12_nounOf_163 (lv_at hl 5 rfl) ?_
            refine lv_iload hx hb dX12_nounOf_165 (lv_at hl 3 rfl) ?_
            obtain ⟨u_34, hu_34, hF_35⟩ := Option.bind_eq_some_iff.mp hF_33
            clear hF_33
            refine m_ci hsz hS (va_runV (As := [.int s_16.2.1, .int u_6.1]) (rest := []) ⟨hx, hb, hml, hown, hts⟩ (m_X12_inScope l dC dI cB cC cI cJ cZ cP h qK qS ad hDD H.size  s_16.2.1 u_6.1 s_16.2.2 _ hu_34) (cwV 2 hts (g_gV wq_1907 wq_1908 wq_2243 wq_13 wq_1909) rfl rfl rfl (by decide +kernel) ⟨Nat.le_of_ble_eq_true rfl, Nat.le_of_ble_eq_true rfl⟩) (m_preV g_bl0 hsz hK hP hS hE hKS g_to0) rfl rfl hl.1 rfl (lv_room (Nat.le_of_ble_eq_true rfl)) dX12_nounOf_167 ⟨Nat.le_of_ble_eq_true rfl, Nat.le_of_ble_eq_true rfl⟩) (fun H locs hP hS => ?_)
            refine lv_if_ne (tgt := 176) hx hb dX12_nounOf_170 (by decide) (fun c_36 => ?_) (fun c_36 => ?_)
            · have hF_38 := ineg c_36 hF_35
              clear hF_35
              refine lv_iconst (v := 1) hx hb dX12_nounOf_176 (by decide +kernel) ?_
              refine lv_istore (lv' := [(8, .int 1), (0, .ref h), (3, .int p2), (4, .int v4_1), (5, .int u_6.1), (6, .int s_16.1), (7, .int s_16.2.1)]) hx hb dX12_nounOf_177 hl (by decide) rfl (fun ls hl => ?_)
              refine lv_iload hx hb dX12_nounOf_179 (lv_at hl 3 rfl) ?_
              refine lv_istore (lv' := [(9, .int v4_1), (8, .int 1), (0, .ref h), (3, .int p2), (4, .int v4_1), (5, .int u_6.1), (6, .int s_16.1), (7, .int s_16.2.1)]) hx hb dX12_nounOf_181 hl (by decide) rfl (fun ls hl => ?_)
              refine loopF_ind (P := fun (s_39 : Int32 × Int32 × MS) => ∀ (H : Heap) (locs : List Loc), va_P (dC, dI) vwCl (mW cB cI cZ h qK qS ad s_39.2.2) H → va_S (mCells h ad sz) s.heap H locs → ∀ ls : Array Slot, lv_has ls 10 [(0, .ref h), (3, .int p2), (4, .int v4_1), (5, .int u_6.1), (6, .int s_16.1), (7, .int s_16.2.1), (8, .int s_39.1), (9, .int s_39.2.1)] → W p l e (headSpec (g_ws yX12_nounOf cX12_nounOf 10 (some .int)) { frames := 128, cells := 0, slots := 0, locals := 2834 }).room s m ([.ref h, .int p0, .int p1, .int p2] : List Value).toArray below meth c H locs 0 0 (MQ below (va_Qi (fun r (_ : Unit) => r = res.1) (fun _ t => va_P (dC, dI) vwCl (mW cB cI cZ h qK qS ad res.2) t.heap) (mCells h ad sz)) ([.ref h, .int p0, .int p1, .int p2] : List Value).toArray s 0 0 (mCells h ad sz)) (F0 m 183 ls [])) ?_ _ _ hF_38 _ _ hP hS ls (lv_sub hl [2, 3, 4, 5, 6, 7, 1, 0] rfl)
              intro again_40 s_39 ih_41 hF_42
              intro H locs hP hS ls hl
              refine lv_iload hx hb dX12_nounOf_183 (lv_at hl 7 rfl) ?_
              refine lv_iload_n hx hb dX12_nounOf_185 rfl (lv_at hl 1 rfl) ?_
              obtain ⟨j_44, ej_44, hF_45⟩ := bnd_e hF_42
              clear hF_42
              have Jj_44 : ∀  (σ_43 : MS), j_44  σ_43 = some res → ∀ (H : Heap) (locs : List Loc), va_P (dC, dI) vwCl (mW cB cI cZ h qK qS ad σ_43) H → va_S (mCells h ad sz) s.heap H locs → ∀ ls : Array Slot, lv_has ls 10 [(0, .ref h), (3, .int p2), (4, .int v4_1), (5, .int u_6.1), (6, .int s_16.1), (7, .int s_16.2.1), (8, .int s_39.1)] → W p l e (headSpec (g_ws yX12_nounOf cX12_nounOf 10 (some .int)) { frames := 128, cells := 0, slots := 0, locals := 2834 }).room s m ([.ref h, .int p0, .int p1, .int p2] : List Value).toArray below meth c H locs 0 0 (MQ below (va_Qi (fun r (_ : Unit) => r = res.1) (fun _ t => va_P (dC, dI) vwCl (mW cB cI cZ h qK qS ad res.2) t.heap) (mCells h ad sz)) ([.ref h, .int p0, .int p1, .int p2] : List Value).toArray s 0 0 (mCells h ad sz)) (F0 m 210 ls []) := by
                intro  σ_43 hF0 H locs hP hS ls hl
                subst ej_44
                have hF_46 := hF0
                clear hF0
                refine lv_iload hx hb dX12_nounOf_210 (lv_at hl 6 rfl) ?_
                refine lv_if_eq (tgt := 230) hx hb dX12_nounOf_212 (by decide) (fun c_47 => ?_) (fun c_47 => ?_)
                · have hF_48 := ipos c_47 hF_46
                  clear hF_46
                  exact Jj_27 s_16.1 σ_43 hF_48 _ _ hP hS ls (lv_sub hl [0, 1, 2, 3, 4, 5] rfl)
                · have hF_49 := ineg c_47 hF_46
                  clear hF_46
                  refine lv_iload hx hb dX12_nounOf_215 (lv_at hl 4 rfl) ?_
                  refine lv_iconst (v := (-1)) hx hb dX12_nounOf_217 (by decide +kernel) ?_
                  obtain ⟨j_52, ej_52, hF_53⟩ := bnd_e hF_49
                  clear hF_49
                  have Jj_52 : ∀ (t_50 : Int32) (σ_51 : MS), j_52 t_50 σ_51 = some res → ∀ (H : Heap) (locs : List Loc), va_P (dC, dI) vwCl (mW cB cI cZ h qK qS ad σ_51) H → va_S (mCells h ad sz) s.heap H locs → ∀ ls : Array Slot, lv_has ls 10 [(0, .ref h), (3, .int p2), (4, .int v4_1), (5, .int u_6.1), (7, .int s_16.2.1)] → W p l e (headSpec (g_ws yX12_nounOf cX12_nounOf 10 (some .int)) { frames := 128, cells := 0, slots := 0, locals := 2834 }).room s m ([.ref h, .int p0, .int p1, .int p2] : List Value).toArray below meth c H locs 0 0 (MQ below (va_Qi (fun r (_ : Unit) => r = res.1) (fun _ t => va_P (dC, dI) vwCl (mW cB cI cZ h qK qS ad res.2) t.heap) (mCells h ad sz)) ([.ref h, .int p0, .int p1, .int p2] : List Value).toArray s 0 0 (mCells h ad sz)) (F0 m 228 ls [.int t_50]) := by
                    intro t_50 σ_51 hF0 H locs hP hS ls hl
                    subst ej_52
                    have hF_54 := hF0
                    clear hF0
                    refine lv_istore (lv' := [(6, .int t_50), (0, .ref h), (3, .int p2), (4, .int v4_1), (5, .int u_6.1), (7, .int s_16.2.1)]) hx hb dX12_nounOf_228 hl (by decide) rfl (fun ls hl => ?_)
                    exact Jj_27 t_50 σ_51 hF_54 _ _ hP hS ls (lv_sub hl [1, 2, 3, 4, 0, 5] rfl)
                  refine lv_icmp_ne (tgt := 226) hx hb dX12_nounOf_218 (by decide) (fun c_55 => ?_) (fun c_55 => ?_)
                  · have hF_57 := ineg c_55 hF_53
                    clear hF_53
                    refine lv_bipush (v := (-2)) hx hb dX12_nounOf_226 (by decide +kernel) ?_
                    exact Jj_52 (-2) σ_43 hF_57 _ _ hP hS ls (lv_sub hl [0, 1, 2, 3, 5] rfl)
                  · have hF_56 := ipos c_55 hF_53
                    clear hF_53
                    refine lv_iload hx hb dX12_nounOf_221 (lv_at hl 5 rfl) ?_
                    refine lv_goto (tgt := 228) hx hb dX12_nounOf_223 (by decide) ?_
                    exact Jj_52 s_16.2.1 σ_43 hF_56 _ _ hP hS ls (lv_sub hl [0, 1, 2, 3, 5] rfl)
              refine lv_icmp_ge (tgt := 210) hx hb dX12_nounOf_186 (by decide) (fun c_58 => ?_) (fun c_58 => ?_)
              · have hF_59 := ipos c_58 hF_45
                clear hF_45
                exact Jj_44  s_39.2.2 hF_59 _ _ hP hS ls (lv_sub hl [0, 1, 2, 3, 4, 5, 6] rfl)
              · have hF_60 := ineg c_58 hF_45
                clear hF_45
                refine lv_iload hx hb dX12_nounOf_189 (lv_at hl 6 rfl) ?_
                refine lv_if_eq (tgt := 210) hx hb dX12_nounOf_191 (by decide) (fun c_61 => ?_) (fun c_61 => ?_)
                · have hF_62 := ipos c_61 hF_60
                  clear hF_60
                  exact Jj_44  s_39.2.2 hF_62 _ _ hP hS ls (lv_sub hl [0, 1, 2, 3, 4, 5, 6] rfl)
                · have hF_63 := ineg c_61 hF_60
                  clear hF_60
                  refine lv_aload_n hx hb dX12_nounOf_194 rfl (lv_at hl 0 rfl) ?_
                  refine lv_iload hx hb dX12_nounOf_195 (lv_at hl 5 rfl) ?_
                  refine lv_iload hx hb dX12_nounOf_197 (lv_at hl 7 rfl) ?_
                  obtain ⟨u_64, hu_64, hF_65⟩ := Option.bind_eq_some_iff.mp hF_63
                  clear hF_63
                  refine m_ci hsz hS (va_runV (As := [.int s_16.2.1, .int s_39.2.1]) (rest := []) ⟨hx, hb, hml, hown, hts⟩ (m_X12_hasWord l dC dI cB cC cI cJ cZ cP h qK qS ad hDD H.size  s_16.2.1 s_39.2.1 s_39.2.2 _ hu_64) (cwV 2 hts (g_gV wq_1913 wq_1914 wq_2245 wq_13 wq_1915) rfl rfl rfl (by decide +kernel) ⟨Nat.le_of_ble_eq_true rfl, Nat.le_of_ble_eq_true rfl⟩) (m_preV g_bl0 hsz hK hP hS hE hKS g_to0) rfl rfl hl.1 rfl (lv_room (Nat.le_of_ble_eq_true rfl)) dX12_nounOf_199 ⟨Nat.le_of_ble_eq_true rfl, Nat.le_of_ble_eq_true rfl⟩) (fun H locs hP hS => ?_)
                  refine lv_istore (lv' := [(8, .int u_64.1), (0, .ref h), (3, .int p2), (4, .int v4_1), (5, .int u_6.1), (6, .int s_16.1), (7, .int s_16.2.1), (9, .int s_39.2.1)]) hx hb dX12_nounOf_202 hl (by decide) rfl (fun ls hl => ?_)
                  obtain ⟨x_66, ex_66, hF_67⟩ := bnd_e hF_65
                  clear hF_65
                  refine lv_iinc (v := x_66) (lv' := [(9, .int x_66), (8, .int u_64.1), (0, .ref h), (3, .int p2), (4, .int v4_1), (5, .int u_6.1), (6, .int s_16.1), (7, .int s_16.2.1)]) hx hb dX12_nounOf_204 hl (k := 7) rfl (by rw [ex_66]; rfl) (by decide) rfl (fun ls hl => ?_)
                  refine lv_goto (tgt := 183) hx hb dX12_nounOf_207 (by decide) ?_
                  exact ih_41 (u_64.1, x_66, u_64.2) hF_67 _ _ hP hS ls (lv_sub hl [2, 3, 4, 5, 6, 7, 1, 0] rfl)
            · have hF_37 := ipos c_36 hF_35
              clear hF_35
              refine lv_goto (tgt := 230) hx hb dX12_nounOf_173 (by decide) ?_
              exact Jj_27 s_16.1 u_34.2 hF_37 _ _ hP hS ls (lv_sub hl [0, 1, 2, 3, 4, 5] rfl)
      refine lv_icmp_ne (tgt := 137) hx hb dX12_nounOf_109 (by decide) (fun c_69 => ?_) (fun c_69 => ?_)
      · have hF_83 := ineg c_69 hF_14
        clear hF_14
        exact Jj_13  σ_8 hF_83 _ _ hP hS ls (lv_sub hl [0, 2, 3, 4] rfl)
      · have hF_70 := ipos c_69 hF_14
        clear hF_14
        refine lv_aload_n hx hb dX12_nounOf_112 rfl (lv_at hl 0 rfl) ?_
        refine lv_iload hx hb dX12_nounOf_113 (lv_at hl 3 rfl) ?_
        obtain ⟨q_71, vq_71, hRq_71, hSq_71⟩ := hE.2.2.2.2 _ (List.mem_of_getElem? (i := 154) rfl)
        refine g_ldcwS (own := RX12) (tx := "all") hx hb hown hRq_71 dX12_nounOf_115 ?_
        obtain ⟨u_72, hu_72, hF_73⟩ := Option.bind_eq_some_iff.mp hF_70
        clear hF_70
        refine m_ci hsz hS (va_runV (As := [.int v4_1, .ref q_71]) (rest := []) ⟨hx, hb, hml, hown, hts⟩ (m_X12_isTerm l dC dI cB cC cI cJ cZ cP h qK qS ad hDD H.size q_71 _ v4_1 ([97, 108, 108] : List Int32) σ_8 _ hu_72) (cwV 2 hts (g_gV wq_1789 wq_1790 wq_2204 wq_13 wq_1791) rfl rfl rfl (by decide +kernel) ⟨Nat.le_of_ble_eq_true rfl, Nat.le_of_ble_eq_true rfl⟩) (m_preV g_blS hsz hK hP hS hE hKS (g_toS hSq_71 hS (m_narrow hS hsz))) rfl rfl hl.1 rfl (lv_room (Nat.le_of_ble_eq_true rfl)) dX12_nounOf_118 ⟨Nat.le_of_ble_eq_true rfl, Nat.le_of_ble_eq_true rfl⟩) (fun H locs hP hS => ?_)
        refine lv_if_eq (tgt := 137) hx hb dX12_nounOf_121 (by decide) (fun c_74 => ?_) (fun c_74 => ?_)
        · have hF_75 := ipos c_74 hF_73
          clear hF_73
          exact Jj_13  u_72.2 hF_75 _ _ hP hS ls (lv_sub hl [0, 2, 3, 4] rfl)
        · have hF_76 := ineg c_74 hF_73
          clear hF_73
          refine lv_iload_n hx hb dX12_nounOf_124 rfl (lv_at hl 1 rfl) ?_
          refine lv_iconst (v := 4) hx hb dX12_nounOf_125 (by decide +kernel) ?_
          refine lv_icmp_eq (tgt := 134) hx hb dX12_nounOf_126 (by decide) (fun c_77 => ?_) (fun c_77 => ?_)
          · have hF_78 := ipos c_77 hF_76
            clear hF_76
            refine lv_bipush (v := (-3)) hx hb dX12_nounOf_134 (by decide +kernel) ?_
            have h9 := Option.some.inj hF_78
            subst h9
            exact W.iret (v := (-3)) hx hb hr (fun t ht hW => ⟨⟨(-3), (), rfl, rfl, m_end ht hP⟩, hS.F ht⟩) hS.2.2 dX12_nounOf_136
          · have hF_79 := ineg c_77 hF_76
            clear hF_76
            refine lv_iload_n hx hb dX12_nounOf_129 rfl (lv_at hl 1 rfl) ?_
            refine lv_iconst (v := 5) hx hb dX12_nounOf_130 (by decide +kernel) ?_
            refine lv_icmp_ne (tgt := 137) hx hb dX12_nounOf_131 (by decide) (fun c_80 => ?_) (fun c_80 => ?_)
            · have hF_82 := ineg c_80 hF_79
              clear hF_79
              exact Jj_13  u_72.2 hF_82 _ _ hP hS ls (lv_sub hl [0, 2, 3, 4] rfl)
            · have hF_81 := ipos c_80 hF_79
              clear hF_79
              refine lv_bipush (v := (-3)) hx hb dX12_nounOf_134 (by decide +kernel) ?_
              have h9 := Option.some.inj hF_81
              subst h9
              exact W.iret (v := (-3)) hx hb hr (fun t ht hW => ⟨⟨(-3), (), rfl, rfl, m_end ht hP⟩, hS.F ht⟩) hS.2.2 dX12_nounOf_136
    refine lv_icmp_ne (tgt := 104) hx hb dX12_nounOf_60 (by decide) (fun c_84 => ?_) (fun c_84 => ?_)
    · have hF_100 := ineg c_84 hF_10
      clear hF_10
      exact Jj_9  u_6.2 hF_100 _ _ hP hS ls (lv_sub hl [1, 2, 3, 4, 0] rfl)
    · have hF_85 := ipos c_84 hF_10
      clear hF_10
      refine lv_aload_n hx hb dX12_nounOf_63 rfl (lv_at hl 1 rfl) ?_
      refine lv_iload hx hb dX12_nounOf_64 (lv_at hl 4 rfl) ?_
      obtain ⟨q_86, vq_86, hRq_86, hSq_86⟩ := hE.2.2.2.2 _ (List.mem_of_getElem? (i := 153) rfl)
      refine g_ldcwS (own := RX12) (tx := "it") hx hb hown hRq_86 dX12_nounOf_66 ?_
      obtain ⟨u_87, hu_87, hF_88⟩ := Option.bind_eq_some_iff.mp hF_85
      clear hF_85
      refine m_ci hsz hS (va_runV (As := [.int v4_1, .ref q_86]) (rest := []) ⟨hx, hb, hml, hown, hts⟩ (m_X12_isTerm l dC dI cB cC cI cJ cZ cP h qK qS ad hDD H.size q_86 _ v4_1 ([105, 116] : List Int32) u_6.2 _ hu_87) (cwV 2 hts (g_gV wq_1789 wq_1790 wq_2204 wq_13 wq_1791) rfl rfl rfl (by decide +kernel) ⟨Nat.le_of_ble_eq_true rfl, Nat.le_of_ble_eq_true rfl⟩) (m_preV g_blS hsz hK hP hS hE hKS (g_toS hSq_86 hS (m_narrow hS hsz))) rfl rfl hl.1 rfl (lv_room (Nat.le_of_ble_eq_true rfl)) dX12_nounOf_69 ⟨Nat.le_of_ble_eq_true rfl, Nat.le_of_ble_eq_true rfl⟩) (fun H locs hP hS => ?_)
      refine lv_if_eq (tgt := 104) hx hb dX12_nounOf_72 (by decide) (fun c_89 => ?_) (fun c_89 => ?_)
      · have hF_90 := ipos c_89 hF_88
        clear hF_88
        exact Jj_9  u_87.2 hF_90 _ _ hP hS ls (lv_sub hl [1, 2, 3, 4, 0] rfl)
      · have hF_91 := ineg c_89 hF_88
        clear hF_88
        refine lv_aload_n hx hb dX12_nounOf_75 rfl (lv_at hl 1 rfl) ?_
        refine va_get (D := (dC, dI)) (ci := 12) (v := .int (u_87.2.1 96)) (C := RX12) (T := TX12) (N := 123) hx hb hts ii_X12 hown hK hP 0 rfl rfl 96 (by decide) (hts (.fieldLink RX12 665 "StoryHouseModel" "it" "I") wq_1452) (fun _ h9 => h9) rfl dX12_nounOf_76 ?_
        refine lv_if_le (tgt := 102) hx hb dX12_nounOf_79 (by decide) (fun c_92 => ?_) (fun c_92 => ?_)
        · have hF_93 := ipos c_92 hF_91
          clear hF_91
          refine lv_iconst (v := (-1)) hx hb dX12_nounOf_102 (by decide +kernel) ?_
          have h9 := Option.some.inj hF_93
          subst h9
          exact W.iret (v := (-1)) hx hb hr (fun t ht hW => ⟨⟨(-1), (), rfl, rfl, m_end ht hP⟩, hS.F ht⟩) hS.2.2 dX12_nounOf_103
        · have hF_94 := ineg c_92 hF_91
          clear hF_91
          refine lv_aload_n hx hb dX12_nounOf_82 rfl (lv_at hl 1 rfl) ?_
          refine lv_aload_n hx hb dX12_nounOf_83 rfl (lv_at hl 1 rfl) ?_
          refine va_get (D := (dC, dI)) (ci := 12) (v := .int (u_87.2.1 96)) (C := RX12) (T := TX12) (N := 123) hx hb hts ii_X12 hown hK hP 0 rfl rfl 96 (by decide) (hts (.fieldLink RX12 665 "StoryHouseModel" "it" "I") wq_1452) (fun _ h9 => h9) rfl dX12_nounOf_84 ?_
          refine lv_iload hx hb dX12_nounOf_87 (lv_at hl 0 rfl) ?_
          obtain ⟨u_95, hu_95, hF_96⟩ := Option.bind_eq_some_iff.mp hF_94
          clear hF_94
          refine m_ci hsz hS (va_runV (As := [.int (u_87.2.1 96), .int u_6.1]) (rest := []) ⟨hx, hb, hml, hown, hts⟩ (m_X12_inScope l dC dI cB cC cI cJ cZ cP h qK qS ad hDD H.size  (u_87.2.1 96) u_6.1 u_87.2 _ hu_95) (cwV 2 hts (g_gV wq_1907 wq_1908 wq_2243 wq_13 wq_1909) rfl rfl rfl (by decide +kernel) ⟨Nat.le_of_ble_eq_true rfl, Nat.le_of_ble_eq_true rfl⟩) (m_preV g_bl0 hsz hK hP hS hE hKS g_to0) rfl rfl hl.1 rfl (lv_room (Nat.le_of_ble_eq_true rfl)) dX12_nounOf_89 ⟨Nat.le_of_ble_eq_true rfl, Nat.le_of_ble_eq_true rfl⟩) (fun H locs hP hS => ?_)
          refine lv_if_eq (tgt := 102) hx hb dX12_nounOf_92 (by decide) (fun c_97 => ?_) (fun c_97 => ?_)
          · have hF_98 := ipos c_97 hF_96
            clear hF_96
            refine lv_iconst (v := (-1)) hx hb dX12_nounOf_102 (by decide +kernel) ?_
            have h9 := Option.some.inj hF_98
            subst h9
            exact W.iret (v := (-1)) hx hb hr (fun t ht hW => ⟨⟨(-1), (), rfl, rfl, m_end ht hP⟩, hS.F ht⟩) hS.2.2 dX12_nounOf_103
          · have hF_99 := ineg c_97 hF_96
            clear hF_96
            refine lv_aload_n hx hb dX12_nounOf_95 rfl (lv_at hl 1 rfl) ?_
            refine va_get (D := (dC, dI)) (ci := 12) (v := .int (u_95.2.1 96)) (C := RX12) (T := TX12) (N := 123) hx hb hts ii_X12 hown hK hP 0 rfl rfl 96 (by decide) (hts (.fieldLink RX12 665 "StoryHouseModel" "it" "I") wq_1452) (fun _ h9 => h9) rfl dX12_nounOf_96 ?_
            refine lv_goto (tgt := 103) hx hb dX12_nounOf_99 (by decide) ?_
            have h9 := Option.some.inj hF_99
            subst h9
            exact W.iret (v := (u_95.2.1 96)) hx hb hr (fun t ht hW => ⟨⟨(u_95.2.1 96), (), rfl, rfl, m_end ht hP⟩, hS.F ht⟩) hS.2.2 dX12_nounOf_103
  refine lv_icmp_le (tgt := 49) hx hb dX12_nounOf_7 (by decide) (fun c_101 => ?_) (fun c_101 => ?_)
  · have hF_102 := ipos c_101 hF_4
    clear hF_4
    exact Jj_3 p1 σ hF_102 _ _ hP hS ls (lv_sub hl [1, 2, 4, 0] rfl)
  · have hF_103 := ineg c_101 hF_4
    clear hF_4
    refine lv_aload_n hx hb dX12_nounOf_10 rfl (lv_at hl 1 rfl) ?_
    refine lv_iload hx hb dX12_nounOf_11 (lv_at hl 0 rfl) ?_
    obtain ⟨q_104, vq_104, hRq_104, hSq_104⟩ := hE.2.2.2.2 _ (List.mem_of_getElem? (i := 150) rfl)
    refine g_ldcwS (own := RX12) (tx := "the") hx hb hown hRq_104 dX12_nounOf_13 ?_
    obtain ⟨u_105, hu_105, hF_106⟩ := Option.bind_eq_some_iff.mp hF_103
    clear hF_103
    refine m_ci hsz hS (va_runV (As := [.int p1, .ref q_104]) (rest := []) ⟨hx, hb, hml, hown, hts⟩ (m_X12_isTerm l dC dI cB cC cI cJ cZ cP h qK qS ad hDD s.heap.size q_104 _ p1 ([116, 104, 101] : List Int32) σ _ hu_105) (cwV 2 hts (g_gV wq_1789 wq_1790 wq_2204 wq_13 wq_1791) rfl rfl rfl (by decide +kernel) ⟨Nat.le_of_ble_eq_true rfl, Nat.le_of_ble_eq_true rfl⟩) (m_preV g_blS hsz hK hP hS hE hKS (g_toS hSq_104 hS (m_narrow hS hsz))) rfl rfl hl.1 rfl (lv_room (Nat.le_of_ble_eq_true rfl)) dX12_nounOf_16 ⟨Nat.le_of_ble_eq_true rfl, Nat.le_of_ble_eq_true rfl⟩) (fun H locs hP hS => ?_)
    obtain ⟨j_108, ej_108, hF_109⟩ := bnd_e hF_106
    clear hF_106
    have Jj_108 : ∀  (σ_107 : MS), j_108  σ_107 = some res → ∀ (H : Heap) (locs : List Loc), va_P (dC, dI) vwCl (mW cB cI cZ h qK qS ad σ_107) H → va_S (mCells h ad sz) s.heap H locs → ∀ ls : Array Slot, lv_has ls 10 [(0, .ref h), (1, .int p0), (3, .int p2), (4, .int p1)] → W p l e (headSpec (g_ws yX12_nounOf cX12_nounOf 10 (some .int)) { frames := 128, cells := 0, slots := 0, locals := 2834 }).room s m ([.ref h, .int p0, .int p1, .int p2] : List Value).toArray below meth c H locs 0 0 (MQ below (va_Qi (fun r (_ : Unit) => r = res.1) (fun _ t => va_P (dC, dI) vwCl (mW cB cI cZ h qK qS ad res.2) t.heap) (mCells h ad sz)) ([.ref h, .int p0, .int p1, .int p2] : List Value).toArray s 0 0 (mCells h ad sz)) (F0 m 46 ls []) := by
      intro  σ_107 hF0 H locs hP hS ls hl
      subst ej_108
      have hF_110 := hF0
      clear hF0
      obtain ⟨x_111, ex_111, hF_112⟩ := bnd_e hF_110
      clear hF_110
      refine lv_iinc (v := x_111) (lv' := [(4, .int x_111), (0, .ref h), (1, .int p0), (3, .int p2)]) hx hb dX12_nounOf_46 hl (k := 3) rfl (by rw [ex_111]; rfl) (by decide) rfl (fun ls hl => ?_)
      exact Jj_3 x_111 σ_107 hF_112 _ _ hP hS ls (lv_sub hl [1, 2, 3, 0] rfl)
    refine lv_if_ne (tgt := 46) hx hb dX12_nounOf_19 (by decide) (fun c_113 => ?_) (fun c_113 => ?_)
    · have hF_127 := ineg c_113 hF_109
      clear hF_109
      exact Jj_108  u_105.2 hF_127 _ _ hP hS ls (lv_sub hl [1, 2, 4, 0] rfl)
    · have hF_114 := ipos c_113 hF_109
      clear hF_109
      refine lv_aload_n hx hb dX12_nounOf_22 rfl (lv_at hl 1 rfl) ?_
      refine lv_iload hx hb dX12_nounOf_23 (lv_at hl 0 rfl) ?_
      obtain ⟨q_115, vq_115, hRq_115, hSq_115⟩ := hE.2.2.2.2 _ (List.mem_of_getElem? (i := 151) rfl)
      refine g_ldcwS (own := RX12) (tx := "a") hx hb hown hRq_115 dX12_nounOf_25 ?_
      obtain ⟨u_116, hu_116, hF_117⟩ := Option.bind_eq_some_iff.mp hF_114
      clear hF_114
      refine m_ci hsz hS (va_runV (As := [.int p1, .ref q_115]) (rest := []) ⟨hx, hb, hml, hown, hts⟩ (m_X12_isTerm l dC dI cB cC cI cJ cZ cP h qK qS ad hDD H.size q_115 _ p1 ([97] : List Int32) u_105.2 _ hu_116) (cwV 2 hts (g_gV wq_1789 wq_1790 wq_2204 wq_13 wq_1791) rfl rfl rfl (by decide +kernel) ⟨Nat.le_of_ble_eq_true rfl, Nat.le_of_ble_eq_true rfl⟩) (m_preV g_blS hsz hK hP hS hE hKS (g_toS hSq_115 hS (m_narrow hS hsz))) rfl rfl hl.1 rfl (lv_room (Nat.le_of_ble_eq_true rfl)) dX12_nounOf_28 ⟨Nat.le_of_ble_eq_true rfl, Nat.le_of_ble_eq_true rfl⟩) (fun H locs hP hS => ?_)
      refine lv_if_ne (tgt := 46) hx hb dX12_nounOf_31 (by decide) (fun c_118 => ?_) (fun c_118 => ?_)
      · have hF_126 := ineg c_118 hF_117
        clear hF_117
        exact Jj_108  u_116.2 hF_126 _ _ hP hS ls (lv_sub hl [1, 2, 4, 0] rfl)
      · have hF_119 := ipos c_118 hF_117
        clear hF_117
        refine lv_aload_n hx hb dX12_nounOf_34 rfl (lv_at hl 1 rfl) ?_
        refine lv_iload hx hb dX12_nounOf_35 (lv_at hl 0 rfl) ?_
        obtain ⟨q_120, vq_120, hRq_120, hSq_120⟩ := hE.2.2.2.2 _ (List.mem_of_getElem? (i := 152) rfl)
        refine g_ldcwS (own := RX12) (tx := "an") hx hb hown hRq_120 dX12_nounOf_37 ?_
        obtain ⟨u_121, hu_121, hF_122⟩ := Option.bind_eq_some_iff.mp hF_119
        clear hF_119
        refine m_ci hsz hS (va_runV (As := [.int p1, .ref q_120]) (rest := []) ⟨hx, hb, hml, hown, hts⟩ (m_X12_isTerm l dC dI cB cC cI cJ cZ cP h qK qS ad hDD H.size q_120 _ p1 ([97, 110] : List Int32) u_116.2 _ hu_121) (cwV 2 hts (g_gV wq_1789 wq_1790 wq_2204 wq_13 wq_1791) rfl rfl rfl (by decide +kernel) ⟨Nat.le_of_ble_eq_true rfl, Nat.le_of_ble_eq_true rfl⟩) (m_preV g_blS hsz hK hP hS hE hKS (g_toS hSq_120 hS (m_narrow hS hsz))) rfl rfl hl.1 rfl (lv_room (Nat.le_of_ble_eq_true rfl)) dX12_nounOf_40 ⟨Nat.le_of_ble_eq_true rfl, Nat.le_of_ble_eq_true rfl⟩) (fun H locs hP hS => ?_)
        refine lv_if_eq (tgt := 49) hx hb dX12_nounOf_43 (by decide) (fun c_123 => ?_) (fun c_123 => ?_)
        · have hF_124 := ipos c_123 hF_122
          clear hF_122
          exact Jj_3 p1 u_121.2 hF_124 _ _ hP hS ls (lv_sub hl [1, 2, 4, 0] rfl)
        · have hF_125 := ineg c_123 hF_122
          clear hF_122
          exact Jj_108  u_121.2 hF_125 _ _ hP hS ls (lv_sub hl [1, 2, 4, 0] rfl)
theorem dX12_refused_0 : decode cX12_refused 0 = .ok (.aload_n 0, 1) := by decide +kernel
theorem dX12_refused_1 : decode cX12_refused 1 = .ok (.iload_n 1, 1) := by decide +kernel
theorem dX12_refused_2 : decode cX12_refused 2 = .ok (.iconst (-1), 1) := by decide +kernel
theorem dX12_refused_3 : decode cX12_refused 3 = .ok (.if_icmp .ne 9, 3) := by decide +kernel
theorem dX12_refused_6 : decode cX12_refused 6 = .ok (.ldc_w 867, 3) := by decide +kernel
theorem dX12_refused_9 : decode cX12_refused 9 = .ok (.goto 6, 3) := by decide +kernel
theorem dX12_refused_12 : decode cX12_refused 12 = .ok (.ldc_w 869, 3) := by decide +kernel
theorem dX12_refused_15 : decode cX12_refused 15 = .ok (.invokevirtual 852, 3) := by decide +kernel
theorem dX12_refused_18 : decode cX12_refused 18 = .ok (.ireturn, 1) := by decide +kernel
def F_X12_refused (p0 : Int32) (σ : MS) : MR :=
  if p0 = (-1) then (
    (F_X12_no ([89, 111, 117, 32, 115, 101, 101, 32, 110, 111, 32, 115, 117, 99, 104, 32, 116, 104, 105, 110, 103, 46] : List Int32) σ).bind fun u_4 =>
    some (u_4.1, u_4.2)
  ) else (
    (F_X12_no ([87, 104, 105, 99, 104, 32, 111, 110, 101, 32, 100, 111, 32, 121, 111, 117, 32, 109, 101, 97, 110, 63] : List Int32) σ).bind fun u_8 =>
    some (u_8.1, u_8.2)
  )
set_option maxHeartbeats 4000000 in
set_option maxRecDepth 100000 in
theorem m_X12_refused (l : Launch) (dC : Nat → ClassId) (dI : Nat → Nat → Nat) (cB cC cI cJ cZ cP : ClassId) (h qK qS : Nat) (ad : Nat → Nat) (hDD : mDis cB cI cZ h qK qS ad) (sz : Nat)  (p0 : Int32) (σ : MS) (res : Int32 × MS) (hF : F_X12_refused p0 σ = some res) : Met l yX12_refused (g_ws yX12_refused cX12_refused 2 (some .int)) ({ frames := 8, cells := 0, slots := 0, locals := 189 }) (va_Pc [.ref h, .int p0] (m_B (dC, dI) [(cB, .byte), (cC, .char), (cI, .int), (cJ, .long), (cZ, .boolean), (cP, .object "StoryHouse$Play")] sz h ad qK qS (mW cB cI cZ h qK qS ad σ) g_0)) (va_Qi (fun r (_ : Unit) => r = res.1) (fun _ t => va_P (dC, dI) vwCl (mW cB cI cZ h qK qS ad res.2) t.heap) (mCells h ad sz)) 0 0 (mCells h ad sz) := by
  refine Met.ofW (cc := cX12_refused) (maxL := 2) (ret := (some .int)) (by decide) rfl ?_
  intro p e s m args below meth c s₁ B hml hv
  obtain ⟨rfl, hsz, hP, hK, hE, hKS, hX⟩ := hv
  have hx := B.exec
  have hb := B.bytes
  have hr := B.returns
  have hts0 := atoms_spec (ws := g_ws yX12_refused cX12_refused 2 (some .int)) B.pre
  have hts : ∀ w ∈ lw_good, w.before ([.ref h, .int p0] : List Value).toArray s = true := fun w z => hts0 w (List.mem_cons_of_mem _ z)
  have hown : s.vm.findClass RX12 = some m.cls := findClass_of_methodNamed B.named
  have hlocks := B.notSynchronized
  have hS : va_S (mCells h ad sz) s.heap s.heap [] := va_S.rf
  have hl := lv_entry ([.ref h, .int p0]) (n := 2) (Nat.le_of_ble_eq_true rfl)
  rw [lg_entry_eq]
  generalize (lg_sl ([.ref h, .int p0]) ++ List.replicate (2 - (lg_sl ([.ref h, .int p0])).length) Slot.unset).toArray = ls at hl ⊢
  have hl : lv_has ls 2 [(0, .ref h), (1, .int p0)] := hl
  unfold F_X12_refused at hF
  refine lv_aload_n hx hb dX12_refused_0 rfl (lv_at hl 0 rfl) ?_
  refine lv_iload_n hx hb dX12_refused_1 rfl (lv_at hl 1 rfl) ?_
  refine lv_iconst (v := (-1)) hx hb dX12_refused_2 (by decide +kernel) ?_
  refine lv_icmp_ne (tgt := 12) hx hb dX12_refused_3 (by decide) (fun c_1 => ?_) (fun c_1 => ?_)
  · have hF_6 := ineg c_1 hF
    clear hF
    obtain ⟨q_7, vq_7, hRq_7, hSq_7⟩ := hE.2.2.2.2 _ (List.mem_of_getElem? (i := 158) rfl)
    refine g_ldcwS (own := RX12) (tx := "Which one do you mean?") hx hb hown hRq_7 dX12_refused_12 ?_
    obtain ⟨u_8, hu_8, hF_9⟩ := Option.bind_eq_some_iff.mp hF_6
    clear hF_6
    refine m_ci hsz hS (va_runV (As := [.ref q_7]) (rest := []) ⟨hx, hb, hml, hown, hts⟩ (m_X12_no l dC dI cB cC cI cJ cZ cP h qK qS ad hDD s.heap.size q_7 _ ([87, 104, 105, 99, 104, 32, 111, 110, 101, 32, 100, 111, 32, 121, 111, 117, 32, 109, 101, 97, 110, 63] : List Int32) σ _ hu_8) (cwV 1 hts (g_gV wq_1892 wq_1893 wq_2238 wq_13 wq_1894) rfl rfl rfl (by decide +kernel) ⟨Nat.le_of_ble_eq_true rfl, Nat.le_of_ble_eq_true rfl⟩) (m_preV g_blS hsz hK hP hS hE hKS (g_toS hSq_7 hS (m_narrow hS hsz))) rfl rfl hl.1 rfl (lv_room (Nat.le_of_ble_eq_true rfl)) dX12_refused_15 ⟨Nat.le_of_ble_eq_true rfl, Nat.le_of_ble_eq_true rfl⟩) (fun H locs hP hS => ?_)
    have h9 := Option.some.inj hF_9
    subst h9
    exact W.iret (v := u_8.1) hx hb hr (fun t ht hW => ⟨⟨u_8.1, (), rfl, rfl, m_end ht hP⟩, hS.F ht⟩) hS.2.2 dX12_refused_18
  · have hF_2 := ipos c_1 hF
    clear hF
    obtain ⟨q_3, vq_3, hRq_3, hSq_3⟩ := hE.2.2.2.2 _ (List.mem_of_getElem? (i := 157) rfl)
    refine g_ldcwS (own := RX12) (tx := "You see no such thing.") hx hb hown hRq_3 dX12_refused_6 ?_
    refine lv_goto (tgt := 15) hx hb dX12_refused_9 (by decide) ?_
    obtain ⟨u_4, hu_4, hF_5⟩ := Option.bind_eq_some_iff.mp hF_2
    clear hF_2
    refine m_ci hsz hS (va_runV (As := [.ref q_3]) (rest := []) ⟨hx, hb, hml, hown, hts⟩ (m_X12_no l dC dI cB cC cI cJ cZ cP h qK qS ad hDD s.heap.size q_3 _ ([89, 111, 117, 32, 115, 101, 101, 32, 110, 111, 32, 115, 117, 99, 104, 32, 116, 104, 105, 110, 103, 46] : List Int32) σ _ hu_4) (cwV 1 hts (g_gV wq_1892 wq_1893 wq_2238 wq_13 wq_1894) rfl rfl rfl (by decide +kernel) ⟨Nat.le_of_ble_eq_true rfl, Nat.le_of_ble_eq_true rfl⟩) (m_preV g_blS hsz hK hP hS hE hKS (g_toS hSq_3 hS (m_narrow hS hsz))) rfl rfl hl.1 rfl (lv_room (Nat.le_of_ble_eq_true rfl)) dX12_refused_15 ⟨Nat.le_of_ble_eq_true rfl, Nat.le_of_ble_eq_true rfl⟩) (fun H locs hP hS => ?_)
    have h9 := Option.some.inj hF_5
    subst h9
    exact W.iret (v := u_4.1) hx hb hr (fun t ht hW => ⟨⟨u_4.1, (), rfl, rfl, m_end ht hP⟩, hS.F ht⟩) hS.2.2 dX12_refused_18
theorem dX12_one_0 : decode cX12_one 0 = .ok (.aload_n 0, 1) := by decide +kernel
theorem dX12_one_1 : decode cX12_one 1 = .ok (.iload_n 1, 1) := by decide +kernel
theorem dX12_one_2 : decode cX12_one 2 = .ok (.iconst 1, 1) := by decide +kernel
theorem dX12_one_3 : decode cX12_one 3 = .ok (.aload_n 0, 1) := by decide +kernel
theorem dX12_one_4 : decode cX12_one 4 = .ok (.getfield 791, 3) := by decide +kernel
theorem dX12_one_7 : decode cX12_one 7 = .ok (.invokevirtual 871, 3) := by decide +kernel
theorem dX12_one_10 : decode cX12_one 10 = .ok (.istore_n 2, 1) := by decide +kernel
theorem dX12_one_11 : decode cX12_one 11 = .ok (.iload_n 2, 1) := by decide +kernel
theorem dX12_one_12 : decode cX12_one 12 = .ok (.bipush (-3), 2) := by decide +kernel
theorem dX12_one_14 : decode cX12_one 14 = .ok (.if_icmp .ne 9, 3) := by decide +kernel
theorem dX12_one_17 : decode cX12_one 17 = .ok (.aload_n 0, 1) := by decide +kernel
theorem dX12_one_18 : decode cX12_one 18 = .ok (.iload_n 1, 1) := by decide +kernel
theorem dX12_one_19 : decode cX12_one 19 = .ok (.invokevirtual 874, 3) := by decide +kernel
theorem dX12_one_22 : decode cX12_one 22 = .ok (.ireturn, 1) := by decide +kernel
theorem dX12_one_23 : decode cX12_one 23 = .ok (.iload_n 2, 1) := by decide +kernel
theorem dX12_one_24 : decode cX12_one 24 = .ok (.ifCond .ge 11, 3) := by decide +kernel
theorem dX12_one_27 : decode cX12_one 27 = .ok (.aload_n 0, 1) := by decide +kernel
theorem dX12_one_28 : decode cX12_one 28 = .ok (.iload_n 2, 1) := by decide +kernel
theorem dX12_one_29 : decode cX12_one 29 = .ok (.invokevirtual 877, 3) := by decide +kernel
theorem dX12_one_32 : decode cX12_one 32 = .ok (.goto 11, 3) := by decide +kernel
theorem dX12_one_35 : decode cX12_one 35 = .ok (.aload_n 0, 1) := by decide +kernel
theorem dX12_one_36 : decode cX12_one 36 = .ok (.iload_n 1, 1) := by decide +kernel
theorem dX12_one_37 : decode cX12_one 37 = .ok (.iconst 1, 1) := by decide +kernel
theorem dX12_one_38 : decode cX12_one 38 = .ok (.iload_n 2, 1) := by decide +kernel
theorem dX12_one_39 : decode cX12_one 39 = .ok (.iconst 0, 1) := by decide +kernel
theorem dX12_one_40 : decode cX12_one 40 = .ok (.invokevirtual 846, 3) := by decide +kernel
theorem dX12_one_43 : decode cX12_one 43 = .ok (.ireturn, 1) := by decide +kernel
def F_X12_one (p0 : Int32) (σ : MS) : MR :=
  (F_X12_nounOf p0 1 (σ.1 120) σ).bind fun u_1 =>
  if u_1.1 = (-3) then (
    (F_X12_all p0 u_1.2).bind fun u_5 =>
    some (u_5.1, u_5.2)
  ) else (
    if 0 ≤ u_1.1 then (
      (F_X12_command p0 1 u_1.1 0 u_1.2).bind fun u_10 =>
      some (u_10.1, u_10.2)
    ) else (
      (F_X12_refused u_1.1 u_1.2).bind fun u_13 =>
      some (u_13.1, u_13.2)
    )
  )
set_option maxHeartbeats 4000000 in
set_option maxRecDepth 100000 in
theorem m_X12_one (l : Launch) (dC : Nat → ClassId) (dI : Nat → Nat → Nat) (cB cC cI cJ cZ cP : ClassId) (h qK qS : Nat) (ad : Nat → Nat) (hDD : mDis cB cI cZ h qK qS ad) (sz : Nat)  (p0 : Int32) (σ : MS) (res : Int32 × MS) (hF : F_X12_one p0 σ = some res) : Met l yX12_one (g_ws yX12_one cX12_one 3 (some .int)) ({ frames := 1311, cells := 0, slots := 0, locals := 34067 }) (va_Pc [.ref h, .int p0] (m_B (dC, dI) [(cB, .byte), (cC, .char), (cI, .int), (cJ, .long), (cZ, .boolean), (cP, .object "StoryHouse$Play")] sz h ad qK qS (mW cB cI cZ h qK qS ad σ) g_0)) (va_Qi (fun r (_ : Unit) => r = res.1) (fun _ t => va_P (dC, dI) vwCl (mW cB cI cZ h qK qS ad res.2) t.heap) (mCells h ad sz)) 0 0 (mCells h ad sz) := by
  refine Met.ofW (cc := cX12_one) (maxL := 3) (ret := (some .int)) (by decide) rfl ?_
  intro p e s m args below meth c s₁ B hml hv
  obtain ⟨rfl, hsz, hP, hK, hE, hKS, hX⟩ := hv
  have hx := B.exec
  have hb := B.bytes
  have hr := B.returns
  have hts0 := atoms_spec (ws := g_ws yX12_one cX12_one 3 (some .int)) B.pre
  have hts : ∀ w ∈ lw_good, w.before ([.ref h, .int p0] : List Value).toArray s = true := fun w z => hts0 w (List.mem_cons_of_mem _ z)
  have hown : s.vm.findClass RX12 = some m.cls := findClass_of_methodNamed B.named
  have hlocks := B.notSynchronized
  have hS : va_S (mCells h ad sz) s.heap s.heap [] := va_S.rf
  have hl := lv_entry ([.ref h, .int p0]) (n := 3) (Nat.le_of_ble_eq_true rfl)
  rw [lg_entry_eq]
  generalize (lg_sl ([.ref h, .int p0]) ++ List.replicate (3 - (lg_sl ([.ref h, .int p0])).length) Slot.unset).toArray = ls at hl ⊢
  have hl : lv_has ls 3 [(0, .ref h), (1, .int p0)] := hl
  unfold F_X12_one at hF
  refine lv_aload_n hx hb dX12_one_0 rfl (lv_at hl 0 rfl) ?_
  refine lv_iload_n hx hb dX12_one_1 rfl (lv_at hl 1 rfl) ?_
  refine lv_iconst (v := 1) hx hb dX12_one_2 (by decide +kernel) ?_
  refine lv_aload_n hx hb dX12_one_3 rfl (lv_at hl 0 rfl) ?_
  refine va_get (D := (dC, dI)) (ci := 12) (v := .int (σ.1 120)) (C := RX12) (T := TX12) (N := 123) hx hb hts ii_X12 hown hK hP 0 rfl rfl 120 (by decide) (hts (.fieldLink RX12 791 "StoryHouseModel" "terms" "I") wq_1476) (fun _ h9 => h9) rfl dX12_one_4 ?_
  obtain ⟨u_1, hu_1, hF_2⟩ := Option.bind_eq_some_iff.mp hF
  clear hF
  refine m_ci hsz hS (va_runV (As := [.int p0, .int 1, .int (σ.1 120)]) (rest := []) ⟨hx, hb, hml, hown, hts⟩ (m_X12_nounOf l dC dI cB cC cI cJ cZ cP h qK qS ad hDD s.heap.size  p0 1 (σ.1 120) σ _ hu_1) (cwV 3 hts (g_gV wq_1904 wq_1905 wq_2242 wq_13 wq_1906) rfl rfl rfl (by decide +kernel) ⟨Nat.le_of_ble_eq_true rfl, Nat.le_of_ble_eq_true rfl⟩) (m_preV g_bl0 hsz hK hP hS hE hKS g_to0) rfl rfl hl.1 rfl (lv_room (Nat.le_of_ble_eq_true rfl)) dX12_one_7 ⟨Nat.le_of_ble_eq_true rfl, Nat.le_of_ble_eq_true rfl⟩) (fun H locs hP hS => ?_)
  refine lv_istore_n (lv' := [(2, .int u_1.1), (0, .ref h), (1, .int p0)]) hx hb dX12_one_10 rfl hl (by decide) rfl (fun ls hl => ?_)
  refine lv_iload_n hx hb dX12_one_11 rfl (lv_at hl 0 rfl) ?_
  refine lv_bipush (v := (-3)) hx hb dX12_one_12 (by decide +kernel) ?_
  refine lv_icmp_ne (tgt := 23) hx hb dX12_one_14 (by decide) (fun c_3 => ?_) (fun c_3 => ?_)
  · have hF_7 := ineg c_3 hF_2
    clear hF_2
    refine lv_iload_n hx hb dX12_one_23 rfl (lv_at hl 0 rfl) ?_
    refine lv_if_ge (tgt := 35) hx hb dX12_one_24 (by decide) (fun c_8 => ?_) (fun c_8 => ?_)
    · have hF_9 := ipos c_8 hF_7
      clear hF_7
      refine lv_aload_n hx hb dX12_one_35 rfl (lv_at hl 1 rfl) ?_
      refine lv_iload_n hx hb dX12_one_36 rfl (lv_at hl 2 rfl) ?_
      refine lv_iconst (v := 1) hx hb dX12_one_37 (by decide +kernel) ?_
      refine lv_iload_n hx hb dX12_one_38 rfl (lv_at hl 0 rfl) ?_
      refine lv_iconst (v := 0) hx hb dX12_one_39 (by decide +kernel) ?_
      obtain ⟨u_10, hu_10, hF_11⟩ := Option.bind_eq_some_iff.mp hF_9
      clear hF_9
      refine m_ci hsz hS (va_runV (As := [.int p0, .int 1, .int u_1.1, .int 0]) (rest := []) ⟨hx, hb, hml, hown, hts⟩ (m_X12_command l dC dI cB cC cI cJ cZ cP h qK qS ad hDD H.size  p0 1 u_1.1 0 u_1.2 _ hu_10) (cwV 4 hts (g_gV wq_1798 wq_1799 wq_2207 wq_13 wq_1800) rfl rfl rfl (by decide +kernel) ⟨Nat.le_of_ble_eq_true rfl, Nat.le_of_ble_eq_true rfl⟩) (m_preV g_bl0 hsz hK hP hS hE hKS g_to0) rfl rfl hl.1 rfl (lv_room (Nat.le_of_ble_eq_true rfl)) dX12_one_40 ⟨Nat.le_of_ble_eq_true rfl, Nat.le_of_ble_eq_true rfl⟩) (fun H locs hP hS => ?_)
      have h9 := Option.some.inj hF_11
      subst h9
      exact W.iret (v := u_10.1) hx hb hr (fun t ht hW => ⟨⟨u_10.1, (), rfl, rfl, m_end ht hP⟩, hS.F ht⟩) hS.2.2 dX12_one_43
    · have hF_12 := ineg c_8 hF_7
      clear hF_7
      refine lv_aload_n hx hb dX12_one_27 rfl (lv_at hl 1 rfl) ?_
      refine lv_iload_n hx hb dX12_one_28 rfl (lv_at hl 0 rfl) ?_
      obtain ⟨u_13, hu_13, hF_14⟩ := Option.bind_eq_some_iff.mp hF_12
      clear hF_12
      refine m_ci hsz hS (va_runV (As := [.int u_1.1]) (rest := []) ⟨hx, hb, hml, hown, hts⟩ (m_X12_refused l dC dI cB cC cI cJ cZ cP h qK qS ad hDD H.size  u_1.1 u_1.2 _ hu_13) (cwV 1 hts (g_gV wq_1919 wq_1920 wq_2247 wq_13 wq_1921) rfl rfl rfl (by decide +kernel) ⟨Nat.le_of_ble_eq_true rfl, Nat.le_of_ble_eq_true rfl⟩) (m_preV g_bl0 hsz hK hP hS hE hKS g_to0) rfl rfl hl.1 rfl (lv_room (Nat.le_of_ble_eq_true rfl)) dX12_one_29 ⟨Nat.le_of_ble_eq_true rfl, Nat.le_of_ble_eq_true rfl⟩) (fun H locs hP hS => ?_)
      refine lv_goto (tgt := 43) hx hb dX12_one_32 (by decide) ?_
      have h9 := Option.some.inj hF_14
      subst h9
      exact W.iret (v := u_13.1) hx hb hr (fun t ht hW => ⟨⟨u_13.1, (), rfl, rfl, m_end ht hP⟩, hS.F ht⟩) hS.2.2 dX12_one_43
  · have hF_4 := ipos c_3 hF_2
    clear hF_2
    refine lv_aload_n hx hb dX12_one_17 rfl (lv_at hl 1 rfl) ?_
    refine lv_iload_n hx hb dX12_one_18 rfl (lv_at hl 2 rfl) ?_
    obtain ⟨u_5, hu_5, hF_6⟩ := Option.bind_eq_some_iff.mp hF_4
    clear hF_4
    refine m_ci hsz hS (va_runV (As := [.int p0]) (rest := []) ⟨hx, hb, hml, hown, hts⟩ (m_X12_all l dC dI cB cC cI cJ cZ cP h qK qS ad hDD H.size  p0 u_1.2 _ hu_5) (cwV 1 hts (g_gV wq_1916 wq_1917 wq_2246 wq_13 wq_1918) rfl rfl rfl (by decide +kernel) ⟨Nat.le_of_ble_eq_true rfl, Nat.le_of_ble_eq_true rfl⟩) (m_preV g_bl0 hsz hK hP hS hE hKS g_to0) rfl rfl hl.1 rfl (lv_room (Nat.le_of_ble_eq_true rfl)) dX12_one_19 ⟨Nat.le_of_ble_eq_true rfl, Nat.le_of_ble_eq_true rfl⟩) (fun H locs hP hS => ?_)
    have h9 := Option.some.inj hF_6
    subst h9
    exact W.iret (v := u_5.1) hx hb hr (fun t ht hW => ⟨⟨u_5.1, (), rfl, rfl, m_end ht hP⟩, hS.F ht⟩) hS.2.2 dX12_one_22
theorem dX12_two__0 : decode cX12_two_ 0 = .ok (.aload_n 0, 1) := by decide +kernel
theorem dX12_two__1 : decode cX12_two_ 1 = .ok (.iload_n 1, 1) := by decide +kernel
theorem dX12_two__2 : decode cX12_two_ 2 = .ok (.iconst 1, 1) := by decide +kernel
theorem dX12_two__3 : decode cX12_two_ 3 = .ok (.iload_n 2, 1) := by decide +kernel
theorem dX12_two__4 : decode cX12_two_ 4 = .ok (.invokevirtual 871, 3) := by decide +kernel
theorem dX12_two__7 : decode cX12_two_ 7 = .ok (.istore_n 3, 1) := by decide +kernel
theorem dX12_two__8 : decode cX12_two_ 8 = .ok (.iload_n 3, 1) := by decide +kernel
theorem dX12_two__9 : decode cX12_two_ 9 = .ok (.ifCond .ge 9, 3) := by decide +kernel
theorem dX12_two__12 : decode cX12_two_ 12 = .ok (.aload_n 0, 1) := by decide +kernel
theorem dX12_two__13 : decode cX12_two_ 13 = .ok (.iload_n 3, 1) := by decide +kernel
theorem dX12_two__14 : decode cX12_two_ 14 = .ok (.invokevirtual 877, 3) := by decide +kernel
theorem dX12_two__17 : decode cX12_two_ 17 = .ok (.ireturn, 1) := by decide +kernel
theorem dX12_two__18 : decode cX12_two_ 18 = .ok (.aload_n 0, 1) := by decide +kernel
theorem dX12_two__19 : decode cX12_two_ 19 = .ok (.iload_n 1, 1) := by decide +kernel
theorem dX12_two__20 : decode cX12_two_ 20 = .ok (.iload_n 2, 1) := by decide +kernel
theorem dX12_two__21 : decode cX12_two_ 21 = .ok (.iconst 1, 1) := by decide +kernel
theorem dX12_two__22 : decode cX12_two_ 22 = .ok (.iadd, 1) := by decide +kernel
theorem dX12_two__23 : decode cX12_two_ 23 = .ok (.aload_n 0, 1) := by decide +kernel
theorem dX12_two__24 : decode cX12_two_ 24 = .ok (.getfield 791, 3) := by decide +kernel
theorem dX12_two__27 : decode cX12_two_ 27 = .ok (.invokevirtual 871, 3) := by decide +kernel
theorem dX12_two__30 : decode cX12_two_ 30 = .ok (.istore 4, 2) := by decide +kernel
theorem dX12_two__32 : decode cX12_two_ 32 = .ok (.iload 4, 2) := by decide +kernel
theorem dX12_two__34 : decode cX12_two_ 34 = .ok (.ifCond .ge 12, 3) := by decide +kernel
theorem dX12_two__37 : decode cX12_two_ 37 = .ok (.aload_n 0, 1) := by decide +kernel
theorem dX12_two__38 : decode cX12_two_ 38 = .ok (.iload 4, 2) := by decide +kernel
theorem dX12_two__40 : decode cX12_two_ 40 = .ok (.invokevirtual 877, 3) := by decide +kernel
theorem dX12_two__43 : decode cX12_two_ 43 = .ok (.goto 12, 3) := by decide +kernel
theorem dX12_two__46 : decode cX12_two_ 46 = .ok (.aload_n 0, 1) := by decide +kernel
theorem dX12_two__47 : decode cX12_two_ 47 = .ok (.iload_n 1, 1) := by decide +kernel
theorem dX12_two__48 : decode cX12_two_ 48 = .ok (.iconst 2, 1) := by decide +kernel
theorem dX12_two__49 : decode cX12_two_ 49 = .ok (.iload_n 3, 1) := by decide +kernel
theorem dX12_two__50 : decode cX12_two_ 50 = .ok (.iload 4, 2) := by decide +kernel
theorem dX12_two__52 : decode cX12_two_ 52 = .ok (.invokevirtual 846, 3) := by decide +kernel
theorem dX12_two__55 : decode cX12_two_ 55 = .ok (.ireturn, 1) := by decide +kernel
def F_X12_two_ (p0 : Int32) (p1 : Int32) (σ : MS) : MR :=
  (F_X12_nounOf p0 1 p1 σ).bind fun u_1 =>
  if 0 ≤ u_1.1 then (
    (F_X12_nounOf p0 (p1 + 1) (u_1.2.1 120) u_1.2).bind fun u_5 =>
    if 0 ≤ u_5.1 then (
      (F_X12_command p0 2 u_1.1 u_5.1 u_5.2).bind fun u_9 =>
      some (u_9.1, u_9.2)
    ) else (
      (F_X12_refused u_5.1 u_5.2).bind fun u_12 =>
      some (u_12.1, u_12.2)
    )
  ) else (
    (F_X12_refused u_1.1 u_1.2).bind fun u_15 =>
    some (u_15.1, u_15.2)
  )
set_option maxHeartbeats 4000000 in
set_option maxRecDepth 100000 in
theorem m_X12_two_ (l : Launch) (dC : Nat → ClassId) (dI : Nat → Nat → Nat) (cB cC cI cJ cZ cP : ClassId) (h qK qS : Nat) (ad : Nat → Nat) (hDD : mDis cB cI cZ h qK qS ad) (sz : Nat)  (p0 : Int32) (p1 : Int32) (σ : MS) (res : Int32 × MS) (hF : F_X12_two_ p0 p1 σ = some res) : Met l yX12_two_ (g_ws yX12_two_ cX12_two_ 5 (some .int)) ({ frames := 1311, cells := 0, slots := 0, locals := 34066 }) (va_Pc [.ref h, .int p0, .int p1] (m_B (dC, dI) [(cB, .byte), (cC, .char), (cI, .int), (cJ, .long), (cZ, .boolean), (cP, .object "StoryHouse$Play")] sz h ad qK qS (mW cB cI cZ h qK qS ad σ) g_0)) (va_Qi (fun r (_ : Unit) => r = res.1) (fun _ t => va_P (dC, dI) vwCl (mW cB cI cZ h qK qS ad res.2) t.heap) (mCells h ad sz)) 0 0 (mCells h ad sz) := by
  refine Met.ofW (cc := cX12_two_) (maxL := 5) (ret := (some .int)) (by decide) rfl ?_
  intro p e s m args below meth c s₁ B hml hv
  obtain ⟨rfl, hsz, hP, hK, hE, hKS, hX⟩ := hv
  have hx := B.exec
  have hb := B.bytes
  have hr := B.returns
  have hts0 := atoms_spec (ws := g_ws yX12_two_ cX12_two_ 5 (some .int)) B.pre
  have hts : ∀ w ∈ lw_good, w.before ([.ref h, .int p0, .int p1] : List Value).toArray s = true := fun w z => hts0 w (List.mem_cons_of_mem _ z)
  have hown : s.vm.findClass RX12 = some m.cls := findClass_of_methodNamed B.named
  have hlocks := B.notSynchronized
  have hS : va_S (mCells h ad sz) s.heap s.heap [] := va_S.rf
  have hl := lv_entry ([.ref h, .int p0, .int p1]) (n := 5) (Nat.le_of_ble_eq_true rfl)
  rw [lg_entry_eq]
  generalize (lg_sl ([.ref h, .int p0, .int p1]) ++ List.replicate (5 - (lg_sl ([.ref h, .int p0, .int p1])).length) Slot.unset).toArray = ls at hl ⊢
  have hl : lv_has ls 5 [(0, .ref h), (1, .int p0), (2, .int p1)] := hl
  unfold F_X12_two_ at hF
  refine lv_aload_n hx hb dX12_two__0 rfl (lv_at hl 0 rfl) ?_
  refine lv_iload_n hx hb dX12_two__1 rfl (lv_at hl 1 rfl) ?_
  refine lv_iconst (v := 1) hx hb dX12_two__2 (by decide +kernel) ?_
  refine lv_iload_n hx hb dX12_two__3 rfl (lv_at hl 2 rfl) ?_
  obtain ⟨u_1, hu_1, hF_2⟩ := Option.bind_eq_some_iff.mp hF
  clear hF
  refine m_ci hsz hS (va_runV (As := [.int p0, .int 1, .int p1]) (rest := []) ⟨hx, hb, hml, hown, hts⟩ (m_X12_nounOf l dC dI cB cC cI cJ cZ cP h qK qS ad hDD s.heap.size  p0 1 p1 σ _ hu_1) (cwV 3 hts (g_gV wq_1904 wq_1905 wq_2242 wq_13 wq_1906) rfl rfl rfl (by decide +kernel) ⟨Nat.le_of_ble_eq_true rfl, Nat.le_of_ble_eq_true rfl⟩) (m_preV g_bl0 hsz hK hP hS hE hKS g_to0) rfl rfl hl.1 rfl (lv_room (Nat.le_of_ble_eq_true rfl)) dX12_two__4 ⟨Nat.le_of_ble_eq_true rfl, Nat.le_of_ble_eq_true rfl⟩) (fun H locs hP hS => ?_)
  refine lv_istore_n (lv' := [(3, .int u_1.1), (0, .ref h), (1, .int p0), (2, .int p1)]) hx hb dX12_two__7 rfl hl (by decide) rfl (fun ls hl => ?_)
  refine lv_iload_n hx hb dX12_two__8 rfl (lv_at hl 0 rfl) ?_
  refine lv_if_ge (tgt := 18) hx hb dX12_two__9 (by decide) (fun c_3 => ?_) (fun c_3 => ?_)
  · have hF_4 := ipos c_3 hF_2
    clear hF_2
    refine lv_aload_n hx hb dX12_two__18 rfl (lv_at hl 1 rfl) ?_
    refine lv_iload_n hx hb dX12_two__19 rfl (lv_at hl 2 rfl) ?_
    refine lv_iload_n hx hb dX12_two__20 rfl (lv_at hl 3 rfl) ?_
    refine lv_iconst (v := 1) hx hb dX12_two__21 (by decide +kernel) ?_
    refine lv_iadd hx hb dX12_two__22 ?_
    refine lv_aload_n hx hb dX12_two__23 rfl (lv_at hl 1 rfl) ?_
    refine va_get (D := (dC, dI)) (ci := 12) (v := .int (u_1.2.1 120)) (C := RX12) (T := TX12) (N := 123) hx hb hts ii_X12 hown hK hP 0 rfl rfl 120 (by decide) (hts (.fieldLink RX12 791 "StoryHouseModel" "terms" "I") wq_1476) (fun _ h9 => h9) rfl dX12_two__24 ?_
    obtain ⟨u_5, hu_5, hF_6⟩ := Option.bind_eq_some_iff.mp hF_4
    clear hF_4
    refine m_ci hsz hS (va_runV (As := [.int p0, .int (p1 + 1), .int (u_1.2.1 120)]) (rest := []) ⟨hx, hb, hml, hown, hts⟩ (m_X12_nounOf l dC dI cB cC cI cJ cZ cP h qK qS ad hDD H.size  p0 (p1 + 1) (u_1.2.1 120) u_1.2 _ hu_5) (cwV 3 hts (g_gV wq_1904 wq_1905 wq_2242 wq_13 wq_1906) rfl rfl rfl (by decide +kernel) ⟨Nat.le_of_ble_eq_true rfl, Nat.le_of_ble_eq_true rfl⟩) (m_preV g_bl0 hsz hK hP hS hE hKS g_to0) rfl rfl hl.1 rfl (lv_room (Nat.le_of_ble_eq_true rfl)) dX12_two__27 ⟨Nat.le_of_ble_eq_true rfl, Nat.le_of_ble_eq_true rfl⟩) (fun H locs hP hS => ?_)
    refine lv_istore (lv' := [(4, .int u_5.1), (3, .int u_1.1), (0, .ref h), (1, .int p0), (2, .int p1)]) hx hb dX12_two__30 hl (by decide) rfl (fun ls hl => ?_)
    refine lv_iload hx hb dX12_two__32 (lv_at hl 0 rfl) ?_
    refine lv_if_ge (tgt := 46) hx hb dX12_two__34 (by decide) (fun c_7 => ?_) (fun c_7 => ?_)
    · have hF_8 := ipos c_7 hF_6
      clear hF_6
      refine lv_aload_n hx hb dX12_two__46 rfl (lv_at hl 2 rfl) ?_
      refine lv_iload_n hx hb dX12_two__47 rfl (lv_at hl 3 rfl) ?_
      refine lv_iconst (v := 2) hx hb dX12_two__48 (by decide +kernel) ?_
      refine lv_iload_n hx hb dX12_two__49 rfl (lv_at hl 1 rfl) ?_
      refine lv_iload hx hb dX12_two__50 (lv_at hl 0 rfl) ?_
      obtain ⟨u_9, hu_9, hF_10⟩ := Option.bind_eq_some_iff.mp hF_8
      clear hF_8
      refine m_ci hsz hS (va_runV (As := [.int p0, .int 2, .int u_1.1, .int u_5.1]) (rest := []) ⟨hx, hb, hml, hown, hts⟩ (m_X12_command l dC dI cB cC cI cJ cZ cP h qK qS ad hDD H.size  p0 2 u_1.1 u_5.1 u_5.2 _ hu_9) (cwV 4 hts (g_gV wq_1798 wq_1799 wq_2207 wq_13 wq_1800) rfl rfl rfl (by decide +kernel) ⟨Nat.le_of_ble_eq_true rfl, Nat.le_of_ble_eq_true rfl⟩) (m_preV g_bl0 hsz hK hP hS hE hKS g_to0) rfl rfl hl.1 rfl (lv_room (Nat.le_of_ble_eq_true rfl)) dX12_two__52 ⟨Nat.le_of_ble_eq_true rfl, Nat.le_of_ble_eq_true rfl⟩) (fun H locs hP hS => ?_)
      have h9 := Option.some.inj hF_10
      subst h9
      exact W.iret (v := u_9.1) hx hb hr (fun t ht hW => ⟨⟨u_9.1, (), rfl, rfl, m_end ht hP⟩, hS.F ht⟩) hS.2.2 dX12_two__55
    · have hF_11 := ineg c_7 hF_6
      clear hF_6
      refine lv_aload_n hx hb dX12_two__37 rfl (lv_at hl 2 rfl) ?_
      refine lv_iload hx hb dX12_two__38 (lv_at hl 0 rfl) ?_
      obtain ⟨u_12, hu_12, hF_13⟩ := Option.bind_eq_some_iff.mp hF_11
      clear hF_11
      refine m_ci hsz hS (va_runV (As := [.int u_5.1]) (rest := []) ⟨hx, hb, hml, hown, hts⟩ (m_X12_refused l dC dI cB cC cI cJ cZ cP h qK qS ad hDD H.size  u_5.1 u_5.2 _ hu_12) (cwV 1 hts (g_gV wq_1919 wq_1920 wq_2247 wq_13 wq_1921) rfl rfl rfl (by decide +kernel) ⟨Nat.le_of_ble_eq_true rfl, Nat.le_of_ble_eq_true rfl⟩) (m_preV g_bl0 hsz hK hP hS hE hKS g_to0) rfl rfl hl.1 rfl (lv_room (Nat.le_of_ble_eq_true rfl)) dX12_two__40 ⟨Nat.le_of_ble_eq_true rfl, Nat.le_of_ble_eq_true rfl⟩) (fun H locs hP hS => ?_)
      refine lv_goto (tgt := 55) hx hb dX12_two__43 (by decide) ?_
      have h9 := Option.some.inj hF_13
      subst h9
      exact W.iret (v := u_12.1) hx hb hr (fun t ht hW => ⟨⟨u_12.1, (), rfl, rfl, m_end ht hP⟩, hS.F ht⟩) hS.2.2 dX12_two__55
  · have hF_14 := ineg c_3 hF_2
    clear hF_2
    refine lv_aload_n hx hb dX12_two__12 rfl (lv_at hl 1 rfl) ?_
    refine lv_iload_n hx hb dX12_two__13 rfl (lv_at hl 0 rfl) ?_
    obtain ⟨u_15, hu_15, hF_16⟩ := Option.bind_eq_some_iff.mp hF_14
    clear hF_14
    refine m_ci hsz hS (va_runV (As := [.int u_1.1]) (rest := []) ⟨hx, hb, hml, hown, hts⟩ (m_X12_refused l dC dI cB cC cI cJ cZ cP h qK qS ad hDD H.size  u_1.1 u_1.2 _ hu_15) (cwV 1 hts (g_gV wq_1919 wq_1920 wq_2247 wq_13 wq_1921) rfl rfl rfl (by decide +kernel) ⟨Nat.le_of_ble_eq_true rfl, Nat.le_of_ble_eq_true rfl⟩) (m_preV g_bl0 hsz hK hP hS hE hKS g_to0) rfl rfl hl.1 rfl (lv_room (Nat.le_of_ble_eq_true rfl)) dX12_two__14 ⟨Nat.le_of_ble_eq_true rfl, Nat.le_of_ble_eq_true rfl⟩) (fun H locs hP hS => ?_)
    have h9 := Option.some.inj hF_16
    subst h9
    exact W.iret (v := u_15.1) hx hb hr (fun t ht hW => ⟨⟨u_15.1, (), rfl, rfl, m_end ht hP⟩, hS.F ht⟩) hS.2.2 dX12_two__17
theorem dX12_verbHas_0 : decode cX12_verbHas 0 = .ok (.bipush 10, 2) := by decide +kernel
theorem dX12_verbHas_2 : decode cX12_verbHas 2 = .ok (.iload_n 1, 1) := by decide +kernel
theorem dX12_verbHas_3 : decode cX12_verbHas 3 = .ok (.imul, 1) := by decide +kernel
theorem dX12_verbHas_4 : decode cX12_verbHas 4 = .ok (.istore_n 2, 1) := by decide +kernel
theorem dX12_verbHas_5 : decode cX12_verbHas 5 = .ok (.iload_n 2, 1) := by decide +kernel
theorem dX12_verbHas_6 : decode cX12_verbHas 6 = .ok (.bipush 10, 2) := by decide +kernel
theorem dX12_verbHas_8 : decode cX12_verbHas 8 = .ok (.iload_n 1, 1) := by decide +kernel
theorem dX12_verbHas_9 : decode cX12_verbHas 9 = .ok (.imul, 1) := by decide +kernel
theorem dX12_verbHas_10 : decode cX12_verbHas 10 = .ok (.aload_n 0, 1) := by decide +kernel
theorem dX12_verbHas_11 : decode cX12_verbHas 11 = .ok (.getfield 125, 3) := by decide +kernel
theorem dX12_verbHas_14 : decode cX12_verbHas 14 = .ok (.iload_n 1, 1) := by decide +kernel
theorem dX12_verbHas_15 : decode cX12_verbHas 15 = .ok (.iaload, 1) := by decide +kernel
theorem dX12_verbHas_16 : decode cX12_verbHas 16 = .ok (.iadd, 1) := by decide +kernel
theorem dX12_verbHas_17 : decode cX12_verbHas 17 = .ok (.if_icmp .ge 33, 3) := by decide +kernel
theorem dX12_verbHas_20 : decode cX12_verbHas 20 = .ok (.aload_n 0, 1) := by decide +kernel
theorem dX12_verbHas_21 : decode cX12_verbHas 21 = .ok (.iconst 0, 1) := by decide +kernel
theorem dX12_verbHas_22 : decode cX12_verbHas 22 = .ok (.aload_n 0, 1) := by decide +kernel
theorem dX12_verbHas_23 : decode cX12_verbHas 23 = .ok (.getfield 119, 3) := by decide +kernel
theorem dX12_verbHas_26 : decode cX12_verbHas 26 = .ok (.bipush 9, 2) := by decide +kernel
theorem dX12_verbHas_28 : decode cX12_verbHas 28 = .ok (.iload_n 2, 1) := by decide +kernel
theorem dX12_verbHas_29 : decode cX12_verbHas 29 = .ok (.imul, 1) := by decide +kernel
theorem dX12_verbHas_30 : decode cX12_verbHas 30 = .ok (.aload_n 0, 1) := by decide +kernel
theorem dX12_verbHas_31 : decode cX12_verbHas 31 = .ok (.getfield 122, 3) := by decide +kernel
theorem dX12_verbHas_34 : decode cX12_verbHas 34 = .ok (.iload_n 2, 1) := by decide +kernel
theorem dX12_verbHas_35 : decode cX12_verbHas 35 = .ok (.iaload, 1) := by decide +kernel
theorem dX12_verbHas_36 : decode cX12_verbHas 36 = .ok (.invokevirtual 840, 3) := by decide +kernel
theorem dX12_verbHas_39 : decode cX12_verbHas 39 = .ok (.ifCond .eq 5, 3) := by decide +kernel
theorem dX12_verbHas_42 : decode cX12_verbHas 42 = .ok (.iconst 1, 1) := by decide +kernel
theorem dX12_verbHas_43 : decode cX12_verbHas 43 = .ok (.ireturn, 1) := by decide +kernel
theorem dX12_verbHas_44 : decode cX12_verbHas 44 = .ok (.iinc 2 1, 3) := by decide +kernel
theorem dX12_verbHas_47 : decode cX12_verbHas 47 = .ok (.goto (-42), 3) := by decide +kernel
theorem dX12_verbHas_50 : decode cX12_verbHas 50 = .ok (.iconst 0, 1) := by decide +kernel
theorem dX12_verbHas_51 : decode cX12_verbHas 51 = .ok (.ireturn, 1) := by decide +kernel
def F_X12_verbHas (p0 : Int32) (σ : MS) : MR :=
  loopF (fun (again_2 : (Int32 × MS) → MR) (s_1 : Int32 × MS) => (
    if p0 < 0 ∨ 61 ≤ p0.toNatClampNeg then none else
    bnd (((10 * p0) + (s_1.2.2 59 p0.toNatClampNeg))) fun (x_7 : Int32) =>
    if x_7 ≤ s_1.1 then (
      some (0, s_1.2)
    ) else (
      if s_1.1 < 0 ∨ 610 ≤ s_1.1.toNatClampNeg then none else
      (F_X12_isTerm__verbBytes 0 (9 * s_1.1) (s_1.2.2 58 s_1.1.toNatClampNeg) s_1.2).bind fun u_14 =>
      if u_14.1 = 0 then (
        bnd (s_1.1 + 1) fun (x_18 : Int32) =>
        again_2 (x_18, u_14.2)
      ) else (
        some (1, u_14.2)
      )
    )
  )) FU ((10 * p0), σ)
set_option maxHeartbeats 4000000 in
set_option maxRecDepth 100000 in
theorem m_X12_verbHas (l : Launch) (dC : Nat → ClassId) (dI : Nat → Nat → Nat) (cB cC cI cJ cZ cP : ClassId) (h qK qS : Nat) (ad : Nat → Nat) (hDD : mDis cB cI cZ h qK qS ad) (sz : Nat)  (p0 : Int32) (σ : MS) (res : Int32 × MS) (hF : F_X12_verbHas p0 σ = some res) : Met l yX12_verbHas (g_ws yX12_verbHas cX12_verbHas 3 (some .boolean)) ({ frames := 2, cells := 0, slots := 0, locals := 66 }) (va_Pc [.ref h, .int p0] (m_B (dC, dI) [(cB, .byte), (cC, .char), (cI, .int), (cJ, .long), (cZ, .boolean), (cP, .object "StoryHouse$Play")] sz h ad qK qS (mW cB cI cZ h qK qS ad σ) g_0)) (va_Qi (fun r (_ : Unit) => r = res.1) (fun _ t => va_P (dC, dI) vwCl (mW cB cI cZ h qK qS ad res.2) t.heap) (mCells h ad sz)) 0 0 (mCells h ad sz) := by
  refine Met.ofW (cc := cX12_verbHas) (maxL := 3) (ret := (some .boolean)) (by decide) rfl ?_
  intro p e s m args below meth c s₁ B hml hv
  obtain ⟨rfl, hsz, hP, hK, hE, hKS, hX⟩ := hv
  have hx := B.exec
  have hb := B.bytes
  have hr := B.returns
  have hts0 := atoms_spec (ws := g_ws yX12_verbHas cX12_verbHas 3 (some .boolean)) B.pre
  have hts : ∀ w ∈ lw_good, w.before ([.ref h, .int p0] : List Value).toArray s = true := fun w z => hts0 w (List.mem_cons_of_mem _ z)
  have hown : s.vm.findClass RX12 = some m.cls := findClass_of_methodNamed B.named
  have hlocks := B.notSynchronized
  have hS : va_S (mCells h ad sz) s.heap s.heap [] := va_S.rf
  have hl := lv_entry ([.ref h, .int p0]) (n := 3) (Nat.le_of_ble_eq_true rfl)
  rw [lg_entry_eq]
  generalize (lg_sl ([.ref h, .int p0]) ++ List.replicate (3 - (lg_sl ([.ref h, .int p0])).length) Slot.unset).toArray = ls at hl ⊢
  have hl : lv_has ls 3 [(0, .ref h), (1, .int p0)] := hl
  unfold F_X12_verbHas at hF
  refine lv_bipush (v := 10) hx hb dX12_verbHas_0 (by decide +kernel) ?_
  refine lv_iload_n hx hb dX12_verbHas_2 rfl (lv_at hl 1 rfl) ?_
  refine lv_imul hx hb dX12_verbHas_3 ?_
  refine lv_istore_n (lv' := [(2, .int (10 * p0)), (0, .ref h), (1, .int p0)]) hx hb dX12_verbHas_4 rfl hl (by decide) rfl (fun ls hl => ?_)
  refine loopF_ind (P := fun (s_1 : Int32 × MS) => ∀ (H : Heap) (locs : List Loc), va_P (dC, dI) vwCl (mW cB cI cZ h qK qS ad s_1.2) H → va_S (mCells h ad sz) s.heap H locs → ∀ ls : Array Slot, lv_has ls 3 [(0, .ref h), (1, .int p0), (2, .int s_1.1)] → W p l e (headSpec (g_ws yX12_verbHas cX12_verbHas 3 (some .boolean)) { frames := 2, cells := 0, slots := 0, locals := 66 }).room s m ([.ref h, .int p0] : List Value).toArray below meth c H locs 0 0 (MQ below (va_Qi (fun r (_ : Unit) => r = res.1) (fun _ t => va_P (dC, dI) vwCl (mW cB cI cZ h qK qS ad res.2) t.heap) (mCells h ad sz)) ([.ref h, .int p0] : List Value).toArray s 0 0 (mCells h ad sz)) (F0 m 5 ls [])) ?_ _ _ hF _ _ hP hS ls (lv_sub hl [1, 2, 0] rfl)
  intro again_2 s_1 ih_3 hF_4
  intro H locs hP hS ls hl
  refine lv_iload_n hx hb dX12_verbHas_5 rfl (lv_at hl 2 rfl) ?_
  refine lv_bipush (v := 10) hx hb dX12_verbHas_6 (by decide +kernel) ?_
  refine lv_iload_n hx hb dX12_verbHas_8 rfl (lv_at hl 1 rfl) ?_
  refine lv_imul hx hb dX12_verbHas_9 ?_
  refine lv_aload_n hx hb dX12_verbHas_10 rfl (lv_at hl 0 rfl) ?_
  refine va_get (D := (dC, dI)) (ci := 12) (v := .ref (ad 59)) (C := RX12) (T := TX12) (N := 123) hx hb hts ii_X12 hown hK hP 0 rfl rfl 59 (by decide) (hts (.fieldLink RX12 125 "StoryHouseModel" "verbWords" "[I") wq_1415) (fun _ h9 => h9) rfl dX12_verbHas_11 ?_
  refine lv_iload_n hx hb dX12_verbHas_14 rfl (lv_at hl 1 rfl) ?_
  obtain ⟨g_5, hF_6⟩ := nif_e hF_4
  clear hF_4
  refine va_iald (f := s_1.2.2 59) hx hb hK hP 33 2 rfl rfl g_5 dX12_verbHas_15 ?_
  refine lv_iadd hx hb dX12_verbHas_16 ?_
  obtain ⟨x_7, ex_7, hF_8⟩ := bnd_e hF_6
  clear hF_6
  refine m_top ex_7 ?_
  refine lv_icmp_ge (tgt := 50) hx hb dX12_verbHas_17 (by decide) (fun c_9 => ?_) (fun c_9 => ?_)
  · have hF_10 := ipos c_9 hF_8
    clear hF_8
    refine lv_iconst (v := 0) hx hb dX12_verbHas_50 (by decide +kernel) ?_
    have h9 := Option.some.inj hF_10
    subst h9
    exact W.zret (v := 0) hx hb hr (by decide +kernel) (fun t ht hW => ⟨⟨0, (), rfl, rfl, m_end ht hP⟩, hS.F ht⟩) hS.2.2 dX12_verbHas_51
  · have hF_11 := ineg c_9 hF_8
    clear hF_8
    refine lv_aload_n hx hb dX12_verbHas_20 rfl (lv_at hl 0 rfl) ?_
    refine lv_iconst (v := 0) hx hb dX12_verbHas_21 (by decide +kernel) ?_
    refine lv_aload_n hx hb dX12_verbHas_22 rfl (lv_at hl 0 rfl) ?_
    refine va_get (D := (dC, dI)) (ci := 12) (v := .ref (ad 57)) (C := RX12) (T := TX12) (N := 123) hx hb hts ii_X12 hown hK hP 0 rfl rfl 57 (by decide) (hts (.fieldLink RX12 119 "StoryHouseModel" "verbBytes" "[B") wq_1413) (fun _ h9 => h9) rfl dX12_verbHas_23 ?_
    refine lv_bipush (v := 9) hx hb dX12_verbHas_26 (by decide +kernel) ?_
    refine lv_iload_n hx hb dX12_verbHas_28 rfl (lv_at hl 2 rfl) ?_
    refine lv_imul hx hb dX12_verbHas_29 ?_
    refine lv_aload_n hx hb dX12_verbHas_30 rfl (lv_at hl 0 rfl) ?_
    refine va_get (D := (dC, dI)) (ci := 12) (v := .ref (ad 58)) (C := RX12) (T := TX12) (N := 123) hx hb hts ii_X12 hown hK hP 0 rfl rfl 58 (by decide) (hts (.fieldLink RX12 122 "StoryHouseModel" "verbWordSize" "[I") wq_1414) (fun _ h9 => h9) rfl dX12_verbHas_31 ?_
    refine lv_iload_n hx hb dX12_verbHas_34 rfl (lv_at hl 2 rfl) ?_
    obtain ⟨g_12, hF_13⟩ := nif_e hF_11
    clear hF_11
    refine va_iald (f := s_1.2.2 58) hx hb hK hP 32 2 rfl rfl g_12 dX12_verbHas_35 ?_
    obtain ⟨u_14, hu_14, hF_15⟩ := Option.bind_eq_some_iff.mp hF_13
    clear hF_13
    refine m_ci hsz hS (va_runV (As := [.int 0, .ref (ad 57), .int (9 * s_1.1), .int (s_1.2.2 58 s_1.1.toNatClampNeg)]) (rest := []) ⟨hx, hb, hml, hown, hts⟩ (m_X12_isTerm__verbBytes l dC dI cB cC cI cJ cZ cP h qK qS ad hDD H.size  0 (9 * s_1.1) (s_1.2.2 58 s_1.1.toNatClampNeg) s_1.2 _ hu_14) (cwV 4 hts (g_gV wq_1898 wq_1899 wq_2240 wq_13 wq_1900) rfl rfl rfl (by decide +kernel) ⟨Nat.le_of_ble_eq_true rfl, Nat.le_of_ble_eq_true rfl⟩) (m_preV g_bl0 hsz hK hP hS hE hKS g_to0) rfl rfl hl.1 rfl (lv_room (Nat.le_of_ble_eq_true rfl)) dX12_verbHas_36 ⟨Nat.le_of_ble_eq_true rfl, Nat.le_of_ble_eq_true rfl⟩) (fun H locs hP hS => ?_)
    refine lv_if_eq (tgt := 44) hx hb dX12_verbHas_39 (by decide) (fun c_16 => ?_) (fun c_16 => ?_)
    · have hF_17 := ipos c_16 hF_15
      clear hF_15
      obtain ⟨x_18, ex_18, hF_19⟩ := bnd_e hF_17
      clear hF_17
      refine lv_iinc (v := x_18) (lv' := [(2, .int x_18), (0, .ref h), (1, .int p0)]) hx hb dX12_verbHas_44 hl (k := 2) rfl (by rw [ex_18]; rfl) (by decide) rfl (fun ls hl => ?_)
      refine lv_goto (tgt := 5) hx hb dX12_verbHas_47 (by decide) ?_
      exact ih_3 (x_18, u_14.2) hF_19 _ _ hP hS ls (lv_sub hl [1, 2, 0] rfl)
    · have hF_20 := ineg c_16 hF_15
      clear hF_15
      refine lv_iconst (v := 1) hx hb dX12_verbHas_42 (by decide +kernel) ?_
      have h9 := Option.some.inj hF_20
      subst h9
      exact W.zret (v := 1) hx hb hr (by decide +kernel) (fun t ht hW => ⟨⟨1, (), rfl, rfl, m_end ht hP⟩, hS.F ht⟩) hS.2.2 dX12_verbHas_43
theorem dX12_understand_0 : decode cX12_understand 0 = .ok (.aload_n 0, 1) := by decide +kernel
theorem dX12_understand_1 : decode cX12_understand 1 = .ok (.getfield 791, 3) := by decide +kernel
theorem dX12_understand_4 : decode cX12_understand 4 = .ok (.iconst 1, 1) := by decide +kernel
theorem dX12_understand_5 : decode cX12_understand 5 = .ok (.if_icmp .ne 11, 3) := by decide +kernel
theorem dX12_understand_8 : decode cX12_understand 8 = .ok (.aload_n 0, 1) := by decide +kernel
theorem dX12_understand_9 : decode cX12_understand 9 = .ok (.iconst 0, 1) := by decide +kernel
theorem dX12_understand_10 : decode cX12_understand 10 = .ok (.invokevirtual 843, 3) := by decide +kernel
theorem dX12_understand_13 : decode cX12_understand 13 = .ok (.goto 31, 3) := by decide +kernel
theorem dX12_understand_16 : decode cX12_understand 16 = .ok (.aload_n 0, 1) := by decide +kernel
theorem dX12_understand_17 : decode cX12_understand 17 = .ok (.getfield 791, 3) := by decide +kernel
theorem dX12_understand_20 : decode cX12_understand 20 = .ok (.iconst 2, 1) := by decide +kernel
theorem dX12_understand_21 : decode cX12_understand 21 = .ok (.if_icmp .ne 22, 3) := by decide +kernel
theorem dX12_understand_24 : decode cX12_understand 24 = .ok (.aload_n 0, 1) := by decide +kernel
theorem dX12_understand_25 : decode cX12_understand 25 = .ok (.iconst 0, 1) := by decide +kernel
theorem dX12_understand_26 : decode cX12_understand 26 = .ok (.ldc_w 468, 3) := by decide +kernel
theorem dX12_understand_29 : decode cX12_understand 29 = .ok (.invokevirtual 799, 3) := by decide +kernel
theorem dX12_understand_32 : decode cX12_understand 32 = .ok (.ifCond .eq 11, 3) := by decide +kernel
theorem dX12_understand_35 : decode cX12_understand 35 = .ok (.aload_n 0, 1) := by decide +kernel
theorem dX12_understand_36 : decode cX12_understand 36 = .ok (.iconst 1, 1) := by decide +kernel
theorem dX12_understand_37 : decode cX12_understand 37 = .ok (.invokevirtual 843, 3) := by decide +kernel
theorem dX12_understand_40 : decode cX12_understand 40 = .ok (.goto 4, 3) := by decide +kernel
theorem dX12_understand_43 : decode cX12_understand 43 = .ok (.iconst 0, 1) := by decide +kernel
theorem dX12_understand_44 : decode cX12_understand 44 = .ok (.istore_n 1, 1) := by decide +kernel
theorem dX12_understand_45 : decode cX12_understand 45 = .ok (.iload_n 1, 1) := by decide +kernel
theorem dX12_understand_46 : decode cX12_understand 46 = .ok (.ifCond .le 13, 3) := by decide +kernel
theorem dX12_understand_49 : decode cX12_understand 49 = .ok (.aload_n 0, 1) := by decide +kernel
theorem dX12_understand_50 : decode cX12_understand 50 = .ok (.bipush 11, 2) := by decide +kernel
theorem dX12_understand_52 : decode cX12_understand 52 = .ok (.iconst 1, 1) := by decide +kernel
theorem dX12_understand_53 : decode cX12_understand 53 = .ok (.iload_n 1, 1) := by decide +kernel
theorem dX12_understand_54 : decode cX12_understand 54 = .ok (.iconst 0, 1) := by decide +kernel
theorem dX12_understand_55 : decode cX12_understand 55 = .ok (.invokevirtual 846, 3) := by decide +kernel
theorem dX12_understand_58 : decode cX12_understand 58 = .ok (.ireturn, 1) := by decide +kernel
theorem dX12_understand_59 : decode cX12_understand 59 = .ok (.aload_n 0, 1) := by decide +kernel
theorem dX12_understand_60 : decode cX12_understand 60 = .ok (.iconst 0, 1) := by decide +kernel
theorem dX12_understand_61 : decode cX12_understand 61 = .ok (.ldc_w 468, 3) := by decide +kernel
theorem dX12_understand_64 : decode cX12_understand 64 = .ok (.invokevirtual 799, 3) := by decide +kernel
theorem dX12_understand_67 : decode cX12_understand 67 = .ok (.ifCond .eq 11, 3) := by decide +kernel
theorem dX12_understand_70 : decode cX12_understand 70 = .ok (.aload_n 0, 1) := by decide +kernel
theorem dX12_understand_71 : decode cX12_understand 71 = .ok (.ldc_w 850, 3) := by decide +kernel
theorem dX12_understand_74 : decode cX12_understand 74 = .ok (.invokevirtual 852, 3) := by decide +kernel
theorem dX12_understand_77 : decode cX12_understand 77 = .ok (.ireturn, 1) := by decide +kernel
theorem dX12_understand_78 : decode cX12_understand 78 = .ok (.iconst 0, 1) := by decide +kernel
theorem dX12_understand_79 : decode cX12_understand 79 = .ok (.istore_n 2, 1) := by decide +kernel
theorem dX12_understand_80 : decode cX12_understand 80 = .ok (.iconst 1, 1) := by decide +kernel
theorem dX12_understand_81 : decode cX12_understand 81 = .ok (.istore_n 3, 1) := by decide +kernel
theorem dX12_understand_82 : decode cX12_understand 82 = .ok (.iload_n 3, 1) := by decide +kernel
theorem dX12_understand_83 : decode cX12_understand 83 = .ok (.aload_n 0, 1) := by decide +kernel
theorem dX12_understand_84 : decode cX12_understand 84 = .ok (.getfield 603, 3) := by decide +kernel
theorem dX12_understand_87 : decode cX12_understand 87 = .ok (.if_icmp .gt 142, 3) := by decide +kernel
theorem dX12_understand_90 : decode cX12_understand 90 = .ok (.iload_n 3, 1) := by decide +kernel
theorem dX12_understand_91 : decode cX12_understand 91 = .ok (.bipush 11, 2) := by decide +kernel
theorem dX12_understand_93 : decode cX12_understand 93 = .ok (.if_icmp .eq 130, 3) := by decide +kernel
theorem dX12_understand_96 : decode cX12_understand 96 = .ok (.aload_n 0, 1) := by decide +kernel
theorem dX12_understand_97 : decode cX12_understand 97 = .ok (.iload_n 3, 1) := by decide +kernel
theorem dX12_understand_98 : decode cX12_understand 98 = .ok (.invokevirtual 855, 3) := by decide +kernel
theorem dX12_understand_101 : decode cX12_understand 101 = .ok (.ifCond .ne 6, 3) := by decide +kernel
theorem dX12_understand_104 : decode cX12_understand 104 = .ok (.goto 119, 3) := by decide +kernel
theorem dX12_understand_107 : decode cX12_understand 107 = .ok (.iconst 1, 1) := by decide +kernel
theorem dX12_understand_108 : decode cX12_understand 108 = .ok (.istore_n 2, 1) := by decide +kernel
theorem dX12_understand_109 : decode cX12_understand 109 = .ok (.aload_n 0, 1) := by decide +kernel
theorem dX12_understand_110 : decode cX12_understand 110 = .ok (.getfield 128, 3) := by decide +kernel
theorem dX12_understand_113 : decode cX12_understand 113 = .ok (.iload_n 3, 1) := by decide +kernel
theorem dX12_understand_114 : decode cX12_understand 114 = .ok (.iaload, 1) := by decide +kernel
theorem dX12_understand_115 : decode cX12_understand 115 = .ok (.ifCond .ne 20, 3) := by decide +kernel
theorem dX12_understand_118 : decode cX12_understand 118 = .ok (.aload_n 0, 1) := by decide +kernel
theorem dX12_understand_119 : decode cX12_understand 119 = .ok (.getfield 791, 3) := by decide +kernel
theorem dX12_understand_122 : decode cX12_understand 122 = .ok (.iconst 1, 1) := by decide +kernel
theorem dX12_understand_123 : decode cX12_understand 123 = .ok (.if_icmp .ne 12, 3) := by decide +kernel
theorem dX12_understand_126 : decode cX12_understand 126 = .ok (.aload_n 0, 1) := by decide +kernel
theorem dX12_understand_127 : decode cX12_understand 127 = .ok (.iload_n 3, 1) := by decide +kernel
theorem dX12_understand_128 : decode cX12_understand 128 = .ok (.iconst 0, 1) := by decide +kernel
theorem dX12_understand_129 : decode cX12_understand 129 = .ok (.iconst 0, 1) := by decide +kernel
theorem dX12_understand_130 : decode cX12_understand 130 = .ok (.iconst 0, 1) := by decide +kernel
theorem dX12_understand_131 : decode cX12_understand 131 = .ok (.invokevirtual 846, 3) := by decide +kernel
theorem dX12_understand_134 : decode cX12_understand 134 = .ok (.ireturn, 1) := by decide +kernel
theorem dX12_understand_135 : decode cX12_understand 135 = .ok (.aload_n 0, 1) := by decide +kernel
theorem dX12_understand_136 : decode cX12_understand 136 = .ok (.getfield 128, 3) := by decide +kernel
theorem dX12_understand_139 : decode cX12_understand 139 = .ok (.iload_n 3, 1) := by decide +kernel
theorem dX12_understand_140 : decode cX12_understand 140 = .ok (.iaload, 1) := by decide +kernel
theorem dX12_understand_141 : decode cX12_understand 141 = .ok (.iconst 1, 1) := by decide +kernel
theorem dX12_understand_142 : decode cX12_understand 142 = .ok (.if_icmp .ne 17, 3) := by decide +kernel
theorem dX12_understand_145 : decode cX12_understand 145 = .ok (.aload_n 0, 1) := by decide +kernel
theorem dX12_understand_146 : decode cX12_understand 146 = .ok (.getfield 791, 3) := by decide +kernel
theorem dX12_understand_149 : decode cX12_understand 149 = .ok (.iconst 1, 1) := by decide +kernel
theorem dX12_understand_150 : decode cX12_understand 150 = .ok (.if_icmp .le 9, 3) := by decide +kernel
theorem dX12_understand_153 : decode cX12_understand 153 = .ok (.aload_n 0, 1) := by decide +kernel
theorem dX12_understand_154 : decode cX12_understand 154 = .ok (.iload_n 3, 1) := by decide +kernel
theorem dX12_understand_155 : decode cX12_understand 155 = .ok (.invokevirtual 858, 3) := by decide +kernel
theorem dX12_understand_158 : decode cX12_understand 158 = .ok (.ireturn, 1) := by decide +kernel
theorem dX12_understand_159 : decode cX12_understand 159 = .ok (.aload_n 0, 1) := by decide +kernel
theorem dX12_understand_160 : decode cX12_understand 160 = .ok (.getfield 128, 3) := by decide +kernel
theorem dX12_understand_163 : decode cX12_understand 163 = .ok (.iload_n 3, 1) := by decide +kernel
theorem dX12_understand_164 : decode cX12_understand 164 = .ok (.iaload, 1) := by decide +kernel
theorem dX12_understand_165 : decode cX12_understand 165 = .ok (.iconst 2, 1) := by decide +kernel
theorem dX12_understand_166 : decode cX12_understand 166 = .ok (.if_icmp .eq 6, 3) := by decide +kernel
theorem dX12_understand_169 : decode cX12_understand 169 = .ok (.goto 54, 3) := by decide +kernel
theorem dX12_understand_172 : decode cX12_understand 172 = .ok (.iconst 2, 1) := by decide +kernel
theorem dX12_understand_173 : decode cX12_understand 173 = .ok (.istore 4, 2) := by decide +kernel
theorem dX12_understand_175 : decode cX12_understand 175 = .ok (.iload 4, 2) := by decide +kernel
theorem dX12_understand_177 : decode cX12_understand 177 = .ok (.aload_n 0, 1) := by decide +kernel
theorem dX12_understand_178 : decode cX12_understand 178 = .ok (.getfield 791, 3) := by decide +kernel
theorem dX12_understand_181 : decode cX12_understand 181 = .ok (.iconst 1, 1) := by decide +kernel
theorem dX12_understand_182 : decode cX12_understand 182 = .ok (.isub, 1) := by decide +kernel
theorem dX12_understand_183 : decode cX12_understand 183 = .ok (.if_icmp .ge 40, 3) := by decide +kernel
theorem dX12_understand_186 : decode cX12_understand 186 = .ok (.aload_n 0, 1) := by decide +kernel
theorem dX12_understand_187 : decode cX12_understand 187 = .ok (.iload 4, 2) := by decide +kernel
theorem dX12_understand_189 : decode cX12_understand 189 = .ok (.aload_n 0, 1) := by decide +kernel
theorem dX12_understand_190 : decode cX12_understand 190 = .ok (.getfield 131, 3) := by decide +kernel
theorem dX12_understand_193 : decode cX12_understand 193 = .ok (.bipush 9, 2) := by decide +kernel
theorem dX12_understand_195 : decode cX12_understand 195 = .ok (.iload_n 3, 1) := by decide +kernel
theorem dX12_understand_196 : decode cX12_understand 196 = .ok (.imul, 1) := by decide +kernel
theorem dX12_understand_197 : decode cX12_understand 197 = .ok (.aload_n 0, 1) := by decide +kernel
theorem dX12_understand_198 : decode cX12_understand 198 = .ok (.getfield 134, 3) := by decide +kernel
theorem dX12_understand_201 : decode cX12_understand 201 = .ok (.iload_n 3, 1) := by decide +kernel
theorem dX12_understand_202 : decode cX12_understand 202 = .ok (.iaload, 1) := by decide +kernel
theorem dX12_understand_203 : decode cX12_understand 203 = .ok (.invokevirtual 840, 3) := by decide +kernel
theorem dX12_understand_206 : decode cX12_understand 206 = .ok (.ifCond .eq 11, 3) := by decide +kernel
theorem dX12_understand_209 : decode cX12_understand 209 = .ok (.aload_n 0, 1) := by decide +kernel
theorem dX12_understand_210 : decode cX12_understand 210 = .ok (.iload_n 3, 1) := by decide +kernel
theorem dX12_understand_211 : decode cX12_understand 211 = .ok (.iload 4, 2) := by decide +kernel
theorem dX12_understand_213 : decode cX12_understand 213 = .ok (.invokevirtual 861, 3) := by decide +kernel
theorem dX12_understand_216 : decode cX12_understand 216 = .ok (.ireturn, 1) := by decide +kernel
theorem dX12_understand_217 : decode cX12_understand 217 = .ok (.iinc 4 1, 3) := by decide +kernel
theorem dX12_understand_220 : decode cX12_understand 220 = .ok (.goto (-45), 3) := by decide +kernel
theorem dX12_understand_223 : decode cX12_understand 223 = .ok (.iinc 3 1, 3) := by decide +kernel
theorem dX12_understand_226 : decode cX12_understand 226 = .ok (.goto (-144), 3) := by decide +kernel
theorem dX12_understand_229 : decode cX12_understand 229 = .ok (.aload_n 0, 1) := by decide +kernel
theorem dX12_understand_230 : decode cX12_understand 230 = .ok (.iload_n 2, 1) := by decide +kernel
theorem dX12_understand_231 : decode cX12_understand 231 = .ok (.ifCond .eq 9, 3) := by decide +kernel
theorem dX12_understand_234 : decode cX12_understand 234 = .ok (.ldc_w 863, 3) := by decide +kernel
theorem dX12_understand_237 : decode cX12_understand 237 = .ok (.goto 6, 3) := by decide +kernel
theorem dX12_understand_240 : decode cX12_understand 240 = .ok (.ldc_w 865, 3) := by decide +kernel
theorem dX12_understand_243 : decode cX12_understand 243 = .ok (.invokevirtual 852, 3) := by decide +kernel
theorem dX12_understand_246 : decode cX12_understand 246 = .ok (.ireturn, 1) := by decide +kernel
def F_X12_understand  (σ : MS) : MR :=
  bnd (fun (t_1 : Int32) (σ_2 : MS) => (
    if t_1 ≤ 0 then (
      (F_X12_isTerm 0 ([103, 111] : List Int32) σ_2).bind fun u_9 =>
      if u_9.1 = 0 then (
        loopF (fun (again_14 : (Int32 × Int32 × MS) → MR) (s_13 : Int32 × Int32 × MS) => (
          if (s_13.2.2.1 79) < s_13.2.1 then (
            if s_13.1 = 0 then (
              (F_X12_no ([73, 32, 100, 111, 32, 110, 111, 116, 32, 107, 110, 111, 119, 32, 104, 111, 119, 32, 116, 111, 32, 100, 111, 32, 116, 104, 97, 116, 46] : List Int32) s_13.2.2).bind fun u_22 =>
              some (u_22.1, u_22.2)
            ) else (
              (F_X12_no ([73, 32, 100, 105, 100, 32, 110, 111, 116, 32, 103, 101, 116, 32, 116, 104, 97, 116, 46] : List Int32) s_13.2.2).bind fun u_26 =>
              some (u_26.1, u_26.2)
            )
          ) else (
            bnd (fun (v2_29 : Int32) (σ_30 : MS) => (
              bnd (s_13.2.1 + 1) fun (x_34 : Int32) =>
              again_14 (v2_29, x_34, σ_30)
            ) : Int32 → MS → MR) fun j_31 =>
            if s_13.2.1 = 11 then (
              j_31 s_13.1 s_13.2.2
            ) else (
              (F_X12_verbHas s_13.2.1 s_13.2.2).bind fun u_39 =>
              if u_39.1 = 0 then (
                j_31 s_13.1 u_39.2
              ) else (
                if s_13.2.1 < 0 ∨ 61 ≤ s_13.2.1.toNatClampNeg then none else
                bnd (fun  (σ_46 : MS) => (
                  if s_13.2.1 < 0 ∨ 61 ≤ s_13.2.1.toNatClampNeg then none else
                  bnd (fun  (σ_52 : MS) => (
                    if s_13.2.1 < 0 ∨ 61 ≤ s_13.2.1.toNatClampNeg then none else
                    if (σ_52.2 60 s_13.2.1.toNatClampNeg) = 2 then (
                      loopF (fun (again_61 : (Int32 × MS) → MR) (s_60 : Int32 × MS) => (
                        if ((s_60.2.1 120) - 1) ≤ s_60.1 then (
                          j_31 1 s_60.2
                        ) else (
                          if s_13.2.1 < 0 ∨ 61 ≤ s_13.2.1.toNatClampNeg then none else
                          (F_X12_isTerm__between s_60.1 (9 * s_13.2.1) (s_60.2.2 62 s_13.2.1.toNatClampNeg) s_60.2).bind fun u_69 =>
                          if u_69.1 = 0 then (
                            bnd (s_60.1 + 1) fun (x_73 : Int32) =>
                            again_61 (x_73, u_69.2)
                          ) else (
                            (F_X12_two_ s_13.2.1 s_60.1 u_69.2).bind fun u_76 =>
                            some (u_76.1, u_76.2)
                          )
                        )
                      )) FU (2, σ_52)
                    ) else (
                      j_31 1 σ_52
                    )
                  ) : MS → MR) fun j_53 =>
                  if (σ_46.2 60 s_13.2.1.toNatClampNeg) = 1 then (
                    if (σ_46.1 120) ≤ 1 then (
                      j_53  σ_46
                    ) else (
                      (F_X12_one s_13.2.1 σ_46).bind fun u_84 =>
                      some (u_84.1, u_84.2)
                    )
                  ) else (
                    j_53  σ_46
                  )
                ) : MS → MR) fun j_47 =>
                if (u_39.2.2 60 s_13.2.1.toNatClampNeg) = 0 then (
                  if (u_39.2.1 120) = 1 then (
                    (F_X12_command s_13.2.1 0 0 0 u_39.2).bind fun u_91 =>
                    some (u_91.1, u_91.2)
                  ) else (
                    j_47  u_39.2
                  )
                ) else (
                  j_47  u_39.2
                )
              )
            )
          )
        )) FU (0, 1, u_9.2)
      ) else (
        (F_X12_no ([87, 104, 101, 114, 101, 32, 100, 111, 32, 121, 111, 117, 32, 119, 97, 110, 116, 32, 116, 111, 32, 103, 111, 63] : List Int32) u_9.2).bind fun u_97 =>
        some (u_97.1, u_97.2)
      )
    ) else (
      (F_X12_command 11 1 t_1 0 σ_2).bind fun u_100 =>
      some (u_100.1, u_100.2)
    )
  ) : Int32 → MS → MR) fun j_3 =>
  if (σ.1 120) = 1 then (
    (F_X12_directionOf 0 σ).bind fun u_104 =>
    j_3 u_104.1 u_104.2
  ) else (
    bnd (fun  (σ_107 : MS) => (
      j_3 0 σ_107
    ) : MS → MR) fun j_108 =>
    if (σ.1 120) = 2 then (
      (F_X12_isTerm 0 ([103, 111] : List Int32) σ).bind fun u_114 =>
      if u_114.1 = 0 then (
        j_108  u_114.2
      ) else (
        (F_X12_directionOf 1 u_114.2).bind fun u_119 =>
        j_3 u_119.1 u_119.2
      )
    ) else (
      j_108  σ
    )
  )
set_option maxHeartbeats 4000000 in
set_option maxRecDepth 100000 in
theorem m_X12_understand (l : Launch) (dC : Nat → ClassId) (dI : Nat → Nat → Nat) (cB cC cI cJ cZ cP : ClassId) (h qK qS : Nat) (ad : Nat → Nat) (hDD : mDis cB cI cZ h qK qS ad) (sz : Nat)   (σ : MS) (res : Int32 × MS) (hF : F_X12_understand  σ = some res) : Met l yX12_understand (g_ws yX12_understand cX12_understand 5 (some .int)) ({ frames := 1312, cells := 0, slots := 0, locals := 34090 }) (va_Pc [.ref h] (m_B (dC, dI) [(cB, .byte), (cC, .char), (cI, .int), (cJ, .long), (cZ, .boolean), (cP, .object "StoryHouse$Play")] sz h ad qK qS (mW cB cI cZ h qK qS ad σ) g_0)) (va_Qi (fun r (_ : Unit) => r = res.1) (fun _ t => va_P (dC, dI) vwCl (mW cB cI cZ h qK qS ad res.2) t.heap) (mCells h ad sz)) 0 0 (mCells h ad sz) := by
  refine Met.ofW (cc := cX12_understand) (maxL := 5) (ret := (some .int)) (by decide) rfl ?_
  intro p e s m args below meth c s₁ B hml hv
  obtain ⟨rfl, hsz, hP, hK, hE, hKS, hX⟩ := hv
  have hx := B.exec
  have hb := B.bytes
  have hr := B.returns
  have hts0 := atoms_spec (ws := g_ws yX12_understand cX12_understand 5 (some .int)) B.pre
  have hts : ∀ w ∈ lw_good, w.before ([.ref h] : List Value).toArray s = true := fun w z => hts0 w (List.mem_cons_of_mem _ z)
  have hown : s.vm.findClass RX12 = some m.cls := findClass_of_methodNamed B.named
  have hlocks := B.notSynchronized
  have hS : va_S (mCells h ad sz) s.heap s.heap [] := va_S.rf
  have hl := lv_entry ([.ref h]) (n := 5) (Nat.le_of_ble_eq_true rfl)
  rw [lg_entry_eq]
  generalize (lg_sl ([.ref h]) ++ List.replicate (5 - (lg_sl ([.ref h])).length) Slot.unset).toArray = ls at hl ⊢
  have hl : lv_has ls 5 [(0, .ref h)] := hl
  unfold F_X12_understand at hF
  refine lv_aload_n hx hb dX12_understand_0 rfl (lv_at hl 0 rfl) ?_
  refine va_get (D := (dC, dI)) (ci := 12) (v := .int (σ.1 120)) (C := RX12) (T := TX12) (N := 123) hx hb hts ii_X12 hown hK hP 0 rfl rfl 120 (by decide) (hts (.fieldLink RX12 791 "StoryHouseModel" "terms" "I") wq_1476) (fun _ h9 => h9) rfl dX12_understand_1 ?_
  refine lv_iconst (v := 1) hx hb dX12_understand_4 (by decide +kernel) ?_
  obtain ⟨j_3, ej_3, hF_4⟩ := bnd_e hF
  clear hF
  have Jj_3 : ∀ (t_1 : Int32) (σ_2 : MS), j_3 t_1 σ_2 = some res → ∀ (H : Heap) (locs : List Loc), va_P (dC, dI) vwCl (mW cB cI cZ h qK qS ad σ_2) H → va_S (mCells h ad sz) s.heap H locs → ∀ ls : Array Slot, lv_has ls 5 [(0, .ref h)] → W p l e (headSpec (g_ws yX12_understand cX12_understand 5 (some .int)) { frames := 1312, cells := 0, slots := 0, locals := 34090 }).room s m ([.ref h] : List Value).toArray below meth c H locs 0 0 (MQ below (va_Qi (fun r (_ : Unit) => r = res.1) (fun _ t => va_P (dC, dI) vwCl (mW cB cI cZ h qK qS ad res.2) t.heap) (mCells h ad sz)) ([.ref h] : List Value).toArray s 0 0 (mCells h ad sz)) (F0 m 44 ls [.int t_1]) := by
    intro t_1 σ_2 hF0 H locs hP hS ls hl
    subst ej_3
    have hF_5 := hF0
    clear hF0
    refine lv_istore_n (lv' := [(1, .int t_1), (0, .ref h)]) hx hb dX12_understand_44 rfl hl (by decide) rfl (fun ls hl => ?_)
    refine lv_iload_n hx hb dX12_understand_45 rfl (lv_at hl 0 rfl) ?_
    refine lv_if_le (tgt := 59) hx hb dX12_understand_46 (by decide) (fun c_6 => ?_) (fun c_6 => ?_)
    · have hF_7 := ipos c_6 hF_5
      clear hF_5
      refine lv_aload_n hx hb dX12_understand_59 rfl (lv_at hl 1 rfl) ?_
      refine lv_iconst (v := 0) hx hb dX12_understand_60 (by decide +kernel) ?_
      obtain ⟨q_8, vq_8, hRq_8, hSq_8⟩ := hE.2.2.2.2 _ (List.mem_of_getElem? (i := 89) rfl)
      refine g_ldcwS (own := RX12) (tx := "go") hx hb hown hRq_8 dX12_understand_61 ?_
      obtain ⟨u_9, hu_9, hF_10⟩ := Option.bind_eq_some_iff.mp hF_7
      clear hF_7
      refine m_ci hsz hS (va_runV (As := [.int 0, .ref q_8]) (rest := []) ⟨hx, hb, hml, hown, hts⟩ (m_X12_isTerm l dC dI cB cC cI cJ cZ cP h qK qS ad hDD H.size q_8 _ 0 ([103, 111] : List Int32) σ_2 _ hu_9) (cwV 2 hts (g_gV wq_1789 wq_1790 wq_2204 wq_13 wq_1791) rfl rfl rfl (by decide +kernel) ⟨Nat.le_of_ble_eq_true rfl, Nat.le_of_ble_eq_true rfl⟩) (m_preV g_blS hsz hK hP hS hE hKS (g_toS hSq_8 hS (m_narrow hS hsz))) rfl rfl hl.1 rfl (lv_room (Nat.le_of_ble_eq_true rfl)) dX12_understand_64 ⟨Nat.le_of_ble_eq_true rfl, Nat.le_of_ble_eq_true rfl⟩) (fun H locs hP hS => ?_)
      refine lv_if_eq (tgt := 78) hx hb dX12_understand_67 (by decide) (fun c_11 => ?_) (fun c_11 => ?_)
      · have hF_12 := ipos c_11 hF_10
        clear hF_10
        refine lv_iconst (v := 0) hx hb dX12_understand_78 (by decide +kernel) ?_
        refine lv_istore_n (lv' := [(2, .int 0), (1, .int t_1), (0, .ref h)]) hx hb dX12_understand_79 rfl hl (by decide) rfl (fun ls hl => ?_)
        refine lv_iconst (v := 1) hx hb dX12_understand_80 (by decide +kernel) ?_
        refine lv_istore_n (lv' := [(3, .int 1), (2, .int 0), (1, .int t_1), (0, .ref h)]) hx hb dX12_understand_81 rfl hl (by decide) rfl (fun ls hl => ?_)
        refine loopF_ind (P := fun (s_13 : Int32 × Int32 × MS) => ∀ (H : Heap) (locs : List Loc), va_P (dC, dI) vwCl (mW cB cI cZ h qK qS ad s_13.2.2) H → va_S (mCells h ad sz) s.heap H locs → ∀ ls : Array Slot, lv_has ls 5 [(0, .ref h), (2, .int s_13.1), (3, .int s_13.2.1)] → W p l e (headSpec (g_ws yX12_understand cX12_understand 5 (some .int)) { frames := 1312, cells := 0, slots := 0, locals := 34090 }).room s m ([.ref h] : List Value).toArray below meth c H locs 0 0 (MQ below (va_Qi (fun r (_ : Unit) => r = res.1) (fun _ t => va_P (dC, dI) vwCl (mW cB cI cZ h qK qS ad res.2) t.heap) (mCells h ad sz)) ([.ref h] : List Value).toArray s 0 0 (mCells h ad sz)) (F0 m 82 ls [])) ?_ _ _ hF_12 _ _ hP hS ls (lv_sub hl [3, 1, 0] rfl)
        intro again_14 s_13 ih_15 hF_16
        intro H locs hP hS ls hl
        refine lv_iload_n hx hb dX12_understand_82 rfl (lv_at hl 2 rfl) ?_
        refine lv_aload_n hx hb dX12_understand_83 rfl (lv_at hl 0 rfl) ?_
        refine va_get (D := (dC, dI)) (ci := 12) (v := .int (s_13.2.2.1 79)) (C := RX12) (T := TX12) (N := 123) hx hb hts ii_X12 hown hK hP 0 rfl rfl 79 (by decide) (hts (.fieldLink RX12 603 "StoryHouseModel" "nVerbs" "I") wq_1435) (fun _ h9 => h9) rfl dX12_understand_84 ?_
        refine lv_icmp_gt (tgt := 229) hx hb dX12_understand_87 (by decide) (fun c_17 => ?_) (fun c_17 => ?_)
        · have hF_18 := ipos c_17 hF_16
          clear hF_16
          refine lv_aload_n hx hb dX12_understand_229 rfl (lv_at hl 0 rfl) ?_
          refine lv_iload_n hx hb dX12_understand_230 rfl (lv_at hl 1 rfl) ?_
          refine lv_if_eq (tgt := 240) hx hb dX12_understand_231 (by decide) (fun c_19 => ?_) (fun c_19 => ?_)
          · have hF_20 := ipos c_19 hF_18
            clear hF_18
            obtain ⟨q_21, vq_21, hRq_21, hSq_21⟩ := hE.2.2.2.2 _ (List.mem_of_getElem? (i := 160) rfl)
            refine g_ldcwS (own := RX12) (tx := "I do not know how to do that.") hx hb hown hRq_21 dX12_understand_240 ?_
            obtain ⟨u_22, hu_22, hF_23⟩ := Option.bind_eq_some_iff.mp hF_20
            clear hF_20
            refine m_ci hsz hS (va_runV (As := [.ref q_21]) (rest := []) ⟨hx, hb, hml, hown, hts⟩ (m_X12_no l dC dI cB cC cI cJ cZ cP h qK qS ad hDD H.size q_21 _ ([73, 32, 100, 111, 32, 110, 111, 116, 32, 107, 110, 111, 119, 32, 104, 111, 119, 32, 116, 111, 32, 100, 111, 32, 116, 104, 97, 116, 46] : List Int32) s_13.2.2 _ hu_22) (cwV 1 hts (g_gV wq_1892 wq_1893 wq_2238 wq_13 wq_1894) rfl rfl rfl (by decide +kernel) ⟨Nat.le_of_ble_eq_true rfl, Nat.le_of_ble_eq_true rfl⟩) (m_preV g_blS hsz hK hP hS hE hKS (g_toS hSq_21 hS (m_narrow hS hsz))) rfl rfl hl.1 rfl (lv_room (Nat.le_of_ble_eq_true rfl)) dX12_understand_243 ⟨Nat.le_of_ble_eq_true rfl, Nat.le_of_ble_eq_true rfl⟩) (fun H locs hP hS => ?_)
            have h9 := Option.some.inj hF_23
            subst h9
            exact W.iret (v := u_22.1) hx hb hr (fun t ht hW => ⟨⟨u_22.1, (), rfl, rfl, m_end ht hP⟩, hS.F ht⟩) hS.2.2 dX12_understand_246
          · have hF_24 := ineg c_19 hF_18
            clear hF_18
            obtain ⟨q_25, vq_25, hRq_25, hSq_25⟩ := hE.2.2.2.2 _ (List.mem_of_getElem? (i := 159) rfl)
            refine g_ldcwS (own := RX12) (tx := "I did not get that.") hx hb hown hRq_25 dX12_understand_234 ?_
            refine lv_goto (tgt := 243) hx hb dX12_understand_237 (by decide) ?_
            obtain ⟨u_26, hu_26, hF_27⟩ := Option.bind_eq_some_iff.mp hF_24
            clear hF_24
            refine m_ci hsz hS (va_runV (As := [.ref q_25]) (rest := []) ⟨hx, hb, hml, hown, hts⟩ (m_X12_no l dC dI cB cC cI cJ cZ cP h qK qS ad hDD H.size q_25 _ ([73, 32, 100, 105, 100, 32, 110, 111, 116, 32, 103, 101, 116, 32, 116, 104, 97, 116, 46] : List Int32) s_13.2.2 _ hu_26) (cwV 1 hts (g_gV wq_1892 wq_1893 wq_2238 wq_13 wq_1894) rfl rfl rfl (by decide +kernel) ⟨Nat.le_of_ble_eq_true rfl, Nat.le_of_ble_eq_true rfl⟩) (m_preV g_blS hsz hK hP hS hE hKS (g_toS hSq_25 hS (m_narrow hS hsz))) rfl rfl hl.1 rfl (lv_room (Nat.le_of_ble_eq_true rfl)) dX12_understand_243 ⟨Nat.le_of_ble_eq_true rfl, Nat.le_of_ble_eq_true rfl⟩) (fun H locs hP hS => ?_)
            have h9 := Option.some.inj hF_27
            subst h9
            exact W.iret (v := u_26.1) hx hb hr (fun t ht hW => ⟨⟨u_26.1, (), rfl, rfl, m_end ht hP⟩, hS.F ht⟩) hS.2.2 dX12_understand_246
        · have hF_28 := ineg c_17 hF_16
          clear hF_16
          refine lv_iload_n hx hb dX12_understand_90 rfl (lv_at hl 2 rfl) ?_
          refine lv_bipush (v := 11) hx hb dX12_understand_91 (by decide +kernel) ?_
          obtain ⟨j_31, ej_31, hF_32⟩ := bnd_e hF_28
          clear hF_28
          have Jj_31 : ∀ (v2_29 : Int32) (σ_30 : MS), j_31 v2_29 σ_30 = some res → ∀ (H : Heap) (locs : List Loc), va_P (dC, dI) vwCl (mW cB cI cZ h qK qS ad σ_30) H → va_S (mCells h ad sz) s.heap H locs → ∀ ls : Array Slot, lv_has ls 5 [(0, .ref h), (2, .int v2_29), (3, .int s_13.2.1)] → W p l e (headSpec (g_ws yX12_understand cX12_understand 5 (some .int)) { frames := 1312, cells := 0, slots := 0, locals := 34090 }).room s m ([.ref h] : List Value).toArray below meth c H locs 0 0 (MQ below (va_Qi (fun r (_ : Unit) => r = res.1) (fun _ t => va_P (dC, dI) vwCl (mW cB cI cZ h qK qS ad res.2) t.heap) (mCells h ad sz)) ([.ref h] : List Value).toArray s 0 0 (mCells h ad sz)) (F0 m 223 ls []) := by
            intro v2_29 σ_30 hF0 H locs hP hS ls hl
            subst ej_31
            have hF_33 := hF0
            clear hF0
            obtain ⟨x_34, ex_34, hF_35⟩ := bnd_e hF_33
            clear hF_33
            refine lv_iinc (v := x_34) (lv' := [(3, .int x_34), (0, .ref h), (2, .int v2_29)]) hx hb dX12_understand_223 hl (k := 2) rfl (by rw [ex_34]; rfl) (by decide) rfl (fun ls hl => ?_)
            refine lv_goto (tgt := 82) hx hb dX12_understand_226 (by decide) ?_
            exact ih_15 (v2_29, x_34, σ_30) hF_35 _ _ hP hS ls (lv_sub hl [1, 2, 0] rfl)
          refine lv_icmp_eq (tgt := 223) hx hb dX12_understand_93 (by decide) (fun c_36 => ?_) (fun c_36 => ?_)
          · have hF_37 := ipos c_36 hF_32
            clear hF_32
            exact Jj_31 s_13.1 s_13.2.2 hF_37 _ _ hP hS ls (lv_sub hl [0, 1, 2] rfl)
          · have hF_38 := ineg c_36 hF_32
            clear hF_32
            refine lv_aload_n hx hb dX12_understand_96 rfl (lv_at hl 0 rfl) ?_
            refine lv_iload_n hx hb dX12_understand_97 rfl (lv_at hl 2 rfl) ?_
            obtain ⟨u_39, hu_39, hF_40⟩ := Option.bind_eq_some_iff.mp hF_38
            clear hF_38
            refine m_ci hsz hS (va_runV (As := [.int s_13.2.1]) (rest := []) ⟨hx, hb, hml, hown, hts⟩ (m_X12_verbHas l dC dI cB cC cI cJ cZ cP h qK qS ad hDD H.size  s_13.2.1 s_13.2.2 _ hu_39) (cwV 1 hts (g_gV wq_1895 wq_1896 wq_2239 wq_13 wq_1897) rfl rfl rfl (by decide +kernel) ⟨Nat.le_of_ble_eq_true rfl, Nat.le_of_ble_eq_true rfl⟩) (m_preV g_bl0 hsz hK hP hS hE hKS g_to0) rfl rfl hl.1 rfl (lv_room (Nat.le_of_ble_eq_true rfl)) dX12_understand_98 ⟨Nat.le_of_ble_eq_true rfl, Nat.le_of_ble_eq_true rfl⟩) (fun H locs hP hS => ?_)
            refine lv_if_ne (tgt := 107) hx hb dX12_understand_101 (by decide) (fun c_41 => ?_) (fun c_41 => ?_)
            · have hF_43 := ineg c_41 hF_40
              clear hF_40
              refine lv_iconst (v := 1) hx hb dX12_understand_107 (by decide +kernel) ?_
              refine lv_istore_n (lv' := [(2, .int 1), (0, .ref h), (3, .int s_13.2.1)]) hx hb dX12_understand_108 rfl hl (by decide) rfl (fun ls hl => ?_)
              refine lv_aload_n hx hb dX12_understand_109 rfl (lv_at hl 1 rfl) ?_
              refine va_get (D := (dC, dI)) (ci := 12) (v := .ref (ad 60)) (C := RX12) (T := TX12) (N := 123) hx hb hts ii_X12 hown hK hP 0 rfl rfl 60 (by decide) (hts (.fieldLink RX12 128 "StoryHouseModel" "forms" "[I") wq_1416) (fun _ h9 => h9) rfl dX12_understand_110 ?_
              refine lv_iload_n hx hb dX12_understand_113 rfl (lv_at hl 2 rfl) ?_
              obtain ⟨g_44, hF_45⟩ := nif_e hF_43
              clear hF_43
              refine va_iald (f := u_39.2.2 60) hx hb hK hP 34 2 rfl rfl g_44 dX12_understand_114 ?_
              obtain ⟨j_47, ej_47, hF_48⟩ := bnd_e hF_45
              clear hF_45
              have Jj_47 : ∀  (σ_46 : MS), j_47  σ_46 = some res → ∀ (H : Heap) (locs : List Loc), va_P (dC, dI) vwCl (mW cB cI cZ h qK qS ad σ_46) H → va_S (mCells h ad sz) s.heap H locs → ∀ ls : Array Slot, lv_has ls 5 [(0, .ref h), (2, .int 1), (3, .int s_13.2.1)] → W p l e (headSpec (g_ws yX12_understand cX12_understand 5 (some .int)) { frames := 1312, cells := 0, slots := 0, locals := 34090 }).room s m ([.ref h] : List Value).toArray below meth c H locs 0 0 (MQ below (va_Qi (fun r (_ : Unit) => r = res.1) (fun _ t => va_P (dC, dI) vwCl (mW cB cI cZ h qK qS ad res.2) t.heap) (mCells h ad sz)) ([.ref h] : List Value).toArray s 0 0 (mCells h ad sz)) (F0 m 135 ls []) := by
                intro  σ_46 hF0 H locs hP hS ls hl
                subst ej_47
                have hF_49 := hF0
                clear hF0
                refine lv_aload_n hx hb dX12_understand_135 rfl (lv_at hl 0 rfl) ?_
                refine va_get (D := (dC, dI)) (ci := 12) (v := .ref (ad 60)) (C := RX12) (T := TX12) (N := 123) hx hb hts ii_X12 hown hK hP 0 rfl rfl 60 (by decide) (hts (.fieldLink RX12 128 "StoryHouseModel" "forms" "[I") wq_1416) (fun _ h9 => h9) rfl dX12_understand_136 ?_
                refine lv_iload_n hx hb dX12_understand_139 rfl (lv_at hl 2 rfl) ?_
                obtain ⟨g_50, hF_51⟩ := nif_e hF_49
                clear hF_49
                refine va_iald (f := σ_46.2 60) hx hb hK hP 34 2 rfl rfl g_50 dX12_understand_140 ?_
                refine lv_iconst (v := 1) hx hb dX12_understand_141 (by decide +kernel) ?_
                obtain ⟨j_53, ej_53, hF_54⟩ := bnd_e hF_51
                clear hF_51
                have Jj_53 : ∀  (σ_52 : MS), j_53  σ_52 = some res → ∀ (H : Heap) (locs : List Loc), va_P (dC, dI) vwCl (mW cB cI cZ h qK qS ad σ_52) H → va_S (mCells h ad sz) s.heap H locs → ∀ ls : Array Slot, lv_has ls 5 [(0, .ref h), (2, .int 1), (3, .int s_13.2.1)] → W p l e (headSpec (g_ws yX12_understand cX12_understand 5 (some .int)) { frames := 1312, cells := 0, slots := 0, locals := 34090 }).room s m ([.ref h] : List Value).toArray below meth c H locs 0 0 (MQ below (va_Qi (fun r (_ : Unit) => r = res.1) (fun _ t => va_P (dC, dI) vwCl (mW cB cI cZ h qK qS ad res.2) t.heap) (mCells h ad sz)) ([.ref h] : List Value).toArray s 0 0 (mCells h ad sz)) (F0 m 159 ls []) := by
                  intro  σ_52 hF0 H locs hP hS ls hl
                  subst ej_53
                  have hF_55 := hF0
                  clear hF0
                  refine lv_aload_n hx hb dX12_understand_159 rfl (lv_at hl 0 rfl) ?_
                  refine va_get (D := (dC, dI)) (ci := 12) (v := .ref (ad 60)) (C := RX12) (T := TX12) (N := 123) hx hb hts ii_X12 hown hK hP 0 rfl rfl 60 (by decide) (hts (.fieldLink RX12 128 "StoryHouseModel" "forms" "[I") wq_1416) (fun _ h9 => h9) rfl dX12_understand_160 ?_
                  refine lv_iload_n hx hb dX12_understand_163 rfl (lv_at hl 2 rfl) ?_
                  obtain ⟨g_56, hF_57⟩ := nif_e hF_55
                  clear hF_55
                  refine va_iald (f := σ_52.2 60) hx hb hK hP 34 2 rfl rfl g_56 dX12_understand_164 ?_
                  refine lv_iconst (v := 2) hx hb dX12_understand_165 (by decide +kernel) ?_
                  refine lv_icmp_eq (tgt := 172) hx hb dX12_understand_166 (by decide) (fun c_58 => ?_) (fun c_58 => ?_)
                  · have hF_59 := ipos c_58 hF_57
                    clear hF_57
                    refine lv_iconst (v := 2) hx hb dX12_understand_172 (by decide +kernel) ?_
                    refine lv_istore (lv' := [(4, .int 2), (0, .ref h), (2, .int 1), (3, .int s_13.2.1)]) hx hb dX12_understand_173 hl (by decide) rfl (fun ls hl => ?_)
                    refine loopF_ind (P := fun (s_60 : Int32 × MS) => ∀ (H : Heap) (locs : List Loc), va_P (dC, dI) vwCl (mW cB cI cZ h qK qS ad s_60.2) H → va_S (mCells h ad sz) s.heap H locs → ∀ ls : Array Slot, lv_has ls 5 [(0, .ref h), (2, .int 1), (3, .int s_13.2.1), (4, .int s_60.1)] → W p l e (headSpec (g_ws yX12_understand cX12_understand 5 (some .int)) { frames := 1312, cells := 0, slots := 0, locals := 34090 }).room s m ([.ref h] : List Value).toArray below meth c H locs 0 0 (MQ below (va_Qi (fun r (_ : Unit) => r = res.1) (fun _ t => va_P (dC, dI) vwCl (mW cB cI cZ h qK qS ad res.2) t.heap) (mCells h ad sz)) ([.ref h] : List Value).toArray s 0 0 (mCells h ad sz)) (F0 m 175 ls [])) ?_ _ _ hF_59 _ _ hP hS ls (lv_sub hl [1, 2, 3, 0] rfl)
                    intro again_61 s_60 ih_62 hF_63
                    intro H locs hP hS ls hl
                    refine lv_iload hx hb dX12_understand_175 (lv_at hl 3 rfl) ?_
                    refine lv_aload_n hx hb dX12_understand_177 rfl (lv_at hl 0 rfl) ?_
                    refine va_get (D := (dC, dI)) (ci := 12) (v := .int (s_60.2.1 120)) (C := RX12) (T := TX12) (N := 123) hx hb hts ii_X12 hown hK hP 0 rfl rfl 120 (by decide) (hts (.fieldLink RX12 791 "StoryHouseModel" "terms" "I") wq_1476) (fun _ h9 => h9) rfl dX12_understand_178 ?_
                    refine lv_iconst (v := 1) hx hb dX12_understand_181 (by decide +kernel) ?_
                    refine lv_isub hx hb dX12_understand_182 ?_
                    refine lv_icmp_ge (tgt := 223) hx hb dX12_understand_183 (by decide) (fun c_64 => ?_) (fun c_64 => ?_)
                    · have hF_65 := ipos c_64 hF_63
                      clear hF_63
                      exact Jj_31 1 s_60.2 hF_65 _ _ hP hS ls (lv_sub hl [0, 1, 2] rfl)
                    · have hF_66 := ineg c_64 hF_63
                      clear hF_63
                      refine lv_aload_n hx hb dX12_understand_186 rfl (lv_at hl 0 rfl) ?_
                      refine lv_iload hx hb dX12_understand_187 (lv_at hl 3 rfl) ?_
                      refine lv_aload_n hx hb dX12_understand_189 rfl (lv_at hl 0 rfl) ?_
                      refine va_get (D := (dC, dI)) (ci := 12) (v := .ref (ad 61)) (C := RX12) (T := TX12) (N := 123) hx hb hts ii_X12 hown hK hP 0 rfl rfl 61 (by decide) (hts (.fieldLink RX12 131 "StoryHouseModel" "between" "[B") wq_1417) (fun _ h9 => h9) rfl dX12_understand_190 ?_
                      refine lv_bipush (v := 9) hx hb dX12_understand_193 (by decide +kernel) ?_
                      refine lv_iload_n hx hb dX12_understand_195 rfl (lv_at hl 2 rfl) ?_
                      refine lv_imul hx hb dX12_understand_196 ?_
                      refine lv_aload_n hx hb dX12_understand_197 rfl (lv_at hl 0 rfl) ?_
                      refine va_get (D := (dC, dI)) (ci := 12) (v := .ref (ad 62)) (C := RX12) (T := TX12) (N := 123) hx hb hts ii_X12 hown hK hP 0 rfl rfl 62 (by decide) (hts (.fieldLink RX12 134 "StoryHouseModel" "betweenSize" "[I") wq_1418) (fun _ h9 => h9) rfl dX12_understand_198 ?_
                      refine lv_iload_n hx hb dX12_understand_201 rfl (lv_at hl 2 rfl) ?_
                      obtain ⟨g_67, hF_68⟩ := nif_e hF_66
                      clear hF_66
                      refine va_iald (f := s_60.2.2 62) hx hb hK hP 36 2 rfl rfl g_67 dX12_understand_202 ?_
                      obtain ⟨u_69, hu_69, hF_70⟩ := Option.bind_eq_some_iff.mp hF_68
                      clear hF_68
                      refine m_ci hsz hS (va_runV (As := [.int s_60.1, .ref (ad 61), .int (9 * s_13.2.1), .int (s_60.2.2 62 s_13.2.1.toNatClampNeg)]) (rest := []) ⟨hx, hb, hml, hown, hts⟩ (m_X12_isTerm__between l dC dI cB cC cI cJ cZ cP h qK qS ad hDD H.size  s_60.1 (9 * s_13.2.1) (s_60.2.2 62 s_13.2.1.toNatClampNeg) s_60.2 _ hu_69) (cwV 4 hts (g_gV wq_1898 wq_1899 wq_2240 wq_13 wq_1900) rfl rfl rfl (by decide +kernel) ⟨Nat.le_of_ble_eq_true rfl, Nat.le_of_ble_eq_true rfl⟩) (m_preV g_bl0 hsz hK hP hS hE hKS g_to0) rfl rfl hl.1 rfl (lv_room (Nat.le_of_ble_eq_true rfl)) dX12_understand_203 ⟨Nat.le_of_ble_eq_true rfl, Nat.le_of_ble_eq_true rfl⟩) (fun H locs hP hS => ?_)
                      refine lv_if_eq (tgt := 217) hx hb dX12_understand_206 (by decide) (fun c_71 => ?_) (fun c_71 => ?_)
                      · have hF_72 := ipos c_71 hF_70
                        clear hF_70
                        obtain ⟨x_73, ex_73, hF_74⟩ := bnd_e hF_72
                        clear hF_72
                        refine lv_iinc (v := x_73) (lv' := [(4, .int x_73), (0, .ref h), (2, .int 1), (3, .int s_13.2.1)]) hx hb dX12_understand_217 hl (k := 3) rfl (by rw [ex_73]; rfl) (by decide) rfl (fun ls hl => ?_)
                        refine lv_goto (tgt := 175) hx hb dX12_understand_220 (by decide) ?_
                        exact ih_62 (x_73, u_69.2) hF_74 _ _ hP hS ls (lv_sub hl [1, 2, 3, 0] rfl)
                      · have hF_75 := ineg c_71 hF_70
                        clear hF_70
                        refine lv_aload_n hx hb dX12_understand_209 rfl (lv_at hl 0 rfl) ?_
                        refine lv_iload_n hx hb dX12_understand_210 rfl (lv_at hl 2 rfl) ?_
                        refine lv_iload hx hb dX12_understand_211 (lv_at hl 3 rfl) ?_
                        obtain ⟨u_76, hu_76, hF_77⟩ := Option.bind_eq_some_iff.mp hF_75
                        clear hF_75
                        refine m_ci hsz hS (va_runV (As := [.int s_13.2.1, .int s_60.1]) (rest := []) ⟨hx, hb, hml, hown, hts⟩ (m_X12_two_ l dC dI cB cC cI cJ cZ cP h qK qS ad hDD H.size  s_13.2.1 s_60.1 u_69.2 _ hu_76) (cwV 2 hts (g_gV wq_1922 wq_1923 wq_2248 wq_13 wq_1924) rfl rfl rfl (by decide +kernel) ⟨Nat.le_of_ble_eq_true rfl, Nat.le_of_ble_eq_true rfl⟩) (m_preV g_bl0 hsz hK hP hS hE hKS g_to0) rfl rfl hl.1 rfl (lv_room (Nat.le_of_ble_eq_true rfl)) dX12_understand_213 ⟨Nat.le_of_ble_eq_true rfl, Nat.le_of_ble_eq_true rfl⟩) (fun H locs hP hS => ?_)
                        have h9 := Option.some.inj hF_77
                        subst h9
                        exact W.iret (v := u_76.1) hx hb hr (fun t ht hW => ⟨⟨u_76.1, (), rfl, rfl, m_end ht hP⟩, hS.F ht⟩) hS.2.2 dX12_understand_216
                  · have hF_78 := ineg c_58 hF_57
                    clear hF_57
                    refine lv_goto (tgt := 223) hx hb dX12_understand_169 (by decide) ?_
                    exact Jj_31 1 σ_52 hF_78 _ _ hP hS ls (lv_sub hl [0, 1, 2] rfl)
                refine lv_icmp_ne (tgt := 159) hx hb dX12_understand_142 (by decide) (fun c_79 => ?_) (fun c_79 => ?_)
                · have hF_86 := ineg c_79 hF_54
                  clear hF_54
                  exact Jj_53  σ_46 hF_86 _ _ hP hS ls (lv_sub hl [0, 1, 2] rfl)
                · have hF_80 := ipos c_79 hF_54
                  clear hF_54
                  refine lv_aload_n hx hb dX12_understand_145 rfl (lv_at hl 0 rfl) ?_
                  refine va_get (D := (dC, dI)) (ci := 12) (v := .int (σ_46.1 120)) (C := RX12) (T := TX12) (N := 123) hx hb hts ii_X12 hown hK hP 0 rfl rfl 120 (by decide) (hts (.fieldLink RX12 791 "StoryHouseModel" "terms" "I") wq_1476) (fun _ h9 => h9) rfl dX12_understand_146 ?_
                  refine lv_iconst (v := 1) hx hb dX12_understand_149 (by decide +kernel) ?_
                  refine lv_icmp_le (tgt := 159) hx hb dX12_understand_150 (by decide) (fun c_81 => ?_) (fun c_81 => ?_)
                  · have hF_82 := ipos c_81 hF_80
                    clear hF_80
                    exact Jj_53  σ_46 hF_82 _ _ hP hS ls (lv_sub hl [0, 1, 2] rfl)
                  · have hF_83 := ineg c_81 hF_80
                    clear hF_80
                    refine lv_aload_n hx hb dX12_understand_153 rfl (lv_at hl 0 rfl) ?_
                    refine lv_iload_n hx hb dX12_understand_154 rfl (lv_at hl 2 rfl) ?_
                    obtain ⟨u_84, hu_84, hF_85⟩ := Option.bind_eq_some_iff.mp hF_83
                    clear hF_83
                    refine m_ci hsz hS (va_runV (As := [.int s_13.2.1]) (rest := []) ⟨hx, hb, hml, hown, hts⟩ (m_X12_one l dC dI cB cC cI cJ cZ cP h qK qS ad hDD H.size  s_13.2.1 σ_46 _ hu_84) (cwV 1 hts (g_gV wq_1901 wq_1902 wq_2241 wq_13 wq_1903) rfl rfl rfl (by decide +kernel) ⟨Nat.le_of_ble_eq_true rfl, Nat.le_of_ble_eq_true rfl⟩) (m_preV g_bl0 hsz hK hP hS hE hKS g_to0) rfl rfl hl.1 rfl (lv_room (Nat.le_of_ble_eq_true rfl)) dX12_understand_155 ⟨Nat.le_of_ble_eq_true rfl, Nat.le_of_ble_eq_true rfl⟩) (fun H locs hP hS => ?_)
                    have h9 := Option.some.inj hF_85
                    subst h9
                    exact W.iret (v := u_84.1) hx hb hr (fun t ht hW => ⟨⟨u_84.1, (), rfl, rfl, m_end ht hP⟩, hS.F ht⟩) hS.2.2 dX12_understand_158
              refine lv_if_ne (tgt := 135) hx hb dX12_understand_115 (by decide) (fun c_87 => ?_) (fun c_87 => ?_)
              · have hF_94 := ineg c_87 hF_48
                clear hF_48
                exact Jj_47  u_39.2 hF_94 _ _ hP hS ls (lv_sub hl [1, 0, 2] rfl)
              · have hF_88 := ipos c_87 hF_48
                clear hF_48
                refine lv_aload_n hx hb dX12_understand_118 rfl (lv_at hl 1 rfl) ?_
                refine va_get (D := (dC, dI)) (ci := 12) (v := .int (u_39.2.1 120)) (C := RX12) (T := TX12) (N := 123) hx hb hts ii_X12 hown hK hP 0 rfl rfl 120 (by decide) (hts (.fieldLink RX12 791 "StoryHouseModel" "terms" "I") wq_1476) (fun _ h9 => h9) rfl dX12_understand_119 ?_
                refine lv_iconst (v := 1) hx hb dX12_understand_122 (by decide +kernel) ?_
                refine lv_icmp_ne (tgt := 135) hx hb dX12_understand_123 (by decide) (fun c_89 => ?_) (fun c_89 => ?_)
                · have hF_93 := ineg c_89 hF_88
                  clear hF_88
                  exact Jj_47  u_39.2 hF_93 _ _ hP hS ls (lv_sub hl [1, 0, 2] rfl)
                · have hF_90 := ipos c_89 hF_88
                  clear hF_88
                  refine lv_aload_n hx hb dX12_understand_126 rfl (lv_at hl 1 rfl) ?_
                  refine lv_iload_n hx hb dX12_understand_127 rfl (lv_at hl 2 rfl) ?_
                  refine lv_iconst (v := 0) hx hb dX12_understand_128 (by decide +kernel) ?_
                  refine lv_iconst (v := 0) hx hb dX12_understand_129 (by decide +kernel) ?_
                  refine lv_iconst (v := 0) hx hb dX12_understand_130 (by decide +kernel) ?_
                  obtain ⟨u_91, hu_91, hF_92⟩ := Option.bind_eq_some_iff.mp hF_90
                  clear hF_90
                  refine m_ci hsz hS (va_runV (As := [.int s_13.2.1, .int 0, .int 0, .int 0]) (rest := []) ⟨hx, hb, hml, hown, hts⟩ (m_X12_command l dC dI cB cC cI cJ cZ cP h qK qS ad hDD H.size  s_13.2.1 0 0 0 u_39.2 _ hu_91) (cwV 4 hts (g_gV wq_1798 wq_1799 wq_2207 wq_13 wq_1800) rfl rfl rfl (by decide +kernel) ⟨Nat.le_of_ble_eq_true rfl, Nat.le_of_ble_eq_true rfl⟩) (m_preV g_bl0 hsz hK hP hS hE hKS g_to0) rfl rfl hl.1 rfl (lv_room (Nat.le_of_ble_eq_true rfl)) dX12_understand_131 ⟨Nat.le_of_ble_eq_true rfl, Nat.le_of_ble_eq_true rfl⟩) (fun H locs hP hS => ?_)
                  have h9 := Option.some.inj hF_92
                  subst h9
                  exact W.iret (v := u_91.1) hx hb hr (fun t ht hW => ⟨⟨u_91.1, (), rfl, rfl, m_end ht hP⟩, hS.F ht⟩) hS.2.2 dX12_understand_134
            · have hF_42 := ipos c_41 hF_40
              clear hF_40
              refine lv_goto (tgt := 223) hx hb dX12_understand_104 (by decide) ?_
              exact Jj_31 s_13.1 u_39.2 hF_42 _ _ hP hS ls (lv_sub hl [0, 1, 2] rfl)
      · have hF_95 := ineg c_11 hF_10
        clear hF_10
        refine lv_aload_n hx hb dX12_understand_70 rfl (lv_at hl 1 rfl) ?_
        obtain ⟨q_96, vq_96, hRq_96, hSq_96⟩ := hE.2.2.2.2 _ (List.mem_of_getElem? (i := 149) rfl)
        refine g_ldcwS (own := RX12) (tx := "Where do you want to go?") hx hb hown hRq_96 dX12_understand_71 ?_
        obtain ⟨u_97, hu_97, hF_98⟩ := Option.bind_eq_some_iff.mp hF_95
        clear hF_95
        refine m_ci hsz hS (va_runV (As := [.ref q_96]) (rest := []) ⟨hx, hb, hml, hown, hts⟩ (m_X12_no l dC dI cB cC cI cJ cZ cP h qK qS ad hDD H.size q_96 _ ([87, 104, 101, 114, 101, 32, 100, 111, 32, 121, 111, 117, 32, 119, 97, 110, 116, 32, 116, 111, 32, 103, 111, 63] : List Int32) u_9.2 _ hu_97) (cwV 1 hts (g_gV wq_1892 wq_1893 wq_2238 wq_13 wq_1894) rfl rfl rfl (by decide +kernel) ⟨Nat.le_of_ble_eq_true rfl, Nat.le_of_ble_eq_true rfl⟩) (m_preV g_blS hsz hK hP hS hE hKS (g_toS hSq_96 hS (m_narrow hS hsz))) rfl rfl hl.1 rfl (lv_room (Nat.le_of_ble_eq_true rfl)) dX12_understand_74 ⟨Nat.le_of_ble_eq_true rfl, Nat.le_of_ble_eq_true rfl⟩) (fun H locs hP hS => ?_)
        have h9 := Option.some.inj hF_98
        subst h9
        exact W.iret (v := u_97.1) hx hb hr (fun t ht hW => ⟨⟨u_97.1, (), rfl, rfl, m_end ht hP⟩, hS.F ht⟩) hS.2.2 dX12_understand_77
    · have hF_99 := ineg c_6 hF_5
      clear hF_5
      refine lv_aload_n hx hb dX12_understand_49 rfl (lv_at hl 1 rfl) ?_
      refine lv_bipush (v := 11) hx hb dX12_understand_50 (by decide +kernel) ?_
      refine lv_iconst (v := 1) hx hb dX12_understand_52 (by decide +kernel) ?_
      refine lv_iload_n hx hb dX12_understand_53 rfl (lv_at hl 0 rfl) ?_
      refine lv_iconst (v := 0) hx hb dX12_understand_54 (by decide +kernel) ?_
      obtain ⟨u_100, hu_100, hF_101⟩ := Option.bind_eq_some_iff.mp hF_99
      clear hF_99
      refine m_ci hsz hS (va_runV (As := [.int 11, .int 1, .int t_1, .int 0]) (rest := []) ⟨hx, hb, hml, hown, hts⟩ (m_X12_command l dC dI cB cC cI cJ cZ cP h qK qS ad hDD H.size  11 1 t_1 0 σ_2 _ hu_100) (cwV 4 hts (g_gV wq_1798 wq_1799 wq_2207 wq_13 wq_1800) rfl rfl rfl (by decide +kernel) ⟨Nat.le_of_ble_eq_true rfl, Nat.le_of_ble_eq_true rfl⟩) (m_preV g_bl0 hsz hK hP hS hE hKS g_to0) rfl rfl hl.1 rfl (lv_room (Nat.le_of_ble_eq_true rfl)) dX12_understand_55 ⟨Nat.le_of_ble_eq_true rfl, Nat.le_of_ble_eq_true rfl⟩) (fun H locs hP hS => ?_)
      have h9 := Option.some.inj hF_101
      subst h9
      exact W.iret (v := u_100.1) hx hb hr (fun t ht hW => ⟨⟨u_100.1, (), rfl, rfl, m_end ht hP⟩, hS.F ht⟩) hS.2.2 dX12_understand_58
  refine lv_icmp_ne (tgt := 16) hx hb dX12_understand_5 (by decide) (fun c_102 => ?_) (fun c_102 => ?_)
  · have hF_106 := ineg c_102 hF_4
    clear hF_4
    refine lv_aload_n hx hb dX12_understand_16 rfl (lv_at hl 0 rfl) ?_
    refine va_get (D := (dC, dI)) (ci := 12) (v := .int (σ.1 120)) (C := RX12) (T := TX12) (N := 123) hx hb hts ii_X12 hown hK hP 0 rfl rfl 120 (by decide) (hts (.fieldLink RX12 791 "StoryHouseModel" "terms" "I") wq_1476) (fun _ h9 => h9) rfl dX12_understand_17 ?_
    refine lv_iconst (v := 2) hx hb dX12_understand_20 (by decide +kernel) ?_
    obtain ⟨j_108, ej_108, hF_109⟩ := bnd_e hF_106
    clear hF_106
    have Jj_108 : ∀  (σ_107 : MS), j_108  σ_107 = some res → ∀ (H : Heap) (locs : List Loc), va_P (dC, dI) vwCl (mW cB cI cZ h qK qS ad σ_107) H → va_S (mCells h ad sz) s.heap H locs → ∀ ls : Array Slot, lv_has ls 5 [(0, .ref h)] → W p l e (headSpec (g_ws yX12_understand cX12_understand 5 (some .int)) { frames := 1312, cells := 0, slots := 0, locals := 34090 }).room s m ([.ref h] : List Value).toArray below meth c H locs 0 0 (MQ below (va_Qi (fun r (_ : Unit) => r = res.1) (fun _ t => va_P (dC, dI) vwCl (mW cB cI cZ h qK qS ad res.2) t.heap) (mCells h ad sz)) ([.ref h] : List Value).toArray s 0 0 (mCells h ad sz)) (F0 m 43 ls []) := by
      intro  σ_107 hF0 H locs hP hS ls hl
      subst ej_108
      have hF_110 := hF0
      clear hF0
      refine lv_iconst (v := 0) hx hb dX12_understand_43 (by decide +kernel) ?_
      exact Jj_3 0 σ_107 hF_110 _ _ hP hS ls (lv_sub hl [0] rfl)
    refine lv_icmp_ne (tgt := 43) hx hb dX12_understand_21 (by decide) (fun c_111 => ?_) (fun c_111 => ?_)
    · have hF_121 := ineg c_111 hF_109
      clear hF_109
      exact Jj_108  σ hF_121 _ _ hP hS ls (lv_sub hl [0] rfl)
    · have hF_112 := ipos c_111 hF_109
      clear hF_109
      refine lv_aload_n hx hb dX12_understand_24 rfl (lv_at hl 0 rfl) ?_
      refine lv_iconst (v := 0) hx hb dX12_understand_25 (by decide +kernel) ?_
      obtain ⟨q_113, vq_113, hRq_113, hSq_113⟩ := hE.2.2.2.2 _ (List.mem_of_getElem? (i := 89) rfl)
      refine g_ldcwS (own := RX12) (tx := "go") hx hb hown hRq_113 dX12_understand_26 ?_
      obtain ⟨u_114, hu_114, hF_115⟩ := Option.bind_eq_some_iff.mp hF_112
      clear hF_112
      refine m_ci hsz hS (va_runV (As := [.int 0, .ref q_113]) (rest := []) ⟨hx, hb, hml, hown, hts⟩ (m_X12_isTerm l dC dI cB cC cI cJ cZ cP h qK qS ad hDD s.heap.size q_113 _ 0 ([103, 111] : List Int32) σ _ hu_114) (cwV 2 hts (g_gV wq_1789 wq_1790 wq_2204 wq_13 wq_1791) rfl rfl rfl (by decide +kernel) ⟨Nat.le_of_ble_eq_true rfl, Nat.le_of_ble_eq_true rfl⟩) (m_preV g_blS hsz hK hP hS hE hKS (g_toS hSq_113 hS (m_narrow hS hsz))) rfl rfl hl.1 rfl (lv_room (Nat.le_of_ble_eq_true rfl)) dX12_understand_29 ⟨Nat.le_of_ble_eq_true rfl, Nat.le_of_ble_eq_true rfl⟩) (fun H locs hP hS => ?_)
      refine lv_if_eq (tgt := 43) hx hb dX12_understand_32 (by decide) (fun c_116 => ?_) (fun c_116 => ?_)
      · have hF_117 := ipos c_116 hF_115
        clear hF_115
        exact Jj_108  u_114.2 hF_117 _ _ hP hS ls (lv_sub hl [0] rfl)
      · have hF_118 := ineg c_116 hF_115
        clear hF_115
        refine lv_aload_n hx hb dX12_understand_35 rfl (lv_at hl 0 rfl) ?_
        refine lv_iconst (v := 1) hx hb dX12_understand_36 (by decide +kernel) ?_
        obtain ⟨u_119, hu_119, hF_120⟩ := Option.bind_eq_some_iff.mp hF_118
        clear hF_118
        refine m_ci hsz hS (va_runV (As := [.int 1]) (rest := []) ⟨hx, hb, hml, hown, hts⟩ (m_X12_directionOf l dC dI cB cC cI cJ cZ cP h qK qS ad hDD H.size  1 u_114.2 _ hu_119) (cwV 1 hts (g_gV wq_1795 wq_1796 wq_2206 wq_13 wq_1797) rfl rfl rfl (by decide +kernel) ⟨Nat.le_of_ble_eq_true rfl, Nat.le_of_ble_eq_true rfl⟩) (m_preV g_bl0 hsz hK hP hS hE hKS g_to0) rfl rfl hl.1 rfl (lv_room (Nat.le_of_ble_eq_true rfl)) dX12_understand_37 ⟨Nat.le_of_ble_eq_true rfl, Nat.le_of_ble_eq_true rfl⟩) (fun H locs hP hS => ?_)
        refine lv_goto (tgt := 44) hx hb dX12_understand_40 (by decide) ?_
        exact Jj_3 u_119.1 u_119.2 hF_120 _ _ hP hS ls (lv_sub hl [0] rfl)
  · have hF_103 := ipos c_102 hF_4
    clear hF_4
    refine lv_aload_n hx hb dX12_understand_8 rfl (lv_at hl 0 rfl) ?_
    refine lv_iconst (v := 0) hx hb dX12_understand_9 (by decide +kernel) ?_
    obtain ⟨u_104, hu_104, hF_105⟩ := Option.bind_eq_some_iff.mp hF_103
    clear hF_103
    refine m_ci hsz hS (va_runV (As := [.int 0]) (rest := []) ⟨hx, hb, hml, hown, hts⟩ (m_X12_directionOf l dC dI cB cC cI cJ cZ cP h qK qS ad hDD s.heap.size  0 σ _ hu_104) (cwV 1 hts (g_gV wq_1795 wq_1796 wq_2206 wq_13 wq_1797) rfl rfl rfl (by decide +kernel) ⟨Nat.le_of_ble_eq_true rfl, Nat.le_of_ble_eq_true rfl⟩) (m_preV g_bl0 hsz hK hP hS hE hKS g_to0) rfl rfl hl.1 rfl (lv_room (Nat.le_of_ble_eq_true rfl)) dX12_understand_10 ⟨Nat.le_of_ble_eq_true rfl, Nat.le_of_ble_eq_true rfl⟩) (fun H locs hP hS => ?_)
    refine lv_goto (tgt := 44) hx hb dX12_understand_13 (by decide) ?_
    exact Jj_3 u_104.1 u_104.2 hF_105 _ _ hP hS ls (lv_sub hl [0] rfl)
theorem dX12_enter_0 : decode cX12_enter 0 = .ok (.aload_n 0, 1) := by decide +kernel
theorem dX12_enter_1 : decode cX12_enter 1 = .ok (.aload_n 0, 1) := by decide +kernel
theorem dX12_enter_2 : decode cX12_enter 2 = .ok (.getfield 600, 3) := by decide +kernel
theorem dX12_enter_5 : decode cX12_enter 5 = .ok (.ifCond .eq 7, 3) := by decide +kernel
theorem dX12_enter_8 : decode cX12_enter 8 = .ok (.iconst 0, 1) := by decide +kernel
theorem dX12_enter_9 : decode cX12_enter 9 = .ok (.goto 4, 3) := by decide +kernel
theorem dX12_enter_12 : decode cX12_enter 12 = .ok (.iconst 1, 1) := by decide +kernel
theorem dX12_enter_13 : decode cX12_enter 13 = .ok (.invokevirtual 562, 3) := by decide +kernel
theorem dX12_enter_16 : decode cX12_enter 16 = .ok (.ifCond .eq 5, 3) := by decide +kernel
theorem dX12_enter_19 : decode cX12_enter 19 = .ok (.iconst 0, 1) := by decide +kernel
theorem dX12_enter_20 : decode cX12_enter 20 = .ok (.ireturn, 1) := by decide +kernel
theorem dX12_enter_21 : decode cX12_enter 21 = .ok (.aload_n 0, 1) := by decide +kernel
theorem dX12_enter_22 : decode cX12_enter 22 = .ok (.iconst 0, 1) := by decide +kernel
theorem dX12_enter_23 : decode cX12_enter 23 = .ok (.putfield 668, 3) := by decide +kernel
theorem dX12_enter_26 : decode cX12_enter 26 = .ok (.aload_n 0, 1) := by decide +kernel
theorem dX12_enter_27 : decode cX12_enter 27 = .ok (.bipush 120, 2) := by decide +kernel
theorem dX12_enter_29 : decode cX12_enter 29 = .ok (.aload_n 0, 1) := by decide +kernel
theorem dX12_enter_30 : decode cX12_enter 30 = .ok (.getfield 559, 3) := by decide +kernel
theorem dX12_enter_33 : decode cX12_enter 33 = .ok (.invokestatic 293, 3) := by decide +kernel
theorem dX12_enter_36 : decode cX12_enter 36 = .ok (.putfield 794, 3) := by decide +kernel
theorem dX12_enter_39 : decode cX12_enter 39 = .ok (.iconst 0, 1) := by decide +kernel
theorem dX12_enter_40 : decode cX12_enter 40 = .ok (.istore_n 1, 1) := by decide +kernel
theorem dX12_enter_41 : decode cX12_enter 41 = .ok (.iload_n 1, 1) := by decide +kernel
theorem dX12_enter_42 : decode cX12_enter 42 = .ok (.aload_n 0, 1) := by decide +kernel
theorem dX12_enter_43 : decode cX12_enter 43 = .ok (.getfield 794, 3) := by decide +kernel
theorem dX12_enter_46 : decode cX12_enter 46 = .ok (.if_icmp .ge 54, 3) := by decide +kernel
theorem dX12_enter_49 : decode cX12_enter 49 = .ok (.aload_n 0, 1) := by decide +kernel
theorem dX12_enter_50 : decode cX12_enter 50 = .ok (.getfield 20, 3) := by decide +kernel
theorem dX12_enter_53 : decode cX12_enter 53 = .ok (.iload_n 1, 1) := by decide +kernel
theorem dX12_enter_54 : decode cX12_enter 54 = .ok (.baload, 1) := by decide +kernel
theorem dX12_enter_55 : decode cX12_enter 55 = .ok (.istore_n 2, 1) := by decide +kernel
theorem dX12_enter_56 : decode cX12_enter 56 = .ok (.aload_n 0, 1) := by decide +kernel
theorem dX12_enter_57 : decode cX12_enter 57 = .ok (.getfield 225, 3) := by decide +kernel
theorem dX12_enter_60 : decode cX12_enter 60 = .ok (.iload_n 1, 1) := by decide +kernel
theorem dX12_enter_61 : decode cX12_enter 61 = .ok (.iload_n 2, 1) := by decide +kernel
theorem dX12_enter_62 : decode cX12_enter 62 = .ok (.bipush 10, 2) := by decide +kernel
theorem dX12_enter_64 : decode cX12_enter 64 = .ok (.if_icmp .ne 8, 3) := by decide +kernel
theorem dX12_enter_67 : decode cX12_enter 67 = .ok (.bipush 32, 2) := by decide +kernel
theorem dX12_enter_69 : decode cX12_enter 69 = .ok (.goto 23, 3) := by decide +kernel
theorem dX12_enter_72 : decode cX12_enter 72 = .ok (.iload_n 2, 1) := by decide +kernel
theorem dX12_enter_73 : decode cX12_enter 73 = .ok (.bipush 65, 2) := by decide +kernel
theorem dX12_enter_75 : decode cX12_enter 75 = .ok (.if_icmp .lt 16, 3) := by decide +kernel
theorem dX12_enter_78 : decode cX12_enter 78 = .ok (.iload_n 2, 1) := by decide +kernel
theorem dX12_enter_79 : decode cX12_enter 79 = .ok (.bipush 90, 2) := by decide +kernel
theorem dX12_enter_81 : decode cX12_enter 81 = .ok (.if_icmp .gt 10, 3) := by decide +kernel
theorem dX12_enter_84 : decode cX12_enter 84 = .ok (.iload_n 2, 1) := by decide +kernel
theorem dX12_enter_85 : decode cX12_enter 85 = .ok (.bipush 32, 2) := by decide +kernel
theorem dX12_enter_87 : decode cX12_enter 87 = .ok (.iadd, 1) := by decide +kernel
theorem dX12_enter_88 : decode cX12_enter 88 = .ok (.goto 4, 3) := by decide +kernel
theorem dX12_enter_91 : decode cX12_enter 91 = .ok (.iload_n 2, 1) := by decide +kernel
theorem dX12_enter_92 : decode cX12_enter 92 = .ok (.i2b, 1) := by decide +kernel
theorem dX12_enter_93 : decode cX12_enter 93 = .ok (.bastore, 1) := by decide +kernel
theorem dX12_enter_94 : decode cX12_enter 94 = .ok (.iinc 1 1, 3) := by decide +kernel
theorem dX12_enter_97 : decode cX12_enter 97 = .ok (.goto (-56), 3) := by decide +kernel
theorem dX12_enter_100 : decode cX12_enter 100 = .ok (.aload_n 0, 1) := by decide +kernel
theorem dX12_enter_101 : decode cX12_enter 101 = .ok (.iconst 0, 1) := by decide +kernel
theorem dX12_enter_102 : decode cX12_enter 102 = .ok (.putfield 559, 3) := by decide +kernel
theorem dX12_enter_105 : decode cX12_enter 105 = .ok (.aload_n 0, 1) := by decide +kernel
theorem dX12_enter_106 : decode cX12_enter 106 = .ok (.getfield 663, 3) := by decide +kernel
theorem dX12_enter_109 : decode cX12_enter 109 = .ok (.ifCond .le 12, 3) := by decide +kernel
theorem dX12_enter_112 : decode cX12_enter 112 = .ok (.aload_n 0, 1) := by decide +kernel
theorem dX12_enter_113 : decode cX12_enter 113 = .ok (.ldc_w 824, 3) := by decide +kernel
theorem dX12_enter_116 : decode cX12_enter 116 = .ok (.invokevirtual 768, 3) := by decide +kernel
theorem dX12_enter_119 : decode cX12_enter 119 = .ok (.iconst 3, 1) := by decide +kernel
theorem dX12_enter_120 : decode cX12_enter 120 = .ok (.ireturn, 1) := by decide +kernel
theorem dX12_enter_121 : decode cX12_enter 121 = .ok (.aload_n 0, 1) := by decide +kernel
theorem dX12_enter_122 : decode cX12_enter 122 = .ok (.invokevirtual 826, 3) := by decide +kernel
theorem dX12_enter_125 : decode cX12_enter 125 = .ok (.aload_n 0, 1) := by decide +kernel
theorem dX12_enter_126 : decode cX12_enter 126 = .ok (.getfield 791, 3) := by decide +kernel
theorem dX12_enter_129 : decode cX12_enter 129 = .ok (.ifCond .ne 12, 3) := by decide +kernel
theorem dX12_enter_132 : decode cX12_enter 132 = .ok (.aload_n 0, 1) := by decide +kernel
theorem dX12_enter_133 : decode cX12_enter 133 = .ok (.ldc_w 829, 3) := by decide +kernel
theorem dX12_enter_136 : decode cX12_enter 136 = .ok (.invokevirtual 768, 3) := by decide +kernel
theorem dX12_enter_139 : decode cX12_enter 139 = .ok (.iconst 0, 1) := by decide +kernel
theorem dX12_enter_140 : decode cX12_enter 140 = .ok (.ireturn, 1) := by decide +kernel
theorem dX12_enter_141 : decode cX12_enter 141 = .ok (.aload_n 0, 1) := by decide +kernel
theorem dX12_enter_142 : decode cX12_enter 142 = .ok (.getfield 791, 3) := by decide +kernel
theorem dX12_enter_145 : decode cX12_enter 145 = .ok (.iconst 1, 1) := by decide +kernel
theorem dX12_enter_146 : decode cX12_enter 146 = .ok (.if_icmp .ne 81, 3) := by decide +kernel
theorem dX12_enter_149 : decode cX12_enter 149 = .ok (.aload_n 0, 1) := by decide +kernel
theorem dX12_enter_150 : decode cX12_enter 150 = .ok (.iconst 0, 1) := by decide +kernel
theorem dX12_enter_151 : decode cX12_enter 151 = .ok (.ldc_w 831, 3) := by decide +kernel
theorem dX12_enter_154 : decode cX12_enter 154 = .ok (.invokevirtual 799, 3) := by decide +kernel
theorem dX12_enter_157 : decode cX12_enter 157 = .ok (.ifCond .ne 14, 3) := by decide +kernel
theorem dX12_enter_160 : decode cX12_enter 160 = .ok (.aload_n 0, 1) := by decide +kernel
theorem dX12_enter_161 : decode cX12_enter 161 = .ok (.iconst 0, 1) := by decide +kernel
theorem dX12_enter_162 : decode cX12_enter 162 = .ok (.ldc_w 833, 3) := by decide +kernel
theorem dX12_enter_165 : decode cX12_enter 165 = .ok (.invokevirtual 799, 3) := by decide +kernel
theorem dX12_enter_168 : decode cX12_enter 168 = .ok (.ifCond .eq 59, 3) := by decide +kernel
theorem dX12_enter_171 : decode cX12_enter 171 = .ok (.aload_n 0, 1) := by decide +kernel
theorem dX12_enter_172 : decode cX12_enter 172 = .ok (.getfield 203, 3) := by decide +kernel
theorem dX12_enter_175 : decode cX12_enter 175 = .ok (.ifCond .ge 12, 3) := by decide +kernel
theorem dX12_enter_178 : decode cX12_enter 178 = .ok (.aload_n 0, 1) := by decide +kernel
theorem dX12_enter_179 : decode cX12_enter 179 = .ok (.ldc_w 835, 3) := by decide +kernel
theorem dX12_enter_182 : decode cX12_enter 182 = .ok (.invokevirtual 768, 3) := by decide +kernel
theorem dX12_enter_185 : decode cX12_enter 185 = .ok (.iconst 0, 1) := by decide +kernel
theorem dX12_enter_186 : decode cX12_enter 186 = .ok (.ireturn, 1) := by decide +kernel
theorem dX12_enter_187 : decode cX12_enter 187 = .ok (.aload_n 0, 1) := by decide +kernel
theorem dX12_enter_188 : decode cX12_enter 188 = .ok (.aload_n 0, 1) := by decide +kernel
theorem dX12_enter_189 : decode cX12_enter 189 = .ok (.getfield 203, 3) := by decide +kernel
theorem dX12_enter_192 : decode cX12_enter 192 = .ok (.putfield 794, 3) := by decide +kernel
theorem dX12_enter_195 : decode cX12_enter 195 = .ok (.iconst 0, 1) := by decide +kernel
theorem dX12_enter_196 : decode cX12_enter 196 = .ok (.istore_n 1, 1) := by decide +kernel
theorem dX12_enter_197 : decode cX12_enter 197 = .ok (.iload_n 1, 1) := by decide +kernel
theorem dX12_enter_198 : decode cX12_enter 198 = .ok (.aload_n 0, 1) := by decide +kernel
theorem dX12_enter_199 : decode cX12_enter 199 = .ok (.getfield 794, 3) := by decide +kernel
theorem dX12_enter_202 : decode cX12_enter 202 = .ok (.if_icmp .ge 21, 3) := by decide +kernel
theorem dX12_enter_205 : decode cX12_enter 205 = .ok (.aload_n 0, 1) := by decide +kernel
theorem dX12_enter_206 : decode cX12_enter 206 = .ok (.getfield 225, 3) := by decide +kernel
theorem dX12_enter_209 : decode cX12_enter 209 = .ok (.iload_n 1, 1) := by decide +kernel
theorem dX12_enter_210 : decode cX12_enter 210 = .ok (.aload_n 0, 1) := by decide +kernel
theorem dX12_enter_211 : decode cX12_enter 211 = .ok (.getfield 200, 3) := by decide +kernel
theorem dX12_enter_214 : decode cX12_enter 214 = .ok (.iload_n 1, 1) := by decide +kernel
theorem dX12_enter_215 : decode cX12_enter 215 = .ok (.baload, 1) := by decide +kernel
theorem dX12_enter_216 : decode cX12_enter 216 = .ok (.bastore, 1) := by decide +kernel
theorem dX12_enter_217 : decode cX12_enter 217 = .ok (.iinc 1 1, 3) := by decide +kernel
theorem dX12_enter_220 : decode cX12_enter 220 = .ok (.goto (-23), 3) := by decide +kernel
theorem dX12_enter_223 : decode cX12_enter 223 = .ok (.aload_n 0, 1) := by decide +kernel
theorem dX12_enter_224 : decode cX12_enter 224 = .ok (.invokevirtual 826, 3) := by decide +kernel
theorem dX12_enter_227 : decode cX12_enter 227 = .ok (.aload_n 0, 1) := by decide +kernel
theorem dX12_enter_228 : decode cX12_enter 228 = .ok (.invokevirtual 837, 3) := by decide +kernel
theorem dX12_enter_231 : decode cX12_enter 231 = .ok (.ireturn, 1) := by decide +kernel
def F_X12_enter  (σ : MS) : MR :=
  bnd (fun (t_1 : Int32) (σ_2 : MS) => (
    (F_X12_refuses t_1 σ_2).bind fun u_6 =>
    if u_6.1 = 0 then (
      bnd (mI u_6.2 103 0) fun σ_10 =>
      bnd ((if (σ_10.1 4) < 120 then (σ_10.1 4) else 120)) fun (x_12 : Int32) =>
      bnd (mI σ_10 117 x_12) fun σ_14 =>
      loopF (fun (again_17 : (Int32 × MS) → MR) (s_16 : Int32 × MS) => (
        if (s_16.2.1 117) ≤ s_16.1 then (
          bnd (mI s_16.2 4 0) fun σ_22 =>
          if (σ_22.1 95) ≤ 0 then (
            (F_X12_readTerms σ_22).bind fun u_26 =>
            if (u_26.2.1 120) = 0 then (
              (F_X12_line ([73, 32, 98, 101, 103, 32, 121, 111, 117, 114, 32, 112, 97, 114, 100, 111, 110, 63] : List Int32) u_26.2).bind fun u_31 =>
              some (0, u_31.2)
            ) else (
              bnd (fun  (σ_34 : MS) => (
                (F_X12_understand σ_34).bind fun u_38 =>
                some (u_38.1, u_38.2)
              ) : MS → MR) fun j_35 =>
              if (u_26.2.1 120) = 1 then (
                (F_X12_isTerm 0 ([97, 103, 97, 105, 110] : List Int32) u_26.2).bind fun u_43 =>
                bnd (fun  (σ_45 : MS) => (
                  if 0 ≤ (σ_45.1 98) then (
                    bnd (mI σ_45 117 (σ_45.1 98)) fun σ_51 =>
                    loopF (fun (again_54 : (Int32 × MS) → MR) (s_53 : Int32 × MS) => (
                      if (s_53.2.1 117) ≤ s_53.1 then (
                        (F_X12_readTerms s_53.2).bind fun u_59 =>
                        j_35  u_59.2
                      ) else (
                        if s_53.1 < 0 ∨ 120 ≤ s_53.1.toNatClampNeg then none else
                        bnd ((s_53.2.2 97 s_53.1.toNatClampNeg)) fun (x_64 : Int32) =>
                        if s_53.1 < 0 ∨ 120 ≤ s_53.1.toNatClampNeg then none else
                        bnd (mA s_53.2 116 (upd (s_53.2.2 116) s_53.1.toNatClampNeg (vp_nar .byte x_64))) fun σ_68 =>
                        bnd (s_53.1 + 1) fun (x_70 : Int32) =>
                        again_54 (x_70, σ_68)
                      )
                    )) FU (0, σ_51)
                  ) else (
                    (F_X12_line ([84, 104, 101, 114, 101, 32, 105, 115, 32, 110, 111, 116, 104, 105, 110, 103, 32, 116, 111, 32, 114, 101, 112, 101, 97, 116, 46] : List Int32) σ_45).bind fun u_74 =>
                    some (0, u_74.2)
                  )
                ) : MS → MR) fun j_46 =>
                if u_43.1 = 0 then (
                  (F_X12_isTerm 0 ([103] : List Int32) u_43.2).bind fun u_79 =>
                  if u_79.1 = 0 then (
                    j_35  u_79.2
                  ) else (
                    j_46  u_79.2
                  )
                ) else (
                  j_46  u_43.2
                )
              ) else (
                j_35  u_26.2
              )
            )
          ) else (
            (F_X12_line ([84, 104, 101, 32, 115, 116, 111, 114, 121, 32, 105, 115, 32, 111, 118, 101, 114, 46] : List Int32) σ_22).bind fun u_88 =>
            some (3, u_88.2)
          )
        ) else (
          if s_16.1 < 0 ∨ 16000 ≤ s_16.1.toNatClampNeg then none else
          bnd ((s_16.2.2 3 s_16.1.toNatClampNeg)) fun (x_93 : Int32) =>
          bnd (fun (t_95 : Int32) (σ_96 : MS) => (
            bnd (t_95.toInt8.toInt32) fun (x_100 : Int32) =>
            if s_16.1 < 0 ∨ 120 ≤ s_16.1.toNatClampNeg then none else
            bnd (mA σ_96 116 (upd (σ_96.2 116) s_16.1.toNatClampNeg (vp_nar .byte x_100))) fun σ_104 =>
            bnd (s_16.1 + 1) fun (x_106 : Int32) =>
            again_17 (x_106, σ_104)
          ) : Int32 → MS → MR) fun j_97 =>
          if x_93 = 10 then (
            j_97 32 s_16.2
          ) else (
            bnd (fun  (σ_111 : MS) => (
              j_97 x_93 σ_111
            ) : MS → MR) fun j_112 =>
            if x_93 < 65 then (
              j_112  s_16.2
            ) else (
              if 90 < x_93 then (
                j_112  s_16.2
              ) else (
                j_97 (x_93 + 32) s_16.2
              )
            )
          )
        )
      )) FU (0, σ_14)
    ) else (
      some (0, u_6.2)
    )
  ) : Int32 → MS → MR) fun j_3 =>
  if (σ.1 86) = 0 then (
    j_3 1 σ
  ) else (
    j_3 0 σ
  )
set_option maxHeartbeats 4000000 in
set_option maxRecDepth 100000 in
theorem m_X12_enter (l : Launch) (dC : Nat → ClassId) (dI : Nat → Nat → Nat) (cB cC cI cJ cZ cP : ClassId) (h qK qS : Nat) (ad : Nat → Nat) (hDD : mDis cB cI cZ h qK qS ad) (sz : Nat)   (σ : MS) (res : Int32 × MS) (hF : F_X12_enter  σ = some res) : Met l yX12_enter (g_ws yX12_enter cX12_enter 3 (some .int)) ({ frames := 1313, cells := 0, slots := 0, locals := 34114 }) (va_Pc [.ref h] (m_B (dC, dI) [(cB, .byte), (cC, .char), (cI, .int), (cJ, .long), (cZ, .boolean), (cP, .object "StoryHouse$Play")] sz h ad qK qS (mW cB cI cZ h qK qS ad σ) g_0)) (va_Qi (fun r (_ : Unit) => r = res.1) (fun _ t => va_P (dC, dI) vwCl (mW cB cI cZ h qK qS ad res.2) t.heap) (mCells h ad sz)) 0 0 (mCells h ad sz) := by
  refine Met.ofW (cc := cX12_enter) (maxL := 3) (ret := (some .int)) (by decide) rfl ?_
  intro p e s m args below meth c s₁ B hml hv
  obtain ⟨rfl, hsz, hP, hK, hE, hKS, hX⟩ := hv
  have hx := B.exec
  have hb := B.bytes
  have hr := B.returns
  have hts0 := atoms_spec (ws := g_ws yX12_enter cX12_enter 3 (some .int)) B.pre
  have hts : ∀ w ∈ lw_good, w.before ([.ref h] : List Value).toArray s = true := fun w z => hts0 w (List.mem_cons_of_mem _ z)
  have hown : s.vm.findClass RX12 = some m.cls := findClass_of_methodNamed B.named
  have hlocks := B.notSynchronized
  have hS : va_S (mCells h ad sz) s.heap s.heap [] := va_S.rf
  have hl := lv_entry ([.ref h]) (n := 3) (Nat.le_of_ble_eq_true rfl)
  rw [lg_entry_eq]
  generalize (lg_sl ([.ref h]) ++ List.replicate (3 - (lg_sl ([.ref h])).length) Slot.unset).toArray = ls at hl ⊢
  have hl : lv_has ls 3 [(0, .ref h)] := hl
  unfold F_X12_enter at hF
  refine lv_aload_n hx hb dX12_enter_0 rfl (lv_at hl 0 rfl) ?_
  refine lv_aload_n hx hb dX12_enter_1 rfl (lv_at hl 0 rfl) ?_
  refine va_get (D := (dC, dI)) (ci := 12) (v := .int (σ.1 86)) (C := RX12) (T := TX12) (N := 123) hx hb hts ii_X12 hown hK hP 0 rfl rfl 86 (by decide) (hts (.fieldLink RX12 600 "StoryHouseModel" "playing" "Z") wq_1442) (fun _ h9 => h9) rfl dX12_enter_2 ?_
  obtain ⟨j_3, ej_3, hF_4⟩ := bnd_e hF
  clear hF
  have Jj_3 : ∀ (t_1 : Int32) (σ_2 : MS), j_3 t_1 σ_2 = some res → ∀ (H : Heap) (locs : List Loc), va_P (dC, dI) vwCl (mW cB cI cZ h qK qS ad σ_2) H → va_S (mCells h ad sz) s.heap H locs → ∀ ls : Array Slot, lv_has ls 3 [(0, .ref h)] → W p l e (headSpec (g_ws yX12_enter cX12_enter 3 (some .int)) { frames := 1313, cells := 0, slots := 0, locals := 34114 }).room s m ([.ref h] : List Value).toArray below meth c H locs 0 0 (MQ below (va_Qi (fun r (_ : Unit) => r = res.1) (fun _ t => va_P (dC, dI) vwCl (mW cB cI cZ h qK qS ad res.2) t.heap) (mCells h ad sz)) ([.ref h] : List Value).toArray s 0 0 (mCells h ad sz)) (F0 m 13 ls [.int t_1, .ref h]) := by
    intro t_1 σ_2 hF0 H locs hP hS ls hl
    subst ej_3
    have hF_5 := hF0
    clear hF0
    obtain ⟨u_6, hu_6, hF_7⟩ := Option.bind_eq_some_iff.mp hF_5
    clear hF_5
    refine m_ci hsz hS (va_runV (As := [.int t_1]) (rest := []) ⟨hx, hb, hml, hown, hts⟩ (m_X12_refuses l dC dI cB cC cI cJ cZ cP h qK qS ad hDD H.size  t_1 σ_2 _ hu_6) (cwV 1 hts (g_gV wq_1487 wq_1488 wq_2113 wq_13 wq_1489) rfl rfl rfl (by decide +kernel) ⟨Nat.le_of_ble_eq_true rfl, Nat.le_of_ble_eq_true rfl⟩) (m_preV g_bl0 hsz hK hP hS hE hKS g_to0) rfl rfl hl.1 rfl (lv_room (Nat.le_of_ble_eq_true rfl)) dX12_enter_13 ⟨Nat.le_of_ble_eq_true rfl, Nat.le_of_ble_eq_true rfl⟩) (fun H locs hP hS => ?_)
    refine lv_if_eq (tgt := 21) hx hb dX12_enter_16 (by decide) (fun c_8 => ?_) (fun c_8 => ?_)
    · have hF_9 := ipos c_8 hF_7
      clear hF_7
      refine lv_aload_n hx hb dX12_enter_21 rfl (lv_at hl 0 rfl) ?_
      refine lv_iconst (v := 0) hx hb dX12_enter_22 (by decide +kernel) ?_
      obtain ⟨σ_10, eσ_10, hF_11⟩ := bnd_e hF_9
      clear hF_9
      refine m_put (σ' := σ_10) (v := .int 0) (ty := .int) hx hb hts hown hK hP (hDD _ _) hS (by rw [eσ_10]; exact mwI_103) (k := 103) (by decide) (hts (.fieldLink RX12 668 "StoryHouseModel" "said" "I") wq_1459) (fun _ h9 => h9) rfl (by decide +kernel) rfl rfl dX12_enter_23 (fun H locs hP hS => ?_)
      refine lv_aload_n hx hb dX12_enter_26 rfl (lv_at hl 0 rfl) ?_
      refine lv_bipush (v := 120) hx hb dX12_enter_27 (by decide +kernel) ?_
      refine lv_aload_n hx hb dX12_enter_29 rfl (lv_at hl 0 rfl) ?_
      refine va_get (D := (dC, dI)) (ci := 12) (v := .int (σ_10.1 4)) (C := RX12) (T := TX12) (N := 123) hx hb hts ii_X12 hown hK hP 0 rfl rfl 4 (by decide) (hts (.fieldLink RX12 559 "StoryHouseModel" "taped" "I") wq_1360) (fun _ h9 => h9) rfl dX12_enter_30 ?_
      refine va_mmin hx hb (hml.trans hl.1.symm) hown (hts (.methodLink RX12 293 yJ9_min_7cf53) wq_1520) (hts (.static yJ9_min_7cf53) wq_331) (hts (.initialized RJ9) wq_19) (hts (.code yJ9_min_7cf53 cJ9_min_7cf53 2 (some .int)) wq_332) (Nat.le_of_ble_eq_true rfl) (Nat.le_of_ble_eq_true rfl) (Nat.le_of_ble_eq_true rfl) (Nat.le_of_ble_eq_true rfl) dX12_enter_33 ?_
      obtain ⟨x_12, ex_12, hF_13⟩ := bnd_e hF_11
      clear hF_11
      refine m_top ex_12 ?_
      obtain ⟨σ_14, eσ_14, hF_15⟩ := bnd_e hF_13
      clear hF_13
      refine m_put (σ' := σ_14) (v := .int x_12) (ty := .int) hx hb hts hown hK hP (hDD _ _) hS (by rw [eσ_14]; exact mwI_117) (k := 117) (by decide) (hts (.fieldLink RX12 794 "StoryHouseModel" "typedSize" "I") wq_1473) (fun _ h9 => h9) rfl (by decide +kernel) rfl rfl dX12_enter_36 (fun H locs hP hS => ?_)
      refine lv_iconst (v := 0) hx hb dX12_enter_39 (by decide +kernel) ?_
      refine lv_istore_n (lv' := [(1, .int 0), (0, .ref h)]) hx hb dX12_enter_40 rfl hl (by decide) rfl (fun ls hl => ?_)
      refine loopF_ind (P := fun (s_16 : Int32 × MS) => ∀ (H : Heap) (locs : List Loc), va_P (dC, dI) vwCl (mW cB cI cZ h qK qS ad s_16.2) H → va_S (mCells h ad sz) s.heap H locs → ∀ ls : Array Slot, lv_has ls 3 [(0, .ref h), (1, .int s_16.1)] → W p l e (headSpec (g_ws yX12_enter cX12_enter 3 (some .int)) { frames := 1313, cells := 0, slots := 0, locals := 34114 }).room s m ([.ref h] : List Value).toArray below meth c H locs 0 0 (MQ below (va_Qi (fun r (_ : Unit) => r = res.1) (fun _ t => va_P (dC, dI) vwCl (mW cB cI cZ h qK qS ad res.2) t.heap) (mCells h ad sz)) ([.ref h] : List Value).toArray s 0 0 (mCells h ad sz)) (F0 m 41 ls [])) ?_ _ _ hF_15 _ _ hP hS ls (lv_sub hl [1, 0] rfl)
      intro again_17 s_16 ih_18 hF_19
      intro H locs hP hS ls hl
      refine lv_iload_n hx hb dX12_enter_41 rfl (lv_at hl 1 rfl) ?_
      refine lv_aload_n hx hb dX12_enter_42 rfl (lv_at hl 0 rfl) ?_
      refine va_get (D := (dC, dI)) (ci := 12) (v := .int (s_16.2.1 117)) (C := RX12) (T := TX12) (N := 123) hx hb hts ii_X12 hown hK hP 0 rfl rfl 117 (by decide) (hts (.fieldLink RX12 794 "StoryHouseModel" "typedSize" "I") wq_1473) (fun _ h9 => h9) rfl dX12_enter_43 ?_
      refine lv_icmp_ge (tgt := 100) hx hb dX12_enter_46 (by decide) (fun c_20 => ?_) (fun c_20 => ?_)
      · have hF_21 := ipos c_20 hF_19
        clear hF_19
        refine lv_aload_n hx hb dX12_enter_100 rfl (lv_at hl 0 rfl) ?_
        refine lv_iconst (v := 0) hx hb dX12_enter_101 (by decide +kernel) ?_
        obtain ⟨σ_22, eσ_22, hF_23⟩ := bnd_e hF_21
        clear hF_21
        refine m_put (σ' := σ_22) (v := .int 0) (ty := .int) hx hb hts hown hK hP (hDD _ _) hS (by rw [eσ_22]; exact mwI_4) (k := 4) (by decide) (hts (.fieldLink RX12 559 "StoryHouseModel" "taped" "I") wq_1360) (fun _ h9 => h9) rfl (by decide +kernel) rfl rfl dX12_enter_102 (fun H locs hP hS => ?_)
        refine lv_aload_n hx hb dX12_enter_105 rfl (lv_at hl 0 rfl) ?_
        refine va_get (D := (dC, dI)) (ci := 12) (v := .int (σ_22.1 95)) (C := RX12) (T := TX12) (N := 123) hx hb hts ii_X12 hown hK hP 0 rfl rfl 95 (by decide) (hts (.fieldLink RX12 663 "StoryHouseModel" "ended" "I") wq_1451) (fun _ h9 => h9) rfl dX12_enter_106 ?_
        refine lv_if_le (tgt := 121) hx hb dX12_enter_109 (by decide) (fun c_24 => ?_) (fun c_24 => ?_)
        · have hF_25 := ipos c_24 hF_23
          clear hF_23
          refine lv_aload_n hx hb dX12_enter_121 rfl (lv_at hl 0 rfl) ?_
          obtain ⟨u_26, hu_26, hF_27⟩ := Option.bind_eq_some_iff.mp hF_25
          clear hF_25
          refine m_cv hsz hS (va_runV (As := []) (rest := []) ⟨hx, hb, hml, hown, hts⟩ (m_X12_readTerms l dC dI cB cC cI cJ cZ cP h qK qS ad hDD H.size  σ_22 _ hu_26) (cwV 0 hts (g_gV wq_1786 wq_1787 wq_2203 wq_13 wq_1788) rfl rfl rfl (by decide +kernel) ⟨Nat.le_of_ble_eq_true rfl, Nat.le_of_ble_eq_true rfl⟩) (m_preV g_bl0 hsz hK hP hS hE hKS g_to0) rfl rfl hl.1 rfl (lv_room (Nat.le_of_ble_eq_true rfl)) dX12_enter_122 ⟨Nat.le_of_ble_eq_true rfl, Nat.le_of_ble_eq_true rfl⟩) (fun H locs hP hS => ?_)
          refine lv_aload_n hx hb dX12_enter_125 rfl (lv_at hl 0 rfl) ?_
          refine va_get (D := (dC, dI)) (ci := 12) (v := .int (u_26.2.1 120)) (C := RX12) (T := TX12) (N := 123) hx hb hts ii_X12 hown hK hP 0 rfl rfl 120 (by decide) (hts (.fieldLink RX12 791 "StoryHouseModel" "terms" "I") wq_1476) (fun _ h9 => h9) rfl dX12_enter_126 ?_
          refine lv_if_ne (tgt := 141) hx hb dX12_enter_129 (by decide) (fun c_28 => ?_) (fun c_28 => ?_)
          · have hF_33 := ineg c_28 hF_27
            clear hF_27
            refine lv_aload_n hx hb dX12_enter_141 rfl (lv_at hl 0 rfl) ?_
            refine va_get (D := (dC, dI)) (ci := 12) (v := .int (u_26.2.1 120)) (C := RX12) (T := TX12) (N := 123) hx hb hts ii_X12 hown hK hP 0 rfl rfl 120 (by decide) (hts (.fieldLink RX12 791 "StoryHouseModel" "terms" "I") wq_1476) (fun _ h9 => h9) rfl dX12_enter_142 ?_
            refine lv_iconst (v := 1) hx hb dX12_enter_145 (by decide +kernel) ?_
            obtain ⟨j_35, ej_35, hF_36⟩ := bnd_e hF_33
            clear hF_33
            have Jj_35 : ∀  (σ_34 : MS), j_35  σ_34 = some res → ∀ (H : Heap) (locs : List Loc), va_P (dC, dI) vwCl (mW cB cI cZ h qK qS ad σ_34) H → va_S (mCells h ad sz) s.heap H locs → ∀ ls : Array Slot, lv_has ls 3 [(0, .ref h)] → W p l e (headSpec (g_ws yX12_enter cX12_enter 3 (some .int)) { frames := 1313, cells := 0, slots := 0, locals := 34114 }).room s m ([.ref h] : List Value).toArray below meth c H locs 0 0 (MQ below (va_Qi (fun r (_ : Unit) => r = res.1) (fun _ t => va_P (dC, dI) vwCl (mW cB cI cZ h qK qS ad res.2) t.heap) (mCells h ad sz)) ([.ref h] : List Value).toArray s 0 0 (mCells h ad sz)) (F0 m 227 ls []) := by
              intro  σ_34 hF0 H locs hP hS ls hl
              subst ej_35
              have hF_37 := hF0
              clear hF0
              refine lv_aload_n hx hb dX12_enter_227 rfl (lv_at hl 0 rfl) ?_
              obtain ⟨u_38, hu_38, hF_39⟩ := Option.bind_eq_some_iff.mp hF_37
              clear hF_37
              refine m_ci hsz hS (va_runV (As := []) (rest := []) ⟨hx, hb, hml, hown, hts⟩ (m_X12_understand l dC dI cB cC cI cJ cZ cP h qK qS ad hDD H.size  σ_34 _ hu_38) (cwV 0 hts (g_gV wq_1792 wq_1793 wq_2205 wq_13 wq_1794) rfl rfl rfl (by decide +kernel) ⟨Nat.le_of_ble_eq_true rfl, Nat.le_of_ble_eq_true rfl⟩) (m_preV g_bl0 hsz hK hP hS hE hKS g_to0) rfl rfl hl.1 rfl (lv_room (Nat.le_of_ble_eq_true rfl)) dX12_enter_228 ⟨Nat.le_of_ble_eq_true rfl, Nat.le_of_ble_eq_true rfl⟩) (fun H locs hP hS => ?_)
              have h9 := Option.some.inj hF_39
              subst h9
              exact W.iret (v := u_38.1) hx hb hr (fun t ht hW => ⟨⟨u_38.1, (), rfl, rfl, m_end ht hP⟩, hS.F ht⟩) hS.2.2 dX12_enter_231
            refine lv_icmp_ne (tgt := 227) hx hb dX12_enter_146 (by decide) (fun c_40 => ?_) (fun c_40 => ?_)
            · have hF_85 := ineg c_40 hF_36
              clear hF_36
              exact Jj_35  u_26.2 hF_85 _ _ hP hS ls (lv_sub hl [0] rfl)
            · have hF_41 := ipos c_40 hF_36
              clear hF_36
              refine lv_aload_n hx hb dX12_enter_149 rfl (lv_at hl 0 rfl) ?_
              refine lv_iconst (v := 0) hx hb dX12_enter_150 (by decide +kernel) ?_
              obtain ⟨q_42, vq_42, hRq_42, hSq_42⟩ := hE.2.2.2.2 _ (List.mem_of_getElem? (i := 110) rfl)
              refine g_ldcwS (own := RX12) (tx := "again") hx hb hown hRq_42 dX12_enter_151 ?_
              obtain ⟨u_43, hu_43, hF_44⟩ := Option.bind_eq_some_iff.mp hF_41
              clear hF_41
              refine m_ci hsz hS (va_runV (As := [.int 0, .ref q_42]) (rest := []) ⟨hx, hb, hml, hown, hts⟩ (m_X12_isTerm l dC dI cB cC cI cJ cZ cP h qK qS ad hDD H.size q_42 _ 0 ([97, 103, 97, 105, 110] : List Int32) u_26.2 _ hu_43) (cwV 2 hts (g_gV wq_1789 wq_1790 wq_2204 wq_13 wq_1791) rfl rfl rfl (by decide +kernel) ⟨Nat.le_of_ble_eq_true rfl, Nat.le_of_ble_eq_true rfl⟩) (m_preV g_blS hsz hK hP hS hE hKS (g_toS hSq_42 hS (m_narrow hS hsz))) rfl rfl hl.1 rfl (lv_room (Nat.le_of_ble_eq_true rfl)) dX12_enter_154 ⟨Nat.le_of_ble_eq_true rfl, Nat.le_of_ble_eq_true rfl⟩) (fun H locs hP hS => ?_)
              obtain ⟨j_46, ej_46, hF_47⟩ := bnd_e hF_44
              clear hF_44
              have Jj_46 : ∀  (σ_45 : MS), j_46  σ_45 = some res → ∀ (H : Heap) (locs : List Loc), va_P (dC, dI) vwCl (mW cB cI cZ h qK qS ad σ_45) H → va_S (mCells h ad sz) s.heap H locs → ∀ ls : Array Slot, lv_has ls 3 [(0, .ref h)] → W p l e (headSpec (g_ws yX12_enter cX12_enter 3 (some .int)) { frames := 1313, cells := 0, slots := 0, locals := 34114 }).room s m ([.ref h] : List Value).toArray below meth c H locs 0 0 (MQ below (va_Qi (fun r (_ : Unit) => r = res.1) (fun _ t => va_P (dC, dI) vwCl (mW cB cI cZ h qK qS ad res.2) t.heap) (mCells h ad sz)) ([.ref h] : List Value).toArray s 0 0 (mCells h ad sz)) (F0 m 171 ls []) := by
                intro  σ_45 hF0 H locs hP hS ls hl
                subst ej_46
                have hF_48 := hF0
                clear hF0
                refine lv_aload_n hx hb dX12_enter_171 rfl (lv_at hl 0 rfl) ?_
                refine va_get (D := (dC, dI)) (ci := 12) (v := .int (σ_45.1 98)) (C := RX12) (T := TX12) (N := 123) hx hb hts ii_X12 hown hK hP 0 rfl rfl 98 (by decide) (hts (.fieldLink RX12 203 "StoryHouseModel" "latestSize" "I") wq_1454) (fun _ h9 => h9) rfl dX12_enter_172 ?_
                refine lv_if_ge (tgt := 187) hx hb dX12_enter_175 (by decide) (fun c_49 => ?_) (fun c_49 => ?_)
                · have hF_50 := ipos c_49 hF_48
                  clear hF_48
                  refine lv_aload_n hx hb dX12_enter_187 rfl (lv_at hl 0 rfl) ?_
                  refine lv_aload_n hx hb dX12_enter_188 rfl (lv_at hl 0 rfl) ?_
                  refine va_get (D := (dC, dI)) (ci := 12) (v := .int (σ_45.1 98)) (C := RX12) (T := TX12) (N := 123) hx hb hts ii_X12 hown hK hP 0 rfl rfl 98 (by decide) (hts (.fieldLink RX12 203 "StoryHouseModel" "latestSize" "I") wq_1454) (fun _ h9 => h9) rfl dX12_enter_189 ?_
                  obtain ⟨σ_51, eσ_51, hF_52⟩ := bnd_e hF_50
                  clear hF_50
                  refine m_put (σ' := σ_51) (v := .int (σ_45.1 98)) (ty := .int) hx hb hts hown hK hP (hDD _ _) hS (by rw [eσ_51]; exact mwI_117) (k := 117) (by decide) (hts (.fieldLink RX12 794 "StoryHouseModel" "typedSize" "I") wq_1473) (fun _ h9 => h9) rfl (by decide +kernel) rfl rfl dX12_enter_192 (fun H locs hP hS => ?_)
                  refine lv_iconst (v := 0) hx hb dX12_enter_195 (by decide +kernel) ?_
                  refine lv_istore_n (lv' := [(1, .int 0), (0, .ref h)]) hx hb dX12_enter_196 rfl hl (by decide) rfl (fun ls hl => ?_)
                  refine loopF_ind (P := fun (s_53 : Int32 × MS) => ∀ (H : Heap) (locs : List Loc), va_P (dC, dI) vwCl (mW cB cI cZ h qK qS ad s_53.2) H → va_S (mCells h ad sz) s.heap H locs → ∀ ls : Array Slot, lv_has ls 3 [(0, .ref h), (1, .int s_53.1)] → W p l e (headSpec (g_ws yX12_enter cX12_enter 3 (some .int)) { frames := 1313, cells := 0, slots := 0, locals := 34114 }).room s m ([.ref h] : List Value).toArray below meth c H locs 0 0 (MQ below (va_Qi (fun r (_ : Unit) => r = res.1) (fun _ t => va_P (dC, dI) vwCl (mW cB cI cZ h qK qS ad res.2) t.heap) (mCells h ad sz)) ([.ref h] : List Value).toArray s 0 0 (mCells h ad sz)) (F0 m 197 ls [])) ?_ _ _ hF_52 _ _ hP hS ls (lv_sub hl [1, 0] rfl)
                  intro again_54 s_53 ih_55 hF_56
                  intro H locs hP hS ls hl
                  refine lv_iload_n hx hb dX12_enter_197 rfl (lv_at hl 1 rfl) ?_
                  refine lv_aload_n hx hb dX12_enter_198 rfl (lv_at hl 0 rfl) ?_
                  refine va_get (D := (dC, dI)) (ci := 12) (v := .int (s_53.2.1 117)) (C := RX12) (T := TX12) (N := 123) hx hb hts ii_X12 hown hK hP 0 rfl rfl 117 (by decide) (hts (.fieldLink RX12 794 "StoryHouseModel" "typedSize" "I") wq_1473) (fun _ h9 => h9) rfl dX12_enter_199 ?_
                  refine lv_icmp_ge (tgt := 223) hx hb dX12_enter_202 (by decide) (fun c_57 => ?_) (fun c_57 => ?_)
                  · have hF_58 := ipos c_57 hF_56
                    clear hF_56
                    refine lv_aload_n hx hb dX12_enter_223 rfl (lv_at hl 0 rfl) ?_
                    obtain ⟨u_59, hu_59, hF_60⟩ := Option.bind_eq_some_iff.mp hF_58
                    clear hF_58
                    refine m_cv hsz hS (va_runV (As := []) (rest := []) ⟨hx, hb, hml, hown, hts⟩ (m_X12_readTerms l dC dI cB cC cI cJ cZ cP h qK qS ad hDD H.size  s_53.2 _ hu_59) (cwV 0 hts (g_gV wq_1786 wq_1787 wq_2203 wq_13 wq_1788) rfl rfl rfl (by decide +kernel) ⟨Nat.le_of_ble_eq_true rfl, Nat.le_of_ble_eq_true rfl⟩) (m_preV g_bl0 hsz hK hP hS hE hKS g_to0) rfl rfl hl.1 rfl (lv_room (Nat.le_of_ble_eq_true rfl)) dX12_enter_224 ⟨Nat.le_of_ble_eq_true rfl, Nat.le_of_ble_eq_true rfl⟩) (fun H locs hP hS => ?_)
                    exact Jj_35  u_59.2 hF_60 _ _ hP hS ls (lv_sub hl [0] rfl)
                  · have hF_61 := ineg c_57 hF_56
                    clear hF_56
                    refine lv_aload_n hx hb dX12_enter_205 rfl (lv_at hl 0 rfl) ?_
                    refine va_get (D := (dC, dI)) (ci := 12) (v := .ref (ad 116)) (C := RX12) (T := TX12) (N := 123) hx hb hts ii_X12 hown hK hP 0 rfl rfl 116 (by decide) (hts (.fieldLink RX12 225 "StoryHouseModel" "typed" "[B") wq_1472) (fun _ h9 => h9) rfl dX12_enter_206 ?_
                    refine lv_iload_n hx hb dX12_enter_209 rfl (lv_at hl 1 rfl) ?_
                    refine lv_aload_n hx hb dX12_enter_210 rfl (lv_at hl 0 rfl) ?_
                    refine va_get (D := (dC, dI)) (ci := 12) (v := .ref (ad 97)) (C := RX12) (T := TX12) (N := 123) hx hb hts ii_X12 hown hK hP 0 rfl rfl 97 (by decide) (hts (.fieldLink RX12 200 "StoryHouseModel" "latest" "[B") wq_1453) (fun _ h9 => h9) rfl dX12_enter_211 ?_
                    refine lv_iload_n hx hb dX12_enter_214 rfl (lv_at hl 1 rfl) ?_
                    obtain ⟨g_62, hF_63⟩ := nif_e hF_61
                    clear hF_61
                    refine va_bald (f := s_53.2.2 97) hx hb hK hP 58 0 rfl rfl g_62 dX12_enter_215 ?_
                    obtain ⟨x_64, ex_64, hF_65⟩ := bnd_e hF_63
                    clear hF_63
                    refine m_top ex_64 ?_
                    obtain ⟨g_66, hF_67⟩ := nif_e hF_65
                    clear hF_65
                    obtain ⟨σ_68, eσ_68, hF_69⟩ := bnd_e hF_67
                    clear hF_67
                    refine m_bast (σ' := σ_68) hx hb hK hP (hDD _ _) hS (q0 := 65) (t0 := 0) (f := s_53.2.2 116) rfl rfl (by rw [eσ_68]; exact mwA_116) g_66 dX12_enter_216 (fun H locs hP hS => ?_)
                    obtain ⟨x_70, ex_70, hF_71⟩ := bnd_e hF_69
                    clear hF_69
                    refine lv_iinc (v := x_70) (lv' := [(1, .int x_70), (0, .ref h)]) hx hb dX12_enter_217 hl (k := 1) rfl (by rw [ex_70]; rfl) (by decide) rfl (fun ls hl => ?_)
                    refine lv_goto (tgt := 197) hx hb dX12_enter_220 (by decide) ?_
                    exact ih_55 (x_70, σ_68) hF_71 _ _ hP hS ls (lv_sub hl [1, 0] rfl)
                · have hF_72 := ineg c_49 hF_48
                  clear hF_48
                  refine lv_aload_n hx hb dX12_enter_178 rfl (lv_at hl 0 rfl) ?_
                  obtain ⟨q_73, vq_73, hRq_73, hSq_73⟩ := hE.2.2.2.2 _ (List.mem_of_getElem? (i := 112) rfl)
                  refine g_ldcwS (own := RX12) (tx := "There is nothing to repeat.") hx hb hown hRq_73 dX12_enter_179 ?_
                  obtain ⟨u_74, hu_74, hF_75⟩ := Option.bind_eq_some_iff.mp hF_72
                  clear hF_72
                  refine m_cv hsz hS (va_runV (As := [.ref q_73]) (rest := []) ⟨hx, hb, hml, hown, hts⟩ (m_X12_line l dC dI cB cC cI cJ cZ cP h qK qS ad hDD H.size q_73 _ ([84, 104, 101, 114, 101, 32, 105, 115, 32, 110, 111, 116, 104, 105, 110, 103, 32, 116, 111, 32, 114, 101, 112, 101, 97, 116, 46] : List Int32) σ_45 _ hu_74) (cwV 1 hts (g_gV wq_1767 wq_1768 wq_2198 wq_13 wq_1769) rfl rfl rfl (by decide +kernel) ⟨Nat.le_of_ble_eq_true rfl, Nat.le_of_ble_eq_true rfl⟩) (m_preV g_blS hsz hK hP hS hE hKS (g_toS hSq_73 hS (m_narrow hS hsz))) rfl rfl hl.1 rfl (lv_room (Nat.le_of_ble_eq_true rfl)) dX12_enter_182 ⟨Nat.le_of_ble_eq_true rfl, Nat.le_of_ble_eq_true rfl⟩) (fun H locs hP hS => ?_)
                  refine lv_iconst (v := 0) hx hb dX12_enter_185 (by decide +kernel) ?_
                  have h9 := Option.some.inj hF_75
                  subst h9
                  exact W.iret (v := 0) hx hb hr (fun t ht hW => ⟨⟨0, (), rfl, rfl, m_end ht hP⟩, hS.F ht⟩) hS.2.2 dX12_enter_186
              refine lv_if_ne (tgt := 171) hx hb dX12_enter_157 (by decide) (fun c_76 => ?_) (fun c_76 => ?_)
              · have hF_84 := ineg c_76 hF_47
                clear hF_47
                exact Jj_46  u_43.2 hF_84 _ _ hP hS ls (lv_sub hl [0] rfl)
              · have hF_77 := ipos c_76 hF_47
                clear hF_47
                refine lv_aload_n hx hb dX12_enter_160 rfl (lv_at hl 0 rfl) ?_
                refine lv_iconst (v := 0) hx hb dX12_enter_161 (by decide +kernel) ?_
                obtain ⟨q_78, vq_78, hRq_78, hSq_78⟩ := hE.2.2.2.2 _ (List.mem_of_getElem? (i := 111) rfl)
                refine g_ldcwS (own := RX12) (tx := "g") hx hb hown hRq_78 dX12_enter_162 ?_
                obtain ⟨u_79, hu_79, hF_80⟩ := Option.bind_eq_some_iff.mp hF_77
                clear hF_77
                refine m_ci hsz hS (va_runV (As := [.int 0, .ref q_78]) (rest := []) ⟨hx, hb, hml, hown, hts⟩ (m_X12_isTerm l dC dI cB cC cI cJ cZ cP h qK qS ad hDD H.size q_78 _ 0 ([103] : List Int32) u_43.2 _ hu_79) (cwV 2 hts (g_gV wq_1789 wq_1790 wq_2204 wq_13 wq_1791) rfl rfl rfl (by decide +kernel) ⟨Nat.le_of_ble_eq_true rfl, Nat.le_of_ble_eq_true rfl⟩) (m_preV g_blS hsz hK hP hS hE hKS (g_toS hSq_78 hS (m_narrow hS hsz))) rfl rfl hl.1 rfl (lv_room (Nat.le_of_ble_eq_true rfl)) dX12_enter_165 ⟨Nat.le_of_ble_eq_true rfl, Nat.le_of_ble_eq_true rfl⟩) (fun H locs hP hS => ?_)
                refine lv_if_eq (tgt := 227) hx hb dX12_enter_168 (by decide) (fun c_81 => ?_) (fun c_81 => ?_)
                · have hF_82 := ipos c_81 hF_80
                  clear hF_80
                  exact Jj_35  u_79.2 hF_82 _ _ hP hS ls (lv_sub hl [0] rfl)
                · have hF_83 := ineg c_81 hF_80
                  clear hF_80
                  exact Jj_46  u_79.2 hF_83 _ _ hP hS ls (lv_sub hl [0] rfl)
          · have hF_29 := ipos c_28 hF_27
            clear hF_27
            refine lv_aload_n hx hb dX12_enter_132 rfl (lv_at hl 0 rfl) ?_
            obtain ⟨q_30, vq_30, hRq_30, hSq_30⟩ := hE.2.2.2.2 _ (List.mem_of_getElem? (i := 109) rfl)
            refine g_ldcwS (own := RX12) (tx := "I beg your pardon?") hx hb hown hRq_30 dX12_enter_133 ?_
            obtain ⟨u_31, hu_31, hF_32⟩ := Option.bind_eq_some_iff.mp hF_29
            clear hF_29
            refine m_cv hsz hS (va_runV (As := [.ref q_30]) (rest := []) ⟨hx, hb, hml, hown, hts⟩ (m_X12_line l dC dI cB cC cI cJ cZ cP h qK qS ad hDD H.size q_30 _ ([73, 32, 98, 101, 103, 32, 121, 111, 117, 114, 32, 112, 97, 114, 100, 111, 110, 63] : List Int32) u_26.2 _ hu_31) (cwV 1 hts (g_gV wq_1767 wq_1768 wq_2198 wq_13 wq_1769) rfl rfl rfl (by decide +kernel) ⟨Nat.le_of_ble_eq_true rfl, Nat.le_of_ble_eq_true rfl⟩) (m_preV g_blS hsz hK hP hS hE hKS (g_toS hSq_30 hS (m_narrow hS hsz))) rfl rfl hl.1 rfl (lv_room (Nat.le_of_ble_eq_true rfl)) dX12_enter_136 ⟨Nat.le_of_ble_eq_true rfl, Nat.le_of_ble_eq_true rfl⟩) (fun H locs hP hS => ?_)
            refine lv_iconst (v := 0) hx hb dX12_enter_139 (by decide +kernel) ?_
            have h9 := Option.some.inj hF_32
            subst h9
            exact W.iret (v := 0) hx hb hr (fun t ht hW => ⟨⟨0, (), rfl, rfl, m_end ht hP⟩, hS.F ht⟩) hS.2.2 dX12_enter_140
        · have hF_86 := ineg c_24 hF_23
          clear hF_23
          refine lv_aload_n hx hb dX12_enter_112 rfl (lv_at hl 0 rfl) ?_
          obtain ⟨q_87, vq_87, hRq_87, hSq_87⟩ := hE.2.2.2.2 _ (List.mem_of_getElem? (i := 108) rfl)
          refine g_ldcwS (own := RX12) (tx := "The story is over.") hx hb hown hRq_87 dX12_enter_113 ?_
          obtain ⟨u_88, hu_88, hF_89⟩ := Option.bind_eq_some_iff.mp hF_86
          clear hF_86
          refine m_cv hsz hS (va_runV (As := [.ref q_87]) (rest := []) ⟨hx, hb, hml, hown, hts⟩ (m_X12_line l dC dI cB cC cI cJ cZ cP h qK qS ad hDD H.size q_87 _ ([84, 104, 101, 32, 115, 116, 111, 114, 121, 32, 105, 115, 32, 111, 118, 101, 114, 46] : List Int32) σ_22 _ hu_88) (cwV 1 hts (g_gV wq_1767 wq_1768 wq_2198 wq_13 wq_1769) rfl rfl rfl (by decide +kernel) ⟨Nat.le_of_ble_eq_true rfl, Nat.le_of_ble_eq_true rfl⟩) (m_preV g_blS hsz hK hP hS hE hKS (g_toS hSq_87 hS (m_narrow hS hsz))) rfl rfl hl.1 rfl (lv_room (Nat.le_of_ble_eq_true rfl)) dX12_enter_116 ⟨Nat.le_of_ble_eq_true rfl, Nat.le_of_ble_eq_true rfl⟩) (fun H locs hP hS => ?_)
          refine lv_iconst (v := 3) hx hb dX12_enter_119 (by decide +kernel) ?_
          have h9 := Option.some.inj hF_89
          subst h9
          exact W.iret (v := 3) hx hb hr (fun t ht hW => ⟨⟨3, (), rfl, rfl, m_end ht hP⟩, hS.F ht⟩) hS.2.2 dX12_enter_120
      · have hF_90 := ineg c_20 hF_19
        clear hF_19
        refine lv_aload_n hx hb dX12_enter_49 rfl (lv_at hl 0 rfl) ?_
        refine va_get (D := (dC, dI)) (ci := 12) (v := .ref (ad 3)) (C := RX12) (T := TX12) (N := 123) hx hb hts ii_X12 hown hK hP 0 rfl rfl 3 (by decide) (hts (.fieldLink RX12 20 "StoryHouseModel" "tape" "[B") wq_1359) (fun _ h9 => h9) rfl dX12_enter_50 ?_
        refine lv_iload_n hx hb dX12_enter_53 rfl (lv_at hl 1 rfl) ?_
        obtain ⟨g_91, hF_92⟩ := nif_e hF_90
        clear hF_90
        refine va_bald (f := s_16.2.2 3) hx hb hK hP 1 0 rfl rfl g_91 dX12_enter_54 ?_
        obtain ⟨x_93, ex_93, hF_94⟩ := bnd_e hF_92
        clear hF_92
        refine m_top ex_93 ?_
        refine lv_istore_n (lv' := [(2, .int x_93), (0, .ref h), (1, .int s_16.1)]) hx hb dX12_enter_55 rfl hl (by decide) rfl (fun ls hl => ?_)
        refine lv_aload_n hx hb dX12_enter_56 rfl (lv_at hl 1 rfl) ?_
        refine va_get (D := (dC, dI)) (ci := 12) (v := .ref (ad 116)) (C := RX12) (T := TX12) (N := 123) hx hb hts ii_X12 hown hK hP 0 rfl rfl 116 (by decide) (hts (.fieldLink RX12 225 "StoryHouseModel" "typed" "[B") wq_1472) (fun _ h9 => h9) rfl dX12_enter_57 ?_
        refine lv_iload_n hx hb dX12_enter_60 rfl (lv_at hl 2 rfl) ?_
        refine lv_iload_n hx hb dX12_enter_61 rfl (lv_at hl 0 rfl) ?_
        refine lv_bipush (v := 10) hx hb dX12_enter_62 (by decide +kernel) ?_
        obtain ⟨j_97, ej_97, hF_98⟩ := bnd_e hF_94
        clear hF_94
        have Jj_97 : ∀ (t_95 : Int32) (σ_96 : MS), j_97 t_95 σ_96 = some res → ∀ (H : Heap) (locs : List Loc), va_P (dC, dI) vwCl (mW cB cI cZ h qK qS ad σ_96) H → va_S (mCells h ad sz) s.heap H locs → ∀ ls : Array Slot, lv_has ls 3 [(0, .ref h), (1, .int s_16.1)] → W p l e (headSpec (g_ws yX12_enter cX12_enter 3 (some .int)) { frames := 1313, cells := 0, slots := 0, locals := 34114 }).room s m ([.ref h] : List Value).toArray below meth c H locs 0 0 (MQ below (va_Qi (fun r (_ : Unit) => r = res.1) (fun _ t => va_P (dC, dI) vwCl (mW cB cI cZ h qK qS ad res.2) t.heap) (mCells h ad sz)) ([.ref h] : List Value).toArray s 0 0 (mCells h ad sz)) (F0 m 92 ls [.int t_95, .int s_16.1, .ref (ad 116)]) := by
          intro t_95 σ_96 hF0 H locs hP hS ls hl
          subst ej_97
          have hF_99 := hF0
          clear hF0
          refine lv_i2b hx hb dX12_enter_92 rfl ?_
          obtain ⟨x_100, ex_100, hF_101⟩ := bnd_e hF_99
          clear hF_99
          refine m_top ex_100 ?_
          obtain ⟨g_102, hF_103⟩ := nif_e hF_101
          clear hF_101
          obtain ⟨σ_104, eσ_104, hF_105⟩ := bnd_e hF_103
          clear hF_103
          refine m_bast (σ' := σ_104) hx hb hK hP (hDD _ _) hS (q0 := 65) (t0 := 0) (f := σ_96.2 116) rfl rfl (by rw [eσ_104]; exact mwA_116) g_102 dX12_enter_93 (fun H locs hP hS => ?_)
          obtain ⟨x_106, ex_106, hF_107⟩ := bnd_e hF_105
          clear hF_105
          refine lv_iinc (v := x_106) (lv' := [(1, .int x_106), (0, .ref h)]) hx hb dX12_enter_94 hl (k := 1) rfl (by rw [ex_106]; rfl) (by decide) rfl (fun ls hl => ?_)
          refine lv_goto (tgt := 41) hx hb dX12_enter_97 (by decide) ?_
          exact ih_18 (x_106, σ_104) hF_107 _ _ hP hS ls (lv_sub hl [1, 0] rfl)
        refine lv_icmp_ne (tgt := 72) hx hb dX12_enter_64 (by decide) (fun c_108 => ?_) (fun c_108 => ?_)
        · have hF_110 := ineg c_108 hF_98
          clear hF_98
          refine lv_iload_n hx hb dX12_enter_72 rfl (lv_at hl 0 rfl) ?_
          refine lv_bipush (v := 65) hx hb dX12_enter_73 (by decide +kernel) ?_
          obtain ⟨j_112, ej_112, hF_113⟩ := bnd_e hF_110
          clear hF_110
          have Jj_112 : ∀  (σ_111 : MS), j_112  σ_111 = some res → ∀ (H : Heap) (locs : List Loc), va_P (dC, dI) vwCl (mW cB cI cZ h qK qS ad σ_111) H → va_S (mCells h ad sz) s.heap H locs → ∀ ls : Array Slot, lv_has ls 3 [(0, .ref h), (1, .int s_16.1), (2, .int x_93)] → W p l e (headSpec (g_ws yX12_enter cX12_enter 3 (some .int)) { frames := 1313, cells := 0, slots := 0, locals := 34114 }).room s m ([.ref h] : List Value).toArray below meth c H locs 0 0 (MQ below (va_Qi (fun r (_ : Unit) => r = res.1) (fun _ t => va_P (dC, dI) vwCl (mW cB cI cZ h qK qS ad res.2) t.heap) (mCells h ad sz)) ([.ref h] : List Value).toArray s 0 0 (mCells h ad sz)) (F0 m 91 ls [.int s_16.1, .ref (ad 116)]) := by
            intro  σ_111 hF0 H locs hP hS ls hl
            subst ej_112
            have hF_114 := hF0
            clear hF0
            refine lv_iload_n hx hb dX12_enter_91 rfl (lv_at hl 2 rfl) ?_
            exact Jj_97 x_93 σ_111 hF_114 _ _ hP hS ls (lv_sub hl [0, 1] rfl)
          refine lv_icmp_lt (tgt := 91) hx hb dX12_enter_75 (by decide) (fun c_115 => ?_) (fun c_115 => ?_)
          · have hF_116 := ipos c_115 hF_113
            clear hF_113
            exact Jj_112  s_16.2 hF_116 _ _ hP hS ls (lv_sub hl [1, 2, 0] rfl)
          · have hF_117 := ineg c_115 hF_113
            clear hF_113
            refine lv_iload_n hx hb dX12_enter_78 rfl (lv_at hl 0 rfl) ?_
            refine lv_bipush (v := 90) hx hb dX12_enter_79 (by decide +kernel) ?_
            refine lv_icmp_gt (tgt := 91) hx hb dX12_enter_81 (by decide) (fun c_118 => ?_) (fun c_118 => ?_)
            · have hF_119 := ipos c_118 hF_117
              clear hF_117
              exact Jj_112  s_16.2 hF_119 _ _ hP hS ls (lv_sub hl [1, 2, 0] rfl)
            · have hF_120 := ineg c_118 hF_117
              clear hF_117
              refine lv_iload_n hx hb dX12_enter_84 rfl (lv_at hl 0 rfl) ?_
              refine lv_bipush (v := 32) hx hb dX12_enter_85 (by decide +kernel) ?_
              refine lv_iadd hx hb dX12_enter_87 ?_
              refine lv_goto (tgt := 92) hx hb dX12_enter_88 (by decide) ?_
              exact Jj_97 (x_93 + 32) s_16.2 hF_120 _ _ hP hS ls (lv_sub hl [1, 2] rfl)
        · have hF_109 := ipos c_108 hF_98
          clear hF_98
          refine lv_bipush (v := 32) hx hb dX12_enter_67 (by decide +kernel) ?_
          refine lv_goto (tgt := 92) hx hb dX12_enter_69 (by decide) ?_
          exact Jj_97 32 s_16.2 hF_109 _ _ hP hS ls (lv_sub hl [1, 2] rfl)
    · have hF_121 := ineg c_8 hF_7
      clear hF_7
      refine lv_iconst (v := 0) hx hb dX12_enter_19 (by decide +kernel) ?_
      have h9 := Option.some.inj hF_121
      subst h9
      exact W.iret (v := 0) hx hb hr (fun t ht hW => ⟨⟨0, (), rfl, rfl, m_end ht hP⟩, hS.F ht⟩) hS.2.2 dX12_enter_20
  refine lv_if_eq (tgt := 12) hx hb dX12_enter_5 (by decide) (fun c_122 => ?_) (fun c_122 => ?_)
  · have hF_123 := ipos c_122 hF_4
    clear hF_4
    refine lv_iconst (v := 1) hx hb dX12_enter_12 (by decide +kernel) ?_
    exact Jj_3 1 σ hF_123 _ _ hP hS ls (lv_sub hl [0] rfl)
  · have hF_124 := ineg c_122 hF_4
    clear hF_4
    refine lv_iconst (v := 0) hx hb dX12_enter_8 (by decide +kernel) ?_
    refine lv_goto (tgt := 13) hx hb dX12_enter_9 (by decide) ?_
    exact Jj_3 0 σ hF_124 _ _ hP hS ls (lv_sub hl [0] rfl)
