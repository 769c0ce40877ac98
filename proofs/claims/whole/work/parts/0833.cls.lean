/-! methods of the class: what each does is its function -/
theorem dX8_chooseAll_0 : decode cX8_chooseAll 0 = .ok (.aload_n 0, 1) := by decide +kernel
theorem dX8_chooseAll_1 : decode cX8_chooseAll 1 = .ok (.iconst 0, 1) := by decide +kernel
theorem dX8_chooseAll_2 : decode cX8_chooseAll 2 = .ok (.putfield 192, 3) := by decide +kernel
theorem dX8_chooseAll_5 : decode cX8_chooseAll 5 = .ok (.aload_n 0, 1) := by decide +kernel
theorem dX8_chooseAll_6 : decode cX8_chooseAll 6 = .ok (.aload_n 0, 1) := by decide +kernel
theorem dX8_chooseAll_7 : decode cX8_chooseAll 7 = .ok (.getfield 127, 3) := by decide +kernel
theorem dX8_chooseAll_10 : decode cX8_chooseAll 10 = .ok (.iconst 4, 1) := by decide +kernel
theorem dX8_chooseAll_11 : decode cX8_chooseAll 11 = .ok (.if_icmp .ne 13, 3) := by decide +kernel
theorem dX8_chooseAll_14 : decode cX8_chooseAll 14 = .ok (.aload_n 0, 1) := by decide +kernel
theorem dX8_chooseAll_15 : decode cX8_chooseAll 15 = .ok (.getfield 22, 3) := by decide +kernel
theorem dX8_chooseAll_18 : decode cX8_chooseAll 18 = .ok (.invokevirtual 195, 3) := by decide +kernel
theorem dX8_chooseAll_21 : decode cX8_chooseAll 21 = .ok (.goto 4, 3) := by decide +kernel
theorem dX8_chooseAll_24 : decode cX8_chooseAll 24 = .ok (.iconst 1, 1) := by decide +kernel
theorem dX8_chooseAll_25 : decode cX8_chooseAll 25 = .ok (.putfield 199, 3) := by decide +kernel
theorem dX8_chooseAll_28 : decode cX8_chooseAll 28 = .ok (.aload_n 0, 1) := by decide +kernel
theorem dX8_chooseAll_29 : decode cX8_chooseAll 29 = .ok (.getfield 127, 3) := by decide +kernel
theorem dX8_chooseAll_32 : decode cX8_chooseAll 32 = .ok (.iconst 5, 1) := by decide +kernel
theorem dX8_chooseAll_33 : decode cX8_chooseAll 33 = .ok (.if_icmp .eq 13, 3) := by decide +kernel
theorem dX8_chooseAll_36 : decode cX8_chooseAll 36 = .ok (.aload_n 0, 1) := by decide +kernel
theorem dX8_chooseAll_37 : decode cX8_chooseAll 37 = .ok (.getfield 22, 3) := by decide +kernel
theorem dX8_chooseAll_40 : decode cX8_chooseAll 40 = .ok (.invokevirtual 171, 3) := by decide +kernel
theorem dX8_chooseAll_43 : decode cX8_chooseAll 43 = .ok (.ifCond .eq 117, 3) := by decide +kernel
theorem dX8_chooseAll_46 : decode cX8_chooseAll 46 = .ok (.aload_n 0, 1) := by decide +kernel
theorem dX8_chooseAll_47 : decode cX8_chooseAll 47 = .ok (.getfield 22, 3) := by decide +kernel
theorem dX8_chooseAll_50 : decode cX8_chooseAll 50 = .ok (.getfield 202, 3) := by decide +kernel
theorem dX8_chooseAll_53 : decode cX8_chooseAll 53 = .ok (.aload_n 0, 1) := by decide +kernel
theorem dX8_chooseAll_54 : decode cX8_chooseAll 54 = .ok (.getfield 199, 3) := by decide +kernel
theorem dX8_chooseAll_57 : decode cX8_chooseAll 57 = .ok (.invokestatic 70, 3) := by decide +kernel
theorem dX8_chooseAll_60 : decode cX8_chooseAll 60 = .ok (.istore_n 1, 1) := by decide +kernel
theorem dX8_chooseAll_61 : decode cX8_chooseAll 61 = .ok (.iconst 0, 1) := by decide +kernel
theorem dX8_chooseAll_62 : decode cX8_chooseAll 62 = .ok (.istore_n 2, 1) := by decide +kernel
theorem dX8_chooseAll_63 : decode cX8_chooseAll 63 = .ok (.iload_n 2, 1) := by decide +kernel
theorem dX8_chooseAll_64 : decode cX8_chooseAll 64 = .ok (.bipush 120, 2) := by decide +kernel
theorem dX8_chooseAll_66 : decode cX8_chooseAll 66 = .ok (.if_icmp .ge 94, 3) := by decide +kernel
theorem dX8_chooseAll_69 : decode cX8_chooseAll 69 = .ok (.iload_n 1, 1) := by decide +kernel
theorem dX8_chooseAll_70 : decode cX8_chooseAll 70 = .ok (.ifCond .eq 90, 3) := by decide +kernel
theorem dX8_chooseAll_73 : decode cX8_chooseAll 73 = .ok (.aload_n 0, 1) := by decide +kernel
theorem dX8_chooseAll_74 : decode cX8_chooseAll 74 = .ok (.getfield 127, 3) := by decide +kernel
theorem dX8_chooseAll_77 : decode cX8_chooseAll 77 = .ok (.iconst 4, 1) := by decide +kernel
theorem dX8_chooseAll_78 : decode cX8_chooseAll 78 = .ok (.if_icmp .ne 19, 3) := by decide +kernel
theorem dX8_chooseAll_81 : decode cX8_chooseAll 81 = .ok (.aload_n 0, 1) := by decide +kernel
theorem dX8_chooseAll_82 : decode cX8_chooseAll 82 = .ok (.getfield 22, 3) := by decide +kernel
theorem dX8_chooseAll_85 : decode cX8_chooseAll 85 = .ok (.iload_n 1, 1) := by decide +kernel
theorem dX8_chooseAll_86 : decode cX8_chooseAll 86 = .ok (.iconst 1, 1) := by decide +kernel
theorem dX8_chooseAll_87 : decode cX8_chooseAll 87 = .ok (.invokevirtual 205, 3) := by decide +kernel
theorem dX8_chooseAll_90 : decode cX8_chooseAll 90 = .ok (.ifCond .eq 7, 3) := by decide +kernel
theorem dX8_chooseAll_93 : decode cX8_chooseAll 93 = .ok (.iconst 1, 1) := by decide +kernel
theorem dX8_chooseAll_94 : decode cX8_chooseAll 94 = .ok (.goto 4, 3) := by decide +kernel
theorem dX8_chooseAll_97 : decode cX8_chooseAll 97 = .ok (.iconst 0, 1) := by decide +kernel
theorem dX8_chooseAll_98 : decode cX8_chooseAll 98 = .ok (.istore_n 3, 1) := by decide +kernel
theorem dX8_chooseAll_99 : decode cX8_chooseAll 99 = .ok (.iload_n 1, 1) := by decide +kernel
theorem dX8_chooseAll_100 : decode cX8_chooseAll 100 = .ok (.iconst 1, 1) := by decide +kernel
theorem dX8_chooseAll_101 : decode cX8_chooseAll 101 = .ok (.if_icmp .eq 41, 3) := by decide +kernel
theorem dX8_chooseAll_104 : decode cX8_chooseAll 104 = .ok (.aload_n 0, 1) := by decide +kernel
theorem dX8_chooseAll_105 : decode cX8_chooseAll 105 = .ok (.getfield 22, 3) := by decide +kernel
theorem dX8_chooseAll_108 : decode cX8_chooseAll 108 = .ok (.iload_n 1, 1) := by decide +kernel
theorem dX8_chooseAll_109 : decode cX8_chooseAll 109 = .ok (.iconst 2, 1) := by decide +kernel
theorem dX8_chooseAll_110 : decode cX8_chooseAll 110 = .ok (.invokevirtual 205, 3) := by decide +kernel
theorem dX8_chooseAll_113 : decode cX8_chooseAll 113 = .ok (.ifCond .ne 29, 3) := by decide +kernel
theorem dX8_chooseAll_116 : decode cX8_chooseAll 116 = .ok (.iload_n 3, 1) := by decide +kernel
theorem dX8_chooseAll_117 : decode cX8_chooseAll 117 = .ok (.ifCond .ne 25, 3) := by decide +kernel
theorem dX8_chooseAll_120 : decode cX8_chooseAll 120 = .ok (.aload_n 0, 1) := by decide +kernel
theorem dX8_chooseAll_121 : decode cX8_chooseAll 121 = .ok (.getfield 19, 3) := by decide +kernel
theorem dX8_chooseAll_124 : decode cX8_chooseAll 124 = .ok (.aload_n 0, 1) := by decide +kernel
theorem dX8_chooseAll_125 : decode cX8_chooseAll 125 = .ok (.getfield 192, 3) := by decide +kernel
theorem dX8_chooseAll_128 : decode cX8_chooseAll 128 = .ok (.iload_n 1, 1) := by decide +kernel
theorem dX8_chooseAll_129 : decode cX8_chooseAll 129 = .ok (.invokestatic 105, 3) := by decide +kernel
theorem dX8_chooseAll_132 : decode cX8_chooseAll 132 = .ok (.aload_n 0, 1) := by decide +kernel
theorem dX8_chooseAll_133 : decode cX8_chooseAll 133 = .ok (.dup, 1) := by decide +kernel
theorem dX8_chooseAll_134 : decode cX8_chooseAll 134 = .ok (.getfield 192, 3) := by decide +kernel
theorem dX8_chooseAll_137 : decode cX8_chooseAll 137 = .ok (.iconst 1, 1) := by decide +kernel
theorem dX8_chooseAll_138 : decode cX8_chooseAll 138 = .ok (.iadd, 1) := by decide +kernel
theorem dX8_chooseAll_139 : decode cX8_chooseAll 139 = .ok (.putfield 192, 3) := by decide +kernel
theorem dX8_chooseAll_142 : decode cX8_chooseAll 142 = .ok (.aload_n 0, 1) := by decide +kernel
theorem dX8_chooseAll_143 : decode cX8_chooseAll 143 = .ok (.getfield 22, 3) := by decide +kernel
theorem dX8_chooseAll_146 : decode cX8_chooseAll 146 = .ok (.getfield 208, 3) := by decide +kernel
theorem dX8_chooseAll_149 : decode cX8_chooseAll 149 = .ok (.iload_n 1, 1) := by decide +kernel
theorem dX8_chooseAll_150 : decode cX8_chooseAll 150 = .ok (.invokestatic 70, 3) := by decide +kernel
theorem dX8_chooseAll_153 : decode cX8_chooseAll 153 = .ok (.istore_n 1, 1) := by decide +kernel
theorem dX8_chooseAll_154 : decode cX8_chooseAll 154 = .ok (.iinc 2 1, 3) := by decide +kernel
theorem dX8_chooseAll_157 : decode cX8_chooseAll 157 = .ok (.goto (-94), 3) := by decide +kernel
theorem dX8_chooseAll_160 : decode cX8_chooseAll 160 = .ok (.aload_n 0, 1) := by decide +kernel
theorem dX8_chooseAll_161 : decode cX8_chooseAll 161 = .ok (.getfield 192, 3) := by decide +kernel
theorem dX8_chooseAll_164 : decode cX8_chooseAll 164 = .ok (.ifCond .gt 12, 3) := by decide +kernel
theorem dX8_chooseAll_167 : decode cX8_chooseAll 167 = .ok (.aload_n 0, 1) := by decide +kernel
theorem dX8_chooseAll_168 : decode cX8_chooseAll 168 = .ok (.ldc 211, 2) := by decide +kernel
theorem dX8_chooseAll_170 : decode cX8_chooseAll 170 = .ok (.invokevirtual 42, 3) := by decide +kernel
theorem dX8_chooseAll_173 : decode cX8_chooseAll 173 = .ok (.ifCond .eq 7, 3) := by decide +kernel
theorem dX8_chooseAll_176 : decode cX8_chooseAll 176 = .ok (.iconst 1, 1) := by decide +kernel
theorem dX8_chooseAll_177 : decode cX8_chooseAll 177 = .ok (.goto 4, 3) := by decide +kernel
theorem dX8_chooseAll_180 : decode cX8_chooseAll 180 = .ok (.iconst 0, 1) := by decide +kernel
theorem dX8_chooseAll_181 : decode cX8_chooseAll 181 = .ok (.ireturn, 1) := by decide +kernel
def F_X8_chooseAll  (Γ : HS) : HR :=
  bnd (cI' Γ 11 15 0) fun σ_1 =>
  bnd (fun (t_3 : Int32) (σ_4 : HS) => (
    bnd (cI' σ_4 11 13 t_3) fun σ_8 =>
    bnd (fun  (σ_10 : HS) => (
      if 0 < ((σ_10 11).1 15) then (
        some (1, σ_10)
      ) else (
        (F_X8_refuse ([84, 104, 101, 114, 101, 32, 105, 115, 32, 110, 111, 116, 104, 105, 110, 103, 32, 116, 111, 32, 100, 111, 46] : List Int32) σ_10).bind fun u_18 =>
        if u_18.1 = 0 then (
          some (0, u_18.2)
        ) else (
          some (1, u_18.2)
        )
      )
    ) : HS → HR) fun j_11 =>
    bnd (fun  (σ_23 : HS) => (
      bnd (((σ_23 11).1 13)) fun (x_27 : Int32) =>
      bnd ((g_at 121 ((σ_23 9).2.1 1) x_27)) fun (x_29 : Int32) =>
      loopF (fun (again_32 : (Int32 × Int32 × HS) → HR) (s_31 : Int32 × Int32 × HS) => (
        if 120 ≤ s_31.2.1 then (
          j_11  s_31.2.2
        ) else (
          if s_31.1 = 0 then (
            j_11  s_31.2.2
          ) else (
            bnd (fun (t_41 : Int32) (σ_42 : HS) => (
              bnd (fun  (σ_46 : HS) => (
                bnd ((g_at 121 ((σ_46 9).2.1 2) s_31.1)) fun (x_50 : Int32) =>
                bnd (s_31.2.1 + 1) fun (x_52 : Int32) =>
                again_32 (x_50, x_52, σ_46)
              ) : HS → HR) fun j_47 =>
              if s_31.1 = 1 then (
                j_47  σ_42
              ) else (
                (F_X6_bears s_31.1 2 σ_42).bind fun u_57 =>
                bnd (mrg (fun j => j == 9) σ_42 u_57.2) fun σ_59 =>
                if u_57.1 = 0 then (
                  if t_41 = 0 then (
                    bnd (cA' σ_59 11 14 (g_put 120 ((σ_59 11).2.1 14) ((σ_59 11).1 15) s_31.1)) fun σ_65 =>
                    bnd (cI' σ_65 11 15 (((σ_65 11).1 15) + 1)) fun σ_67 =>
                    j_47  σ_67
                  ) else (
                    j_47  σ_59
                  )
                ) else (
                  j_47  σ_59
                )
              )
            ) : Int32 → HS → HR) fun j_43 =>
            bnd (fun  (σ_71 : HS) => (
              j_43 0 σ_71
            ) : HS → HR) fun j_72 =>
            if ((s_31.2.2 11).1 8) = 4 then (
              (F_X6_bears s_31.1 1 s_31.2.2).bind fun u_77 =>
              bnd (mrg (fun j => j == 9) s_31.2.2 u_77.2) fun σ_79 =>
              if u_77.1 = 0 then (
                j_72  σ_79
              ) else (
                j_43 1 σ_79
              )
            ) else (
              j_72  s_31.2.2
            )
          )
        )
      )) FU (x_29, 0, σ_23)
    ) : HS → HR) fun j_24 =>
    if ((σ_8 11).1 8) = 5 then (
      j_24  σ_8
    ) else (
      (F_X6_isLight σ_8).bind fun u_88 =>
      bnd (mrg (fun j => j == 9) σ_8 u_88.2) fun σ_90 =>
      if u_88.1 = 0 then (
        j_11  σ_90
      ) else (
        j_24  σ_90
      )
    )
  ) : Int32 → HS → HR) fun j_5 =>
  if ((σ_1 11).1 8) = 4 then (
    (F_X6_here σ_1).bind fun u_97 =>
    bnd (mrg (fun j => j == 9) σ_1 u_97.2) fun σ_99 =>
    j_5 u_97.1 σ_99
  ) else (
    j_5 1 σ_1
  )
set_option maxHeartbeats 4000000 in
set_option maxRecDepth 100000 in
theorem k_X8_chooseAll (l : Launch) (dC : Nat → ClassId) (dI : Nat → Nat → Nat) (cB cC cI cJ cZ cP : ClassId) (oA : Nat → Nat) (rA : Nat → Nat → Nat) (sz : Nat)   (Γ : HS) (res : Int32 × HS) (hF : F_X8_chooseAll  Γ = some res) : Met l yX8_chooseAll (g_ws yX8_chooseAll cX8_chooseAll 4 (some .boolean)) ({ frames := 8, cells := 0, slots := 0, locals := 189 }) (va_Pc [.ref (oA 11)] (g_B (dC, dI) [(cB, .byte), (cC, .char), (cI, .int), (cJ, .long), (cZ, .boolean), (cP, .object "StoryHouse$Play")] sz (b_e cB cC cI cJ cZ oA rA Γ ++ b_k cB cC cI cJ cZ oA rA Γ ++ b_p cB cC cI cJ cZ oA rA Γ ++ b_o cB cC cI cJ cZ oA rA Γ ++ b_s cB cC cI cJ cZ oA rA Γ ++ b_c cB cC cI cJ cZ oA rA Γ ++ b_t cB cC cI cJ cZ oA rA Γ ++ b_d cB cC cI cJ cZ oA rA Γ) g_0)) (va_Qi (fun r (_ : Unit) => r = res.1) (g_Bo (dC, dI) (va_A (b_e cB cC cI cJ cZ oA rA Γ ++ b_k cB cC cI cJ cZ oA rA Γ ++ b_p cB cC cI cJ cZ oA rA Γ ++ b_o cB cC cI cJ cZ oA rA Γ ++ b_s cB cC cI cJ cZ oA rA Γ ++ b_c cB cC cI cJ cZ oA rA Γ ++ b_t cB cC cI cJ cZ oA rA Γ ++ b_d cB cC cI cJ cZ oA rA Γ) sz) (fun (_ : Unit) => (b_e cB cC cI cJ cZ oA rA res.2 ++ b_k cB cC cI cJ cZ oA rA res.2 ++ b_p cB cC cI cJ cZ oA rA res.2 ++ b_o cB cC cI cJ cZ oA rA res.2 ++ b_s cB cC cI cJ cZ oA rA res.2 ++ b_c cB cC cI cJ cZ oA rA res.2 ++ b_t cB cC cI cJ cZ oA rA res.2 ++ b_d cB cC cI cJ cZ oA rA res.2))) (va_A (b_e cB cC cI cJ cZ oA rA Γ ++ b_k cB cC cI cJ cZ oA rA Γ ++ b_p cB cC cI cJ cZ oA rA Γ ++ b_o cB cC cI cJ cZ oA rA Γ ++ b_s cB cC cI cJ cZ oA rA Γ ++ b_c cB cC cI cJ cZ oA rA Γ ++ b_t cB cC cI cJ cZ oA rA Γ ++ b_d cB cC cI cJ cZ oA rA Γ) sz)) 0 0 (va_A (b_e cB cC cI cJ cZ oA rA Γ ++ b_k cB cC cI cJ cZ oA rA Γ ++ b_p cB cC cI cJ cZ oA rA Γ ++ b_o cB cC cI cJ cZ oA rA Γ ++ b_s cB cC cI cJ cZ oA rA Γ ++ b_c cB cC cI cJ cZ oA rA Γ ++ b_t cB cC cI cJ cZ oA rA Γ ++ b_d cB cC cI cJ cZ oA rA Γ) sz) := by
  refine Met.ofW (cc := cX8_chooseAll) (maxL := 4) (ret := (some .boolean)) (by decide) rfl ?_
  intro p e s m args below meth c s₁ B hml hv
  obtain ⟨rfl, hsz, hP, hK, hD0, hE, hX⟩ := hv
  have hx := B.exec
  have hb := B.bytes
  have hr := B.returns
  have hts0 := atoms_spec (ws := g_ws yX8_chooseAll cX8_chooseAll 4 (some .boolean)) B.pre
  have hts : ∀ w ∈ lw_good, w.before ([.ref (oA 11)] : List Value).toArray s = true := fun w z => hts0 w (List.mem_cons_of_mem _ z)
  have hown : s.vm.findClass RX8 = some m.cls := findClass_of_methodNamed B.named
  have hlocks := B.notSynchronized
  subst hsz
  have hD1 := hD0.self (sz := s.heap.size)
  generalize hAe : va_A (b_e cB cC cI cJ cZ oA rA Γ ++ b_k cB cC cI cJ cZ oA rA Γ ++ b_p cB cC cI cJ cZ oA rA Γ ++ b_o cB cC cI cJ cZ oA rA Γ ++ b_s cB cC cI cJ cZ oA rA Γ ++ b_c cB cC cI cJ cZ oA rA Γ ++ b_t cB cC cI cJ cZ oA rA Γ ++ b_d cB cC cI cJ cZ oA rA Γ) s.heap.size = A at hD1 hE hX ⊢
  have hA : ∀ q : Nat, s.heap.size ≤ q → A q := fun q z => by rw [← hAe]; exact Or.inr z
  have hDD : ∀ Γ : HS, va_D A (b_e cB cC cI cJ cZ oA rA Γ ++ b_k cB cC cI cJ cZ oA rA Γ ++ b_p cB cC cI cJ cZ oA rA Γ ++ b_o cB cC cI cJ cZ oA rA Γ ++ b_s cB cC cI cJ cZ oA rA Γ ++ b_c cB cC cI cJ cZ oA rA Γ ++ b_t cB cC cI cJ cZ oA rA Γ ++ b_d cB cC cI cJ cZ oA rA Γ) := fun Γ9 => va_D_fst (ws := (b_e cB cC cI cJ cZ oA rA Γ ++ b_k cB cC cI cJ cZ oA rA Γ ++ b_p cB cC cI cJ cZ oA rA Γ ++ b_o cB cC cI cJ cZ oA rA Γ ++ b_s cB cC cI cJ cZ oA rA Γ ++ b_c cB cC cI cJ cZ oA rA Γ ++ b_t cB cC cI cJ cZ oA rA Γ ++ b_d cB cC cI cJ cZ oA rA Γ)) (ws' := (b_e cB cC cI cJ cZ oA rA Γ9 ++ b_k cB cC cI cJ cZ oA rA Γ9 ++ b_p cB cC cI cJ cZ oA rA Γ9 ++ b_o cB cC cI cJ cZ oA rA Γ9 ++ b_s cB cC cI cJ cZ oA rA Γ9 ++ b_c cB cC cI cJ cZ oA rA Γ9 ++ b_t cB cC cI cJ cZ oA rA Γ9 ++ b_d cB cC cI cJ cZ oA rA Γ9)) rfl hD1
  have hN := hE.1
  have hS : va_S A s.heap s.heap [] := va_S.rf
  have hl := lv_entry ([.ref (oA 11)]) (n := 4) (Nat.le_of_ble_eq_true rfl)
  rw [lg_entry_eq]
  generalize (lg_sl ([.ref (oA 11)]) ++ List.replicate (4 - (lg_sl ([.ref (oA 11)])).length) Slot.unset).toArray = ls at hl ⊢
  have hl : lv_has ls 4 [(0, .ref (oA 11))] := hl
  unfold F_X8_chooseAll at hF
  refine lv_aload_n hx hb dX8_chooseAll_0 rfl (lv_at hl 0 rfl) ?_
  refine lv_iconst (v := 0) hx hb dX8_chooseAll_1 (by decide +kernel) ?_
  obtain ⟨σ_1, eσ_1, hF_2⟩ := bnd_e hF
  clear hF
  refine va_put (D := (dC, dI)) (ci := 8) (v := .int 0) (ty := .int) (C := RX8) (T := TX8) (N := 16) hx hb hts ii_X8 tyX8 tyX8_ok nmX8 hown hK hP (hDD _) hS 0 rfl rfl 15 (by decide) (hts (.fieldLink RX8 192 "StoryHouse$Teller" "chosenCount" "I") wq_302) (fun _ h9 => h9) rfl (by decide +kernel) rfl rfl (Nat.le_of_ble_eq_true rfl) dX8_chooseAll_2 (fun H locs hP' _ hS => ?_)
  have hP : va_P (dC, dI) vwCl (b_e cB cC cI cJ cZ oA rA σ_1 ++ b_k cB cC cI cJ cZ oA rA σ_1 ++ b_p cB cC cI cJ cZ oA rA σ_1 ++ b_o cB cC cI cJ cZ oA rA σ_1 ++ b_s cB cC cI cJ cZ oA rA σ_1 ++ b_c cB cC cI cJ cZ oA rA σ_1 ++ b_t cB cC cI cJ cZ oA rA σ_1 ++ b_d cB cC cI cJ cZ oA rA σ_1) H := by rw [eσ_1]; exact cs_ekposctd_e_15 ▸ hP'
  clear hP'
  refine lv_aload_n hx hb dX8_chooseAll_5 rfl (lv_at hl 0 rfl) ?_
  refine lv_aload_n hx hb dX8_chooseAll_6 rfl (lv_at hl 0 rfl) ?_
  refine va_get (D := (dC, dI)) (ci := 8) (v := .int ((σ_1 11).1 8)) (C := RX8) (T := TX8) (N := 16) hx hb hts ii_X8 hown hK hP 0 rfl rfl 8 (by decide) (hts (.fieldLink RX8 127 "StoryHouse$Teller" "verb" "I") wq_295) (fun _ h9 => h9) rfl dX8_chooseAll_7 ?_
  refine lv_iconst (v := 4) hx hb dX8_chooseAll_10 (by decide +kernel) ?_
  obtain ⟨j_5, ej_5, hF_6⟩ := bnd_e hF_2
  clear hF_2
  have Jj_5 : ∀ (t_3 : Int32) (σ_4 : HS), j_5 t_3 σ_4 = some res → ∀ (H : Heap) (locs : List Loc), va_P (dC, dI) vwCl (b_e cB cC cI cJ cZ oA rA σ_4 ++ b_k cB cC cI cJ cZ oA rA σ_4 ++ b_p cB cC cI cJ cZ oA rA σ_4 ++ b_o cB cC cI cJ cZ oA rA σ_4 ++ b_s cB cC cI cJ cZ oA rA σ_4 ++ b_c cB cC cI cJ cZ oA rA σ_4 ++ b_t cB cC cI cJ cZ oA rA σ_4 ++ b_d cB cC cI cJ cZ oA rA σ_4) H → va_S A s.heap H locs → ∀ ls : Array Slot, lv_has ls 4 [(0, .ref (oA 11))] → W p l e (headSpec (g_ws yX8_chooseAll cX8_chooseAll 4 (some .boolean)) { frames := 8, cells := 0, slots := 0, locals := 189 }).room s m ([.ref (oA 11)] : List Value).toArray below meth c H locs 0 0 (MQ below (va_Qi (fun r (_ : Unit) => r = res.1) (g_Bo (dC, dI) A (fun (_ : Unit) => (b_e cB cC cI cJ cZ oA rA res.2 ++ b_k cB cC cI cJ cZ oA rA res.2 ++ b_p cB cC cI cJ cZ oA rA res.2 ++ b_o cB cC cI cJ cZ oA rA res.2 ++ b_s cB cC cI cJ cZ oA rA res.2 ++ b_c cB cC cI cJ cZ oA rA res.2 ++ b_t cB cC cI cJ cZ oA rA res.2 ++ b_d cB cC cI cJ cZ oA rA res.2))) A) ([.ref (oA 11)] : List Value).toArray s 0 0 A) (F0 m 25 ls [.int t_3, .ref (oA 11)]) := by
    intro t_3 σ_4 hF0 H locs hP hS ls hl
    subst ej_5
    have hF_7 := hF0
    clear hF0
    obtain ⟨σ_8, eσ_8, hF_9⟩ := bnd_e hF_7
    clear hF_7
    refine va_put (D := (dC, dI)) (ci := 8) (v := .int t_3) (ty := .int) (C := RX8) (T := TX8) (N := 16) hx hb hts ii_X8 tyX8 tyX8_ok nmX8 hown hK hP (hDD _) hS 0 rfl rfl 13 (by decide) (hts (.fieldLink RX8 199 "StoryHouse$Teller" "source" "I") wq_300) (fun _ h9 => h9) rfl (by decide +kernel) rfl rfl (Nat.le_of_ble_eq_true rfl) dX8_chooseAll_25 (fun H locs hP' _ hS => ?_)
    have hP : va_P (dC, dI) vwCl (b_e cB cC cI cJ cZ oA rA σ_8 ++ b_k cB cC cI cJ cZ oA rA σ_8 ++ b_p cB cC cI cJ cZ oA rA σ_8 ++ b_o cB cC cI cJ cZ oA rA σ_8 ++ b_s cB cC cI cJ cZ oA rA σ_8 ++ b_c cB cC cI cJ cZ oA rA σ_8 ++ b_t cB cC cI cJ cZ oA rA σ_8 ++ b_d cB cC cI cJ cZ oA rA σ_8) H := by rw [eσ_8]; exact cs_ekposctd_e_13 ▸ hP'
    clear hP'
    refine lv_aload_n hx hb dX8_chooseAll_28 rfl (lv_at hl 0 rfl) ?_
    refine va_get (D := (dC, dI)) (ci := 8) (v := .int ((σ_8 11).1 8)) (C := RX8) (T := TX8) (N := 16) hx hb hts ii_X8 hown hK hP 0 rfl rfl 8 (by decide) (hts (.fieldLink RX8 127 "StoryHouse$Teller" "verb" "I") wq_295) (fun _ h9 => h9) rfl dX8_chooseAll_29 ?_
    refine lv_iconst (v := 5) hx hb dX8_chooseAll_32 (by decide +kernel) ?_
    obtain ⟨j_11, ej_11, hF_12⟩ := bnd_e hF_9
    clear hF_9
    have Jj_11 : ∀  (σ_10 : HS), j_11  σ_10 = some res → ∀ (H : Heap) (locs : List Loc), va_P (dC, dI) vwCl (b_e cB cC cI cJ cZ oA rA σ_10 ++ b_k cB cC cI cJ cZ oA rA σ_10 ++ b_p cB cC cI cJ cZ oA rA σ_10 ++ b_o cB cC cI cJ cZ oA rA σ_10 ++ b_s cB cC cI cJ cZ oA rA σ_10 ++ b_c cB cC cI cJ cZ oA rA σ_10 ++ b_t cB cC cI cJ cZ oA rA σ_10 ++ b_d cB cC cI cJ cZ oA rA σ_10) H → va_S A s.heap H locs → ∀ ls : Array Slot, lv_has ls 4 [(0, .ref (oA 11))] → W p l e (headSpec (g_ws yX8_chooseAll cX8_chooseAll 4 (some .boolean)) { frames := 8, cells := 0, slots := 0, locals := 189 }).room s m ([.ref (oA 11)] : List Value).toArray below meth c H locs 0 0 (MQ below (va_Qi (fun r (_ : Unit) => r = res.1) (g_Bo (dC, dI) A (fun (_ : Unit) => (b_e cB cC cI cJ cZ oA rA res.2 ++ b_k cB cC cI cJ cZ oA rA res.2 ++ b_p cB cC cI cJ cZ oA rA res.2 ++ b_o cB cC cI cJ cZ oA rA res.2 ++ b_s cB cC cI cJ cZ oA rA res.2 ++ b_c cB cC cI cJ cZ oA rA res.2 ++ b_t cB cC cI cJ cZ oA rA res.2 ++ b_d cB cC cI cJ cZ oA rA res.2))) A) ([.ref (oA 11)] : List Value).toArray s 0 0 A) (F0 m 160 ls []) := by
      intro  σ_10 hF0 H locs hP hS ls hl
      subst ej_11
      have hF_13 := hF0
      clear hF0
      refine lv_aload_n hx hb dX8_chooseAll_160 rfl (lv_at hl 0 rfl) ?_
      refine va_get (D := (dC, dI)) (ci := 8) (v := .int ((σ_10 11).1 15)) (C := RX8) (T := TX8) (N := 16) hx hb hts ii_X8 hown hK hP 0 rfl rfl 15 (by decide) (hts (.fieldLink RX8 192 "StoryHouse$Teller" "chosenCount" "I") wq_302) (fun _ h9 => h9) rfl dX8_chooseAll_161 ?_
      refine lv_if_gt (tgt := 176) hx hb dX8_chooseAll_164 (by decide) (fun c_14 => ?_) (fun c_14 => ?_)
      · have hF_15 := ipos c_14 hF_13
        clear hF_13
        refine lv_iconst (v := 1) hx hb dX8_chooseAll_176 (by decide +kernel) ?_
        refine lv_goto (tgt := 181) hx hb dX8_chooseAll_177 (by decide) ?_
        have h9 := Option.some.inj hF_15
        subst h9
        exact W.zret (v := 1) hx hb hr (by decide +kernel) (fun t ht hW => ⟨⟨1, (), rfl, rfl, m_end ht hP, hDD _⟩, hS.F ht⟩) hS.2.2 dX8_chooseAll_181
      · have hF_16 := ineg c_14 hF_13
        clear hF_13
        refine lv_aload_n hx hb dX8_chooseAll_167 rfl (lv_at hl 0 rfl) ?_
        obtain ⟨q_17, vq_17, hRq_17, hSq_17⟩ := hE.2.2.2.2 _ (List.mem_of_getElem? (i := 42) rfl)
        refine va_ldcS (own := RX8) (tx := "There is nothing to do.") hx hb hown hRq_17 dX8_chooseAll_168 ?_
        obtain ⟨u_18, hu_18, hF_19⟩ := Option.bind_eq_some_iff.mp hF_16
        clear hF_16
        have hPc := hP.sub (ws' := (b_e cB cC cI cJ cZ oA rA σ_10 ++ b_k cB cC cI cJ cZ oA rA σ_10 ++ b_p cB cC cI cJ cZ oA rA σ_10 ++ b_o cB cC cI cJ cZ oA rA σ_10 ++ b_s cB cC cI cJ cZ oA rA σ_10 ++ b_c cB cC cI cJ cZ oA rA σ_10 ++ b_t cB cC cI cJ cZ oA rA σ_10 ++ b_d cB cC cI cJ cZ oA rA σ_10)) [0, 1, 2, 3, 4, 5, 6, 7, 8, 9, 10, 11, 12, 13, 14, 15, 16, 17, 18, 19, 20, 21, 22, 23, 24, 25, 26, 27, 28, 29, 30, 31, 32, 33, 34, 35, 36, 37, 38, 39, 40, 41, 42, 43, 44, 45, 46, 47, 48, 49] rfl
        have hDc := (hDD σ_10).sub (ws' := (b_e cB cC cI cJ cZ oA rA σ_10 ++ b_k cB cC cI cJ cZ oA rA σ_10 ++ b_p cB cC cI cJ cZ oA rA σ_10 ++ b_o cB cC cI cJ cZ oA rA σ_10 ++ b_s cB cC cI cJ cZ oA rA σ_10 ++ b_c cB cC cI cJ cZ oA rA σ_10 ++ b_t cB cC cI cJ cZ oA rA σ_10 ++ b_d cB cC cI cJ cZ oA rA σ_10)) [0, 1, 2, 3, 4, 5, 6, 7, 8, 9, 10, 11, 12, 13, 14, 15, 16, 17, 18, 19, 20, 21, 22, 23, 24, 25, 26, 27, 28, 29, 30, 31, 32, 33, 34, 35, 36, 37, 38, 39, 40, 41, 42, 43, 44, 45, 46, 47, 48, 49] (by decide +kernel) rfl
        have hFc := va_free (wc := (b_e cB cC cI cJ cZ oA rA σ_10 ++ b_k cB cC cI cJ cZ oA rA σ_10 ++ b_p cB cC cI cJ cZ oA rA σ_10 ++ b_o cB cC cI cJ cZ oA rA σ_10 ++ b_s cB cC cI cJ cZ oA rA σ_10 ++ b_c cB cC cI cJ cZ oA rA σ_10 ++ b_t cB cC cI cJ cZ oA rA σ_10 ++ b_d cB cC cI cJ cZ oA rA σ_10)) (hDD σ_10) hS hA [0, 1, 2, 3, 4, 5, 6, 7, 8, 9, 10, 11, 12, 13, 14, 15, 16, 17, 18, 19, 20, 21, 22, 23, 24, 25, 26, 27, 28, 29, 30, 31, 32, 33, 34, 35, 36, 37, 38, 39, 40, 41, 42, 43, 44, 45, 46, 47, 48, 49] rfl
        refine g_ofi (wc := (b_e cB cC cI cJ cZ oA rA σ_10 ++ b_k cB cC cI cJ cZ oA rA σ_10 ++ b_p cB cC cI cJ cZ oA rA σ_10 ++ b_o cB cC cI cJ cZ oA rA σ_10 ++ b_s cB cC cI cJ cZ oA rA σ_10 ++ b_c cB cC cI cJ cZ oA rA σ_10 ++ b_t cB cC cI cJ cZ oA rA σ_10 ++ b_d cB cC cI cJ cZ oA rA σ_10)) (wr := ([] : va_W)) hP (hDD σ_10) hS hFc [0, 1, 2, 3, 4, 5, 6, 7, 8, 9, 10, 11, 12, 13, 14, 15, 16, 17, 18, 19, 20, 21, 22, 23, 24, 25, 26, 27, 28, 29, 30, 31, 32, 33, 34, 35, 36, 37, 38, 39, 40, 41, 42, 43, 44, 45, 46, 47, 48, 49] [] rfl rfl (by decide +kernel) (by decide +kernel) (va_runV (As := [.ref q_17]) (rest := []) ⟨hx, hb, hml, hown, hts⟩ (k_X8_refuse l dC dI cB cC cI cJ cZ cP oA rA H.size q_17 _ ([84, 104, 101, 114, 101, 32, 105, 115, 32, 110, 111, 116, 104, 105, 110, 103, 32, 116, 111, 32, 100, 111, 46] : List Int32) σ_10 _ hu_18) (cwV 1 hts (g_gV wq_1050 wq_1051 wq_2071 wq_12 wq_1052) rfl rfl rfl (by decide +kernel) ⟨Nat.le_of_ble_eq_true rfl, Nat.le_of_ble_eq_true rfl⟩) (g_preV g_blS hK hPc hDc hS hE hFc (g_toS hSq_17 hS hFc) (q0 := 0) (ci := 8) rfl rfl) rfl rfl hl.1 rfl (lv_room (Nat.le_of_ble_eq_true rfl)) dX8_chooseAll_170 ⟨Nat.le_of_ble_eq_true rfl, Nat.le_of_ble_eq_true rfl⟩) (fun r9 u9 H locs hw9 hP' hD' hS => ?_)
        clear hPc hDc hFc
        subst hw9
        have hP : va_P (dC, dI) vwCl (b_e cB cC cI cJ cZ oA rA u_18.2 ++ b_k cB cC cI cJ cZ oA rA u_18.2 ++ b_p cB cC cI cJ cZ oA rA u_18.2 ++ b_o cB cC cI cJ cZ oA rA u_18.2 ++ b_s cB cC cI cJ cZ oA rA u_18.2 ++ b_c cB cC cI cJ cZ oA rA u_18.2 ++ b_t cB cC cI cJ cZ oA rA u_18.2 ++ b_d cB cC cI cJ cZ oA rA u_18.2) H := hP'
        clear hP' hD'
        refine lv_if_eq (tgt := 180) hx hb dX8_chooseAll_173 (by decide) (fun c_20 => ?_) (fun c_20 => ?_)
        · have hF_21 := ipos c_20 hF_19
          clear hF_19
          refine lv_iconst (v := 0) hx hb dX8_chooseAll_180 (by decide +kernel) ?_
          have h9 := Option.some.inj hF_21
          subst h9
          exact W.zret (v := 0) hx hb hr (by decide +kernel) (fun t ht hW => ⟨⟨0, (), rfl, rfl, m_end ht hP, hDD _⟩, hS.F ht⟩) hS.2.2 dX8_chooseAll_181
        · have hF_22 := ineg c_20 hF_19
          clear hF_19
          refine lv_iconst (v := 1) hx hb dX8_chooseAll_176 (by decide +kernel) ?_
          refine lv_goto (tgt := 181) hx hb dX8_chooseAll_177 (by decide) ?_
          have h9 := Option.some.inj hF_22
          subst h9
          exact W.zret (v := 1) hx hb hr (by decide +kernel) (fun t ht hW => ⟨⟨1, (), rfl, rfl, m_end ht hP, hDD _⟩, hS.F ht⟩) hS.2.2 dX8_chooseAll_181
    obtain ⟨j_24, ej_24, hF_25⟩ := bnd_e hF_12
    clear hF_12
    have Jj_24 : ∀  (σ_23 : HS), j_24  σ_23 = some res → ∀ (H : Heap) (locs : List Loc), va_P (dC, dI) vwCl (b_e cB cC cI cJ cZ oA rA σ_23 ++ b_k cB cC cI cJ cZ oA rA σ_23 ++ b_p cB cC cI cJ cZ oA rA σ_23 ++ b_o cB cC cI cJ cZ oA rA σ_23 ++ b_s cB cC cI cJ cZ oA rA σ_23 ++ b_c cB cC cI cJ cZ oA rA σ_23 ++ b_t cB cC cI cJ cZ oA rA σ_23 ++ b_d cB cC cI cJ cZ oA rA σ_23) H → va_S A s.heap H locs → ∀ ls : Array Slot, lv_has ls 4 [(0, .ref (oA 11))] → W p l e (headSpec (g_ws yX8_chooseAll cX8_chooseAll 4 (some .boolean)) { frames := 8, cells := 0, slots := 0, locals := 189 }).room s m ([.ref (oA 11)] : List Value).toArray below meth c H locs 0 0 (MQ below (va_Qi (fun r (_ : Unit) => r = res.1) (g_Bo (dC, dI) A (fun (_ : Unit) => (b_e cB cC cI cJ cZ oA rA res.2 ++ b_k cB cC cI cJ cZ oA rA res.2 ++ b_p cB cC cI cJ cZ oA rA res.2 ++ b_o cB cC cI cJ cZ oA rA res.2 ++ b_s cB cC cI cJ cZ oA rA res.2 ++ b_c cB cC cI cJ cZ oA rA res.2 ++ b_t cB cC cI cJ cZ oA rA res.2 ++ b_d cB cC cI cJ cZ oA rA res.2))) A) ([.ref (oA 11)] : List Value).toArray s 0 0 A) (F0 m 46 ls []) := by
      intro  σ_23 hF0 H locs hP hS ls hl
      subst ej_24
      have hF_26 := hF0
      clear hF0
      refine lv_aload_n hx hb dX8_chooseAll_46 rfl (lv_at hl 0 rfl) ?_
      refine va_get (D := (dC, dI)) (ci := 8) (v := .ref (oA 9)) (C := RX8) (T := TX8) (N := 16) hx hb hts ii_X8 hown hK hP 0 rfl rfl 0 (by decide) (hts (.fieldLink RX8 22 "StoryHouse$Teller" "play" "LStoryHouse$Play;") wq_286) (fun _ h9 => h9) rfl dX8_chooseAll_47 ?_
      refine va_get (D := (dC, dI)) (ci := 6) (v := .ref (rA 9 1)) (C := RX6) (T := TX6) (N := 12) hx hb hts ii_X6 hown hK hP 9 rfl rfl 1 (by decide) (hts (.fieldLink RX8 202 "StoryHouse$Play" "firsts" "[I") wq_223) (fun _ h9 => h9) rfl dX8_chooseAll_50 ?_
      refine lv_aload_n hx hb dX8_chooseAll_53 rfl (lv_at hl 0 rfl) ?_
      refine va_get (D := (dC, dI)) (ci := 8) (v := .int ((σ_23 11).1 13)) (C := RX8) (T := TX8) (N := 16) hx hb hts ii_X8 hown hK hP 0 rfl rfl 13 (by decide) (hts (.fieldLink RX8 199 "StoryHouse$Teller" "source" "I") wq_300) (fun _ h9 => h9) rfl dX8_chooseAll_54 ?_
      obtain ⟨x_27, ex_27, hF_28⟩ := bnd_e hF_26
      clear hF_26
      refine m_top ex_27 ?_
      have hPc := hP.sub (ws' := [(rA 9 1, .inl (cI, 121, .inl ((σ_23 9).2.1 1)))]) [11] rfl
      have hDc := (hDD σ_23).sub (ws' := [(rA 9 1, .inl (cI, 121, .inl ((σ_23 9).2.1 1)))]) [11] (by decide +kernel) rfl
      have hFc := va_free (wc := [(rA 9 1, .inl (cI, 121, .inl ((σ_23 9).2.1 1)))]) (hDD σ_23) hS hA [11] rfl
      refine g_ofi (wc := [(rA 9 1, .inl (cI, 121, .inl ((σ_23 9).2.1 1)))]) (wr := (((b_e cB cC cI cJ cZ oA rA σ_23 ++ b_k cB cC cI cJ cZ oA rA σ_23 ++ b_p cB cC cI cJ cZ oA rA σ_23 ++ b_o cB cC cI cJ cZ oA rA σ_23 ++ b_s cB cC cI cJ cZ oA rA σ_23 ++ b_c cB cC cI cJ cZ oA rA σ_23 ++ b_t cB cC cI cJ cZ oA rA σ_23 ++ b_d cB cC cI cJ cZ oA rA σ_23)).eraseIdx 11)) hP (hDD σ_23) hS hFc [11] [0, 1, 2, 3, 4, 5, 6, 7, 8, 9, 10, 12, 13, 14, 15, 16, 17, 18, 19, 20, 21, 22, 23, 24, 25, 26, 27, 28, 29, 30, 31, 32, 33, 34, 35, 36, 37, 38, 39, 40, 41, 42, 43, 44, 45, 46, 47, 48, 49] rfl rfl (by decide +kernel) (by decide +kernel) (va_runSN (As := [.ref (rA 9 1), .int x_27]) (rest := []) ⟨hx, hb, hml, hown, hts⟩ (c_X11_at l dC dI cB cC cI cJ cZ cP H.size (rA 9 1) x_27 121 ((σ_23 9).2.1 1) (by decide)) ⟨va_cnB 2 hts (g_gA wq_407) rfl rfl rfl (hN.at 31 rfl) (hts (.initialized RX11) wq_1) (by decide +kernel) ⟨Nat.le_of_ble_eq_true rfl, Nat.le_of_ble_eq_true rfl⟩, (hts (.static yX11_at) wq_406), trivial⟩ (g_preS g_bl0 hK hPc hDc hS hE hFc g_to0) rfl rfl hl.1 rfl (lv_room (Nat.le_of_ble_eq_true rfl)) dX8_chooseAll_57 ⟨Nat.le_of_ble_eq_true rfl, Nat.le_of_ble_eq_true rfl⟩) (fun r9 u9 H locs hw9 hP' hD' hS => ?_)
      clear hPc hDc hFc hD'
      have hP : va_P (dC, dI) vwCl (b_e cB cC cI cJ cZ oA rA σ_23 ++ b_k cB cC cI cJ cZ oA rA σ_23 ++ b_p cB cC cI cJ cZ oA rA σ_23 ++ b_o cB cC cI cJ cZ oA rA σ_23 ++ b_s cB cC cI cJ cZ oA rA σ_23 ++ b_c cB cC cI cJ cZ oA rA σ_23 ++ b_t cB cC cI cJ cZ oA rA σ_23 ++ b_d cB cC cI cJ cZ oA rA σ_23) H := hP'.sub [0, 1, 2, 3, 4, 5, 6, 7, 8, 9, 10, 49, 11, 12, 13, 14, 15, 16, 17, 18, 19, 20, 21, 22, 23, 24, 25, 26, 27, 28, 29, 30, 31, 32, 33, 34, 35, 36, 37, 38, 39, 40, 41, 42, 43, 44, 45, 46, 47, 48] rfl
      clear hP'
      subst hw9
      obtain ⟨x_29, ex_29, hF_30⟩ := bnd_e hF_28
      clear hF_28
      refine m_top ex_29 ?_
      refine lv_istore_n (lv' := [(1, .int x_29), (0, .ref (oA 11))]) hx hb dX8_chooseAll_60 rfl hl (by decide) rfl (fun ls hl => ?_)
      refine lv_iconst (v := 0) hx hb dX8_chooseAll_61 (by decide +kernel) ?_
      refine lv_istore_n (lv' := [(2, .int 0), (1, .int x_29), (0, .ref (oA 11))]) hx hb dX8_chooseAll_62 rfl hl (by decide) rfl (fun ls hl => ?_)
      refine loopF_ind (P := fun (s_31 : Int32 × Int32 × HS) => ∀ (H : Heap) (locs : List Loc), va_P (dC, dI) vwCl (b_e cB cC cI cJ cZ oA rA s_31.2.2 ++ b_k cB cC cI cJ cZ oA rA s_31.2.2 ++ b_p cB cC cI cJ cZ oA rA s_31.2.2 ++ b_o cB cC cI cJ cZ oA rA s_31.2.2 ++ b_s cB cC cI cJ cZ oA rA s_31.2.2 ++ b_c cB cC cI cJ cZ oA rA s_31.2.2 ++ b_t cB cC cI cJ cZ oA rA s_31.2.2 ++ b_d cB cC cI cJ cZ oA rA s_31.2.2) H → va_S A s.heap H locs → ∀ ls : Array Slot, lv_has ls 4 [(0, .ref (oA 11)), (1, .int s_31.1), (2, .int s_31.2.1)] → W p l e (headSpec (g_ws yX8_chooseAll cX8_chooseAll 4 (some .boolean)) { frames := 8, cells := 0, slots := 0, locals := 189 }).room s m ([.ref (oA 11)] : List Value).toArray below meth c H locs 0 0 (MQ below (va_Qi (fun r (_ : Unit) => r = res.1) (g_Bo (dC, dI) A (fun (_ : Unit) => (b_e cB cC cI cJ cZ oA rA res.2 ++ b_k cB cC cI cJ cZ oA rA res.2 ++ b_p cB cC cI cJ cZ oA rA res.2 ++ b_o cB cC cI cJ cZ oA rA res.2 ++ b_s cB cC cI cJ cZ oA rA res.2 ++ b_c cB cC cI cJ cZ oA rA res.2 ++ b_t cB cC cI cJ cZ oA rA res.2 ++ b_d cB cC cI cJ cZ oA rA res.2))) A) ([.ref (oA 11)] : List Value).toArray s 0 0 A) (F0 m 63 ls [])) ?_ _ _ hF_30 _ _ hP hS ls (lv_sub hl [2, 1, 0] rfl)
      intro again_32 s_31 ih_33 hF_34
      intro H locs hP hS ls hl
      refine lv_iload_n hx hb dX8_chooseAll_63 rfl (lv_at hl 2 rfl) ?_
      refine lv_bipush (v := 120) hx hb dX8_chooseAll_64 (by decide +kernel) ?_
      refine lv_icmp_ge (tgt := 160) hx hb dX8_chooseAll_66 (by decide) (fun c_35 => ?_) (fun c_35 => ?_)
      · have hF_36 := ipos c_35 hF_34
        clear hF_34
        exact Jj_11  s_31.2.2 hF_36 _ _ hP hS ls (lv_sub hl [0] rfl)
      · have hF_37 := ineg c_35 hF_34
        clear hF_34
        refine lv_iload_n hx hb dX8_chooseAll_69 rfl (lv_at hl 1 rfl) ?_
        refine lv_if_eq (tgt := 160) hx hb dX8_chooseAll_70 (by decide) (fun c_38 => ?_) (fun c_38 => ?_)
        · have hF_39 := ipos c_38 hF_37
          clear hF_37
          exact Jj_11  s_31.2.2 hF_39 _ _ hP hS ls (lv_sub hl [0] rfl)
        · have hF_40 := ineg c_38 hF_37
          clear hF_37
          refine lv_aload_n hx hb dX8_chooseAll_73 rfl (lv_at hl 0 rfl) ?_
          refine va_get (D := (dC, dI)) (ci := 8) (v := .int ((s_31.2.2 11).1 8)) (C := RX8) (T := TX8) (N := 16) hx hb hts ii_X8 hown hK hP 0 rfl rfl 8 (by decide) (hts (.fieldLink RX8 127 "StoryHouse$Teller" "verb" "I") wq_295) (fun _ h9 => h9) rfl dX8_chooseAll_74 ?_
          refine lv_iconst (v := 4) hx hb dX8_chooseAll_77 (by decide +kernel) ?_
          obtain ⟨j_43, ej_43, hF_44⟩ := bnd_e hF_40
          clear hF_40
          have Jj_43 : ∀ (t_41 : Int32) (σ_42 : HS), j_43 t_41 σ_42 = some res → ∀ (H : Heap) (locs : List Loc), va_P (dC, dI) vwCl (b_e cB cC cI cJ cZ oA rA σ_42 ++ b_k cB cC cI cJ cZ oA rA σ_42 ++ b_p cB cC cI cJ cZ oA rA σ_42 ++ b_o cB cC cI cJ cZ oA rA σ_42 ++ b_s cB cC cI cJ cZ oA rA σ_42 ++ b_c cB cC cI cJ cZ oA rA σ_42 ++ b_t cB cC cI cJ cZ oA rA σ_42 ++ b_d cB cC cI cJ cZ oA rA σ_42) H → va_S A s.heap H locs → ∀ ls : Array Slot, lv_has ls 4 [(0, .ref (oA 11)), (1, .int s_31.1), (2, .int s_31.2.1)] → W p l e (headSpec (g_ws yX8_chooseAll cX8_chooseAll 4 (some .boolean)) { frames := 8, cells := 0, slots := 0, locals := 189 }).room s m ([.ref (oA 11)] : List Value).toArray below meth c H locs 0 0 (MQ below (va_Qi (fun r (_ : Unit) => r = res.1) (g_Bo (dC, dI) A (fun (_ : Unit) => (b_e cB cC cI cJ cZ oA rA res.2 ++ b_k cB cC cI cJ cZ oA rA res.2 ++ b_p cB cC cI cJ cZ oA rA res.2 ++ b_o cB cC cI cJ cZ oA rA res.2 ++ b_s cB cC cI cJ cZ oA rA res.2 ++ b_c cB cC cI cJ cZ oA rA res.2 ++ b_t cB cC cI cJ cZ oA rA res.2 ++ b_d cB cC cI cJ cZ oA rA res.2))) A) ([.ref (oA 11)] : List Value).toArray s 0 0 A) (F0 m 98 ls [.int t_41]) := by
            intro t_41 σ_42 hF0 H locs hP hS ls hl
            subst ej_43
            have hF_45 := hF0
            clear hF0
            refine lv_istore_n (lv' := [(3, .int t_41), (0, .ref (oA 11)), (1, .int s_31.1), (2, .int s_31.2.1)]) hx hb dX8_chooseAll_98 rfl hl (by decide) rfl (fun ls hl => ?_)
            refine lv_iload_n hx hb dX8_chooseAll_99 rfl (lv_at hl 2 rfl) ?_
            refine lv_iconst (v := 1) hx hb dX8_chooseAll_100 (by decide +kernel) ?_
            obtain ⟨j_47, ej_47, hF_48⟩ := bnd_e hF_45
            clear hF_45
            have Jj_47 : ∀  (σ_46 : HS), j_47  σ_46 = some res → ∀ (H : Heap) (locs : List Loc), va_P (dC, dI) vwCl (b_e cB cC cI cJ cZ oA rA σ_46 ++ b_k cB cC cI cJ cZ oA rA σ_46 ++ b_p cB cC cI cJ cZ oA rA σ_46 ++ b_o cB cC cI cJ cZ oA rA σ_46 ++ b_s cB cC cI cJ cZ oA rA σ_46 ++ b_c cB cC cI cJ cZ oA rA σ_46 ++ b_t cB cC cI cJ cZ oA rA σ_46 ++ b_d cB cC cI cJ cZ oA rA σ_46) H → va_S A s.heap H locs → ∀ ls : Array Slot, lv_has ls 4 [(0, .ref (oA 11)), (1, .int s_31.1), (2, .int s_31.2.1)] → W p l e (headSpec (g_ws yX8_chooseAll cX8_chooseAll 4 (some .boolean)) { frames := 8, cells := 0, slots := 0, locals := 189 }).room s m ([.ref (oA 11)] : List Value).toArray below meth c H locs 0 0 (MQ below (va_Qi (fun r (_ : Unit) => r = res.1) (g_Bo (dC, dI) A (fun (_ : Unit) => (b_e cB cC cI cJ cZ oA rA res.2 ++ b_k cB cC cI cJ cZ oA rA res.2 ++ b_p cB cC cI cJ cZ oA rA res.2 ++ b_o cB cC cI cJ cZ oA rA res.2 ++ b_s cB cC cI cJ cZ oA rA res.2 ++ b_c cB cC cI cJ cZ oA rA res.2 ++ b_t cB cC cI cJ cZ oA rA res.2 ++ b_d cB cC cI cJ cZ oA rA res.2))) A) ([.ref (oA 11)] : List Value).toArray s 0 0 A) (F0 m 142 ls []) := by
              intro  σ_46 hF0 H locs hP hS ls hl
              subst ej_47
              have hF_49 := hF0
              clear hF0
              refine lv_aload_n hx hb dX8_chooseAll_142 rfl (lv_at hl 0 rfl) ?_
              refine va_get (D := (dC, dI)) (ci := 8) (v := .ref (oA 9)) (C := RX8) (T := TX8) (N := 16) hx hb hts ii_X8 hown hK hP 0 rfl rfl 0 (by decide) (hts (.fieldLink RX8 22 "StoryHouse$Teller" "play" "LStoryHouse$Play;") wq_286) (fun _ h9 => h9) rfl dX8_chooseAll_143 ?_
              refine va_get (D := (dC, dI)) (ci := 6) (v := .ref (rA 9 2)) (C := RX6) (T := TX6) (N := 12) hx hb hts ii_X6 hown hK hP 9 rfl rfl 2 (by decide) (hts (.fieldLink RX8 208 "StoryHouse$Play" "nexts" "[I") wq_227) (fun _ h9 => h9) rfl dX8_chooseAll_146 ?_
              refine lv_iload_n hx hb dX8_chooseAll_149 rfl (lv_at hl 1 rfl) ?_
              have hPc := hP.sub (ws' := [(rA 9 2, .inl (cI, 121, .inl ((σ_46 9).2.1 2)))]) [12] rfl
              have hDc := (hDD σ_46).sub (ws' := [(rA 9 2, .inl (cI, 121, .inl ((σ_46 9).2.1 2)))]) [12] (by decide +kernel) rfl
              have hFc := va_free (wc := [(rA 9 2, .inl (cI, 121, .inl ((σ_46 9).2.1 2)))]) (hDD σ_46) hS hA [12] rfl
              refine g_ofi (wc := [(rA 9 2, .inl (cI, 121, .inl ((σ_46 9).2.1 2)))]) (wr := (((b_e cB cC cI cJ cZ oA rA σ_46 ++ b_k cB cC cI cJ cZ oA rA σ_46 ++ b_p cB cC cI cJ cZ oA rA σ_46 ++ b_o cB cC cI cJ cZ oA rA σ_46 ++ b_s cB cC cI cJ cZ oA rA σ_46 ++ b_c cB cC cI cJ cZ oA rA σ_46 ++ b_t cB cC cI cJ cZ oA rA σ_46 ++ b_d cB cC cI cJ cZ oA rA σ_46)).eraseIdx 12)) hP (hDD σ_46) hS hFc [12] [0, 1, 2, 3, 4, 5, 6, 7, 8, 9, 10, 11, 13, 14, 15, 16, 17, 18, 19, 20, 21, 22, 23, 24, 25, 26, 27, 28, 29, 30, 31, 32, 33, 34, 35, 36, 37, 38, 39, 40, 41, 42, 43, 44, 45, 46, 47, 48, 49] rfl rfl (by decide +kernel) (by decide +kernel) (va_runSN (As := [.ref (rA 9 2), .int s_31.1]) (rest := []) ⟨hx, hb, hml, hown, hts⟩ (c_X11_at l dC dI cB cC cI cJ cZ cP H.size (rA 9 2) s_31.1 121 ((σ_46 9).2.1 2) (by decide)) ⟨va_cnB 2 hts (g_gA wq_407) rfl rfl rfl (hN.at 31 rfl) (hts (.initialized RX11) wq_1) (by decide +kernel) ⟨Nat.le_of_ble_eq_true rfl, Nat.le_of_ble_eq_true rfl⟩, (hts (.static yX11_at) wq_406), trivial⟩ (g_preS g_bl0 hK hPc hDc hS hE hFc g_to0) rfl rfl hl.1 rfl (lv_room (Nat.le_of_ble_eq_true rfl)) dX8_chooseAll_150 ⟨Nat.le_of_ble_eq_true rfl, Nat.le_of_ble_eq_true rfl⟩) (fun r9 u9 H locs hw9 hP' hD' hS => ?_)
              clear hPc hDc hFc hD'
              have hP : va_P (dC, dI) vwCl (b_e cB cC cI cJ cZ oA rA σ_46 ++ b_k cB cC cI cJ cZ oA rA σ_46 ++ b_p cB cC cI cJ cZ oA rA σ_46 ++ b_o cB cC cI cJ cZ oA rA σ_46 ++ b_s cB cC cI cJ cZ oA rA σ_46 ++ b_c cB cC cI cJ cZ oA rA σ_46 ++ b_t cB cC cI cJ cZ oA rA σ_46 ++ b_d cB cC cI cJ cZ oA rA σ_46) H := hP'.sub [0, 1, 2, 3, 4, 5, 6, 7, 8, 9, 10, 11, 49, 12, 13, 14, 15, 16, 17, 18, 19, 20, 21, 22, 23, 24, 25, 26, 27, 28, 29, 30, 31, 32, 33, 34, 35, 36, 37, 38, 39, 40, 41, 42, 43, 44, 45, 46, 47, 48] rfl
              clear hP'
              subst hw9
              obtain ⟨x_50, ex_50, hF_51⟩ := bnd_e hF_49
              clear hF_49
              refine m_top ex_50 ?_
              refine lv_istore_n (lv' := [(1, .int x_50), (0, .ref (oA 11)), (2, .int s_31.2.1)]) hx hb dX8_chooseAll_153 rfl hl (by decide) rfl (fun ls hl => ?_)
              obtain ⟨x_52, ex_52, hF_53⟩ := bnd_e hF_51
              clear hF_51
              refine lv_iinc (v := x_52) (lv' := [(2, .int x_52), (1, .int x_50), (0, .ref (oA 11))]) hx hb dX8_chooseAll_154 hl (k := 2) rfl (by rw [ex_52]; rfl) (by decide) rfl (fun ls hl => ?_)
              refine lv_goto (tgt := 63) hx hb dX8_chooseAll_157 (by decide) ?_
              exact ih_33 (x_50, x_52, σ_46) hF_53 _ _ hP hS ls (lv_sub hl [2, 1, 0] rfl)
            refine lv_icmp_eq (tgt := 142) hx hb dX8_chooseAll_101 (by decide) (fun c_54 => ?_) (fun c_54 => ?_)
            · have hF_55 := ipos c_54 hF_48
              clear hF_48
              exact Jj_47  σ_42 hF_55 _ _ hP hS ls (lv_sub hl [1, 2, 3] rfl)
            · have hF_56 := ineg c_54 hF_48
              clear hF_48
              refine lv_aload_n hx hb dX8_chooseAll_104 rfl (lv_at hl 1 rfl) ?_
              refine va_get (D := (dC, dI)) (ci := 8) (v := .ref (oA 9)) (C := RX8) (T := TX8) (N := 16) hx hb hts ii_X8 hown hK hP 0 rfl rfl 0 (by decide) (hts (.fieldLink RX8 22 "StoryHouse$Teller" "play" "LStoryHouse$Play;") wq_286) (fun _ h9 => h9) rfl dX8_chooseAll_105 ?_
              refine lv_iload_n hx hb dX8_chooseAll_108 rfl (lv_at hl 2 rfl) ?_
              refine lv_iconst (v := 2) hx hb dX8_chooseAll_109 (by decide +kernel) ?_
              obtain ⟨u_57, hu_57, hF_58⟩ := Option.bind_eq_some_iff.mp hF_56
              clear hF_56
              have hPc := hP.sub (ws' := (b_p cB cC cI cJ cZ oA rA σ_42)) [9, 10, 11, 12, 13, 14, 15, 16] rfl
              have hDc := (hDD σ_42).sub (ws' := (b_p cB cC cI cJ cZ oA rA σ_42)) [9, 10, 11, 12, 13, 14, 15, 16] (by decide +kernel) rfl
              have hFc := va_free (wc := (b_p cB cC cI cJ cZ oA rA σ_42)) (hDD σ_42) hS hA [9, 10, 11, 12, 13, 14, 15, 16] rfl
              refine g_ofi (wc := (b_p cB cC cI cJ cZ oA rA σ_42)) (wr := (b_e cB cC cI cJ cZ oA rA σ_42 ++ b_k cB cC cI cJ cZ oA rA σ_42 ++ b_o cB cC cI cJ cZ oA rA σ_42 ++ b_s cB cC cI cJ cZ oA rA σ_42 ++ b_c cB cC cI cJ cZ oA rA σ_42 ++ b_t cB cC cI cJ cZ oA rA σ_42 ++ b_d cB cC cI cJ cZ oA rA σ_42)) hP (hDD σ_42) hS hFc [9, 10, 11, 12, 13, 14, 15, 16] [0, 1, 2, 3, 4, 5, 6, 7, 8, 17, 18, 19, 20, 21, 22, 23, 24, 25, 26, 27, 28, 29, 30, 31, 32, 33, 34, 35, 36, 37, 38, 39, 40, 41, 42, 43, 44, 45, 46, 47, 48, 49] rfl rfl (by decide +kernel) (by decide +kernel) (va_runV (As := [.int s_31.1, .int 2]) (rest := []) ⟨hx, hb, hml, hown, hts⟩ (k_X6_bears l dC dI cB cC cI cJ cZ cP oA rA H.size  s_31.1 2 σ_42 _ hu_57) (cwV 2 hts (g_gV wq_1030 wq_987 wq_988 wq_10 wq_989) rfl rfl rfl (by decide +kernel) ⟨Nat.le_of_ble_eq_true rfl, Nat.le_of_ble_eq_true rfl⟩) (g_preV g_bl0 hK hPc hDc hS hE hFc g_to0 (q0 := 0) (ci := 6) rfl rfl) rfl rfl hl.1 rfl (lv_room (Nat.le_of_ble_eq_true rfl)) dX8_chooseAll_110 ⟨Nat.le_of_ble_eq_true rfl, Nat.le_of_ble_eq_true rfl⟩) (fun r9 u9 H locs hw9 hP' hD' hS => ?_)
              clear hPc hDc hFc
              subst hw9
              obtain ⟨σ_59, eσ_59, hF_60⟩ := bnd_e hF_58
              clear hF_58
              have hP : va_P (dC, dI) vwCl (b_e cB cC cI cJ cZ oA rA σ_59 ++ b_k cB cC cI cJ cZ oA rA σ_59 ++ b_p cB cC cI cJ cZ oA rA σ_59 ++ b_o cB cC cI cJ cZ oA rA σ_59 ++ b_s cB cC cI cJ cZ oA rA σ_59 ++ b_c cB cC cI cJ cZ oA rA σ_59 ++ b_t cB cC cI cJ cZ oA rA σ_59 ++ b_d cB cC cI cJ cZ oA rA σ_59) H := by rw [eσ_59]; exact hP'.sub [0, 1, 2, 3, 4, 5, 6, 7, 8, 42, 43, 44, 45, 46, 47, 48, 49, 9, 10, 11, 12, 13, 14, 15, 16, 17, 18, 19, 20, 21, 22, 23, 24, 25, 26, 27, 28, 29, 30, 31, 32, 33, 34, 35, 36, 37, 38, 39, 40, 41] rfl
              clear hP' hD'
              refine lv_if_ne (tgt := 142) hx hb dX8_chooseAll_113 (by decide) (fun c_61 => ?_) (fun c_61 => ?_)
              · have hF_70 := ineg c_61 hF_60
                clear hF_60
                exact Jj_47  σ_59 hF_70 _ _ hP hS ls (lv_sub hl [1, 2, 3] rfl)
              · have hF_62 := ipos c_61 hF_60
                clear hF_60
                refine lv_iload_n hx hb dX8_chooseAll_116 rfl (lv_at hl 0 rfl) ?_
                refine lv_if_ne (tgt := 142) hx hb dX8_chooseAll_117 (by decide) (fun c_63 => ?_) (fun c_63 => ?_)
                · have hF_69 := ineg c_63 hF_62
                  clear hF_62
                  exact Jj_47  σ_59 hF_69 _ _ hP hS ls (lv_sub hl [1, 2, 3] rfl)
                · have hF_64 := ipos c_63 hF_62
                  clear hF_62
                  refine lv_aload_n hx hb dX8_chooseAll_120 rfl (lv_at hl 1 rfl) ?_
                  refine va_get (D := (dC, dI)) (ci := 8) (v := .ref (rA 11 14)) (C := RX8) (T := TX8) (N := 16) hx hb hts ii_X8 hown hK hP 0 rfl rfl 14 (by decide) (hts (.fieldLink RX8 19 "StoryHouse$Teller" "chosen" "[I") wq_301) (fun _ h9 => h9) rfl dX8_chooseAll_121 ?_
                  refine lv_aload_n hx hb dX8_chooseAll_124 rfl (lv_at hl 1 rfl) ?_
                  refine va_get (D := (dC, dI)) (ci := 8) (v := .int ((σ_59 11).1 15)) (C := RX8) (T := TX8) (N := 16) hx hb hts ii_X8 hown hK hP 0 rfl rfl 15 (by decide) (hts (.fieldLink RX8 192 "StoryHouse$Teller" "chosenCount" "I") wq_302) (fun _ h9 => h9) rfl dX8_chooseAll_125 ?_
                  refine lv_iload_n hx hb dX8_chooseAll_128 rfl (lv_at hl 2 rfl) ?_
                  have hPc := hP.sub (ws' := [(rA 11 14, .inl (cI, 120, .inl ((σ_59 11).2.1 14)))]) [3] rfl
                  have hDc := (hDD σ_59).sub (ws' := [(rA 11 14, .inl (cI, 120, .inl ((σ_59 11).2.1 14)))]) [3] (by decide +kernel) rfl
                  have hFc := va_free (wc := [(rA 11 14, .inl (cI, 120, .inl ((σ_59 11).2.1 14)))]) (hDD σ_59) hS hA [3] rfl
                  refine g_ofv (wc := [(rA 11 14, .inl (cI, 120, .inl ((σ_59 11).2.1 14)))]) (wr := (((b_e cB cC cI cJ cZ oA rA σ_59 ++ b_k cB cC cI cJ cZ oA rA σ_59 ++ b_p cB cC cI cJ cZ oA rA σ_59 ++ b_o cB cC cI cJ cZ oA rA σ_59 ++ b_s cB cC cI cJ cZ oA rA σ_59 ++ b_c cB cC cI cJ cZ oA rA σ_59 ++ b_t cB cC cI cJ cZ oA rA σ_59 ++ b_d cB cC cI cJ cZ oA rA σ_59)).eraseIdx 3)) hP (hDD σ_59) hS hFc [3] [0, 1, 2, 4, 5, 6, 7, 8, 9, 10, 11, 12, 13, 14, 15, 16, 17, 18, 19, 20, 21, 22, 23, 24, 25, 26, 27, 28, 29, 30, 31, 32, 33, 34, 35, 36, 37, 38, 39, 40, 41, 42, 43, 44, 45, 46, 47, 48, 49] rfl rfl (by decide +kernel) (by decide +kernel) (va_runSN (As := [.ref (rA 11 14), .int ((σ_59 11).1 15), .int s_31.1]) (rest := []) ⟨hx, hb, hml, hown, hts⟩ (c_X11_put l dC dI cB cC cI cJ cZ cP H.size (rA 11 14) ((σ_59 11).1 15) s_31.1 120 ((σ_59 11).2.1 14) (by decide)) ⟨va_cnB 3 hts (g_gA wq_412) rfl rfl rfl (hN.at 34 rfl) (hts (.initialized RX11) wq_1) (by decide +kernel) ⟨Nat.le_of_ble_eq_true rfl, Nat.le_of_ble_eq_true rfl⟩, (hts (.static yX11_put) wq_411), trivial⟩ (g_preS g_bl0 hK hPc hDc hS hE hFc g_to0) rfl rfl hl.1 rfl (lv_room (Nat.le_of_ble_eq_true rfl)) dX8_chooseAll_129 ⟨Nat.le_of_ble_eq_true rfl, Nat.le_of_ble_eq_true rfl⟩) (fun g9 H locs hw9 hP' hD' hS => ?_)
                  clear hPc hDc hFc hD'
                  obtain ⟨σ_65, eσ_65, hF_66⟩ := bnd_e hF_64
                  clear hF_64
                  subst hw9
                  have hP : va_P (dC, dI) vwCl (b_e cB cC cI cJ cZ oA rA σ_65 ++ b_k cB cC cI cJ cZ oA rA σ_65 ++ b_p cB cC cI cJ cZ oA rA σ_65 ++ b_o cB cC cI cJ cZ oA rA σ_65 ++ b_s cB cC cI cJ cZ oA rA σ_65 ++ b_c cB cC cI cJ cZ oA rA σ_65 ++ b_t cB cC cI cJ cZ oA rA σ_65 ++ b_d cB cC cI cJ cZ oA rA σ_65) H := by rw [eσ_65]; exact hP'.sub [0, 1, 2, 49, 3, 4, 5, 6, 7, 8, 9, 10, 11, 12, 13, 14, 15, 16, 17, 18, 19, 20, 21, 22, 23, 24, 25, 26, 27, 28, 29, 30, 31, 32, 33, 34, 35, 36, 37, 38, 39, 40, 41, 42, 43, 44, 45, 46, 47, 48] rfl
                  clear hP'
                  refine lv_aload_n hx hb dX8_chooseAll_132 rfl (lv_at hl 1 rfl) ?_
                  refine lv_dup hx hb dX8_chooseAll_133 rfl ?_
                  refine va_get (D := (dC, dI)) (ci := 8) (v := .int ((σ_65 11).1 15)) (C := RX8) (T := TX8) (N := 16) hx hb hts ii_X8 hown hK hP 0 rfl rfl 15 (by decide) (hts (.fieldLink RX8 192 "StoryHouse$Teller" "chosenCount" "I") wq_302) (fun _ h9 => h9) rfl dX8_chooseAll_134 ?_
                  refine lv_iconst (v := 1) hx hb dX8_chooseAll_137 (by decide +kernel) ?_
                  refine lv_iadd hx hb dX8_chooseAll_138 ?_
                  obtain ⟨σ_67, eσ_67, hF_68⟩ := bnd_e hF_66
                  clear hF_66
                  refine va_put (D := (dC, dI)) (ci := 8) (v := .int (((σ_65 11).1 15) + 1)) (ty := .int) (C := RX8) (T := TX8) (N := 16) hx hb hts ii_X8 tyX8 tyX8_ok nmX8 hown hK hP (hDD _) hS 0 rfl rfl 15 (by decide) (hts (.fieldLink RX8 192 "StoryHouse$Teller" "chosenCount" "I") wq_302) (fun _ h9 => h9) rfl (by decide +kernel) rfl rfl (Nat.le_of_ble_eq_true rfl) dX8_chooseAll_139 (fun H locs hP' _ hS => ?_)
                  have hP : va_P (dC, dI) vwCl (b_e cB cC cI cJ cZ oA rA σ_67 ++ b_k cB cC cI cJ cZ oA rA σ_67 ++ b_p cB cC cI cJ cZ oA rA σ_67 ++ b_o cB cC cI cJ cZ oA rA σ_67 ++ b_s cB cC cI cJ cZ oA rA σ_67 ++ b_c cB cC cI cJ cZ oA rA σ_67 ++ b_t cB cC cI cJ cZ oA rA σ_67 ++ b_d cB cC cI cJ cZ oA rA σ_67) H := by rw [eσ_67]; exact cs_ekposctd_e_15 ▸ hP'
                  clear hP'
                  exact Jj_47  σ_67 hF_68 _ _ hP hS ls (lv_sub hl [1, 2, 3] rfl)
          obtain ⟨j_72, ej_72, hF_73⟩ := bnd_e hF_44
          clear hF_44
          have Jj_72 : ∀  (σ_71 : HS), j_72  σ_71 = some res → ∀ (H : Heap) (locs : List Loc), va_P (dC, dI) vwCl (b_e cB cC cI cJ cZ oA rA σ_71 ++ b_k cB cC cI cJ cZ oA rA σ_71 ++ b_p cB cC cI cJ cZ oA rA σ_71 ++ b_o cB cC cI cJ cZ oA rA σ_71 ++ b_s cB cC cI cJ cZ oA rA σ_71 ++ b_c cB cC cI cJ cZ oA rA σ_71 ++ b_t cB cC cI cJ cZ oA rA σ_71 ++ b_d cB cC cI cJ cZ oA rA σ_71) H → va_S A s.heap H locs → ∀ ls : Array Slot, lv_has ls 4 [(0, .ref (oA 11)), (1, .int s_31.1), (2, .int s_31.2.1)] → W p l e (headSpec (g_ws yX8_chooseAll cX8_chooseAll 4 (some .boolean)) { frames := 8, cells := 0, slots := 0, locals := 189 }).room s m ([.ref (oA 11)] : List Value).toArray below meth c H locs 0 0 (MQ below (va_Qi (fun r (_ : Unit) => r = res.1) (g_Bo (dC, dI) A (fun (_ : Unit) => (b_e cB cC cI cJ cZ oA rA res.2 ++ b_k cB cC cI cJ cZ oA rA res.2 ++ b_p cB cC cI cJ cZ oA rA res.2 ++ b_o cB cC cI cJ cZ oA rA res.2 ++ b_s cB cC cI cJ cZ oA rA res.2 ++ b_c cB cC cI cJ cZ oA rA res.2 ++ b_t cB cC cI cJ cZ oA rA res.2 ++ b_d cB cC cI cJ cZ oA rA res.2))) A) ([.ref (oA 11)] : List Value).toArray s 0 0 A) (F0 m 97 ls []) := by
            intro  σ_71 hF0 H locs hP hS ls hl
            subst ej_72
            have hF_74 := hF0
            clear hF0
            refine lv_iconst (v := 0) hx hb dX8_chooseAll_97 (by decide +kernel) ?_
            exact Jj_43 0 σ_71 hF_74 _ _ hP hS ls (lv_sub hl [0, 1, 2] rfl)
          refine lv_icmp_ne (tgt := 97) hx hb dX8_chooseAll_78 (by decide) (fun c_75 => ?_) (fun c_75 => ?_)
          · have hF_84 := ineg c_75 hF_73
            clear hF_73
            exact Jj_72  s_31.2.2 hF_84 _ _ hP hS ls (lv_sub hl [0, 1, 2] rfl)
          · have hF_76 := ipos c_75 hF_73
            clear hF_73
            refine lv_aload_n hx hb dX8_chooseAll_81 rfl (lv_at hl 0 rfl) ?_
            refine va_get (D := (dC, dI)) (ci := 8) (v := .ref (oA 9)) (C := RX8) (T := TX8) (N := 16) hx hb hts ii_X8 hown hK hP 0 rfl rfl 0 (by decide) (hts (.fieldLink RX8 22 "StoryHouse$Teller" "play" "LStoryHouse$Play;") wq_286) (fun _ h9 => h9) rfl dX8_chooseAll_82 ?_
            refine lv_iload_n hx hb dX8_chooseAll_85 rfl (lv_at hl 1 rfl) ?_
            refine lv_iconst (v := 1) hx hb dX8_chooseAll_86 (by decide +kernel) ?_
            obtain ⟨u_77, hu_77, hF_78⟩ := Option.bind_eq_some_iff.mp hF_76
            clear hF_76
            have hPc := hP.sub (ws' := (b_p cB cC cI cJ cZ oA rA s_31.2.2)) [9, 10, 11, 12, 13, 14, 15, 16] rfl
            have hDc := (hDD s_31.2.2).sub (ws' := (b_p cB cC cI cJ cZ oA rA s_31.2.2)) [9, 10, 11, 12, 13, 14, 15, 16] (by decide +kernel) rfl
            have hFc := va_free (wc := (b_p cB cC cI cJ cZ oA rA s_31.2.2)) (hDD s_31.2.2) hS hA [9, 10, 11, 12, 13, 14, 15, 16] rfl
            refine g_ofi (wc := (b_p cB cC cI cJ cZ oA rA s_31.2.2)) (wr := (b_e cB cC cI cJ cZ oA rA s_31.2.2 ++ b_k cB cC cI cJ cZ oA rA s_31.2.2 ++ b_o cB cC cI cJ cZ oA rA s_31.2.2 ++ b_s cB cC cI cJ cZ oA rA s_31.2.2 ++ b_c cB cC cI cJ cZ oA rA s_31.2.2 ++ b_t cB cC cI cJ cZ oA rA s_31.2.2 ++ b_d cB cC cI cJ cZ oA rA s_31.2.2)) hP (hDD s_31.2.2) hS hFc [9, 10, 11, 12, 13, 14, 15, 16] [0, 1, 2, 3, 4, 5, 6, 7, 8, 17, 18, 19, 20, 21, 22, 23, 24, 25, 26, 27, 28, 29, 30, 31, 32, 33, 34, 35, 36, 37, 38, 39, 40, 41, 42, 43, 44, 45, 46, 47, 48, 49] rfl rfl (by decide +kernel) (by decide +kernel) (va_runV (As := [.int s_31.1, .int 1]) (rest := []) ⟨hx, hb, hml, hown, hts⟩ (k_X6_bears l dC dI cB cC cI cJ cZ cP oA rA H.size  s_31.1 1 s_31.2.2 _ hu_77) (cwV 2 hts (g_gV wq_1030 wq_987 wq_988 wq_10 wq_989) rfl rfl rfl (by decide +kernel) ⟨Nat.le_of_ble_eq_true rfl, Nat.le_of_ble_eq_true rfl⟩) (g_preV g_bl0 hK hPc hDc hS hE hFc g_to0 (q0 := 0) (ci := 6) rfl rfl) rfl rfl hl.1 rfl (lv_room (Nat.le_of_ble_eq_true rfl)) dX8_chooseAll_87 ⟨Nat.le_of_ble_eq_true rfl, Nat.le_of_ble_eq_true rfl⟩) (fun r9 u9 H locs hw9 hP' hD' hS => ?_)
            clear hPc hDc hFc
            subst hw9
            obtain ⟨σ_79, eσ_79, hF_80⟩ := bnd_e hF_78
            clear hF_78
            have hP : va_P (dC, dI) vwCl (b_e cB cC cI cJ cZ oA rA σ_79 ++ b_k cB cC cI cJ cZ oA rA σ_79 ++ b_p cB cC cI cJ cZ oA rA σ_79 ++ b_o cB cC cI cJ cZ oA rA σ_79 ++ b_s cB cC cI cJ cZ oA rA σ_79 ++ b_c cB cC cI cJ cZ oA rA σ_79 ++ b_t cB cC cI cJ cZ oA rA σ_79 ++ b_d cB cC cI cJ cZ oA rA σ_79) H := by rw [eσ_79]; exact hP'.sub [0, 1, 2, 3, 4, 5, 6, 7, 8, 42, 43, 44, 45, 46, 47, 48, 49, 9, 10, 11, 12, 13, 14, 15, 16, 17, 18, 19, 20, 21, 22, 23, 24, 25, 26, 27, 28, 29, 30, 31, 32, 33, 34, 35, 36, 37, 38, 39, 40, 41] rfl
            clear hP' hD'
            refine lv_if_eq (tgt := 97) hx hb dX8_chooseAll_90 (by decide) (fun c_81 => ?_) (fun c_81 => ?_)
            · have hF_82 := ipos c_81 hF_80
              clear hF_80
              exact Jj_72  σ_79 hF_82 _ _ hP hS ls (lv_sub hl [0, 1, 2] rfl)
            · have hF_83 := ineg c_81 hF_80
              clear hF_80
              refine lv_iconst (v := 1) hx hb dX8_chooseAll_93 (by decide +kernel) ?_
              refine lv_goto (tgt := 98) hx hb dX8_chooseAll_94 (by decide) ?_
              exact Jj_43 1 σ_79 hF_83 _ _ hP hS ls (lv_sub hl [0, 1, 2] rfl)
    refine lv_icmp_eq (tgt := 46) hx hb dX8_chooseAll_33 (by decide) (fun c_85 => ?_) (fun c_85 => ?_)
    · have hF_86 := ipos c_85 hF_25
      clear hF_25
      exact Jj_24  σ_8 hF_86 _ _ hP hS ls (lv_sub hl [0] rfl)
    · have hF_87 := ineg c_85 hF_25
      clear hF_25
      refine lv_aload_n hx hb dX8_chooseAll_36 rfl (lv_at hl 0 rfl) ?_
      refine va_get (D := (dC, dI)) (ci := 8) (v := .ref (oA 9)) (C := RX8) (T := TX8) (N := 16) hx hb hts ii_X8 hown hK hP 0 rfl rfl 0 (by decide) (hts (.fieldLink RX8 22 "StoryHouse$Teller" "play" "LStoryHouse$Play;") wq_286) (fun _ h9 => h9) rfl dX8_chooseAll_37 ?_
      obtain ⟨u_88, hu_88, hF_89⟩ := Option.bind_eq_some_iff.mp hF_87
      clear hF_87
      have hPc := hP.sub (ws' := (b_p cB cC cI cJ cZ oA rA σ_8)) [9, 10, 11, 12, 13, 14, 15, 16] rfl
      have hDc := (hDD σ_8).sub (ws' := (b_p cB cC cI cJ cZ oA rA σ_8)) [9, 10, 11, 12, 13, 14, 15, 16] (by decide +kernel) rfl
      have hFc := va_free (wc := (b_p cB cC cI cJ cZ oA rA σ_8)) (hDD σ_8) hS hA [9, 10, 11, 12, 13, 14, 15, 16] rfl
      refine g_ofi (wc := (b_p cB cC cI cJ cZ oA rA σ_8)) (wr := (b_e cB cC cI cJ cZ oA rA σ_8 ++ b_k cB cC cI cJ cZ oA rA σ_8 ++ b_o cB cC cI cJ cZ oA rA σ_8 ++ b_s cB cC cI cJ cZ oA rA σ_8 ++ b_c cB cC cI cJ cZ oA rA σ_8 ++ b_t cB cC cI cJ cZ oA rA σ_8 ++ b_d cB cC cI cJ cZ oA rA σ_8)) hP (hDD σ_8) hS hFc [9, 10, 11, 12, 13, 14, 15, 16] [0, 1, 2, 3, 4, 5, 6, 7, 8, 17, 18, 19, 20, 21, 22, 23, 24, 25, 26, 27, 28, 29, 30, 31, 32, 33, 34, 35, 36, 37, 38, 39, 40, 41, 42, 43, 44, 45, 46, 47, 48, 49] rfl rfl (by decide +kernel) (by decide +kernel) (va_runV (As := []) (rest := []) ⟨hx, hb, hml, hown, hts⟩ (k_X6_isLight l dC dI cB cC cI cJ cZ cP oA rA H.size  σ_8 _ hu_88) (cwV 0 hts (g_gV wq_978 wq_979 wq_980 wq_10 wq_981) rfl rfl rfl (by decide +kernel) ⟨Nat.le_of_ble_eq_true rfl, Nat.le_of_ble_eq_true rfl⟩) (g_preV g_bl0 hK hPc hDc hS hE hFc g_to0 (q0 := 0) (ci := 6) rfl rfl) rfl rfl hl.1 rfl (lv_room (Nat.le_of_ble_eq_true rfl)) dX8_chooseAll_40 ⟨Nat.le_of_ble_eq_true rfl, Nat.le_of_ble_eq_true rfl⟩) (fun r9 u9 H locs hw9 hP' hD' hS => ?_)
      clear hPc hDc hFc
      subst hw9
      obtain ⟨σ_90, eσ_90, hF_91⟩ := bnd_e hF_89
      clear hF_89
      have hP : va_P (dC, dI) vwCl (b_e cB cC cI cJ cZ oA rA σ_90 ++ b_k cB cC cI cJ cZ oA rA σ_90 ++ b_p cB cC cI cJ cZ oA rA σ_90 ++ b_o cB cC cI cJ cZ oA rA σ_90 ++ b_s cB cC cI cJ cZ oA rA σ_90 ++ b_c cB cC cI cJ cZ oA rA σ_90 ++ b_t cB cC cI cJ cZ oA rA σ_90 ++ b_d cB cC cI cJ cZ oA rA σ_90) H := by rw [eσ_90]; exact hP'.sub [0, 1, 2, 3, 4, 5, 6, 7, 8, 42, 43, 44, 45, 46, 47, 48, 49, 9, 10, 11, 12, 13, 14, 15, 16, 17, 18, 19, 20, 21, 22, 23, 24, 25, 26, 27, 28, 29, 30, 31, 32, 33, 34, 35, 36, 37, 38, 39, 40, 41] rfl
      clear hP' hD'
      refine lv_if_eq (tgt := 160) hx hb dX8_chooseAll_43 (by decide) (fun c_92 => ?_) (fun c_92 => ?_)
      · have hF_93 := ipos c_92 hF_91
        clear hF_91
        exact Jj_11  σ_90 hF_93 _ _ hP hS ls (lv_sub hl [0] rfl)
      · have hF_94 := ineg c_92 hF_91
        clear hF_91
        exact Jj_24  σ_90 hF_94 _ _ hP hS ls (lv_sub hl [0] rfl)
  refine lv_icmp_ne (tgt := 24) hx hb dX8_chooseAll_11 (by decide) (fun c_95 => ?_) (fun c_95 => ?_)
  · have hF_101 := ineg c_95 hF_6
    clear hF_6
    refine lv_iconst (v := 1) hx hb dX8_chooseAll_24 (by decide +kernel) ?_
    exact Jj_5 1 σ_1 hF_101 _ _ hP hS ls (lv_sub hl [0] rfl)
  · have hF_96 := ipos c_95 hF_6
    clear hF_6
    refine lv_aload_n hx hb dX8_chooseAll_14 rfl (lv_at hl 0 rfl) ?_
    refine va_get (D := (dC, dI)) (ci := 8) (v := .ref (oA 9)) (C := RX8) (T := TX8) (N := 16) hx hb hts ii_X8 hown hK hP 0 rfl rfl 0 (by decide) (hts (.fieldLink RX8 22 "StoryHouse$Teller" "play" "LStoryHouse$Play;") wq_286) (fun _ h9 => h9) rfl dX8_chooseAll_15 ?_
    obtain ⟨u_97, hu_97, hF_98⟩ := Option.bind_eq_some_iff.mp hF_96
    clear hF_96
    have hPc := hP.sub (ws' := (b_p cB cC cI cJ cZ oA rA σ_1)) [9, 10, 11, 12, 13, 14, 15, 16] rfl
    have hDc := (hDD σ_1).sub (ws' := (b_p cB cC cI cJ cZ oA rA σ_1)) [9, 10, 11, 12, 13, 14, 15, 16] (by decide +kernel) rfl
    have hFc := va_free (wc := (b_p cB cC cI cJ cZ oA rA σ_1)) (hDD σ_1) hS hA [9, 10, 11, 12, 13, 14, 15, 16] rfl
    refine g_ofi (wc := (b_p cB cC cI cJ cZ oA rA σ_1)) (wr := (b_e cB cC cI cJ cZ oA rA σ_1 ++ b_k cB cC cI cJ cZ oA rA σ_1 ++ b_o cB cC cI cJ cZ oA rA σ_1 ++ b_s cB cC cI cJ cZ oA rA σ_1 ++ b_c cB cC cI cJ cZ oA rA σ_1 ++ b_t cB cC cI cJ cZ oA rA σ_1 ++ b_d cB cC cI cJ cZ oA rA σ_1)) hP (hDD σ_1) hS hFc [9, 10, 11, 12, 13, 14, 15, 16] [0, 1, 2, 3, 4, 5, 6, 7, 8, 17, 18, 19, 20, 21, 22, 23, 24, 25, 26, 27, 28, 29, 30, 31, 32, 33, 34, 35, 36, 37, 38, 39, 40, 41, 42, 43, 44, 45, 46, 47, 48, 49] rfl rfl (by decide +kernel) (by decide +kernel) (va_runV (As := []) (rest := [.ref (oA 11)]) ⟨hx, hb, hml, hown, hts⟩ (k_X6_here l dC dI cB cC cI cJ cZ cP oA rA H.size  σ_1 _ hu_97) (cwV 0 hts (g_gV wq_1012 wq_983 wq_984 wq_10 wq_985) rfl rfl rfl (by decide +kernel) ⟨Nat.le_of_ble_eq_true rfl, Nat.le_of_ble_eq_true rfl⟩) (g_preV g_bl0 hK hPc hDc hS hE hFc g_to0 (q0 := 0) (ci := 6) rfl rfl) rfl rfl hl.1 rfl (lv_room (Nat.le_of_ble_eq_true rfl)) dX8_chooseAll_18 ⟨Nat.le_of_ble_eq_true rfl, Nat.le_of_ble_eq_true rfl⟩) (fun r9 u9 H locs hw9 hP' hD' hS => ?_)
    clear hPc hDc hFc
    subst hw9
    obtain ⟨σ_99, eσ_99, hF_100⟩ := bnd_e hF_98
    clear hF_98
    have hP : va_P (dC, dI) vwCl (b_e cB cC cI cJ cZ oA rA σ_99 ++ b_k cB cC cI cJ cZ oA rA σ_99 ++ b_p cB cC cI cJ cZ oA rA σ_99 ++ b_o cB cC cI cJ cZ oA rA σ_99 ++ b_s cB cC cI cJ cZ oA rA σ_99 ++ b_c cB cC cI cJ cZ oA rA σ_99 ++ b_t cB cC cI cJ cZ oA rA σ_99 ++ b_d cB cC cI cJ cZ oA rA σ_99) H := by rw [eσ_99]; exact hP'.sub [0, 1, 2, 3, 4, 5, 6, 7, 8, 42, 43, 44, 45, 46, 47, 48, 49, 9, 10, 11, 12, 13, 14, 15, 16, 17, 18, 19, 20, 21, 22, 23, 24, 25, 26, 27, 28, 29, 30, 31, 32, 33, 34, 35, 36, 37, 38, 39, 40, 41] rfl
    clear hP' hD'
    refine lv_goto (tgt := 25) hx hb dX8_chooseAll_21 (by decide) ?_
    exact Jj_5 u_97.1 σ_99 hF_100 _ _ hP hS ls (lv_sub hl [0] rfl)
theorem dX8_isNamed_0 : decode cX8_isNamed 0 = .ok (.iload_n 2, 1) := by decide +kernel
theorem dX8_isNamed_1 : decode cX8_isNamed 1 = .ok (.istore 4, 2) := by decide +kernel
theorem dX8_isNamed_3 : decode cX8_isNamed 3 = .ok (.iload 4, 2) := by decide +kernel
theorem dX8_isNamed_5 : decode cX8_isNamed 5 = .ok (.iload_n 3, 1) := by decide +kernel
theorem dX8_isNamed_6 : decode cX8_isNamed 6 = .ok (.if_icmp .ge 28, 3) := by decide +kernel
theorem dX8_isNamed_9 : decode cX8_isNamed 9 = .ok (.aload_n 0, 1) := by decide +kernel
theorem dX8_isNamed_10 : decode cX8_isNamed 10 = .ok (.getfield 85, 3) := by decide +kernel
theorem dX8_isNamed_13 : decode cX8_isNamed 13 = .ok (.iload_n 1, 1) := by decide +kernel
theorem dX8_isNamed_14 : decode cX8_isNamed 14 = .ok (.aload_n 0, 1) := by decide +kernel
theorem dX8_isNamed_15 : decode cX8_isNamed 15 = .ok (.iload 4, 2) := by decide +kernel
theorem dX8_isNamed_17 : decode cX8_isNamed 17 = .ok (.invokevirtual 55, 3) := by decide +kernel
theorem dX8_isNamed_20 : decode cX8_isNamed 20 = .ok (.invokevirtual 142, 3) := by decide +kernel
theorem dX8_isNamed_23 : decode cX8_isNamed 23 = .ok (.ifCond .ne 5, 3) := by decide +kernel
theorem dX8_isNamed_26 : decode cX8_isNamed 26 = .ok (.iconst 0, 1) := by decide +kernel
theorem dX8_isNamed_27 : decode cX8_isNamed 27 = .ok (.ireturn, 1) := by decide +kernel
theorem dX8_isNamed_28 : decode cX8_isNamed 28 = .ok (.iinc 4 1, 3) := by decide +kernel
theorem dX8_isNamed_31 : decode cX8_isNamed 31 = .ok (.goto (-28), 3) := by decide +kernel
theorem dX8_isNamed_34 : decode cX8_isNamed 34 = .ok (.iconst 1, 1) := by decide +kernel
theorem dX8_isNamed_35 : decode cX8_isNamed 35 = .ok (.ireturn, 1) := by decide +kernel
def F_X8_isNamed (p0 : Int32) (p1 : Int32) (p2 : Int32) (Γ : HS) : HR :=
  loopF (fun (again_2 : (Int32 × HS) → HR) (s_1 : Int32 × HS) => (
    if p2 ≤ s_1.1 then (
      some (1, s_1.2)
    ) else (
      (F_X8_term s_1.1 s_1.2).bind fun u_8 =>
      (F_X7_owns p0 u_8.1 u_8.2).bind fun u_10 =>
      bnd (mrg (fun j => j == 4 || j == 5 || j == 6 || j == 7) u_8.2 u_10.2) fun σ_12 =>
      if u_10.1 = 0 then (
        some (0, σ_12)
      ) else (
        bnd (s_1.1 + 1) fun (x_17 : Int32) =>
        again_2 (x_17, σ_12)
      )
    )
  )) FU (p1, Γ)
set_option maxHeartbeats 4000000 in
set_option maxRecDepth 100000 in
theorem k_X8_isNamed (l : Launch) (dC : Nat → ClassId) (dI : Nat → Nat → Nat) (cB cC cI cJ cZ cP : ClassId) (oA : Nat → Nat) (rA : Nat → Nat → Nat) (sz : Nat)  (p0 : Int32) (p1 : Int32) (p2 : Int32) (Γ : HS) (res : Int32 × HS) (hF : F_X8_isNamed p0 p1 p2 Γ = some res) : Met l yX8_isNamed (g_ws yX8_isNamed cX8_isNamed 5 (some .boolean)) ({ frames := 4, cells := 0, slots := 0, locals := 105 }) (va_Pc [.ref (oA 11), .int p0, .int p1, .int p2] (g_B (dC, dI) [(cB, .byte), (cC, .char), (cI, .int), (cJ, .long), (cZ, .boolean), (cP, .object "StoryHouse$Play")] sz (b_e cB cC cI cJ cZ oA rA Γ ++ b_k cB cC cI cJ cZ oA rA Γ ++ b_p cB cC cI cJ cZ oA rA Γ ++ b_o cB cC cI cJ cZ oA rA Γ ++ b_s cB cC cI cJ cZ oA rA Γ ++ b_c cB cC cI cJ cZ oA rA Γ ++ b_t cB cC cI cJ cZ oA rA Γ ++ b_d cB cC cI cJ cZ oA rA Γ) g_0)) (va_Qi (fun r (_ : Unit) => r = res.1) (g_Bo (dC, dI) (va_A (b_e cB cC cI cJ cZ oA rA Γ ++ b_k cB cC cI cJ cZ oA rA Γ ++ b_p cB cC cI cJ cZ oA rA Γ ++ b_o cB cC cI cJ cZ oA rA Γ ++ b_s cB cC cI cJ cZ oA rA Γ ++ b_c cB cC cI cJ cZ oA rA Γ ++ b_t cB cC cI cJ cZ oA rA Γ ++ b_d cB cC cI cJ cZ oA rA Γ) sz) (fun (_ : Unit) => (b_e cB cC cI cJ cZ oA rA res.2 ++ b_k cB cC cI cJ cZ oA rA res.2 ++ b_p cB cC cI cJ cZ oA rA res.2 ++ b_o cB cC cI cJ cZ oA rA res.2 ++ b_s cB cC cI cJ cZ oA rA res.2 ++ b_c cB cC cI cJ cZ oA rA res.2 ++ b_t cB cC cI cJ cZ oA rA res.2 ++ b_d cB cC cI cJ cZ oA rA res.2))) (va_A (b_e cB cC cI cJ cZ oA rA Γ ++ b_k cB cC cI cJ cZ oA rA Γ ++ b_p cB cC cI cJ cZ oA rA Γ ++ b_o cB cC cI cJ cZ oA rA Γ ++ b_s cB cC cI cJ cZ oA rA Γ ++ b_c cB cC cI cJ cZ oA rA Γ ++ b_t cB cC cI cJ cZ oA rA Γ ++ b_d cB cC cI cJ cZ oA rA Γ) sz)) 0 0 (va_A (b_e cB cC cI cJ cZ oA rA Γ ++ b_k cB cC cI cJ cZ oA rA Γ ++ b_p cB cC cI cJ cZ oA rA Γ ++ b_o cB cC cI cJ cZ oA rA Γ ++ b_s cB cC cI cJ cZ oA rA Γ ++ b_c cB cC cI cJ cZ oA rA Γ ++ b_t cB cC cI cJ cZ oA rA Γ ++ b_d cB cC cI cJ cZ oA rA Γ) sz) := by
  refine Met.ofW (cc := cX8_isNamed) (maxL := 5) (ret := (some .boolean)) (by decide) rfl ?_
  intro p e s m args below meth c s₁ B hml hv
  obtain ⟨rfl, hsz, hP, hK, hD0, hE, hX⟩ := hv
  have hx := B.exec
  have hb := B.bytes
  have hr := B.returns
  have hts0 := atoms_spec (ws := g_ws yX8_isNamed cX8_isNamed 5 (some .boolean)) B.pre
  have hts : ∀ w ∈ lw_good, w.before ([.ref (oA 11), .int p0, .int p1, .int p2] : List Value).toArray s = true := fun w z => hts0 w (List.mem_cons_of_mem _ z)
  have hown : s.vm.findClass RX8 = some m.cls := findClass_of_methodNamed B.named
  have hlocks := B.notSynchronized
  subst hsz
  have hD1 := hD0.self (sz := s.heap.size)
  generalize hAe : va_A (b_e cB cC cI cJ cZ oA rA Γ ++ b_k cB cC cI cJ cZ oA rA Γ ++ b_p cB cC cI cJ cZ oA rA Γ ++ b_o cB cC cI cJ cZ oA rA Γ ++ b_s cB cC cI cJ cZ oA rA Γ ++ b_c cB cC cI cJ cZ oA rA Γ ++ b_t cB cC cI cJ cZ oA rA Γ ++ b_d cB cC cI cJ cZ oA rA Γ) s.heap.size = A at hD1 hE hX ⊢
  have hA : ∀ q : Nat, s.heap.size ≤ q → A q := fun q z => by rw [← hAe]; exact Or.inr z
  have hDD : ∀ Γ : HS, va_D A (b_e cB cC cI cJ cZ oA rA Γ ++ b_k cB cC cI cJ cZ oA rA Γ ++ b_p cB cC cI cJ cZ oA rA Γ ++ b_o cB cC cI cJ cZ oA rA Γ ++ b_s cB cC cI cJ cZ oA rA Γ ++ b_c cB cC cI cJ cZ oA rA Γ ++ b_t cB cC cI cJ cZ oA rA Γ ++ b_d cB cC cI cJ cZ oA rA Γ) := fun Γ9 => va_D_fst (ws := (b_e cB cC cI cJ cZ oA rA Γ ++ b_k cB cC cI cJ cZ oA rA Γ ++ b_p cB cC cI cJ cZ oA rA Γ ++ b_o cB cC cI cJ cZ oA rA Γ ++ b_s cB cC cI cJ cZ oA rA Γ ++ b_c cB cC cI cJ cZ oA rA Γ ++ b_t cB cC cI cJ cZ oA rA Γ ++ b_d cB cC cI cJ cZ oA rA Γ)) (ws' := (b_e cB cC cI cJ cZ oA rA Γ9 ++ b_k cB cC cI cJ cZ oA rA Γ9 ++ b_p cB cC cI cJ cZ oA rA Γ9 ++ b_o cB cC cI cJ cZ oA rA Γ9 ++ b_s cB cC cI cJ cZ oA rA Γ9 ++ b_c cB cC cI cJ cZ oA rA Γ9 ++ b_t cB cC cI cJ cZ oA rA Γ9 ++ b_d cB cC cI cJ cZ oA rA Γ9)) rfl hD1
  have hN := hE.1
  have hS : va_S A s.heap s.heap [] := va_S.rf
  have hl := lv_entry ([.ref (oA 11), .int p0, .int p1, .int p2]) (n := 5) (Nat.le_of_ble_eq_true rfl)
  rw [lg_entry_eq]
  generalize (lg_sl ([.ref (oA 11), .int p0, .int p1, .int p2]) ++ List.replicate (5 - (lg_sl ([.ref (oA 11), .int p0, .int p1, .int p2])).length) Slot.unset).toArray = ls at hl ⊢
  have hl : lv_has ls 5 [(0, .ref (oA 11)), (1, .int p0), (2, .int p1), (3, .int p2)] := hl
  unfold F_X8_isNamed at hF
  refine lv_iload_n hx hb dX8_isNamed_0 rfl (lv_at hl 2 rfl) ?_
  refine lv_istore (lv' := [(4, .int p1), (0, .ref (oA 11)), (1, .int p0), (2, .int p1), (3, .int p2)]) hx hb dX8_isNamed_1 hl (by decide) rfl (fun ls hl => ?_)
  refine loopF_ind (P := fun (s_1 : Int32 × HS) => ∀ (H : Heap) (locs : List Loc), va_P (dC, dI) vwCl (b_e cB cC cI cJ cZ oA rA s_1.2 ++ b_k cB cC cI cJ cZ oA rA s_1.2 ++ b_p cB cC cI cJ cZ oA rA s_1.2 ++ b_o cB cC cI cJ cZ oA rA s_1.2 ++ b_s cB cC cI cJ cZ oA rA s_1.2 ++ b_c cB cC cI cJ cZ oA rA s_1.2 ++ b_t cB cC cI cJ cZ oA rA s_1.2 ++ b_d cB cC cI cJ cZ oA rA s_1.2) H → va_S A s.heap H locs → ∀ ls : Array Slot, lv_has ls 5 [(0, .ref (oA 11)), (1, .int p0), (3, .int p2), (4, .int s_1.1)] → W p l e (headSpec (g_ws yX8_isNamed cX8_isNamed 5 (some .boolean)) { frames := 4, cells := 0, slots := 0, locals := 105 }).room s m ([.ref (oA 11), .int p0, .int p1, .int p2] : List Value).toArray below meth c H locs 0 0 (MQ below (va_Qi (fun r (_ : Unit) => r = res.1) (g_Bo (dC, dI) A (fun (_ : Unit) => (b_e cB cC cI cJ cZ oA rA res.2 ++ b_k cB cC cI cJ cZ oA rA res.2 ++ b_p cB cC cI cJ cZ oA rA res.2 ++ b_o cB cC cI cJ cZ oA rA res.2 ++ b_s cB cC cI cJ cZ oA rA res.2 ++ b_c cB cC cI cJ cZ oA rA res.2 ++ b_t cB cC cI cJ cZ oA rA res.2 ++ b_d cB cC cI cJ cZ oA rA res.2))) A) ([.ref (oA 11), .int p0, .int p1, .int p2] : List Value).toArray s 0 0 A) (F0 m 3 ls [])) ?_ _ _ hF _ _ hP hS ls (lv_sub hl [1, 2, 4, 0] rfl)
  intro again_2 s_1 ih_3 hF_4
  intro H locs hP hS ls hl
  refine lv_iload hx hb dX8_isNamed_3 (lv_at hl 3 rfl) ?_
  refine lv_iload_n hx hb dX8_isNamed_5 rfl (lv_at hl 2 rfl) ?_
  refine lv_icmp_ge (tgt := 34) hx hb dX8_isNamed_6 (by decide) (fun c_5 => ?_) (fun c_5 => ?_)
  · have hF_6 := ipos c_5 hF_4
    clear hF_4
    refine lv_iconst (v := 1) hx hb dX8_isNamed_34 (by decide +kernel) ?_
    have h9 := Option.some.inj hF_6
    subst h9
    exact W.zret (v := 1) hx hb hr (by decide +kernel) (fun t ht hW => ⟨⟨1, (), rfl, rfl, m_end ht hP, hDD _⟩, hS.F ht⟩) hS.2.2 dX8_isNamed_35
  · have hF_7 := ineg c_5 hF_4
    clear hF_4
    refine lv_aload_n hx hb dX8_isNamed_9 rfl (lv_at hl 0 rfl) ?_
    refine va_get (D := (dC, dI)) (ci := 8) (v := .ref (oA 4)) (C := RX8) (T := TX8) (N := 16) hx hb hts ii_X8 hown hK hP 0 rfl rfl 3 (by decide) (hts (.fieldLink RX8 85 "StoryHouse$Teller" "story" "LStoryHouse$Story;") wq_290) (fun _ h9 => h9) rfl dX8_isNamed_10 ?_
    refine lv_iload_n hx hb dX8_isNamed_13 rfl (lv_at hl 1 rfl) ?_
    refine lv_aload_n hx hb dX8_isNamed_14 rfl (lv_at hl 0 rfl) ?_
    refine lv_iload hx hb dX8_isNamed_15 (lv_at hl 3 rfl) ?_
    obtain ⟨u_8, hu_8, hF_9⟩ := Option.bind_eq_some_iff.mp hF_7
    clear hF_7
    have hPc := hP.sub (ws' := (b_e cB cC cI cJ cZ oA rA s_1.2 ++ b_k cB cC cI cJ cZ oA rA s_1.2 ++ b_p cB cC cI cJ cZ oA rA s_1.2 ++ b_o cB cC cI cJ cZ oA rA s_1.2 ++ b_s cB cC cI cJ cZ oA rA s_1.2 ++ b_c cB cC cI cJ cZ oA rA s_1.2 ++ b_t cB cC cI cJ cZ oA rA s_1.2 ++ b_d cB cC cI cJ cZ oA rA s_1.2)) [0, 1, 2, 3, 4, 5, 6, 7, 8, 9, 10, 11, 12, 13, 14, 15, 16, 17, 18, 19, 20, 21, 22, 23, 24, 25, 26, 27, 28, 29, 30, 31, 32, 33, 34, 35, 36, 37, 38, 39, 40, 41, 42, 43, 44, 45, 46, 47, 48, 49] rfl
    have hDc := (hDD s_1.2).sub (ws' := (b_e cB cC cI cJ cZ oA rA s_1.2 ++ b_k cB cC cI cJ cZ oA rA s_1.2 ++ b_p cB cC cI cJ cZ oA rA s_1.2 ++ b_o cB cC cI cJ cZ oA rA s_1.2 ++ b_s cB cC cI cJ cZ oA rA s_1.2 ++ b_c cB cC cI cJ cZ oA rA s_1.2 ++ b_t cB cC cI cJ cZ oA rA s_1.2 ++ b_d cB cC cI cJ cZ oA rA s_1.2)) [0, 1, 2, 3, 4, 5, 6, 7, 8, 9, 10, 11, 12, 13, 14, 15, 16, 17, 18, 19, 20, 21, 22, 23, 24, 25, 26, 27, 28, 29, 30, 31, 32, 33, 34, 35, 36, 37, 38, 39, 40, 41, 42, 43, 44, 45, 46, 47, 48, 49] (by decide +kernel) rfl
    have hFc := va_free (wc := (b_e cB cC cI cJ cZ oA rA s_1.2 ++ b_k cB cC cI cJ cZ oA rA s_1.2 ++ b_p cB cC cI cJ cZ oA rA s_1.2 ++ b_o cB cC cI cJ cZ oA rA s_1.2 ++ b_s cB cC cI cJ cZ oA rA s_1.2 ++ b_c cB cC cI cJ cZ oA rA s_1.2 ++ b_t cB cC cI cJ cZ oA rA s_1.2 ++ b_d cB cC cI cJ cZ oA rA s_1.2)) (hDD s_1.2) hS hA [0, 1, 2, 3, 4, 5, 6, 7, 8, 9, 10, 11, 12, 13, 14, 15, 16, 17, 18, 19, 20, 21, 22, 23, 24, 25, 26, 27, 28, 29, 30, 31, 32, 33, 34, 35, 36, 37, 38, 39, 40, 41, 42, 43, 44, 45, 46, 47, 48, 49] rfl
    refine g_ofi (wc := (b_e cB cC cI cJ cZ oA rA s_1.2 ++ b_k cB cC cI cJ cZ oA rA s_1.2 ++ b_p cB cC cI cJ cZ oA rA s_1.2 ++ b_o cB cC cI cJ cZ oA rA s_1.2 ++ b_s cB cC cI cJ cZ oA rA s_1.2 ++ b_c cB cC cI cJ cZ oA rA s_1.2 ++ b_t cB cC cI cJ cZ oA rA s_1.2 ++ b_d cB cC cI cJ cZ oA rA s_1.2)) (wr := ([] : va_W)) hP (hDD s_1.2) hS hFc [0, 1, 2, 3, 4, 5, 6, 7, 8, 9, 10, 11, 12, 13, 14, 15, 16, 17, 18, 19, 20, 21, 22, 23, 24, 25, 26, 27, 28, 29, 30, 31, 32, 33, 34, 35, 36, 37, 38, 39, 40, 41, 42, 43, 44, 45, 46, 47, 48, 49] [] rfl rfl (by decide +kernel) (by decide +kernel) (va_runV (As := [.int s_1.1]) (rest := [.int p0, .ref (oA 4)]) ⟨hx, hb, hml, hown, hts⟩ (k_X8_term l dC dI cB cC cI cJ cZ cP oA rA H.size  s_1.1 s_1.2 _ hu_8) (cwV 1 hts (g_gV wq_1065 wq_1066 wq_2074 wq_12 wq_1067) rfl rfl rfl (by decide +kernel) ⟨Nat.le_of_ble_eq_true rfl, Nat.le_of_ble_eq_true rfl⟩) (g_preV g_bl0 hK hPc hDc hS hE hFc g_to0 (q0 := 0) (ci := 8) rfl rfl) rfl rfl hl.1 rfl (lv_room (Nat.le_of_ble_eq_true rfl)) dX8_isNamed_17 ⟨Nat.le_of_ble_eq_true rfl, Nat.le_of_ble_eq_true rfl⟩) (fun r9 u9 H locs hw9 hP' hD' hS => ?_)
    clear hPc hDc hFc
    subst hw9
    have hP : va_P (dC, dI) vwCl (b_e cB cC cI cJ cZ oA rA u_8.2 ++ b_k cB cC cI cJ cZ oA rA u_8.2 ++ b_p cB cC cI cJ cZ oA rA u_8.2 ++ b_o cB cC cI cJ cZ oA rA u_8.2 ++ b_s cB cC cI cJ cZ oA rA u_8.2 ++ b_c cB cC cI cJ cZ oA rA u_8.2 ++ b_t cB cC cI cJ cZ oA rA u_8.2 ++ b_d cB cC cI cJ cZ oA rA u_8.2) H := hP'
    clear hP' hD'
    obtain ⟨u_10, hu_10, hF_11⟩ := Option.bind_eq_some_iff.mp hF_9
    clear hF_9
    have hPc := hP.sub (ws' := (b_s cB cC cI cJ cZ oA rA u_8.2 ++ b_c cB cC cI cJ cZ oA rA u_8.2 ++ b_t cB cC cI cJ cZ oA rA u_8.2 ++ b_d cB cC cI cJ cZ oA rA u_8.2)) [19, 20, 21, 22, 23, 24, 25, 26, 27, 28, 29, 30, 31, 32, 33, 34, 35, 36, 37, 38, 39, 40, 41, 42, 43, 44, 45, 46, 47, 48, 49] rfl
    have hDc := (hDD u_8.2).sub (ws' := (b_s cB cC cI cJ cZ oA rA u_8.2 ++ b_c cB cC cI cJ cZ oA rA u_8.2 ++ b_t cB cC cI cJ cZ oA rA u_8.2 ++ b_d cB cC cI cJ cZ oA rA u_8.2)) [19, 20, 21, 22, 23, 24, 25, 26, 27, 28, 29, 30, 31, 32, 33, 34, 35, 36, 37, 38, 39, 40, 41, 42, 43, 44, 45, 46, 47, 48, 49] (by decide +kernel) rfl
    have hFc := va_free (wc := (b_s cB cC cI cJ cZ oA rA u_8.2 ++ b_c cB cC cI cJ cZ oA rA u_8.2 ++ b_t cB cC cI cJ cZ oA rA u_8.2 ++ b_d cB cC cI cJ cZ oA rA u_8.2)) (hDD u_8.2) hS hA [19, 20, 21, 22, 23, 24, 25, 26, 27, 28, 29, 30, 31, 32, 33, 34, 35, 36, 37, 38, 39, 40, 41, 42, 43, 44, 45, 46, 47, 48, 49] rfl
    refine g_ofi (wc := (b_s cB cC cI cJ cZ oA rA u_8.2 ++ b_c cB cC cI cJ cZ oA rA u_8.2 ++ b_t cB cC cI cJ cZ oA rA u_8.2 ++ b_d cB cC cI cJ cZ oA rA u_8.2)) (wr := (b_e cB cC cI cJ cZ oA rA u_8.2 ++ b_k cB cC cI cJ cZ oA rA u_8.2 ++ b_p cB cC cI cJ cZ oA rA u_8.2 ++ b_o cB cC cI cJ cZ oA rA u_8.2)) hP (hDD u_8.2) hS hFc [19, 20, 21, 22, 23, 24, 25, 26, 27, 28, 29, 30, 31, 32, 33, 34, 35, 36, 37, 38, 39, 40, 41, 42, 43, 44, 45, 46, 47, 48, 49] [0, 1, 2, 3, 4, 5, 6, 7, 8, 9, 10, 11, 12, 13, 14, 15, 16, 17, 18] rfl rfl (by decide +kernel) (by decide +kernel) (va_runV (As := [.int p0, .int u_8.1]) (rest := []) ⟨hx, hb, hml, hown, hts⟩ (k_X7_owns l dC dI cB cC cI cJ cZ cP oA rA H.size  p0 u_8.1 u_8.2 _ hu_10) (cwV 2 hts (g_gV wq_1078 wq_1079 wq_1080 wq_5 wq_1081) rfl rfl rfl (by decide +kernel) ⟨Nat.le_of_ble_eq_true rfl, Nat.le_of_ble_eq_true rfl⟩) (g_preV g_bl0 hK hPc hDc hS hE hFc g_to0 (q0 := 0) (ci := 7) rfl rfl) rfl rfl hl.1 rfl (lv_room (Nat.le_of_ble_eq_true rfl)) dX8_isNamed_20 ⟨Nat.le_of_ble_eq_true rfl, Nat.le_of_ble_eq_true rfl⟩) (fun r9 u9 H locs hw9 hP' hD' hS => ?_)
    clear hPc hDc hFc
    subst hw9
    obtain ⟨σ_12, eσ_12, hF_13⟩ := bnd_e hF_11
    clear hF_11
    have hP : va_P (dC, dI) vwCl (b_e cB cC cI cJ cZ oA rA σ_12 ++ b_k cB cC cI cJ cZ oA rA σ_12 ++ b_p cB cC cI cJ cZ oA rA σ_12 ++ b_o cB cC cI cJ cZ oA rA σ_12 ++ b_s cB cC cI cJ cZ oA rA σ_12 ++ b_c cB cC cI cJ cZ oA rA σ_12 ++ b_t cB cC cI cJ cZ oA rA σ_12 ++ b_d cB cC cI cJ cZ oA rA σ_12) H := by rw [eσ_12]; exact hP'.sub [0, 1, 2, 3, 4, 5, 6, 7, 8, 9, 10, 11, 12, 13, 14, 15, 16, 17, 18, 19, 20, 21, 22, 23, 24, 25, 26, 27, 28, 29, 30, 31, 32, 33, 34, 35, 36, 37, 38, 39, 40, 41, 42, 43, 44, 45, 46, 47, 48, 49] rfl
    clear hP' hD'
    refine lv_if_ne (tgt := 28) hx hb dX8_isNamed_23 (by decide) (fun c_14 => ?_) (fun c_14 => ?_)
    · have hF_16 := ineg c_14 hF_13
      clear hF_13
      obtain ⟨x_17, ex_17, hF_18⟩ := bnd_e hF_16
      clear hF_16
      refine lv_iinc (v := x_17) (lv' := [(4, .int x_17), (0, .ref (oA 11)), (1, .int p0), (3, .int p2)]) hx hb dX8_isNamed_28 hl (k := 3) rfl (by rw [ex_17]; rfl) (by decide) rfl (fun ls hl => ?_)
      refine lv_goto (tgt := 3) hx hb dX8_isNamed_31 (by decide) ?_
      exact ih_3 (x_17, σ_12) hF_18 _ _ hP hS ls (lv_sub hl [1, 2, 3, 0] rfl)
    · have hF_15 := ipos c_14 hF_13
      clear hF_13
      refine lv_iconst (v := 0) hx hb dX8_isNamed_26 (by decide +kernel) ?_
      have h9 := Option.some.inj hF_15
      subst h9
      exact W.zret (v := 0) hx hb hr (by decide +kernel) (fun t ht hW => ⟨⟨0, (), rfl, rfl, m_end ht hP, hDD _⟩, hS.F ht⟩) hS.2.2 dX8_isNamed_27
theorem dX8_nounOf_0 : decode cX8_nounOf 0 = .ok (.aload_n 0, 1) := by decide +kernel
theorem dX8_nounOf_1 : decode cX8_nounOf 1 = .ok (.getfield 22, 3) := by decide +kernel
theorem dX8_nounOf_4 : decode cX8_nounOf 4 = .ok (.invokevirtual 171, 3) := by decide +kernel
theorem dX8_nounOf_7 : decode cX8_nounOf 7 = .ok (.istore_n 3, 1) := by decide +kernel
theorem dX8_nounOf_8 : decode cX8_nounOf 8 = .ok (.iconst 0, 1) := by decide +kernel
theorem dX8_nounOf_9 : decode cX8_nounOf 9 = .ok (.istore 4, 2) := by decide +kernel
theorem dX8_nounOf_11 : decode cX8_nounOf 11 = .ok (.iload_n 2, 1) := by decide +kernel
theorem dX8_nounOf_12 : decode cX8_nounOf 12 = .ok (.iload_n 1, 1) := by decide +kernel
theorem dX8_nounOf_13 : decode cX8_nounOf 13 = .ok (.isub, 1) := by decide +kernel
theorem dX8_nounOf_14 : decode cX8_nounOf 14 = .ok (.iconst 1, 1) := by decide +kernel
theorem dX8_nounOf_15 : decode cX8_nounOf 15 = .ok (.if_icmp .ne 56, 3) := by decide +kernel
theorem dX8_nounOf_18 : decode cX8_nounOf 18 = .ok (.aload_n 0, 1) := by decide +kernel
theorem dX8_nounOf_19 : decode cX8_nounOf 19 = .ok (.iload_n 1, 1) := by decide +kernel
theorem dX8_nounOf_20 : decode cX8_nounOf 20 = .ok (.invokevirtual 55, 3) := by decide +kernel
theorem dX8_nounOf_23 : decode cX8_nounOf 23 = .ok (.iconst 2, 1) := by decide +kernel
theorem dX8_nounOf_24 : decode cX8_nounOf 24 = .ok (.if_icmp .ne 47, 3) := by decide +kernel
theorem dX8_nounOf_27 : decode cX8_nounOf 27 = .ok (.aload_n 0, 1) := by decide +kernel
theorem dX8_nounOf_28 : decode cX8_nounOf 28 = .ok (.getfield 22, 3) := by decide +kernel
theorem dX8_nounOf_31 : decode cX8_nounOf 31 = .ok (.getfield 174, 3) := by decide +kernel
theorem dX8_nounOf_34 : decode cX8_nounOf 34 = .ok (.ifCond .eq 31, 3) := by decide +kernel
theorem dX8_nounOf_37 : decode cX8_nounOf 37 = .ok (.aload_n 0, 1) := by decide +kernel
theorem dX8_nounOf_38 : decode cX8_nounOf 38 = .ok (.getfield 22, 3) := by decide +kernel
theorem dX8_nounOf_41 : decode cX8_nounOf 41 = .ok (.aload_n 0, 1) := by decide +kernel
theorem dX8_nounOf_42 : decode cX8_nounOf 42 = .ok (.getfield 22, 3) := by decide +kernel
theorem dX8_nounOf_45 : decode cX8_nounOf 45 = .ok (.getfield 174, 3) := by decide +kernel
theorem dX8_nounOf_48 : decode cX8_nounOf 48 = .ok (.iload_n 3, 1) := by decide +kernel
theorem dX8_nounOf_49 : decode cX8_nounOf 49 = .ok (.invokevirtual 177, 3) := by decide +kernel
theorem dX8_nounOf_52 : decode cX8_nounOf 52 = .ok (.ifCond .eq 13, 3) := by decide +kernel
theorem dX8_nounOf_55 : decode cX8_nounOf 55 = .ok (.aload_n 0, 1) := by decide +kernel
theorem dX8_nounOf_56 : decode cX8_nounOf 56 = .ok (.getfield 22, 3) := by decide +kernel
theorem dX8_nounOf_59 : decode cX8_nounOf 59 = .ok (.getfield 174, 3) := by decide +kernel
theorem dX8_nounOf_62 : decode cX8_nounOf 62 = .ok (.goto 4, 3) := by decide +kernel
theorem dX8_nounOf_65 : decode cX8_nounOf 65 = .ok (.iconst 0, 1) := by decide +kernel
theorem dX8_nounOf_66 : decode cX8_nounOf 66 = .ok (.istore 4, 2) := by decide +kernel
theorem dX8_nounOf_68 : decode cX8_nounOf 68 = .ok (.goto 75, 3) := by decide +kernel
theorem dX8_nounOf_71 : decode cX8_nounOf 71 = .ok (.iconst 1, 1) := by decide +kernel
theorem dX8_nounOf_72 : decode cX8_nounOf 72 = .ok (.istore 5, 2) := by decide +kernel
theorem dX8_nounOf_74 : decode cX8_nounOf 74 = .ok (.iload 5, 2) := by decide +kernel
theorem dX8_nounOf_76 : decode cX8_nounOf 76 = .ok (.bipush 120, 2) := by decide +kernel
theorem dX8_nounOf_78 : decode cX8_nounOf 78 = .ok (.if_icmp .gt 65, 3) := by decide +kernel
theorem dX8_nounOf_81 : decode cX8_nounOf 81 = .ok (.aload_n 0, 1) := by decide +kernel
theorem dX8_nounOf_82 : decode cX8_nounOf 82 = .ok (.getfield 85, 3) := by decide +kernel
theorem dX8_nounOf_85 : decode cX8_nounOf 85 = .ok (.iload 5, 2) := by decide +kernel
theorem dX8_nounOf_87 : decode cX8_nounOf 87 = .ok (.invokevirtual 181, 3) := by decide +kernel
theorem dX8_nounOf_90 : decode cX8_nounOf 90 = .ok (.ifCond .eq 53, 3) := by decide +kernel
theorem dX8_nounOf_93 : decode cX8_nounOf 93 = .ok (.aload_n 0, 1) := by decide +kernel
theorem dX8_nounOf_94 : decode cX8_nounOf 94 = .ok (.iload 5, 2) := by decide +kernel
theorem dX8_nounOf_96 : decode cX8_nounOf 96 = .ok (.iload_n 1, 1) := by decide +kernel
theorem dX8_nounOf_97 : decode cX8_nounOf 97 = .ok (.iload_n 2, 1) := by decide +kernel
theorem dX8_nounOf_98 : decode cX8_nounOf 98 = .ok (.invokevirtual 184, 3) := by decide +kernel
theorem dX8_nounOf_101 : decode cX8_nounOf 101 = .ok (.ifCond .eq 36, 3) := by decide +kernel
theorem dX8_nounOf_104 : decode cX8_nounOf 104 = .ok (.aload_n 0, 1) := by decide +kernel
theorem dX8_nounOf_105 : decode cX8_nounOf 105 = .ok (.getfield 22, 3) := by decide +kernel
theorem dX8_nounOf_108 : decode cX8_nounOf 108 = .ok (.iload 5, 2) := by decide +kernel
theorem dX8_nounOf_110 : decode cX8_nounOf 110 = .ok (.iload_n 3, 1) := by decide +kernel
theorem dX8_nounOf_111 : decode cX8_nounOf 111 = .ok (.invokevirtual 177, 3) := by decide +kernel
theorem dX8_nounOf_114 : decode cX8_nounOf 114 = .ok (.ifCond .eq 23, 3) := by decide +kernel
theorem dX8_nounOf_117 : decode cX8_nounOf 117 = .ok (.iload 4, 2) := by decide +kernel
theorem dX8_nounOf_119 : decode cX8_nounOf 119 = .ok (.ifCond .eq 14, 3) := by decide +kernel
theorem dX8_nounOf_122 : decode cX8_nounOf 122 = .ok (.aload_n 0, 1) := by decide +kernel
theorem dX8_nounOf_123 : decode cX8_nounOf 123 = .ok (.getfield 26, 3) := by decide +kernel
theorem dX8_nounOf_126 : decode cX8_nounOf 126 = .ok (.ldc 188, 2) := by decide +kernel
theorem dX8_nounOf_128 : decode cX8_nounOf 128 = .ok (.invokevirtual 65, 3) := by decide +kernel
theorem dX8_nounOf_131 : decode cX8_nounOf 131 = .ok (.iconst 0, 1) := by decide +kernel
theorem dX8_nounOf_132 : decode cX8_nounOf 132 = .ok (.ireturn, 1) := by decide +kernel
theorem dX8_nounOf_133 : decode cX8_nounOf 133 = .ok (.iload 5, 2) := by decide +kernel
theorem dX8_nounOf_135 : decode cX8_nounOf 135 = .ok (.istore 4, 2) := by decide +kernel
theorem dX8_nounOf_137 : decode cX8_nounOf 137 = .ok (.iinc 5 1, 3) := by decide +kernel
theorem dX8_nounOf_140 : decode cX8_nounOf 140 = .ok (.goto (-66), 3) := by decide +kernel
theorem dX8_nounOf_143 : decode cX8_nounOf 143 = .ok (.iload 4, 2) := by decide +kernel
theorem dX8_nounOf_145 : decode cX8_nounOf 145 = .ok (.ifCond .ne 12, 3) := by decide +kernel
theorem dX8_nounOf_148 : decode cX8_nounOf 148 = .ok (.aload_n 0, 1) := by decide +kernel
theorem dX8_nounOf_149 : decode cX8_nounOf 149 = .ok (.getfield 26, 3) := by decide +kernel
theorem dX8_nounOf_152 : decode cX8_nounOf 152 = .ok (.ldc 190, 2) := by decide +kernel
theorem dX8_nounOf_154 : decode cX8_nounOf 154 = .ok (.invokevirtual 65, 3) := by decide +kernel
theorem dX8_nounOf_157 : decode cX8_nounOf 157 = .ok (.iload 4, 2) := by decide +kernel
theorem dX8_nounOf_159 : decode cX8_nounOf 159 = .ok (.ireturn, 1) := by decide +kernel
def F_X8_nounOf (p0 : Int32) (p1 : Int32) (Γ : HS) : HR :=
  (F_X6_isLight Γ).bind fun u_1 =>
  bnd (mrg (fun j => j == 9) Γ u_1.2) fun σ_3 =>
  bnd (fun (v4_5 : Int32) (σ_6 : HS) => (
    if v4_5 = 0 then (
      (F_X5_line ([89, 111, 117, 32, 115, 101, 101, 32, 110, 111, 32, 115, 117, 99, 104, 32, 116, 104, 105, 110, 103, 46] : List Int32) σ_6).bind fun u_13 =>
      bnd (mrg (fun j => j == 8) σ_6 u_13.2) fun σ_15 =>
      some (v4_5, σ_15)
    ) else (
      some (v4_5, σ_6)
    )
  ) : Int32 → HS → HR) fun j_7 =>
  bnd (fun  (σ_18 : HS) => (
    loopF (fun (again_23 : (Int32 × Int32 × HS) → HR) (s_22 : Int32 × Int32 × HS) => (
      if 120 < s_22.2.1 then (
        j_7 s_22.1 s_22.2.2
      ) else (
        (F_X7_isObject s_22.2.1 s_22.2.2).bind fun u_29 =>
        bnd (mrg (fun j => j == 4 || j == 5 || j == 6 || j == 7) s_22.2.2 u_29.2) fun σ_31 =>
        if u_29.1 = 0 then (
          j_7 s_22.1 σ_31
        ) else (
          (F_X8_isNamed s_22.2.1 p0 p1 σ_31).bind fun u_36 =>
          bnd (fun (v4_38 : Int32) (σ_39 : HS) => (
            bnd (s_22.2.1 + 1) fun (x_43 : Int32) =>
            again_23 (v4_38, x_43, σ_39)
          ) : Int32 → HS → HR) fun j_40 =>
          if u_36.1 = 0 then (
            j_40 s_22.1 u_36.2
          ) else (
            (F_X6_isInScope s_22.2.1 u_1.1 u_36.2).bind fun u_48 =>
            bnd (mrg (fun j => j == 9) u_36.2 u_48.2) fun σ_50 =>
            if u_48.1 = 0 then (
              j_40 s_22.1 σ_50
            ) else (
              if s_22.1 = 0 then (
                j_40 s_22.2.1 σ_50
              ) else (
                (F_X5_line ([87, 104, 105, 99, 104, 32, 111, 110, 101, 32, 100, 111, 32, 121, 111, 117, 32, 109, 101, 97, 110, 63] : List Int32) σ_50).bind fun u_59 =>
                bnd (mrg (fun j => j == 8) σ_50 u_59.2) fun σ_61 =>
                some (0, σ_61)
              )
            )
          )
        )
      )
    )) FU (0, 1, σ_18)
  ) : HS → HR) fun j_19 =>
  if (p1 - p0) = 1 then (
    (F_X8_term p0 σ_3).bind fun u_65 =>
    if u_65.1 = 2 then (
      bnd (fun (t_69 : Int32) (σ_70 : HS) => (
        j_7 t_69 σ_70
      ) : Int32 → HS → HR) fun j_71 =>
      bnd (fun  (σ_74 : HS) => (
        j_71 0 σ_74
      ) : HS → HR) fun j_75 =>
      if ((u_65.2 9).1 11) = 0 then (
        j_75  u_65.2
      ) else (
        (F_X6_isInScope ((u_65.2 9).1 11) u_1.1 u_65.2).bind fun u_81 =>
        bnd (mrg (fun j => j == 9) u_65.2 u_81.2) fun σ_83 =>
        if u_81.1 = 0 then (
          j_75  σ_83
        ) else (
          j_71 ((σ_83 9).1 11) σ_83
        )
      )
    ) else (
      j_19  u_65.2
    )
  ) else (
    j_19  σ_3
  )
set_option maxHeartbeats 4000000 in
set_option maxRecDepth 100000 in
theorem k_X8_nounOf (l : Launch) (dC : Nat → ClassId) (dI : Nat → Nat → Nat) (cB cC cI cJ cZ cP : ClassId) (oA : Nat → Nat) (rA : Nat → Nat → Nat) (sz : Nat)  (p0 : Int32) (p1 : Int32) (Γ : HS) (res : Int32 × HS) (hF : F_X8_nounOf p0 p1 Γ = some res) : Met l yX8_nounOf (g_ws yX8_nounOf cX8_nounOf 6 (some .int)) ({ frames := 7, cells := 0, slots := 0, locals := 168 }) (va_Pc [.ref (oA 11), .int p0, .int p1] (g_B (dC, dI) [(cB, .byte), (cC, .char), (cI, .int), (cJ, .long), (cZ, .boolean), (cP, .object "StoryHouse$Play")] sz (b_e cB cC cI cJ cZ oA rA Γ ++ b_k cB cC cI cJ cZ oA rA Γ ++ b_p cB cC cI cJ cZ oA rA Γ ++ b_o cB cC cI cJ cZ oA rA Γ ++ b_s cB cC cI cJ cZ oA rA Γ ++ b_c cB cC cI cJ cZ oA rA Γ ++ b_t cB cC cI cJ cZ oA rA Γ ++ b_d cB cC cI cJ cZ oA rA Γ) g_0)) (va_Qi (fun r (_ : Unit) => r = res.1) (g_Bo (dC, dI) (va_A (b_e cB cC cI cJ cZ oA rA Γ ++ b_k cB cC cI cJ cZ oA rA Γ ++ b_p cB cC cI cJ cZ oA rA Γ ++ b_o cB cC cI cJ cZ oA rA Γ ++ b_s cB cC cI cJ cZ oA rA Γ ++ b_c cB cC cI cJ cZ oA rA Γ ++ b_t cB cC cI cJ cZ oA rA Γ ++ b_d cB cC cI cJ cZ oA rA Γ) sz) (fun (_ : Unit) => (b_e cB cC cI cJ cZ oA rA res.2 ++ b_k cB cC cI cJ cZ oA rA res.2 ++ b_p cB cC cI cJ cZ oA rA res.2 ++ b_o cB cC cI cJ cZ oA rA res.2 ++ b_s cB cC cI cJ cZ oA rA res.2 ++ b_c cB cC cI cJ cZ oA rA res.2 ++ b_t cB cC cI cJ cZ oA rA res.2 ++ b_d cB cC cI cJ cZ oA rA res.2))) (va_A (b_e cB cC cI cJ cZ oA rA Γ ++ b_k cB cC cI cJ cZ oA rA Γ ++ b_p cB cC cI cJ cZ oA rA Γ ++ b_o cB cC cI cJ cZ oA rA Γ ++ b_s cB cC cI cJ cZ oA rA Γ ++ b_c cB cC cI cJ cZ oA rA Γ ++ b_t cB cC cI cJ cZ oA rA Γ ++ b_d cB cC cI cJ cZ oA rA Γ) sz)) 0 0 (va_A (b_e cB cC cI cJ cZ oA rA Γ ++ b_k cB cC cI cJ cZ oA rA Γ ++ b_p cB cC cI cJ cZ oA rA Γ ++ b_o cB cC cI cJ cZ oA rA Γ ++ b_s cB cC cI cJ cZ oA rA Γ ++ b_c cB cC cI cJ cZ oA rA Γ ++ b_t cB cC cI cJ cZ oA rA Γ ++ b_d cB cC cI cJ cZ oA rA Γ) sz) := by
  refine Met.ofW (cc := cX8_nounOf) (maxL := 6) (ret := (some .int)) (by decide) rfl ?_
  intro p e s m args below meth c s₁ B hml hv
  obtain ⟨rfl, hsz, hP, hK, hD0, hE, hX⟩ := hv
  have hx := B.exec
  have hb := B.bytes
  have hr := B.returns
  have hts0 := atoms_spec (ws := g_ws yX8_nounOf cX8_nounOf 6 (some .int)) B.pre
  have hts : ∀ w ∈ lw_good, w.before ([.ref (oA 11), .int p0, .int p1] : List Value).toArray s = true := fun w z => hts0 w (List.mem_cons_of_mem _ z)
  have hown : s.vm.findClass RX8 = some m.cls := findClass_of_methodNamed B.named
  have hlocks := B.notSynchronized
  subst hsz
  have hD1 := hD0.self (sz := s.heap.size)
  generalize hAe : va_A (b_e cB cC cI cJ cZ oA rA Γ ++ b_k cB cC cI cJ cZ oA rA Γ ++ b_p cB cC cI cJ cZ oA rA Γ ++ b_o cB cC cI cJ cZ oA rA Γ ++ b_s cB cC cI cJ cZ oA rA Γ ++ b_c cB cC cI cJ cZ oA rA Γ ++ b_t cB cC cI cJ cZ oA rA Γ ++ b_d cB cC cI cJ cZ oA rA Γ) s.heap.size = A at hD1 hE hX ⊢
  have hA : ∀ q : Nat, s.heap.size ≤ q → A q := fun q z => by rw [← hAe]; exact Or.inr z
  have hDD : ∀ Γ : HS, va_D A (b_e cB cC cI cJ cZ oA rA Γ ++ b_k cB cC cI cJ cZ oA rA Γ ++ b_p cB cC cI cJ cZ oA rA Γ ++ b_o cB cC cI cJ cZ oA rA Γ ++ b_s cB cC cI cJ cZ oA rA Γ ++ b_c cB cC cI cJ cZ oA rA Γ ++ b_t cB cC cI cJ cZ oA rA Γ ++ b_d cB cC cI cJ cZ oA rA Γ) := fun Γ9 => va_D_fst (ws := (b_e cB cC cI cJ cZ oA rA Γ ++ b_k cB cC cI cJ cZ oA rA Γ ++ b_p cB cC cI cJ cZ oA rA Γ ++ b_o cB cC cI cJ cZ oA rA Γ ++ b_s cB cC cI cJ cZ oA rA Γ ++ b_c cB cC cI cJ cZ oA rA Γ ++ b_t cB cC cI cJ cZ oA rA Γ ++ b_d cB cC cI cJ cZ oA rA Γ)) (ws' := (b_e cB cC cI cJ cZ oA rA Γ9 ++ b_k cB cC cI cJ cZ oA rA Γ9 ++ b_p cB cC cI cJ cZ oA rA Γ9 ++ b_o cB cC cI cJ cZ oA rA Γ9 ++ b_s cB cC cI cJ cZ oA rA Γ9 ++ b_c cB cC cI cJ cZ oA rA Γ9 ++ b_t cB cC cI cJ cZ oA rA Γ9 ++ b_d cB cC cI cJ cZ oA rA Γ9)) rfl hD1
  have hN := hE.1
  have hS : va_S A s.heap s.heap [] := va_S.rf
  have hl := lv_entry ([.ref (oA 11), .int p0, .int p1]) (n := 6) (Nat.le_of_ble_eq_true rfl)
  rw [lg_entry_eq]
  generalize (lg_sl ([.ref (oA 11), .int p0, .int p1]) ++ List.replicate (6 - (lg_sl ([.ref (oA 11), .int p0, .int p1])).length) Slot.unset).toArray = ls at hl ⊢
  have hl : lv_has ls 6 [(0, .ref (oA 11)), (1, .int p0), (2, .int p1)] := hl
  unfold F_X8_nounOf at hF
  refine lv_aload_n hx hb dX8_nounOf_0 rfl (lv_at hl 0 rfl) ?_
  refine va_get (D := (dC, dI)) (ci := 8) (v := .ref (oA 9)) (C := RX8) (T := TX8) (N := 16) hx hb hts ii_X8 hown hK hP 0 rfl rfl 0 (by decide) (hts (.fieldLink RX8 22 "StoryHouse$Teller" "play" "LStoryHouse$Play;") wq_286) (fun _ h9 => h9) rfl dX8_nounOf_1 ?_
  obtain ⟨u_1, hu_1, hF_2⟩ := Option.bind_eq_some_iff.mp hF
  clear hF
  have hPc := hP.sub (ws' := (b_p cB cC cI cJ cZ oA rA Γ)) [9, 10, 11, 12, 13, 14, 15, 16] rfl
  have hDc := (hDD Γ).sub (ws' := (b_p cB cC cI cJ cZ oA rA Γ)) [9, 10, 11, 12, 13, 14, 15, 16] (by decide +kernel) rfl
  have hFc := va_free (wc := (b_p cB cC cI cJ cZ oA rA Γ)) (hDD Γ) hS hA [9, 10, 11, 12, 13, 14, 15, 16] rfl
  refine g_ofi (wc := (b_p cB cC cI cJ cZ oA rA Γ)) (wr := (b_e cB cC cI cJ cZ oA rA Γ ++ b_k cB cC cI cJ cZ oA rA Γ ++ b_o cB cC cI cJ cZ oA rA Γ ++ b_s cB cC cI cJ cZ oA rA Γ ++ b_c cB cC cI cJ cZ oA rA Γ ++ b_t cB cC cI cJ cZ oA rA Γ ++ b_d cB cC cI cJ cZ oA rA Γ)) hP (hDD Γ) hS hFc [9, 10, 11, 12, 13, 14, 15, 16] [0, 1, 2, 3, 4, 5, 6, 7, 8, 17, 18, 19, 20, 21, 22, 23, 24, 25, 26, 27, 28, 29, 30, 31, 32, 33, 34, 35, 36, 37, 38, 39, 40, 41, 42, 43, 44, 45, 46, 47, 48, 49] rfl rfl (by decide +kernel) (by decide +kernel) (va_runV (As := []) (rest := []) ⟨hx, hb, hml, hown, hts⟩ (k_X6_isLight l dC dI cB cC cI cJ cZ cP oA rA s.heap.size  Γ _ hu_1) (cwV 0 hts (g_gV wq_978 wq_979 wq_980 wq_10 wq_981) rfl rfl rfl (by decide +kernel) ⟨Nat.le_of_ble_eq_true rfl, Nat.le_of_ble_eq_true rfl⟩) (g_preV g_bl0 hK hPc hDc hS hE hFc g_to0 (q0 := 0) (ci := 6) rfl rfl) rfl rfl hl.1 rfl (lv_room (Nat.le_of_ble_eq_true rfl)) dX8_nounOf_4 ⟨Nat.le_of_ble_eq_true rfl, Nat.le_of_ble_eq_true rfl⟩) (fun r9 u9 H locs hw9 hP' hD' hS => ?_)
  clear hPc hDc hFc
  subst hw9
  obtain ⟨σ_3, eσ_3, hF_4⟩ := bnd_e hF_2
  clear hF_2
  have hP : va_P (dC, dI) vwCl (b_e cB cC cI cJ cZ oA rA σ_3 ++ b_k cB cC cI cJ cZ oA rA σ_3 ++ b_p cB cC cI cJ cZ oA rA σ_3 ++ b_o cB cC cI cJ cZ oA rA σ_3 ++ b_s cB cC cI cJ cZ oA rA σ_3 ++ b_c cB cC cI cJ cZ oA rA σ_3 ++ b_t cB cC cI cJ cZ oA rA σ_3 ++ b_d cB cC cI cJ cZ oA rA σ_3) H := by rw [eσ_3]; exact hP'.sub [0, 1, 2, 3, 4, 5, 6, 7, 8, 42, 43, 44, 45, 46, 47, 48, 49, 9, 10, 11, 12, 13, 14, 15, 16, 17, 18, 19, 20, 21, 22, 23, 24, 25, 26, 27, 28, 29, 30, 31, 32, 33, 34, 35, 36, 37, 38, 39, 40, 41] rfl
  clear hP' hD'
  refine lv_istore_n (lv' := [(3, .int u_1.1), (0, .ref (oA 11)), (1, .int p0), (2, .int p1)]) hx hb dX8_nounOf_7 rfl hl (by decide) rfl (fun ls hl => ?_)
  refine lv_iconst (v := 0) hx hb dX8_nounOf_8 (by decide +kernel) ?_
  refine lv_istore (lv' := [(4, .int 0), (3, .int u_1.1), (0, .ref (oA 11)), (1, .int p0), (2, .int p1)]) hx hb dX8_nounOf_9 hl (by decide) rfl (fun ls hl => ?_)
  refine lv_iload_n hx hb dX8_nounOf_11 rfl (lv_at hl 4 rfl) ?_
  refine lv_iload_n hx hb dX8_nounOf_12 rfl (lv_at hl 3 rfl) ?_
  refine lv_isub hx hb dX8_nounOf_13 ?_
  refine lv_iconst (v := 1) hx hb dX8_nounOf_14 (by decide +kernel) ?_
  obtain ⟨j_7, ej_7, hF_8⟩ := bnd_e hF_4
  clear hF_4
  have Jj_7 : ∀ (v4_5 : Int32) (σ_6 : HS), j_7 v4_5 σ_6 = some res → ∀ (H : Heap) (locs : List Loc), va_P (dC, dI) vwCl (b_e cB cC cI cJ cZ oA rA σ_6 ++ b_k cB cC cI cJ cZ oA rA σ_6 ++ b_p cB cC cI cJ cZ oA rA σ_6 ++ b_o cB cC cI cJ cZ oA rA σ_6 ++ b_s cB cC cI cJ cZ oA rA σ_6 ++ b_c cB cC cI cJ cZ oA rA σ_6 ++ b_t cB cC cI cJ cZ oA rA σ_6 ++ b_d cB cC cI cJ cZ oA rA σ_6) H → va_S A s.heap H locs → ∀ ls : Array Slot, lv_has ls 6 [(0, .ref (oA 11)), (4, .int v4_5)] → W p l e (headSpec (g_ws yX8_nounOf cX8_nounOf 6 (some .int)) { frames := 7, cells := 0, slots := 0, locals := 168 }).room s m ([.ref (oA 11), .int p0, .int p1] : List Value).toArray below meth c H locs 0 0 (MQ below (va_Qi (fun r (_ : Unit) => r = res.1) (g_Bo (dC, dI) A (fun (_ : Unit) => (b_e cB cC cI cJ cZ oA rA res.2 ++ b_k cB cC cI cJ cZ oA rA res.2 ++ b_p cB cC cI cJ cZ oA rA res.2 ++ b_o cB cC cI cJ cZ oA rA res.2 ++ b_s cB cC cI cJ cZ oA rA res.2 ++ b_c cB cC cI cJ cZ oA rA res.2 ++ b_t cB cC cI cJ cZ oA rA res.2 ++ b_d cB cC cI cJ cZ oA rA res.2))) A) ([.ref (oA 11), .int p0, .int p1] : List Value).toArray s 0 0 A) (F0 m 143 ls []) := by
    intro v4_5 σ_6 hF0 H locs hP hS ls hl
    subst ej_7
    have hF_9 := hF0
    clear hF0
    refine lv_iload hx hb dX8_nounOf_143 (lv_at hl 1 rfl) ?_
    refine lv_if_ne (tgt := 157) hx hb dX8_nounOf_145 (by decide) (fun c_10 => ?_) (fun c_10 => ?_)
    · have hF_17 := ineg c_10 hF_9
      clear hF_9
      refine lv_iload hx hb dX8_nounOf_157 (lv_at hl 1 rfl) ?_
      have h9 := Option.some.inj hF_17
      subst h9
      exact W.iret (v := v4_5) hx hb hr (fun t ht hW => ⟨⟨v4_5, (), rfl, rfl, m_end ht hP, hDD _⟩, hS.F ht⟩) hS.2.2 dX8_nounOf_159
    · have hF_11 := ipos c_10 hF_9
      clear hF_9
      refine lv_aload_n hx hb dX8_nounOf_148 rfl (lv_at hl 0 rfl) ?_
      refine va_get (D := (dC, dI)) (ci := 8) (v := .ref (oA 8)) (C := RX8) (T := TX8) (N := 16) hx hb hts ii_X8 hown hK hP 0 rfl rfl 1 (by decide) (hts (.fieldLink RX8 26 "StoryHouse$Teller" "told" "LStoryHouse$Out;") wq_287) (fun _ h9 => h9) rfl dX8_nounOf_149 ?_
      obtain ⟨q_12, vq_12, hRq_12, hSq_12⟩ := hE.2.2.2.2 _ (List.mem_of_getElem? (i := 44) rfl)
      refine va_ldcS (own := RX8) (tx := "You see no such thing.") hx hb hown hRq_12 dX8_nounOf_152 ?_
      obtain ⟨u_13, hu_13, hF_14⟩ := Option.bind_eq_some_iff.mp hF_11
      clear hF_11
      have hPc := hP.sub (ws' := (b_o cB cC cI cJ cZ oA rA σ_6)) [17, 18] rfl
      have hDc := (hDD σ_6).sub (ws' := (b_o cB cC cI cJ cZ oA rA σ_6)) [17, 18] (by decide +kernel) rfl
      have hFc := va_free (wc := (b_o cB cC cI cJ cZ oA rA σ_6)) (hDD σ_6) hS hA [17, 18] rfl
      refine g_ofv (wc := (b_o cB cC cI cJ cZ oA rA σ_6)) (wr := (b_e cB cC cI cJ cZ oA rA σ_6 ++ b_k cB cC cI cJ cZ oA rA σ_6 ++ b_p cB cC cI cJ cZ oA rA σ_6 ++ b_s cB cC cI cJ cZ oA rA σ_6 ++ b_c cB cC cI cJ cZ oA rA σ_6 ++ b_t cB cC cI cJ cZ oA rA σ_6 ++ b_d cB cC cI cJ cZ oA rA σ_6)) hP (hDD σ_6) hS hFc [17, 18] [0, 1, 2, 3, 4, 5, 6, 7, 8, 9, 10, 11, 12, 13, 14, 15, 16, 19, 20, 21, 22, 23, 24, 25, 26, 27, 28, 29, 30, 31, 32, 33, 34, 35, 36, 37, 38, 39, 40, 41, 42, 43, 44, 45, 46, 47, 48, 49] rfl rfl (by decide +kernel) (by decide +kernel) (va_runV (As := [.ref q_12]) (rest := []) ⟨hx, hb, hml, hown, hts⟩ (k_X5_line l dC dI cB cC cI cJ cZ cP oA rA H.size q_12 _ ([89, 111, 117, 32, 115, 101, 101, 32, 110, 111, 32, 115, 117, 99, 104, 32, 116, 104, 105, 110, 103, 46] : List Int32) σ_6 _ hu_13) (cwV 1 hts (g_gV wq_998 wq_999 wq_1000 wq_9 wq_1001) rfl rfl rfl (by decide +kernel) ⟨Nat.le_of_ble_eq_true rfl, Nat.le_of_ble_eq_true rfl⟩) (g_preV g_blS hK hPc hDc hS hE hFc (g_toS hSq_12 hS hFc) (q0 := 0) (ci := 5) rfl rfl) rfl rfl hl.1 rfl (lv_room (Nat.le_of_ble_eq_true rfl)) dX8_nounOf_154 ⟨Nat.le_of_ble_eq_true rfl, Nat.le_of_ble_eq_true rfl⟩) (fun u9 H locs hw9 hP' hD' hS => ?_)
      clear hPc hDc hFc
      obtain ⟨σ_15, eσ_15, hF_16⟩ := bnd_e hF_14
      clear hF_14
      have hP : va_P (dC, dI) vwCl (b_e cB cC cI cJ cZ oA rA σ_15 ++ b_k cB cC cI cJ cZ oA rA σ_15 ++ b_p cB cC cI cJ cZ oA rA σ_15 ++ b_o cB cC cI cJ cZ oA rA σ_15 ++ b_s cB cC cI cJ cZ oA rA σ_15 ++ b_c cB cC cI cJ cZ oA rA σ_15 ++ b_t cB cC cI cJ cZ oA rA σ_15 ++ b_d cB cC cI cJ cZ oA rA σ_15) H := by rw [eσ_15]; exact hP'.sub [0, 1, 2, 3, 4, 5, 6, 7, 8, 9, 10, 11, 12, 13, 14, 15, 16, 48, 49, 17, 18, 19, 20, 21, 22, 23, 24, 25, 26, 27, 28, 29, 30, 31, 32, 33, 34, 35, 36, 37, 38, 39, 40, 41, 42, 43, 44, 45, 46, 47] rfl
      clear hP' hD'
      refine lv_iload hx hb dX8_nounOf_157 (lv_at hl 1 rfl) ?_
      have h9 := Option.some.inj hF_16
      subst h9
      exact W.iret (v := v4_5) hx hb hr (fun t ht hW => ⟨⟨v4_5, (), rfl, rfl, m_end ht hP, hDD _⟩, hS.F ht⟩) hS.2.2 dX8_nounOf_159
  obtain ⟨j_19, ej_19, hF_20⟩ := bnd_e hF_8
  clear hF_8
  have Jj_19 : ∀  (σ_18 : HS), j_19  σ_18 = some res → ∀ (H : Heap) (locs : List Loc), va_P (dC, dI) vwCl (b_e cB cC cI cJ cZ oA rA σ_18 ++ b_k cB cC cI cJ cZ oA rA σ_18 ++ b_p cB cC cI cJ cZ oA rA σ_18 ++ b_o cB cC cI cJ cZ oA rA σ_18 ++ b_s cB cC cI cJ cZ oA rA σ_18 ++ b_c cB cC cI cJ cZ oA rA σ_18 ++ b_t cB cC cI cJ cZ oA rA σ_18 ++ b_d cB cC cI cJ cZ oA rA σ_18) H → va_S A s.heap H locs → ∀ ls : Array Slot, lv_has ls 6 [(0, .ref (oA 11)), (1, .int p0), (2, .int p1), (3, .int u_1.1), (4, .int 0)] → W p l e (headSpec (g_ws yX8_nounOf cX8_nounOf 6 (some .int)) { frames := 7, cells := 0, slots := 0, locals := 168 }).room s m ([.ref (oA 11), .int p0, .int p1] : List Value).toArray below meth c H locs 0 0 (MQ below (va_Qi (fun r (_ : Unit) => r = res.1) (g_Bo (dC, dI) A (fun (_ : Unit) => (b_e cB cC cI cJ cZ oA rA res.2 ++ b_k cB cC cI cJ cZ oA rA res.2 ++ b_p cB cC cI cJ cZ oA rA res.2 ++ b_o cB cC cI cJ cZ oA rA res.2 ++ b_s cB cC cI cJ cZ oA rA res.2 ++ b_c cB cC cI cJ cZ oA rA res.2 ++ b_t cB cC cI cJ cZ oA rA res.2 ++ b_d cB cC cI cJ cZ oA rA res.2))) A) ([.ref (oA 11), .int p0, .int p1] : List Value).toArray s 0 0 A) (F0 m 71 ls []) := by
    intro  σ_18 hF0 H locs hP hS ls hl
    subst ej_19
    have hF_21 := hF0
    clear hF0
    refine lv_iconst (v := 1) hx hb dX8_nounOf_71 (by decide +kernel) ?_
    refine lv_istore (lv' := [(5, .int 1), (0, .ref (oA 11)), (1, .int p0), (2, .int p1), (3, .int u_1.1), (4, .int 0)]) hx hb dX8_nounOf_72 hl (by decide) rfl (fun ls hl => ?_)
    refine loopF_ind (P := fun (s_22 : Int32 × Int32 × HS) => ∀ (H : Heap) (locs : List Loc), va_P (dC, dI) vwCl (b_e cB cC cI cJ cZ oA rA s_22.2.2 ++ b_k cB cC cI cJ cZ oA rA s_22.2.2 ++ b_p cB cC cI cJ cZ oA rA s_22.2.2 ++ b_o cB cC cI cJ cZ oA rA s_22.2.2 ++ b_s cB cC cI cJ cZ oA rA s_22.2.2 ++ b_c cB cC cI cJ cZ oA rA s_22.2.2 ++ b_t cB cC cI cJ cZ oA rA s_22.2.2 ++ b_d cB cC cI cJ cZ oA rA s_22.2.2) H → va_S A s.heap H locs → ∀ ls : Array Slot, lv_has ls 6 [(0, .ref (oA 11)), (1, .int p0), (2, .int p1), (3, .int u_1.1), (4, .int s_22.1), (5, .int s_22.2.1)] → W p l e (headSpec (g_ws yX8_nounOf cX8_nounOf 6 (some .int)) { frames := 7, cells := 0, slots := 0, locals := 168 }).room s m ([.ref (oA 11), .int p0, .int p1] : List Value).toArray below meth c H locs 0 0 (MQ below (va_Qi (fun r (_ : Unit) => r = res.1) (g_Bo (dC, dI) A (fun (_ : Unit) => (b_e cB cC cI cJ cZ oA rA res.2 ++ b_k cB cC cI cJ cZ oA rA res.2 ++ b_p cB cC cI cJ cZ oA rA res.2 ++ b_o cB cC cI cJ cZ oA rA res.2 ++ b_s cB cC cI cJ cZ oA rA res.2 ++ b_c cB cC cI cJ cZ oA rA res.2 ++ b_t cB cC cI cJ cZ oA rA res.2 ++ b_d cB cC cI cJ cZ oA rA res.2))) A) ([.ref (oA 11), .int p0, .int p1] : List Value).toArray s 0 0 A) (F0 m 74 ls [])) ?_ _ _ hF_21 _ _ hP hS ls (lv_sub hl [1, 2, 3, 4, 5, 0] rfl)
    intro again_23 s_22 ih_24 hF_25
    intro H locs hP hS ls hl
    refine lv_iload hx hb dX8_nounOf_74 (lv_at hl 5 rfl) ?_
    refine lv_bipush (v := 120) hx hb dX8_nounOf_76 (by decide +kernel) ?_
    refine lv_icmp_gt (tgt := 143) hx hb dX8_nounOf_78 (by decide) (fun c_26 => ?_) (fun c_26 => ?_)
    · have hF_27 := ipos c_26 hF_25
      clear hF_25
      exact Jj_7 s_22.1 s_22.2.2 hF_27 _ _ hP hS ls (lv_sub hl [0, 4] rfl)
    · have hF_28 := ineg c_26 hF_25
      clear hF_25
      refine lv_aload_n hx hb dX8_nounOf_81 rfl (lv_at hl 0 rfl) ?_
      refine va_get (D := (dC, dI)) (ci := 8) (v := .ref (oA 4)) (C := RX8) (T := TX8) (N := 16) hx hb hts ii_X8 hown hK hP 0 rfl rfl 3 (by decide) (hts (.fieldLink RX8 85 "StoryHouse$Teller" "story" "LStoryHouse$Story;") wq_290) (fun _ h9 => h9) rfl dX8_nounOf_82 ?_
      refine lv_iload hx hb dX8_nounOf_85 (lv_at hl 5 rfl) ?_
      obtain ⟨u_29, hu_29, hF_30⟩ := Option.bind_eq_some_iff.mp hF_28
      clear hF_28
      have hPc := hP.sub (ws' := (b_s cB cC cI cJ cZ oA rA s_22.2.2 ++ b_c cB cC cI cJ cZ oA rA s_22.2.2 ++ b_t cB cC cI cJ cZ oA rA s_22.2.2 ++ b_d cB cC cI cJ cZ oA rA s_22.2.2)) [19, 20, 21, 22, 23, 24, 25, 26, 27, 28, 29, 30, 31, 32, 33, 34, 35, 36, 37, 38, 39, 40, 41, 42, 43, 44, 45, 46, 47, 48, 49] rfl
      have hDc := (hDD s_22.2.2).sub (ws' := (b_s cB cC cI cJ cZ oA rA s_22.2.2 ++ b_c cB cC cI cJ cZ oA rA s_22.2.2 ++ b_t cB cC cI cJ cZ oA rA s_22.2.2 ++ b_d cB cC cI cJ cZ oA rA s_22.2.2)) [19, 20, 21, 22, 23, 24, 25, 26, 27, 28, 29, 30, 31, 32, 33, 34, 35, 36, 37, 38, 39, 40, 41, 42, 43, 44, 45, 46, 47, 48, 49] (by decide +kernel) rfl
      have hFc := va_free (wc := (b_s cB cC cI cJ cZ oA rA s_22.2.2 ++ b_c cB cC cI cJ cZ oA rA s_22.2.2 ++ b_t cB cC cI cJ cZ oA rA s_22.2.2 ++ b_d cB cC cI cJ cZ oA rA s_22.2.2)) (hDD s_22.2.2) hS hA [19, 20, 21, 22, 23, 24, 25, 26, 27, 28, 29, 30, 31, 32, 33, 34, 35, 36, 37, 38, 39, 40, 41, 42, 43, 44, 45, 46, 47, 48, 49] rfl
      refine g_ofi (wc := (b_s cB cC cI cJ cZ oA rA s_22.2.2 ++ b_c cB cC cI cJ cZ oA rA s_22.2.2 ++ b_t cB cC cI cJ cZ oA rA s_22.2.2 ++ b_d cB cC cI cJ cZ oA rA s_22.2.2)) (wr := (b_e cB cC cI cJ cZ oA rA s_22.2.2 ++ b_k cB cC cI cJ cZ oA rA s_22.2.2 ++ b_p cB cC cI cJ cZ oA rA s_22.2.2 ++ b_o cB cC cI cJ cZ oA rA s_22.2.2)) hP (hDD s_22.2.2) hS hFc [19, 20, 21, 22, 23, 24, 25, 26, 27, 28, 29, 30, 31, 32, 33, 34, 35, 36, 37, 38, 39, 40, 41, 42, 43, 44, 45, 46, 47, 48, 49] [0, 1, 2, 3, 4, 5, 6, 7, 8, 9, 10, 11, 12, 13, 14, 15, 16, 17, 18] rfl rfl (by decide +kernel) (by decide +kernel) (va_runV (As := [.int s_22.2.1]) (rest := []) ⟨hx, hb, hml, hown, hts⟩ (k_X7_isObject l dC dI cB cC cI cJ cZ cP oA rA H.size  s_22.2.1 s_22.2.2 _ hu_29) (cwV 1 hts (g_gV wq_1101 wq_971 wq_972 wq_5 wq_973) rfl rfl rfl (by decide +kernel) ⟨Nat.le_of_ble_eq_true rfl, Nat.le_of_ble_eq_true rfl⟩) (g_preV g_bl0 hK hPc hDc hS hE hFc g_to0 (q0 := 0) (ci := 7) rfl rfl) rfl rfl hl.1 rfl (lv_room (Nat.le_of_ble_eq_true rfl)) dX8_nounOf_87 ⟨Nat.le_of_ble_eq_true rfl, Nat.le_of_ble_eq_true rfl⟩) (fun r9 u9 H locs hw9 hP' hD' hS => ?_)
      clear hPc hDc hFc
      subst hw9
      obtain ⟨σ_31, eσ_31, hF_32⟩ := bnd_e hF_30
      clear hF_30
      have hP : va_P (dC, dI) vwCl (b_e cB cC cI cJ cZ oA rA σ_31 ++ b_k cB cC cI cJ cZ oA rA σ_31 ++ b_p cB cC cI cJ cZ oA rA σ_31 ++ b_o cB cC cI cJ cZ oA rA σ_31 ++ b_s cB cC cI cJ cZ oA rA σ_31 ++ b_c cB cC cI cJ cZ oA rA σ_31 ++ b_t cB cC cI cJ cZ oA rA σ_31 ++ b_d cB cC cI cJ cZ oA rA σ_31) H := by rw [eσ_31]; exact hP'.sub [0, 1, 2, 3, 4, 5, 6, 7, 8, 9, 10, 11, 12, 13, 14, 15, 16, 17, 18, 19, 20, 21, 22, 23, 24, 25, 26, 27, 28, 29, 30, 31, 32, 33, 34, 35, 36, 37, 38, 39, 40, 41, 42, 43, 44, 45, 46, 47, 48, 49] rfl
      clear hP' hD'
      refine lv_if_eq (tgt := 143) hx hb dX8_nounOf_90 (by decide) (fun c_33 => ?_) (fun c_33 => ?_)
      · have hF_34 := ipos c_33 hF_32
        clear hF_32
        exact Jj_7 s_22.1 σ_31 hF_34 _ _ hP hS ls (lv_sub hl [0, 4] rfl)
      · have hF_35 := ineg c_33 hF_32
        clear hF_32
        refine lv_aload_n hx hb dX8_nounOf_93 rfl (lv_at hl 0 rfl) ?_
        refine lv_iload hx hb dX8_nounOf_94 (lv_at hl 5 rfl) ?_
        refine lv_iload_n hx hb dX8_nounOf_96 rfl (lv_at hl 1 rfl) ?_
        refine lv_iload_n hx hb dX8_nounOf_97 rfl (lv_at hl 2 rfl) ?_
        obtain ⟨u_36, hu_36, hF_37⟩ := Option.bind_eq_some_iff.mp hF_35
        clear hF_35
        have hPc := hP.sub (ws' := (b_e cB cC cI cJ cZ oA rA σ_31 ++ b_k cB cC cI cJ cZ oA rA σ_31 ++ b_p cB cC cI cJ cZ oA rA σ_31 ++ b_o cB cC cI cJ cZ oA rA σ_31 ++ b_s cB cC cI cJ cZ oA rA σ_31 ++ b_c cB cC cI cJ cZ oA rA σ_31 ++ b_t cB cC cI cJ cZ oA rA σ_31 ++ b_d cB cC cI cJ cZ oA rA σ_31)) [0, 1, 2, 3, 4, 5, 6, 7, 8, 9, 10, 11, 12, 13, 14, 15, 16, 17, 18, 19, 20, 21, 22, 23, 24, 25, 26, 27, 28, 29, 30, 31, 32, 33, 34, 35, 36, 37, 38, 39, 40, 41, 42, 43, 44, 45, 46, 47, 48, 49] rfl
        have hDc := (hDD σ_31).sub (ws' := (b_e cB cC cI cJ cZ oA rA σ_31 ++ b_k cB cC cI cJ cZ oA rA σ_31 ++ b_p cB cC cI cJ cZ oA rA σ_31 ++ b_o cB cC cI cJ cZ oA rA σ_31 ++ b_s cB cC cI cJ cZ oA rA σ_31 ++ b_c cB cC cI cJ cZ oA rA σ_31 ++ b_t cB cC cI cJ cZ oA rA σ_31 ++ b_d cB cC cI cJ cZ oA rA σ_31)) [0, 1, 2, 3, 4, 5, 6, 7, 8, 9, 10, 11, 12, 13, 14, 15, 16, 17, 18, 19, 20, 21, 22, 23, 24, 25, 26, 27, 28, 29, 30, 31, 32, 33, 34, 35, 36, 37, 38, 39, 40, 41, 42, 43, 44, 45, 46, 47, 48, 49] (by decide +kernel) rfl
        have hFc := va_free (wc := (b_e cB cC cI cJ cZ oA rA σ_31 ++ b_k cB cC cI cJ cZ oA rA σ_31 ++ b_p cB cC cI cJ cZ oA rA σ_31 ++ b_o cB cC cI cJ cZ oA rA σ_31 ++ b_s cB cC cI cJ cZ oA rA σ_31 ++ b_c cB cC cI cJ cZ oA rA σ_31 ++ b_t cB cC cI cJ cZ oA rA σ_31 ++ b_d cB cC cI cJ cZ oA rA σ_31)) (hDD σ_31) hS hA [0, 1, 2, 3, 4, 5, 6, 7, 8, 9, 10, 11, 12, 13, 14, 15, 16, 17, 18, 19, 20, 21, 22, 23, 24, 25, 26, 27, 28, 29, 30, 31, 32, 33, 34, 35, 36, 37, 38, 39, 40, 41, 42, 43, 44, 45, 46, 47, 48, 49] rfl
        refine g_ofi (wc := (b_e cB cC cI cJ cZ oA rA σ_31 ++ b_k cB cC cI cJ cZ oA rA σ_31 ++ b_p cB cC cI cJ cZ oA rA σ_31 ++ b_o cB cC cI cJ cZ oA rA σ_31 ++ b_s cB cC cI cJ cZ oA rA σ_31 ++ b_c cB cC cI cJ cZ oA rA σ_31 ++ b_t cB cC cI cJ cZ oA rA σ_31 ++ b_d cB cC cI cJ cZ oA rA σ_31)) (wr := ([] : va_W)) hP (hDD σ_31) hS hFc [0, 1, 2, 3, 4, 5, 6, 7, 8, 9, 10, 11, 12, 13, 14, 15, 16, 17, 18, 19, 20, 21, 22, 23, 24, 25, 26, 27, 28, 29, 30, 31, 32, 33, 34, 35, 36, 37, 38, 39, 40, 41, 42, 43, 44, 45, 46, 47, 48, 49] [] rfl rfl (by decide +kernel) (by decide +kernel) (va_runV (As := [.int s_22.2.1, .int p0, .int p1]) (rest := []) ⟨hx, hb, hml, hown, hts⟩ (k_X8_isNamed l dC dI cB cC cI cJ cZ cP oA rA H.size  s_22.2.1 p0 p1 σ_31 _ hu_36) (cwV 3 hts (g_gV wq_1102 wq_1103 wq_2081 wq_12 wq_1104) rfl rfl rfl (by decide +kernel) ⟨Nat.le_of_ble_eq_true rfl, Nat.le_of_ble_eq_true rfl⟩) (g_preV g_bl0 hK hPc hDc hS hE hFc g_to0 (q0 := 0) (ci := 8) rfl rfl) rfl rfl hl.1 rfl (lv_room (Nat.le_of_ble_eq_true rfl)) dX8_nounOf_98 ⟨Nat.le_of_ble_eq_true rfl, Nat.le_of_ble_eq_true rfl⟩) (fun r9 u9 H locs hw9 hP' hD' hS => ?_)
        clear hPc hDc hFc
        subst hw9
        have hP : va_P (dC, dI) vwCl (b_e cB cC cI cJ cZ oA rA u_36.2 ++ b_k cB cC cI cJ cZ oA rA u_36.2 ++ b_p cB cC cI cJ cZ oA rA u_36.2 ++ b_o cB cC cI cJ cZ oA rA u_36.2 ++ b_s cB cC cI cJ cZ oA rA u_36.2 ++ b_c cB cC cI cJ cZ oA rA u_36.2 ++ b_t cB cC cI cJ cZ oA rA u_36.2 ++ b_d cB cC cI cJ cZ oA rA u_36.2) H := hP'
        clear hP' hD'
        obtain ⟨j_40, ej_40, hF_41⟩ := bnd_e hF_37
        clear hF_37
        have Jj_40 : ∀ (v4_38 : Int32) (σ_39 : HS), j_40 v4_38 σ_39 = some res → ∀ (H : Heap) (locs : List Loc), va_P (dC, dI) vwCl (b_e cB cC cI cJ cZ oA rA σ_39 ++ b_k cB cC cI cJ cZ oA rA σ_39 ++ b_p cB cC cI cJ cZ oA rA σ_39 ++ b_o cB cC cI cJ cZ oA rA σ_39 ++ b_s cB cC cI cJ cZ oA rA σ_39 ++ b_c cB cC cI cJ cZ oA rA σ_39 ++ b_t cB cC cI cJ cZ oA rA σ_39 ++ b_d cB cC cI cJ cZ oA rA σ_39) H → va_S A s.heap H locs → ∀ ls : Array Slot, lv_has ls 6 [(0, .ref (oA 11)), (1, .int p0), (2, .int p1), (3, .int u_1.1), (4, .int v4_38), (5, .int s_22.2.1)] → W p l e (headSpec (g_ws yX8_nounOf cX8_nounOf 6 (some .int)) { frames := 7, cells := 0, slots := 0, locals := 168 }).room s m ([.ref (oA 11), .int p0, .int p1] : List Value).toArray below meth c H locs 0 0 (MQ below (va_Qi (fun r (_ : Unit) => r = res.1) (g_Bo (dC, dI) A (fun (_ : Unit) => (b_e cB cC cI cJ cZ oA rA res.2 ++ b_k cB cC cI cJ cZ oA rA res.2 ++ b_p cB cC cI cJ cZ oA rA res.2 ++ b_o cB cC cI cJ cZ oA rA res.2 ++ b_s cB cC cI cJ cZ oA rA res.2 ++ b_c cB cC cI cJ cZ oA rA res.2 ++ b_t cB cC cI cJ cZ oA rA res.2 ++ b_d cB cC cI cJ cZ oA rA res.2))) A) ([.ref (oA 11), .int p0, .int p1] : List Value).toArray s 0 0 A) (F0 m 137 ls []) := by
          intro v4_38 σ_39 hF0 H locs hP hS ls hl
          subst ej_40
          have hF_42 := hF0
          clear hF0
          obtain ⟨x_43, ex_43, hF_44⟩ := bnd_e hF_42
          clear hF_42
          refine lv_iinc (v := x_43) (lv' := [(5, .int x_43), (0, .ref (oA 11)), (1, .int p0), (2, .int p1), (3, .int u_1.1), (4, .int v4_38)]) hx hb dX8_nounOf_137 hl (k := 5) rfl (by rw [ex_43]; rfl) (by decide) rfl (fun ls hl => ?_)
          refine lv_goto (tgt := 74) hx hb dX8_nounOf_140 (by decide) ?_
          exact ih_24 (v4_38, x_43, σ_39) hF_44 _ _ hP hS ls (lv_sub hl [1, 2, 3, 4, 5, 0] rfl)
        refine lv_if_eq (tgt := 137) hx hb dX8_nounOf_101 (by decide) (fun c_45 => ?_) (fun c_45 => ?_)
        · have hF_46 := ipos c_45 hF_41
          clear hF_41
          exact Jj_40 s_22.1 u_36.2 hF_46 _ _ hP hS ls (lv_sub hl [0, 1, 2, 3, 4, 5] rfl)
        · have hF_47 := ineg c_45 hF_41
          clear hF_41
          refine lv_aload_n hx hb dX8_nounOf_104 rfl (lv_at hl 0 rfl) ?_
          refine va_get (D := (dC, dI)) (ci := 8) (v := .ref (oA 9)) (C := RX8) (T := TX8) (N := 16) hx hb hts ii_X8 hown hK hP 0 rfl rfl 0 (by decide) (hts (.fieldLink RX8 22 "StoryHouse$Teller" "play" "LStoryHouse$Play;") wq_286) (fun _ h9 => h9) rfl dX8_nounOf_105 ?_
          refine lv_iload hx hb dX8_nounOf_108 (lv_at hl 5 rfl) ?_
          refine lv_iload_n hx hb dX8_nounOf_110 rfl (lv_at hl 3 rfl) ?_
          obtain ⟨u_48, hu_48, hF_49⟩ := Option.bind_eq_some_iff.mp hF_47
          clear hF_47
          have hPc := hP.sub (ws' := (b_p cB cC cI cJ cZ oA rA u_36.2)) [9, 10, 11, 12, 13, 14, 15, 16] rfl
          have hDc := (hDD u_36.2).sub (ws' := (b_p cB cC cI cJ cZ oA rA u_36.2)) [9, 10, 11, 12, 13, 14, 15, 16] (by decide +kernel) rfl
          have hFc := va_free (wc := (b_p cB cC cI cJ cZ oA rA u_36.2)) (hDD u_36.2) hS hA [9, 10, 11, 12, 13, 14, 15, 16] rfl
          refine g_ofi (wc := (b_p cB cC cI cJ cZ oA rA u_36.2)) (wr := (b_e cB cC cI cJ cZ oA rA u_36.2 ++ b_k cB cC cI cJ cZ oA rA u_36.2 ++ b_o cB cC cI cJ cZ oA rA u_36.2 ++ b_s cB cC cI cJ cZ oA rA u_36.2 ++ b_c cB cC cI cJ cZ oA rA u_36.2 ++ b_t cB cC cI cJ cZ oA rA u_36.2 ++ b_d cB cC cI cJ cZ oA rA u_36.2)) hP (hDD u_36.2) hS hFc [9, 10, 11, 12, 13, 14, 15, 16] [0, 1, 2, 3, 4, 5, 6, 7, 8, 17, 18, 19, 20, 21, 22, 23, 24, 25, 26, 27, 28, 29, 30, 31, 32, 33, 34, 35, 36, 37, 38, 39, 40, 41, 42, 43, 44, 45, 46, 47, 48, 49] rfl rfl (by decide +kernel) (by decide +kernel) (va_runV (As := [.int s_22.2.1, .int u_1.1]) (rest := []) ⟨hx, hb, hml, hown, hts⟩ (k_X6_isInScope l dC dI cB cC cI cJ cZ cP oA rA H.size  s_22.2.1 u_1.1 u_36.2 _ hu_48) (cwV 2 hts (g_gV wq_1097 wq_1098 wq_1099 wq_10 wq_1100) rfl rfl rfl (by decide +kernel) ⟨Nat.le_of_ble_eq_true rfl, Nat.le_of_ble_eq_true rfl⟩) (g_preV g_bl0 hK hPc hDc hS hE hFc g_to0 (q0 := 0) (ci := 6) rfl rfl) rfl rfl hl.1 rfl (lv_room (Nat.le_of_ble_eq_true rfl)) dX8_nounOf_111 ⟨Nat.le_of_ble_eq_true rfl, Nat.le_of_ble_eq_true rfl⟩) (fun r9 u9 H locs hw9 hP' hD' hS => ?_)
          clear hPc hDc hFc
          subst hw9
          obtain ⟨σ_50, eσ_50, hF_51⟩ := bnd_e hF_49
          clear hF_49
          have hP : va_P (dC, dI) vwCl (b_e cB cC cI cJ cZ oA rA σ_50 ++ b_k cB cC cI cJ cZ oA rA σ_50 ++ b_p cB cC cI cJ cZ oA rA σ_50 ++ b_o cB cC cI cJ cZ oA rA σ_50 ++ b_s cB cC cI cJ cZ oA rA σ_50 ++ b_c cB cC cI cJ cZ oA rA σ_50 ++ b_t cB cC cI cJ cZ oA rA σ_50 ++ b_d cB cC cI cJ cZ oA rA σ_50) H := by rw [eσ_50]; exact hP'.sub [0, 1, 2, 3, 4, 5, 6, 7, 8, 42, 43, 44, 45, 46, 47, 48, 49, 9, 10, 11, 12, 13, 14, 15, 16, 17, 18, 19, 20, 21, 22, 23, 24, 25, 26, 27, 28, 29, 30, 31, 32, 33, 34, 35, 36, 37, 38, 39, 40, 41] rfl
          clear hP' hD'
          refine lv_if_eq (tgt := 137) hx hb dX8_nounOf_114 (by decide) (fun c_52 => ?_) (fun c_52 => ?_)
          · have hF_53 := ipos c_52 hF_51
            clear hF_51
            exact Jj_40 s_22.1 σ_50 hF_53 _ _ hP hS ls (lv_sub hl [0, 1, 2, 3, 4, 5] rfl)
          · have hF_54 := ineg c_52 hF_51
            clear hF_51
            refine lv_iload hx hb dX8_nounOf_117 (lv_at hl 4 rfl) ?_
            refine lv_if_eq (tgt := 133) hx hb dX8_nounOf_119 (by decide) (fun c_55 => ?_) (fun c_55 => ?_)
            · have hF_56 := ipos c_55 hF_54
              clear hF_54
              refine lv_iload hx hb dX8_nounOf_133 (lv_at hl 5 rfl) ?_
              refine lv_istore (lv' := [(4, .int s_22.2.1), (0, .ref (oA 11)), (1, .int p0), (2, .int p1), (3, .int u_1.1), (5, .int s_22.2.1)]) hx hb dX8_nounOf_135 hl (by decide) rfl (fun ls hl => ?_)
              exact Jj_40 s_22.2.1 σ_50 hF_56 _ _ hP hS ls (lv_sub hl [1, 2, 3, 4, 0, 5] rfl)
            · have hF_57 := ineg c_55 hF_54
              clear hF_54
              refine lv_aload_n hx hb dX8_nounOf_122 rfl (lv_at hl 0 rfl) ?_
              refine va_get (D := (dC, dI)) (ci := 8) (v := .ref (oA 8)) (C := RX8) (T := TX8) (N := 16) hx hb hts ii_X8 hown hK hP 0 rfl rfl 1 (by decide) (hts (.fieldLink RX8 26 "StoryHouse$Teller" "told" "LStoryHouse$Out;") wq_287) (fun _ h9 => h9) rfl dX8_nounOf_123 ?_
              obtain ⟨q_58, vq_58, hRq_58, hSq_58⟩ := hE.2.2.2.2 _ (List.mem_of_getElem? (i := 43) rfl)
              refine va_ldcS (own := RX8) (tx := "Which one do you mean?") hx hb hown hRq_58 dX8_nounOf_126 ?_
              obtain ⟨u_59, hu_59, hF_60⟩ := Option.bind_eq_some_iff.mp hF_57
              clear hF_57
              have hPc := hP.sub (ws' := (b_o cB cC cI cJ cZ oA rA σ_50)) [17, 18] rfl
              have hDc := (hDD σ_50).sub (ws' := (b_o cB cC cI cJ cZ oA rA σ_50)) [17, 18] (by decide +kernel) rfl
              have hFc := va_free (wc := (b_o cB cC cI cJ cZ oA rA σ_50)) (hDD σ_50) hS hA [17, 18] rfl
              refine g_ofv (wc := (b_o cB cC cI cJ cZ oA rA σ_50)) (wr := (b_e cB cC cI cJ cZ oA rA σ_50 ++ b_k cB cC cI cJ cZ oA rA σ_50 ++ b_p cB cC cI cJ cZ oA rA σ_50 ++ b_s cB cC cI cJ cZ oA rA σ_50 ++ b_c cB cC cI cJ cZ oA rA σ_50 ++ b_t cB cC cI cJ cZ oA rA σ_50 ++ b_d cB cC cI cJ cZ oA rA σ_50)) hP (hDD σ_50) hS hFc [17, 18] [0, 1, 2, 3, 4, 5, 6, 7, 8, 9, 10, 11, 12, 13, 14, 15, 16, 19, 20, 21, 22, 23, 24, 25, 26, 27, 28, 29, 30, 31, 32, 33, 34, 35, 36, 37, 38, 39, 40, 41, 42, 43, 44, 45, 46, 47, 48, 49] rfl rfl (by decide +kernel) (by decide +kernel) (va_runV (As := [.ref q_58]) (rest := []) ⟨hx, hb, hml, hown, hts⟩ (k_X5_line l dC dI cB cC cI cJ cZ cP oA rA H.size q_58 _ ([87, 104, 105, 99, 104, 32, 111, 110, 101, 32, 100, 111, 32, 121, 111, 117, 32, 109, 101, 97, 110, 63] : List Int32) σ_50 _ hu_59) (cwV 1 hts (g_gV wq_998 wq_999 wq_1000 wq_9 wq_1001) rfl rfl rfl (by decide +kernel) ⟨Nat.le_of_ble_eq_true rfl, Nat.le_of_ble_eq_true rfl⟩) (g_preV g_blS hK hPc hDc hS hE hFc (g_toS hSq_58 hS hFc) (q0 := 0) (ci := 5) rfl rfl) rfl rfl hl.1 rfl (lv_room (Nat.le_of_ble_eq_true rfl)) dX8_nounOf_128 ⟨Nat.le_of_ble_eq_true rfl, Nat.le_of_ble_eq_true rfl⟩) (fun u9 H locs hw9 hP' hD' hS => ?_)
              clear hPc hDc hFc
              obtain ⟨σ_61, eσ_61, hF_62⟩ := bnd_e hF_60
              clear hF_60
              have hP : va_P (dC, dI) vwCl (b_e cB cC cI cJ cZ oA rA σ_61 ++ b_k cB cC cI cJ cZ oA rA σ_61 ++ b_p cB cC cI cJ cZ oA rA σ_61 ++ b_o cB cC cI cJ cZ oA rA σ_61 ++ b_s cB cC cI cJ cZ oA rA σ_61 ++ b_c cB cC cI cJ cZ oA rA σ_61 ++ b_t cB cC cI cJ cZ oA rA σ_61 ++ b_d cB cC cI cJ cZ oA rA σ_61) H := by rw [eσ_61]; exact hP'.sub [0, 1, 2, 3, 4, 5, 6, 7, 8, 9, 10, 11, 12, 13, 14, 15, 16, 48, 49, 17, 18, 19, 20, 21, 22, 23, 24, 25, 26, 27, 28, 29, 30, 31, 32, 33, 34, 35, 36, 37, 38, 39, 40, 41, 42, 43, 44, 45, 46, 47] rfl
              clear hP' hD'
              refine lv_iconst (v := 0) hx hb dX8_nounOf_131 (by decide +kernel) ?_
              have h9 := Option.some.inj hF_62
              subst h9
              exact W.iret (v := 0) hx hb hr (fun t ht hW => ⟨⟨0, (), rfl, rfl, m_end ht hP, hDD _⟩, hS.F ht⟩) hS.2.2 dX8_nounOf_132
  refine lv_icmp_ne (tgt := 71) hx hb dX8_nounOf_15 (by decide) (fun c_63 => ?_) (fun c_63 => ?_)
  · have hF_89 := ineg c_63 hF_20
    clear hF_20
    exact Jj_19  σ_3 hF_89 _ _ hP hS ls (lv_sub hl [2, 3, 4, 1, 0] rfl)
  · have hF_64 := ipos c_63 hF_20
    clear hF_20
    refine lv_aload_n hx hb dX8_nounOf_18 rfl (lv_at hl 2 rfl) ?_
    refine lv_iload_n hx hb dX8_nounOf_19 rfl (lv_at hl 3 rfl) ?_
    obtain ⟨u_65, hu_65, hF_66⟩ := Option.bind_eq_some_iff.mp hF_64
    clear hF_64
    have hPc := hP.sub (ws' := (b_e cB cC cI cJ cZ oA rA σ_3 ++ b_k cB cC cI cJ cZ oA rA σ_3 ++ b_p cB cC cI cJ cZ oA rA σ_3 ++ b_o cB cC cI cJ cZ oA rA σ_3 ++ b_s cB cC cI cJ cZ oA rA σ_3 ++ b_c cB cC cI cJ cZ oA rA σ_3 ++ b_t cB cC cI cJ cZ oA rA σ_3 ++ b_d cB cC cI cJ cZ oA rA σ_3)) [0, 1, 2, 3, 4, 5, 6, 7, 8, 9, 10, 11, 12, 13, 14, 15, 16, 17, 18, 19, 20, 21, 22, 23, 24, 25, 26, 27, 28, 29, 30, 31, 32, 33, 34, 35, 36, 37, 38, 39, 40, 41, 42, 43, 44, 45, 46, 47, 48, 49] rfl
    have hDc := (hDD σ_3).sub (ws' := (b_e cB cC cI cJ cZ oA rA σ_3 ++ b_k cB cC cI cJ cZ oA rA σ_3 ++ b_p cB cC cI cJ cZ oA rA σ_3 ++ b_o cB cC cI cJ cZ oA rA σ_3 ++ b_s cB cC cI cJ cZ oA rA σ_3 ++ b_c cB cC cI cJ cZ oA rA σ_3 ++ b_t cB cC cI cJ cZ oA rA σ_3 ++ b_d cB cC cI cJ cZ oA rA σ_3)) [0, 1, 2, 3, 4, 5, 6, 7, 8, 9, 10, 11, 12, 13, 14, 15, 16, 17, 18, 19, 20, 21, 22, 23, 24, 25, 26, 27, 28, 29, 30, 31, 32, 33, 34, 35, 36, 37, 38, 39, 40, 41, 42, 43, 44, 45, 46, 47, 48, 49] (by decide +kernel) rfl
    have hFc := va_free (wc := (b_e cB cC cI cJ cZ oA rA σ_3 ++ b_k cB cC cI cJ cZ oA rA σ_3 ++ b_p cB cC cI cJ cZ oA rA σ_3 ++ b_o cB cC cI cJ cZ oA rA σ_3 ++ b_s cB cC cI cJ cZ oA rA σ_3 ++ b_c cB cC cI cJ cZ oA rA σ_3 ++ b_t cB cC cI cJ cZ oA rA σ_3 ++ b_d cB cC cI cJ cZ oA rA σ_3)) (hDD σ_3) hS hA [0, 1, 2, 3, 4, 5, 6, 7, 8, 9, 10, 11, 12, 13, 14, 15, 16, 17, 18, 19, 20, 21, 22, 23, 24, 25, 26, 27, 28, 29, 30, 31, 32, 33, 34, 35, 36, 37, 38, 39, 40, 41, 42, 43, 44, 45, 46, 47, 48, 49] rfl
    refine g_ofi (wc := (b_e cB cC cI cJ cZ oA rA σ_3 ++ b_k cB cC cI cJ cZ oA rA σ_3 ++ b_p cB cC cI cJ cZ oA rA σ_3 ++ b_o cB cC cI cJ cZ oA rA σ_3 ++ b_s cB cC cI cJ cZ oA rA σ_3 ++ b_c cB cC cI cJ cZ oA rA σ_3 ++ b_t cB cC cI cJ cZ oA rA σ_3 ++ b_d cB cC cI cJ cZ oA rA σ_3)) (wr := ([] : va_W)) hP (hDD σ_3) hS hFc [0, 1, 2, 3, 4, 5, 6, 7, 8, 9, 10, 11, 12, 13, 14, 15, 16, 17, 18, 19, 20, 21, 22, 23, 24, 25, 26, 27, 28, 29, 30, 31, 32, 33, 34, 35, 36, 37, 38, 39, 40, 41, 42, 43, 44, 45, 46, 47, 48, 49] [] rfl rfl (by decide +kernel) (by decide +kernel) (va_runV (As := [.int p0]) (rest := []) ⟨hx, hb, hml, hown, hts⟩ (k_X8_term l dC dI cB cC cI cJ cZ cP oA rA H.size  p0 σ_3 _ hu_65) (cwV 1 hts (g_gV wq_1065 wq_1066 wq_2074 wq_12 wq_1067) rfl rfl rfl (by decide +kernel) ⟨Nat.le_of_ble_eq_true rfl, Nat.le_of_ble_eq_true rfl⟩) (g_preV g_bl0 hK hPc hDc hS hE hFc g_to0 (q0 := 0) (ci := 8) rfl rfl) rfl rfl hl.1 rfl (lv_room (Nat.le_of_ble_eq_true rfl)) dX8_nounOf_20 ⟨Nat.le_of_ble_eq_true rfl, Nat.le_of_ble_eq_true rfl⟩) (fun r9 u9 H locs hw9 hP' hD' hS => ?_)
    clear hPc hDc hFc
    subst hw9
    have hP : va_P (dC, dI) vwCl (b_e cB cC cI cJ cZ oA rA u_65.2 ++ b_k cB cC cI cJ cZ oA rA u_65.2 ++ b_p cB cC cI cJ cZ oA rA u_65.2 ++ b_o cB cC cI cJ cZ oA rA u_65.2 ++ b_s cB cC cI cJ cZ oA rA u_65.2 ++ b_c cB cC cI cJ cZ oA rA u_65.2 ++ b_t cB cC cI cJ cZ oA rA u_65.2 ++ b_d cB cC cI cJ cZ oA rA u_65.2) H := hP'
    clear hP' hD'
    refine lv_iconst (v := 2) hx hb dX8_nounOf_23 (by decide +kernel) ?_
    refine lv_icmp_ne (tgt := 71) hx hb dX8_nounOf_24 (by decide) (fun c_67 => ?_) (fun c_67 => ?_)
    · have hF_88 := ineg c_67 hF_66
      clear hF_66
      exact Jj_19  u_65.2 hF_88 _ _ hP hS ls (lv_sub hl [2, 3, 4, 1, 0] rfl)
    · have hF_68 := ipos c_67 hF_66
      clear hF_66
      refine lv_aload_n hx hb dX8_nounOf_27 rfl (lv_at hl 2 rfl) ?_
      refine va_get (D := (dC, dI)) (ci := 8) (v := .ref (oA 9)) (C := RX8) (T := TX8) (N := 16) hx hb hts ii_X8 hown hK hP 0 rfl rfl 0 (by decide) (hts (.fieldLink RX8 22 "StoryHouse$Teller" "play" "LStoryHouse$Play;") wq_286) (fun _ h9 => h9) rfl dX8_nounOf_28 ?_
      refine va_get (D := (dC, dI)) (ci := 6) (v := .int ((u_65.2 9).1 11)) (C := RX6) (T := TX6) (N := 12) hx hb hts ii_X6 hown hK hP 9 rfl rfl 11 (by decide) (hts (.fieldLink RX8 174 "StoryHouse$Play" "it" "I") wq_251) (fun _ h9 => h9) rfl dX8_nounOf_31 ?_
      obtain ⟨j_71, ej_71, hF_72⟩ := bnd_e hF_68
      clear hF_68
      have Jj_71 : ∀ (t_69 : Int32) (σ_70 : HS), j_71 t_69 σ_70 = some res → ∀ (H : Heap) (locs : List Loc), va_P (dC, dI) vwCl (b_e cB cC cI cJ cZ oA rA σ_70 ++ b_k cB cC cI cJ cZ oA rA σ_70 ++ b_p cB cC cI cJ cZ oA rA σ_70 ++ b_o cB cC cI cJ cZ oA rA σ_70 ++ b_s cB cC cI cJ cZ oA rA σ_70 ++ b_c cB cC cI cJ cZ oA rA σ_70 ++ b_t cB cC cI cJ cZ oA rA σ_70 ++ b_d cB cC cI cJ cZ oA rA σ_70) H → va_S A s.heap H locs → ∀ ls : Array Slot, lv_has ls 6 [(0, .ref (oA 11))] → W p l e (headSpec (g_ws yX8_nounOf cX8_nounOf 6 (some .int)) { frames := 7, cells := 0, slots := 0, locals := 168 }).room s m ([.ref (oA 11), .int p0, .int p1] : List Value).toArray below meth c H locs 0 0 (MQ below (va_Qi (fun r (_ : Unit) => r = res.1) (g_Bo (dC, dI) A (fun (_ : Unit) => (b_e cB cC cI cJ cZ oA rA res.2 ++ b_k cB cC cI cJ cZ oA rA res.2 ++ b_p cB cC cI cJ cZ oA rA res.2 ++ b_o cB cC cI cJ cZ oA rA res.2 ++ b_s cB cC cI cJ cZ oA rA res.2 ++ b_c cB cC cI cJ cZ oA rA res.2 ++ b_t cB cC cI cJ cZ oA rA res.2 ++ b_d cB cC cI cJ cZ oA rA res.2))) A) ([.ref (oA 11), .int p0, .int p1] : List Value).toArray s 0 0 A) (F0 m 66 ls [.int t_69]) := by
        intro t_69 σ_70 hF0 H locs hP hS ls hl
        subst ej_71
        have hF_73 := hF0
        clear hF0
        refine lv_istore (lv' := [(4, .int t_69), (0, .ref (oA 11))]) hx hb dX8_nounOf_66 hl (by decide) rfl (fun ls hl => ?_)
        refine lv_goto (tgt := 143) hx hb dX8_nounOf_68 (by decide) ?_
        exact Jj_7 t_69 σ_70 hF_73 _ _ hP hS ls (lv_sub hl [1, 0] rfl)
      obtain ⟨j_75, ej_75, hF_76⟩ := bnd_e hF_72
      clear hF_72
      have Jj_75 : ∀  (σ_74 : HS), j_75  σ_74 = some res → ∀ (H : Heap) (locs : List Loc), va_P (dC, dI) vwCl (b_e cB cC cI cJ cZ oA rA σ_74 ++ b_k cB cC cI cJ cZ oA rA σ_74 ++ b_p cB cC cI cJ cZ oA rA σ_74 ++ b_o cB cC cI cJ cZ oA rA σ_74 ++ b_s cB cC cI cJ cZ oA rA σ_74 ++ b_c cB cC cI cJ cZ oA rA σ_74 ++ b_t cB cC cI cJ cZ oA rA σ_74 ++ b_d cB cC cI cJ cZ oA rA σ_74) H → va_S A s.heap H locs → ∀ ls : Array Slot, lv_has ls 6 [(0, .ref (oA 11))] → W p l e (headSpec (g_ws yX8_nounOf cX8_nounOf 6 (some .int)) { frames := 7, cells := 0, slots := 0, locals := 168 }).room s m ([.ref (oA 11), .int p0, .int p1] : List Value).toArray below meth c H locs 0 0 (MQ below (va_Qi (fun r (_ : Unit) => r = res.1) (g_Bo (dC, dI) A (fun (_ : Unit) => (b_e cB cC cI cJ cZ oA rA res.2 ++ b_k cB cC cI cJ cZ oA rA res.2 ++ b_p cB cC cI cJ cZ oA rA res.2 ++ b_o cB cC cI cJ cZ oA rA res.2 ++ b_s cB cC cI cJ cZ oA rA res.2 ++ b_c cB cC cI cJ cZ oA rA res.2 ++ b_t cB cC cI cJ cZ oA rA res.2 ++ b_d cB cC cI cJ cZ oA rA res.2))) A) ([.ref (oA 11), .int p0, .int p1] : List Value).toArray s 0 0 A) (F0 m 65 ls []) := by
        intro  σ_74 hF0 H locs hP hS ls hl
        subst ej_75
        have hF_77 := hF0
        clear hF0
        refine lv_iconst (v := 0) hx hb dX8_nounOf_65 (by decide +kernel) ?_
        exact Jj_71 0 σ_74 hF_77 _ _ hP hS ls (lv_sub hl [0] rfl)
      refine lv_if_eq (tgt := 65) hx hb dX8_nounOf_34 (by decide) (fun c_78 => ?_) (fun c_78 => ?_)
      · have hF_79 := ipos c_78 hF_76
        clear hF_76
        exact Jj_75  u_65.2 hF_79 _ _ hP hS ls (lv_sub hl [2] rfl)
      · have hF_80 := ineg c_78 hF_76
        clear hF_76
        refine lv_aload_n hx hb dX8_nounOf_37 rfl (lv_at hl 2 rfl) ?_
        refine va_get (D := (dC, dI)) (ci := 8) (v := .ref (oA 9)) (C := RX8) (T := TX8) (N := 16) hx hb hts ii_X8 hown hK hP 0 rfl rfl 0 (by decide) (hts (.fieldLink RX8 22 "StoryHouse$Teller" "play" "LStoryHouse$Play;") wq_286) (fun _ h9 => h9) rfl dX8_nounOf_38 ?_
        refine lv_aload_n hx hb dX8_nounOf_41 rfl (lv_at hl 2 rfl) ?_
        refine va_get (D := (dC, dI)) (ci := 8) (v := .ref (oA 9)) (C := RX8) (T := TX8) (N := 16) hx hb hts ii_X8 hown hK hP 0 rfl rfl 0 (by decide) (hts (.fieldLink RX8 22 "StoryHouse$Teller" "play" "LStoryHouse$Play;") wq_286) (fun _ h9 => h9) rfl dX8_nounOf_42 ?_
        refine va_get (D := (dC, dI)) (ci := 6) (v := .int ((u_65.2 9).1 11)) (C := RX6) (T := TX6) (N := 12) hx hb hts ii_X6 hown hK hP 9 rfl rfl 11 (by decide) (hts (.fieldLink RX8 174 "StoryHouse$Play" "it" "I") wq_251) (fun _ h9 => h9) rfl dX8_nounOf_45 ?_
        refine lv_iload_n hx hb dX8_nounOf_48 rfl (lv_at hl 1 rfl) ?_
        obtain ⟨u_81, hu_81, hF_82⟩ := Option.bind_eq_some_iff.mp hF_80
        clear hF_80
        have hPc := hP.sub (ws' := (b_p cB cC cI cJ cZ oA rA u_65.2)) [9, 10, 11, 12, 13, 14, 15, 16] rfl
        have hDc := (hDD u_65.2).sub (ws' := (b_p cB cC cI cJ cZ oA rA u_65.2)) [9, 10, 11, 12, 13, 14, 15, 16] (by decide +kernel) rfl
        have hFc := va_free (wc := (b_p cB cC cI cJ cZ oA rA u_65.2)) (hDD u_65.2) hS hA [9, 10, 11, 12, 13, 14, 15, 16] rfl
        refine g_ofi (wc := (b_p cB cC cI cJ cZ oA rA u_65.2)) (wr := (b_e cB cC cI cJ cZ oA rA u_65.2 ++ b_k cB cC cI cJ cZ oA rA u_65.2 ++ b_o cB cC cI cJ cZ oA rA u_65.2 ++ b_s cB cC cI cJ cZ oA rA u_65.2 ++ b_c cB cC cI cJ cZ oA rA u_65.2 ++ b_t cB cC cI cJ cZ oA rA u_65.2 ++ b_d cB cC cI cJ cZ oA rA u_65.2)) hP (hDD u_65.2) hS hFc [9, 10, 11, 12, 13, 14, 15, 16] [0, 1, 2, 3, 4, 5, 6, 7, 8, 17, 18, 19, 20, 21, 22, 23, 24, 25, 26, 27, 28, 29, 30, 31, 32, 33, 34, 35, 36, 37, 38, 39, 40, 41, 42, 43, 44, 45, 46, 47, 48, 49] rfl rfl (by decide +kernel) (by decide +kernel) (va_runV (As := [.int ((u_65.2 9).1 11), .int u_1.1]) (rest := []) ⟨hx, hb, hml, hown, hts⟩ (k_X6_isInScope l dC dI cB cC cI cJ cZ cP oA rA H.size  ((u_65.2 9).1 11) u_1.1 u_65.2 _ hu_81) (cwV 2 hts (g_gV wq_1097 wq_1098 wq_1099 wq_10 wq_1100) rfl rfl rfl (by decide +kernel) ⟨Nat.le_of_ble_eq_true rfl, Nat.le_of_ble_eq_true rfl⟩) (g_preV g_bl0 hK hPc hDc hS hE hFc g_to0 (q0 := 0) (ci := 6) rfl rfl) rfl rfl hl.1 rfl (lv_room (Nat.le_of_ble_eq_true rfl)) dX8_nounOf_49 ⟨Nat.le_of_ble_eq_true rfl, Nat.le_of_ble_eq_true rfl⟩) (fun r9 u9 H locs hw9 hP' hD' hS => ?_)
        clear hPc hDc hFc
        subst hw9
        obtain ⟨σ_83, eσ_83, hF_84⟩ := bnd_e hF_82
        clear hF_82
        have hP : va_P (dC, dI) vwCl (b_e cB cC cI cJ cZ oA rA σ_83 ++ b_k cB cC cI cJ cZ oA rA σ_83 ++ b_p cB cC cI cJ cZ oA rA σ_83 ++ b_o cB cC cI cJ cZ oA rA σ_83 ++ b_s cB cC cI cJ cZ oA rA σ_83 ++ b_c cB cC cI cJ cZ oA rA σ_83 ++ b_t cB cC cI cJ cZ oA rA σ_83 ++ b_d cB cC cI cJ cZ oA rA σ_83) H := by rw [eσ_83]; exact hP'.sub [0, 1, 2, 3, 4, 5, 6, 7, 8, 42, 43, 44, 45, 46, 47, 48, 49, 9, 10, 11, 12, 13, 14, 15, 16, 17, 18, 19, 20, 21, 22, 23, 24, 25, 26, 27, 28, 29, 30, 31, 32, 33, 34, 35, 36, 37, 38, 39, 40, 41] rfl
        clear hP' hD'
        refine lv_if_eq (tgt := 65) hx hb dX8_nounOf_52 (by decide) (fun c_85 => ?_) (fun c_85 => ?_)
        · have hF_86 := ipos c_85 hF_84
          clear hF_84
          exact Jj_75  σ_83 hF_86 _ _ hP hS ls (lv_sub hl [2] rfl)
        · have hF_87 := ineg c_85 hF_84
          clear hF_84
          refine lv_aload_n hx hb dX8_nounOf_55 rfl (lv_at hl 2 rfl) ?_
          refine va_get (D := (dC, dI)) (ci := 8) (v := .ref (oA 9)) (C := RX8) (T := TX8) (N := 16) hx hb hts ii_X8 hown hK hP 0 rfl rfl 0 (by decide) (hts (.fieldLink RX8 22 "StoryHouse$Teller" "play" "LStoryHouse$Play;") wq_286) (fun _ h9 => h9) rfl dX8_nounOf_56 ?_
          refine va_get (D := (dC, dI)) (ci := 6) (v := .int ((σ_83 9).1 11)) (C := RX6) (T := TX6) (N := 12) hx hb hts ii_X6 hown hK hP 9 rfl rfl 11 (by decide) (hts (.fieldLink RX8 174 "StoryHouse$Play" "it" "I") wq_251) (fun _ h9 => h9) rfl dX8_nounOf_59 ?_
          refine lv_goto (tgt := 66) hx hb dX8_nounOf_62 (by decide) ?_
          exact Jj_71 ((σ_83 9).1 11) σ_83 hF_87 _ _ hP hS ls (lv_sub hl [2] rfl)
