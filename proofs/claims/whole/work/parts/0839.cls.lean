/-! methods of the class: what each does is its function -/
theorem dX8_chooseAll_0 : decode cX8_chooseAll 0 = .ok (.aload_n 0, 1) := by decide +kernel
theorem dX8_chooseAll_1 : decode cX8_chooseAll 1 = .ok (.iconst 0, 1) := by decide +kernel
theorem dX8_chooseAll_2 : decode cX8_chooseAll 2 = .ok (.putfield 192, 3) := by decide +kernel
theorem dX8_chooseAll_5 : decode cX8_chooseAll 5 = .ok (.aload_n 0, 1) := by decide +kernel
theorem dX8_chooseAll_6 : decode cX8_chooseAll 6 = .ok (.aload_n 0, 1) := by decide +kernel
theorem dX8_chooseAll_7 : decode cX8_chooseAll 7 = .ok (.getfield 127, 3) := by decide +kernel
theorem dX8_chooseAll_10 : decode cX8_chooseAll 10 = .ok (.iconst 4, 1) := by decide +kernel
theorem dX8_chooseAll_11 : decode cX8_chooseAll 11 = .ok (.if_icmp .ne 13, 3) := by decide +kernel
theorem dX8_chooseAll_14 : decode cX8_chooseAll 14 = .ok (.aload_n 0, 1) := by decide +kernel
theorem dX8_chooseAll_15 : decode cX8_chooseAll 15 = .ok (.getfield 22, 3) := by decide +kernel
theorem dX8_chooseAll_18 : decode cX8_chooseAll 18 = .ok (.invokevirtual 195, 3) := by decide +kernel
theorem dX8_chooseAll_21 : decode cX8_chooseAll 21 = .ok (.goto 4, 3) := by decide +kernel
theorem dX8_chooseAll_24 : decode cX8_chooseAll 24 = .ok (.iconst 1, 1) := by decide +kernel
theorem dX8_chooseAll_25 : decode cX8_chooseAll 25 = .ok (.putfield 199, 3) := by decide +kernel
theorem dX8_chooseAll_28 : decode cX8_chooseAll 28 = .ok (.aload_n 0, 1) := by decide +kernel
theorem dX8_chooseAll_29 : decode cX8_chooseAll 29 = .ok (.getfield 127, 3) := by decide +kernel
theorem dX8_chooseAll_32 : decode cX8_chooseAll 32 = .ok (.iconst 5, 1) := by decide +kernel
theorem dX8_chooseAll_33 : decode cX8_chooseAll 33 = .ok (.if_icmp .eq 13, 3) := by decide +kernel
theorem dX8_chooseAll_36 : decode cX8_chooseAll 36 = .ok (.aload_n 0, 1) := by decide +kernel
theorem dX8_chooseAll_37 : decode cX8_chooseAll 37 = .ok (.getfield 22, 3) := by decide +kernel
theorem dX8_chooseAll_40 : decode cX8_chooseAll 40 = .ok (.invokevirtual 171, 3) := by decide +kernel
theorem dX8_chooseAll_43 : decode cX8_chooseAll 43 = .ok (.ifCond .eq 117, 3) := by decide +kernel
theorem dX8_chooseAll_46 : decode cX8_chooseAll 46 = .ok (.aload_n 0, 1) := by decide +kernel
theorem dX8_chooseAll_47 : decode cX8_chooseAll 47 = .ok (.getfield 22, 3) := by decide +kernel
theorem dX8_chooseAll_50 : decode cX8_chooseAll 50 = .ok (.getfield 202, 3) := by decide +kernel
theorem dX8_chooseAll_53 : decode cX8_chooseAll 53 = .ok (.aload_n 0, 1) := by decide +kernel
theorem dX8_chooseAll_54 : decode cX8_chooseAll 54 = .ok (.getfield 199, 3) := by decide +kernel
theorem dX8_chooseAll_57 : decode cX8_chooseAll 57 = .ok (.invokestatic 70, 3) := by decide +kernel
theorem dX8_chooseAll_60 : decode cX8_chooseAll 60 = .ok (.istore_n 1, 1) := by decide +kernel
theorem dX8_chooseAll_61 : decode cX8_chooseAll 61 = .ok (.iconst 0, 1) := by decide +kernel
theorem dX8_chooseAll_62 : decode cX8_chooseAll 62 = .ok (.istore_n 2, 1) := by decide +kernel
theorem dX8_chooseAll_63 : decode cX8_chooseAll 63 = .ok (.iload_n 2, 1) := by decide +kernel
theorem dX8_chooseAll_64 : decode cX8_chooseAll 64 = .ok (.bipush 120, 2) := by decide +kernel
theorem dX8_chooseAll_66 : decode cX8_chooseAll 66 = .ok (.if_icmp .ge 94, 3) := by decide +kernel
theorem dX8_chooseAll_69 : decode cX8_chooseAll 69 = .ok (.iload_n 1, 1) := by decide +kernel
theorem dX8_chooseAll_70 : decode cX8_chooseAll 70 = .ok (.ifCond .eq 90, 3) := by decide +kernel
theorem dX8_chooseAll_73 : decode cX8_chooseAll 73 = .ok (.aload_n 0, 1) := by decide +kernel
theorem dX8_chooseAll_74 : decode cX8_chooseAll 74 = .ok (.getfield 127, 3) := by decide +kernel
theorem dX8_chooseAll_77 : decode cX8_chooseAll 77 = .ok (.iconst 4, 1) := by decide +kernel
theorem dX8_chooseAll_78 : decode cX8_chooseAll 78 = .ok (.if_icmp .ne 19, 3) := by decide +kernel
theorem dX8_chooseAll_81 : decode cX8_chooseAll 81 = .ok (.aload_n 0, 1) := by decide +kernel
theorem dX8_chooseAll_82 : decode cX8_chooseAll 82 = .ok (.getfield 22, 3) := by decide +kernel
theorem dX8_chooseAll_85 : decode cX8_chooseAll 85 = .ok (.iload_n 1, 1) := by decide +kernel
theorem dX8_chooseAll_86 : decode cX8_chooseAll 86 = .ok (.iconst 1, 1) := by decide +kernel
theorem dX8_chooseAll_87 : decode cX8_chooseAll 87 = .ok (.invokevirtual 205, 3) := by decide +kernel
theorem dX8_chooseAll_90 : decode cX8_chooseAll 90 = .ok (.ifCond .eq 7, 3) := by decide +kernel
theorem dX8_chooseAll_93 : decode cX8_chooseAll 93 = .ok (.iconst 1, 1) := by decide +kernel
theorem dX8_chooseAll_94 : decode cX8_chooseAll 94 = .ok (.goto 4, 3) := by decide +kernel
theorem dX8_chooseAll_97 : decode cX8_chooseAll 97 = .ok (.iconst 0, 1) := by decide +kernel
theorem dX8_chooseAll_98 : decode cX8_chooseAll 98 = .ok (.istore_n 3, 1) := by decide +kernel
theorem dX8_chooseAll_99 : decode cX8_chooseAll 99 = .ok (.iload_n 1, 1) := by decide +kernel
theorem dX8_chooseAll_100 : decode cX8_chooseAll 100 = .ok (.iconst 1, 1) := by decide +kernel
theorem dX8_chooseAll_101 : decode cX8_chooseAll 101 = .ok (.if_icmp .eq 41, 3) := by decide +kernel
theorem dX8_chooseAll_104 : decode cX8_chooseAll 104 = .ok (.aload_n 0, 1) := by decide +kernel
theorem dX8_chooseAll_105 : decode cX8_chooseAll 105 = .ok (.getfield 22, 3) := by decide +kernel
theorem dX8_chooseAll_108 : decode cX8_chooseAll 108 = .ok (.iload_n 1, 1) := by decide +kernel
theorem dX8_chooseAll_109 : decode cX8_chooseAll 109 = .ok (.iconst 2, 1) := by decide +kernel
theorem dX8_chooseAll_110 : decode cX8_chooseAll 110 = .ok (.invokevirtual 205, 3) := by decide +kernel
theorem dX8_chooseAll_113 : decode cX8_chooseAll 113 = .ok (.ifCond .ne 29, 3) := by decide +kernel
theorem dX8_chooseAll_116 : decode cX8_chooseAll 116 = .ok (.iload_n 3, 1) := by decide +kernel
theorem dX8_chooseAll_117 : decode cX8_chooseAll 117 = .ok (.ifCond .ne 25, 3) := by decide +kernel
theorem dX8_chooseAll_120 : decode cX8_chooseAll 120 = .ok (.aload_n 0, 1) := by decide +kernel
theorem dX8_chooseAll_121 : decode cX8_chooseAll 121 = .ok (.getfield 19, 3) := by decide +kernel
theorem dX8_chooseAll_124 : decode cX8_chooseAll 124 = .ok (.aload_n 0, 1) := by decide +kernel
theorem dX8_chooseAll_125 : decode cX8_chooseAll 125 = .ok (.getfield 192, 3) := by decide +kernel
theorem dX8_chooseAll_128 : decode cX8_chooseAll 128 = .ok (.iload_n 1, 1) := by decide +kernel
theorem dX8_chooseAll_129 : decode cX8_chooseAll 129 = .ok (.invokestatic 105, 3) := by decide +kernel
theorem dX8_chooseAll_132 : decode cX8_chooseAll 132 = .ok (.aload_n 0, 1) := by decide +kernel
theorem dX8_chooseAll_133 : decode cX8_chooseAll 133 = .ok (.dup, 1) := by decide +kernel
theorem dX8_chooseAll_134 : decode cX8_chooseAll 134 = .ok (.getfield 192, 3) := by decide +kernel
theorem dX8_chooseAll_137 : decode cX8_chooseAll 137 = .ok (.iconst 1, 1) := by decide +kernel
theorem dX8_chooseAll_138 : decode cX8_chooseAll 138 = .ok (.iadd, 1) := by decide +kernel
theorem dX8_chooseAll_139 : decode cX8_chooseAll 139 = .ok (.putfield 192, 3) := by decide +kernel
theorem dX8_chooseAll_142 : decode cX8_chooseAll 142 = .ok (.aload_n 0, 1) := by decide +kernel
theorem dX8_chooseAll_143 : decode cX8_chooseAll 143 = .ok (.getfield 22, 3) := by decide +kernel
theorem dX8_chooseAll_146 : decode cX8_chooseAll 146 = .ok (.getfield 208, 3) := by decide +kernel
theorem dX8_chooseAll_149 : decode cX8_chooseAll 149 = .ok (.iload_n 1, 1) := by decide +kernel
theorem dX8_chooseAll_150 : decode cX8_chooseAll 150 = .ok (.invokestatic 70, 3) := by decide +kernel
theorem dX8_chooseAll_153 : decode cX8_chooseAll 153 = .ok (.istore_n 1, 1) := by decide +kernel
theorem dX8_chooseAll_154 : decode cX8_chooseAll 154 = .ok (.iinc 2 1, 3) := by decide +kernel
theorem dX8_chooseAll_157 : decode cX8_chooseAll 157 = .ok (.goto (-94), 3) := by decide +kernel
theorem dX8_chooseAll_160 : decode cX8_chooseAll 160 = .ok (.aload_n 0, 1) := by decide +kernel
theorem dX8_chooseAll_161 : decode cX8_chooseAll 161 = .ok (.getfield 192, 3) := by decide +kernel
theorem dX8_chooseAll_164 : decode cX8_chooseAll 164 = .ok (.ifCond .gt 12, 3) := by decide +kernel
theorem dX8_chooseAll_167 : decode cX8_chooseAll 167 = .ok (.aload_n 0, 1) := by decide +kernel
theorem dX8_chooseAll_168 : decode cX8_chooseAll 168 = .ok (.ldc 211, 2) := by decide +kernel
theorem dX8_chooseAll_170 : decode cX8_chooseAll 170 = .ok (.invokevirtual 42, 3) := by decide +kernel
theorem dX8_chooseAll_173 : decode cX8_chooseAll 173 = .ok (.ifCond .eq 7, 3) := by decide +kernel
theorem dX8_chooseAll_176 : decode cX8_chooseAll 176 = .ok (.iconst 1, 1) := by decide +kernel
theorem dX8_chooseAll_177 : decode cX8_chooseAll 177 = .ok (.goto 4, 3) := by decide +kernel
theorem dX8_chooseAll_180 : decode cX8_chooseAll 180 = .ok (.iconst 0, 1) := by decide +kernel
theorem dX8_chooseAll_181 : decode cX8_chooseAll 181 = .ok (.ireturn, 1) := by decide +kernel
def F_X8_chooseAll  (Γ : HS) : HR :=
  bnd (cI' Γ 11 15 0) fun σ_1 =>
  bnd (fun (t_3 : Int32) (σ_4 : HS) => (
    bnd (cI' σ_4 11 13 t_3) fun σ_8 =>
    bnd (fun  (σ_10 : HS) => (
      if 0 < ((σ_10 11).1 15) then (
        some (1, σ_10)
      ) else (
        (F_X8_refuse ([84, 104, 101, 114, 101, 32, 105, 115, 32, 110, 111, 116, 104, 105, 110, 103, 32, 116, 111, 32, 100, 111, 46] : List Int32) σ_10).bind fun u_18 =>
        if u_18.1 = 0 then (
          some (0, u_18.2)
        ) else (
          some (1, u_18.2)
        )
      )
    ) : HS → HR) fun j_11 =>
    bnd (fun  (σ_23 : HS) => (
      bnd (((σ_23 11).1 13)) fun (x_27 : Int32) =>
      bnd ((g_at 121 ((σ_23 9).2.1 1) x_27)) fun (x_29 : Int32) =>
      loopF (fun (again_32 : (Int32 × Int32 × HS) → HR) (s_31 : Int32 × Int32 × HS) => (
        if 120 ≤ s_31.2.1 then (
          j_11  s_31.2.2
        ) else (
          if s_31.1 = 0 then (
            j_11  s_31.2.2
          ) else (
            bnd (fun (t_41 : Int32) (σ_42 : HS) => (
              bnd (fun  (σ_46 : HS) => (
                bnd ((g_at 121 ((σ_46 9).2.1 2) s_31.1)) fun (x_50 : Int32) =>
                bnd (s_31.2.1 + 1) fun (x_52 : Int32) =>
                again_32 (x_50, x_52, σ_46)
              ) : HS → HR) fun j_47 =>
              if s_31.1 = 1 then (
                j_47  σ_42
              ) else (
                (F_X6_bears s_31.1 2 σ_42).bind fun u_57 =>
                bnd (mrg (fun j => j == 9) σ_42 u_57.2) fun σ_59 =>
                if u_57.1 = 0 then (
                  if t_41 = 0 then (
                    bnd (cA' σ_59 11 14 (g_put 120 ((σ_59 11).2.1 14) ((σ_59 11).1 15) s_31.1)) fun σ_65 =>
                    bnd (cI' σ_65 11 15 (((σ_65 11).1 15) + 1)) fun σ_67 =>
                    j_47  σ_67
                  ) else (
                    j_47  σ_59
                  )
                ) else (
                  j_47  σ_59
                )
              )
            ) : Int32 → HS → HR) fun j_43 =>
            bnd (fun  (σ_71 : HS) => (
              j_43 0 σ_71
            ) : HS → HR) fun j_72 =>
            if ((s_31.2.2 11).1 8) = 4 then (
              (F_X6_bears s_31.1 1 s_31.2.2).bind fun u_77 =>
              bnd (mrg (fun j => j == 9) s_31.2.2 u_77.2) fun σ_79 =>
              if u_77.1 = 0 then (
                j_72  σ_79
              ) else (
                j_43 1 σ_79
              )
            ) else (
              j_72  s_31.2.2
            )
          )
        )
      )) FU (x_29, 0, σ_23)
    ) : HS → HR) fun j_24 =>
    if ((σ_8 11).1 8) = 5 then (
      j_24  σ_8
    ) else (
      (F_X6_isLight σ_8).bind fun u_88 =>
      bnd (mrg (fun j => j == 9) σ_8 u_88.2) fun σ_90 =>
      if u_88.1 = 0 then (
        j_11  σ_90
      ) else (
        j_24  σ_90
      )
    )
  ) : Int32 → HS → HR) fun j_5 =>
  if ((σ_1 11).1 8) = 4 then (
    (F_X6_here σ_1).bind fun u_97 =>
    bnd (mrg (fun j => j == 9) σ_1 u_97.2) fun σ_99 =>
    j_5 u_97.1 σ_99
  ) else (
    j_5 1 σ_1
  )
set_option maxHeartbeats 4000000 in
set_option maxRecDepth 100000 in
theorem k_X8_chooseAll (l : Launch) (dC : Nat → ClassId) (dI : Nat → Nat → Nat) (cB cC cI cJ cZ cP : ClassId) (oA : Nat → Nat) (rA : Nat → Nat → Nat) (sz : Nat)   (Γ : HS) (res : Int32 × HS) (hF : F_X8_chooseAll  Γ = some res) : Met l yX8_chooseAll (g_ws yX8_chooseAll cX8_chooseAll 4 (some .boolean)) ({ frames := 8, cells := 0, slots := 0, locals := 189 }) (va_Pc [.ref (oA 11)] (g_B (dC, dI) [(cB, .byte), (cC, .char), (cI, .int), (cJ, .long), (cZ, .boolean), (cP, .object "StoryHouse$Play")] sz (b_e cB cC cI cJ cZ oA rA Γ ++ b_k cB cC cI cJ cZ oA rA Γ ++ b_p cB cC cI cJ cZ oA rA Γ ++ b_o cB cC cI cJ cZ oA rA Γ ++ b_s cB cC cI cJ cZ oA rA Γ ++ b_c cB cC cI cJ cZ oA rA Γ ++ b_t cB cC cI cJ cZ oA rA Γ ++ b_d cB cC cI cJ cZ oA rA Γ) g_0)) (va_Qi (fun r (_ : Unit) => r = res.1) (g_Bo (dC, dI) (va_A (b_e cB cC cI cJ cZ oA rA Γ ++ b_k cB cC cI cJ cZ oA rA Γ ++ b_p cB cC cI cJ cZ oA rA Γ ++ b_o cB cC cI cJ cZ oA rA Γ ++ b_s cB cC cI cJ cZ oA rA Γ ++ b_c cB cC cI cJ cZ oA rA Γ ++ b_t cB cC cI cJ cZ oA rA Γ ++ b_d cB cC cI cJ cZ oA rA Γ) sz) (fun (_ : Unit) => (b_e cB cC cI cJ cZ oA rA res.2 ++ b_k cB cC cI cJ cZ oA rA res.2 ++ b_p cB cC cI cJ cZ oA rA res.2 ++ b_o cB cC cI cJ cZ oA rA res.2 ++ b_s cB cC cI cJ cZ oA rA res.2 ++ b_c cB cC cI cJ cZ oA rA res.2 ++ b_t cB cC cI cJ cZ oA rA res.2 ++ b_d cB cC cI cJ cZ oA rA res.2))) (va_A (b_e cB cC cI cJ cZ oA rA Γ ++ b_k cB cC cI cJ cZ oA rA Γ ++ b_p cB cC cI cJ cZ oA rA Γ ++ b_o cB cC cI cJ cZ oA rA Γ ++ b_s cB cC cI cJ cZ oA rA Γ ++ b_c cB cC cI cJ cZ oA rA Γ ++ b_t cB cC cI cJ cZ oA rA Γ ++ b_d cB cC cI cJ cZ oA rA Γ) sz)) 0 0 (va_A (b_e cB cC cI cJ cZ oA rA Γ ++ b_k cB cC cI cJ cZ oA rA Γ ++ b_p cB cC cI cJ cZ oA rA Γ ++ b_o cB cC cI cJ cZ oA rA Γ ++ b_s cB cC cI cJ cZ oA rA Γ ++ b_c cB cC cI cJ cZ oA rA Γ ++ b_t cB cC cI cJ cZ oA rA Γ ++ b_d cB cC cI cJ cZ oA rA Γ) sz) := by
  refine Met.ofW (cc := cX8_chooseAll) (maxL := 4) (ret := (some .boolean)) (by decide) rfl ?_
  intro p e s m args below meth c s₁ B hml hv
  obtain ⟨rfl, hsz, hP, hK, hD0, hE, hX⟩ := hv
  have hx := B.exec
  have hb := B.bytes
  have hr := B.returns
  have hts0 := atoms_spec (ws := g_ws yX8_chooseAll cX8_chooseAll 4 (some .boolean)) B.pre
  have hts : ∀ w ∈ lw_good, w.before ([.ref (oA 11)] : List Value).toArray s = true := fun w z => hts0 w (List.mem_cons_of_mem _ z)
  have hown : s.vm.findClass RX8 = some m.cls := findClass_of_methodNamed B.named
  have hlocks := B.notSynchronized
  subst hsz
  have hD1 := hD0.self (sz := s.heap.size)
  generalize hAe : va_A (b_e cB cC cI cJ cZ oA rA Γ ++ b_k cB cC cI cJ cZ oA rA Γ ++ b_p cB cC cI cJ cZ oA rA Γ ++ b_o cB cC cI cJ cZ oA rA Γ ++ b_s cB cC cI cJ cZ oA rA Γ ++ b_c cB cC cI cJ cZ oA rA Γ ++ b_t cB cC cI cJ cZ oA rA Γ ++ b_d cB cC cI cJ cZ oA rA Γ) s.heap.size = A at hD1 hE hX ⊢
  have hA : ∀ q : Nat, s.heap.size ≤ q → A q := fun q z => by rw [← hAe]; exact Or.inr z
  have hDD : ∀ Γ : HS, va_D A (b_e cB cC cI cJ cZ oA rA Γ ++ b_k cB cC cI cJ cZ oA rA Γ ++ b_p cB cC cI cJ cZ oA rA Γ ++ b_o cB cC cI cJ cZ oA rA Γ ++ b_s cB cC cI cJ cZ oA rA Γ ++ b_c cB cC cI cJ cZ oA rA Γ ++ b_t cB cC cI cJ cZ oA rA Γ ++ b_d cB cC cI cJ cZ oA rA Γ) := fun Γ9 => va_D_fst (ws := (b_e cB cC cI cJ cZ oA rA Γ ++ b_k cB cC cI cJ cZ oA rA Γ ++ b_p cB cC cI cJ cZ oA rA Γ ++ b_o cB cC cI cJ cZ oA rA Γ ++ b_s cB cC cI cJ cZ oA rA Γ ++ b_c cB cC cI cJ cZ oA rA Γ ++ b_t cB cC cI cJ cZ oA rA Γ ++ b_d cB cC cI cJ cZ oA rA Γ)) (ws' := (b_e cB cC cI cJ cZ oA rA Γ9 ++ b_k cB cC cI cJ cZ oA rA Γ9 ++ b_p cB cC cI cJ cZ oA rA Γ9 ++ b_o cB cC cI cJ cZ oA rA Γ9 ++ b_s cB cC cI cJ cZ oA rA Γ9 ++ b_c cB cC cI cJ cZ oA rA Γ9 ++ b_t cB cC cI cJ cZ oA rA Γ9 ++ b_d cB cC cI cJ cZ oA rA Γ9)) rfl hD1
  have hN := hE.1
  have hS : va_S A s.heap s.heap [] := va_S.rf
  have hl := lv_entry ([.ref (oA 11)]) (n := 4) (Nat.le_of_ble_eq_true rfl)
  rw [lg_entry_eq]
  generalize (lg_sl ([.ref (oA 11)]) ++ List.replicate (4 - (lg_sl ([.ref (oA 11)])).length) Slot.unset).toArray = ls at hl ⊢
  have hl : lv_has ls 4 [(0, .ref (oA 11))] := hl
  unfold F_X8_chooseAll at hF
  refine lv_aload_n hx hb dX8_chooseAll_0 rfl (lv_at hl 0 rfl) ?_
  refine lv_iconst (v := 0) hx hb dX8_chooseAll_1 (by decide +kernel) ?_
  obtain ⟨σ_1, eσ_1, hF_2⟩ := bnd_e hF
  clear hF
  refine va_put (D := (dC, dI)) (ci := 8) (v := .int 0) (ty := .int) (C := RX8) (T := TX8) (N := 16) hx hb hts ii_X8 tyX8 tyX8_ok nmX8 hown hK hP (hDD _) hS 0 rfl rfl 15 (by decide) (hts (.fieldLink RX8 192 "StoryHouse$Teller" "chosenCount" "I") wq_302) (fun _ h9 => h9) rfl (by decide +kernel) rfl rfl (Nat.le_of_ble_eq_true rfl) dX8_chooseAll_2 (fun H locs hP' _ hS => ?_)
  have hP : va_P (dC, dI) vwCl (b_e cB cC cI cJ cZ oA rA σ_1 ++ b_k cB cC cI cJ cZ oA rA σ_1 ++ b_p cB cC cI cJ cZ oA rA σ_1 ++ b_o cB cC cI cJ cZ oA rA σ_1 ++ b_s cB cC cI cJ cZ oA rA σ_1 ++ b_c cB cC cI cJ cZ oA rA σ_1 ++ b_t cB cC cI cJ cZ oA rA σ_1 ++ b_d cB cC cI cJ cZ oA rA σ_1) H := by rw [eσ_1]; exact cs_ekposctd_e_15 ▸ hP'
  clear hP'
  refine lv_aload_n hx hb dX8_chooseAll_5 rfl (lv_at hl 0 rfl) ?_
  refine lv_aload_n hx hb dX8_chooseAll_6 rfl (lv_at hl 0 rfl) ?_
  refine va_get (D := (dC, dI)) (ci := 8) (v := .int ((σ_1 11).1 8)) (C := RX8) (T := TX8) (N := 16) hx hb hts ii_X8 hown hK hP 0 rfl rfl 8 (by decide) (hts (.fieldLink RX8 127 "StoryHouse$Teller" "verb" "I") wq_295) (fun _ h9 => h9) rfl dX8_chooseAll_7 ?_
  refine lv_iconst (v := 4) hx hb dX8_chooseAll_10 (by decide +kernel) ?_
  obtain ⟨j_5, ej_5, hF_6⟩ := bnd_e hF_2
  clear hF_2
  have Jj_5 : ∀ (t_3 : Int32) (σ_4 : HS), j_5 t_3 σ_4 = some res → ∀ (H : Heap) (locs : List Loc), va_P (dC, dI) vwCl (b_e cB cC cI cJ cZ oA rA σ_4 ++ b_k cB cC cI cJ cZ oA rA σ_4 ++ b_p cB cC cI cJ cZ oA rA σ_4 ++ b_o cB cC cI cJ cZ oA rA σ_4 ++ b_s cB cC cI cJ cZ oA rA σ_4 ++ b_c cB cC cI cJ cZ oA rA σ_4 ++ b_t cB cC cI cJ cZ oA rA σ_4 ++ b_d cB cC cI cJ cZ oA rA σ_4) H → va_S A s.heap H locs → ∀ ls : Array Slot, lv_has ls 4 [(0, .ref (oA 11))] → W p l e (headSpec (g_ws yX8_chooseAll cX8_chooseAll 4 (some .boolean)) { frames := 8, cells := 0, slots := 0, locals := 189 }).room s m ([.ref (oA 11)] : List Value).toArray below meth c H locs 0 0 (MQ below (va_Qi (fun r (_ : Unit) => r = res.1) (g_Bo (dC, dI) A (fun (_ : Unit) => (b_e cB cC cI cJ cZ oA rA res.2 ++ b_k cB cC cI cJ cZ oA rA res.2 ++ b_p cB cC cI cJ cZ oA rA res.2 ++ b_o cB cC cI cJ cZ oA rA res.2 ++ b_s cB cC cI cJ cZ oA rA res.2 ++ b_c cB cC cI cJ cZ oA rA res.2 ++ b_t cB cC cI cJ cZ oA rA res.2 ++ b_d cB cC cI cJ cZ oA rA res.2))) A) ([.ref (oA 11)] : List Value).toArray s 0 0 A) (F0 m 25 ls [.int t_3, .ref (oA 11)]) := by
    intro t_3 σ_4 hF0 H locs hP hS ls hl
    subst ej_5
    have hF_7 := hF0
    clear hF0
    obtain ⟨σ_8, eσ_8, hF_9⟩ := bnd_e hF_7
    clear hF_7
    refine va_put (D := (dC, dI)) (ci := 8) (v := .int t_3) (ty := .int) (C := RX8) (T := TX8) (N := 16) hx hb hts ii_X8 tyX8 tyX8_ok nmX8 hown hK hP (hDD _) hS 0 rfl rfl 13 (by decide) (hts (.fieldLink RX8 199 "StoryHouse$Teller" "source" "I") wq_300) (fun _ h9 => h9) rfl (by decide +kernel) rfl rfl (Nat.le_of_ble_eq_true rfl) dX8_chooseAll_25 (fun H locs hP' _ hS => ?_)
    have hP : va_P (dC, dI) vwCl (b_e cB cC cI cJ cZ oA rA σ_8 ++ b_k cB cC cI cJ cZ oA rA σ_8 ++ b_p cB cC cI cJ cZ oA rA σ_8 ++ b_o cB cC cI cJ cZ oA rA σ_8 ++ b_s cB cC cI cJ cZ oA rA σ_8 ++ b_c cB cC cI cJ cZ oA rA σ_8 ++ b_t cB cC cI cJ cZ oA rA σ_8 ++ b_d cB cC cI cJ cZ oA rA σ_8) H := by rw [eσ_8]; exact cs_ekposctd_e_13 ▸ hP'
    clear hP'
    refine lv_aload_n hx hb dX8_chooseAll_28 rfl (lv_at hl 0 rfl) ?_
    refine va_get (D := (dC, dI)) (ci := 8) (v := .int ((σ_8 11).1 8)) (C := RX8) (T := TX8) (N := 16) hx hb hts ii_X8 hown hK hP 0 rfl rfl 8 (by decide) (hts (.fieldLink RX8 127 "StoryHouse$Teller" "verb" "I") wq_295) (fun _ h9 => h9) rfl dX8_chooseAll_29 ?_
    refine lv_iconst (v := 5) hx hb dX8_chooseAll_32 (by decide +kernel) ?_
    obtain ⟨j_11, ej_11, hF_12⟩ := bnd_e hF_9
    clear hF_9
    have Jj_11 : ∀  (σ_10 : HS), j_11  σ_10 = some res → ∀ (H : Heap) (locs : List Loc), va_P (dC, dI) vwCl (b_e cB cC cI cJ cZ oA rA σ_10 ++ b_k cB cC cI cJ cZ oA rA σ_10 ++ b_p cB cC cI cJ cZ oA rA σ_10 ++ b_o cB cC cI cJ cZ oA rA σ_10 ++ b_s cB cC cI cJ cZ oA rA σ_10 ++ b_c cB cC cI cJ cZ oA rA σ_10 ++ b_t cB cC cI cJ cZ oA rA σ_10 ++ b_d cB cC cI cJ cZ oA rA σ_10) H → va_S A s.heap H locs → ∀ ls : Array Slot, lv_has ls 4 [(0, .ref (oA 11))] → W p l e (headSpec (g_ws yX8_chooseAll cX8_chooseAll 4 (some .boolean)) { frames := 8, cells := 0, slots := 0, locals := 189 }).room s m ([.ref (oA 11)] : List Value).toArray below meth c H locs 0 0 (MQ below (va_Qi (fun r (_ : Unit) => r = res.1) (g_Bo (dC, dI) A (fun (_ : Unit) => (b_e cB cC cI cJ cZ oA rA res.2 ++ b_k cB cC cI cJ cZ oA rA res.2 ++ b_p cB cC cI cJ cZ oA rA res.2 ++ b_o cB cC cI cJ cZ oA rA res.2 ++ b_s cB cC cI cJ cZ oA rA res.2 ++ b_c cB cC cI cJ cZ oA rA res.2 ++ b_t cB cC cI cJ cZ oA rA res.2 ++ b_d cB cC cI cJ cZ oA rA res.2))) A) ([.ref (oA 11)] : List Value).toArray s 0 0 A) (F0 m 160 ls []) := by
      intro  σ_10 hF0 H locs hP hS ls hl
      subst ej_11
      have hF_13 := hF0
      clear hF0
      refine lv_aload_n hx hb dX8_chooseAll_160 rfl (lv_at hl 0 rfl) ?_
      refine va_get (D := (dC, dI)) (ci := 8) (v := .int ((σ_10 11).1 15)) (C := RX8) (T := TX8) (N := 16) hx hb hts ii_X8 hown hK hP 0 rfl rfl 15 (by decide) (hts (.fieldLink RX8 192 "StoryHouse$Teller" "chosenCount" "I") wq_302) (fun _ h9 => h9) rfl dX8_chooseAll_161 ?_
      refine lv_if_gt (tgt := 176) hx hb dX8_chooseAll_164 (by decide) (fun c_14 => ?_) (fun c_14 => ?_)
      · have hF_15 := ipos c_14 hF_13
        clear hF_13
        refine lv_iconst (v := 1) hx hb dX8_chooseAll_176 (by decide +kernel) ?_
        refine lv_goto (tgt := 181) hx hb dX8_chooseAll_177 (by decide) ?_
        have h9 := Option.some.inj hF_15
        subst h9
        exact W.zret (v := 1) hx hb hr (by decide +kernel) (fun t ht hW => ⟨⟨1, (), rfl, rfl, m_end ht hP, hDD _⟩, hS.F ht⟩) hS.2.2 dX8_chooseAll_181
      · have hF_16 := ineg c_14 hF_13
        clear hF_13
        refine lv_aload_n hx hb dX8_chooseAll_167 rfl (lv_at hl 0 rfl) ?_
        obtain ⟨q_17, vq_17, hRq_17, hSq_17⟩ := hE.2.2.2.2 _ (List.mem_of_getElem? (i := 42) rfl)
        refine va_ldcS (own := RX8) (tx := "There is nothing to do.") hx hb hown hRq_17 dX8_chooseAll_168 ?_
        obtain ⟨u_18, hu_18, hF_19⟩ := Option.bind_eq_some_iff.mp hF_16
        clear hF_16
        have hPc := bx_P (bs := [b_e cB cC cI cJ cZ oA rA σ_10, b_k cB cC cI cJ cZ oA rA σ_10, b_p cB cC cI cJ cZ oA rA σ_10, b_o cB cC cI cJ cZ oA rA σ_10, b_s cB cC cI cJ cZ oA rA σ_10, b_c cB cC cI cJ cZ oA rA σ_10, b_t cB cC cI cJ cZ oA rA σ_10, b_d cB cC cI cJ cZ oA rA σ_10]) (bs' := [b_e cB cC cI cJ cZ oA rA σ_10, b_k cB cC cI cJ cZ oA rA σ_10, b_p cB cC cI cJ cZ oA rA σ_10, b_o cB cC cI cJ cZ oA rA σ_10, b_s cB cC cI cJ cZ oA rA σ_10, b_c cB cC cI cJ cZ oA rA σ_10, b_t cB cC cI cJ cZ oA rA σ_10, b_d cB cC cI cJ cZ oA rA σ_10]) (ws' := (b_e cB cC cI cJ cZ oA rA σ_10 ++ b_k cB cC cI cJ cZ oA rA σ_10 ++ b_p cB cC cI cJ cZ oA rA σ_10 ++ b_o cB cC cI cJ cZ oA rA σ_10 ++ b_s cB cC cI cJ cZ oA rA σ_10 ++ b_c cB cC cI cJ cZ oA rA σ_10 ++ b_t cB cC cI cJ cZ oA rA σ_10 ++ b_d cB cC cI cJ cZ oA rA σ_10)) hP fl_8 fl_8 [0, 1, 2, 3, 4, 5, 6, 7] rfl
        have hDc := bx_D (bs := [b_e cB cC cI cJ cZ oA rA σ_10, b_k cB cC cI cJ cZ oA rA σ_10, b_p cB cC cI cJ cZ oA rA σ_10, b_o cB cC cI cJ cZ oA rA σ_10, b_s cB cC cI cJ cZ oA rA σ_10, b_c cB cC cI cJ cZ oA rA σ_10, b_t cB cC cI cJ cZ oA rA σ_10, b_d cB cC cI cJ cZ oA rA σ_10]) (bs' := [b_e cB cC cI cJ cZ oA rA σ_10, b_k cB cC cI cJ cZ oA rA σ_10, b_p cB cC cI cJ cZ oA rA σ_10, b_o cB cC cI cJ cZ oA rA σ_10, b_s cB cC cI cJ cZ oA rA σ_10, b_c cB cC cI cJ cZ oA rA σ_10, b_t cB cC cI cJ cZ oA rA σ_10, b_d cB cC cI cJ cZ oA rA σ_10]) (ws' := (b_e cB cC cI cJ cZ oA rA σ_10 ++ b_k cB cC cI cJ cZ oA rA σ_10 ++ b_p cB cC cI cJ cZ oA rA σ_10 ++ b_o cB cC cI cJ cZ oA rA σ_10 ++ b_s cB cC cI cJ cZ oA rA σ_10 ++ b_c cB cC cI cJ cZ oA rA σ_10 ++ b_t cB cC cI cJ cZ oA rA σ_10 ++ b_d cB cC cI cJ cZ oA rA σ_10)) (hDD σ_10) fl_8 fl_8 [0, 1, 2, 3, 4, 5, 6, 7] (by decide +kernel) rfl
        have hFc := bx_F (bs := [b_e cB cC cI cJ cZ oA rA σ_10, b_k cB cC cI cJ cZ oA rA σ_10, b_p cB cC cI cJ cZ oA rA σ_10, b_o cB cC cI cJ cZ oA rA σ_10, b_s cB cC cI cJ cZ oA rA σ_10, b_c cB cC cI cJ cZ oA rA σ_10, b_t cB cC cI cJ cZ oA rA σ_10, b_d cB cC cI cJ cZ oA rA σ_10]) (bs' := [b_e cB cC cI cJ cZ oA rA σ_10, b_k cB cC cI cJ cZ oA rA σ_10, b_p cB cC cI cJ cZ oA rA σ_10, b_o cB cC cI cJ cZ oA rA σ_10, b_s cB cC cI cJ cZ oA rA σ_10, b_c cB cC cI cJ cZ oA rA σ_10, b_t cB cC cI cJ cZ oA rA σ_10, b_d cB cC cI cJ cZ oA rA σ_10]) (wc := (b_e cB cC cI cJ cZ oA rA σ_10 ++ b_k cB cC cI cJ cZ oA rA σ_10 ++ b_p cB cC cI cJ cZ oA rA σ_10 ++ b_o cB cC cI cJ cZ oA rA σ_10 ++ b_s cB cC cI cJ cZ oA rA σ_10 ++ b_c cB cC cI cJ cZ oA rA σ_10 ++ b_t cB cC cI cJ cZ oA rA σ_10 ++ b_d cB cC cI cJ cZ oA rA σ_10)) (hDD σ_10) hS hA fl_8 fl_8 [0, 1, 2, 3, 4, 5, 6, 7] rfl
        refine g_ofi (wc := (b_e cB cC cI cJ cZ oA rA σ_10 ++ b_k cB cC cI cJ cZ oA rA σ_10 ++ b_p cB cC cI cJ cZ oA rA σ_10 ++ b_o cB cC cI cJ cZ oA rA σ_10 ++ b_s cB cC cI cJ cZ oA rA σ_10 ++ b_c cB cC cI cJ cZ oA rA σ_10 ++ b_t cB cC cI cJ cZ oA rA σ_10 ++ b_d cB cC cI cJ cZ oA rA σ_10)) (wr := ([] : va_W)) hP (hDD σ_10) hS hFc (bx_ix [b_e cB cC cI cJ cZ oA rA σ_10, b_k cB cC cI cJ cZ oA rA σ_10, b_p cB cC cI cJ cZ oA rA σ_10, b_o cB cC cI cJ cZ oA rA σ_10, b_s cB cC cI cJ cZ oA rA σ_10, b_c cB cC cI cJ cZ oA rA σ_10, b_t cB cC cI cJ cZ oA rA σ_10, b_d cB cC cI cJ cZ oA rA σ_10] [0, 1, 2, 3, 4, 5, 6, 7]) (bx_ix [b_e cB cC cI cJ cZ oA rA σ_10, b_k cB cC cI cJ cZ oA rA σ_10, b_p cB cC cI cJ cZ oA rA σ_10, b_o cB cC cI cJ cZ oA rA σ_10, b_s cB cC cI cJ cZ oA rA σ_10, b_c cB cC cI cJ cZ oA rA σ_10, b_t cB cC cI cJ cZ oA rA σ_10, b_d cB cC cI cJ cZ oA rA σ_10] []) (bx_C (bs := [b_e cB cC cI cJ cZ oA rA σ_10, b_k cB cC cI cJ cZ oA rA σ_10, b_p cB cC cI cJ cZ oA rA σ_10, b_o cB cC cI cJ cZ oA rA σ_10, b_s cB cC cI cJ cZ oA rA σ_10, b_c cB cC cI cJ cZ oA rA σ_10, b_t cB cC cI cJ cZ oA rA σ_10, b_d cB cC cI cJ cZ oA rA σ_10]) (bs' := [b_e cB cC cI cJ cZ oA rA σ_10, b_k cB cC cI cJ cZ oA rA σ_10, b_p cB cC cI cJ cZ oA rA σ_10, b_o cB cC cI cJ cZ oA rA σ_10, b_s cB cC cI cJ cZ oA rA σ_10, b_c cB cC cI cJ cZ oA rA σ_10, b_t cB cC cI cJ cZ oA rA σ_10, b_d cB cC cI cJ cZ oA rA σ_10]) (is := [0, 1, 2, 3, 4, 5, 6, 7]) fl_8 fl_8 rfl) (bx_C (bs := [b_e cB cC cI cJ cZ oA rA σ_10, b_k cB cC cI cJ cZ oA rA σ_10, b_p cB cC cI cJ cZ oA rA σ_10, b_o cB cC cI cJ cZ oA rA σ_10, b_s cB cC cI cJ cZ oA rA σ_10, b_c cB cC cI cJ cZ oA rA σ_10, b_t cB cC cI cJ cZ oA rA σ_10, b_d cB cC cI cJ cZ oA rA σ_10]) (bs' := []) (is := []) fl_8 fl_0 rfl) (bx_n (by decide +kernel)) (bx_d (by decide +kernel)) (va_runV (As := [.ref q_17]) (rest := []) ⟨hx, hb, hml, hown, hts⟩ (k_X8_refuse l dC dI cB cC cI cJ cZ cP oA rA H.size q_17 _ ([84, 104, 101, 114, 101, 32, 105, 115, 32, 110, 111, 116, 104, 105, 110, 103, 32, 116, 111, 32, 100, 111, 46] : List Int32) σ_10 _ hu_18) (cwV 1 hts (g_gV wq_1050 wq_1051 wq_2071 wq_12 wq_1052) rfl rfl rfl (by decide +kernel) ⟨Nat.le_of_ble_eq_true rfl, Nat.le_of_ble_eq_true rfl⟩) (g_preV g_blS hK hPc hDc hS hE hFc (g_toS hSq_17 hS hFc) (q0 := 0) (ci := 8) rfl rfl) rfl rfl hl.1 rfl (lv_room (Nat.le_of_ble_eq_true rfl)) dX8_chooseAll_170 ⟨Nat.le_of_ble_eq_true rfl, Nat.le_of_ble_eq_true rfl⟩) (fun r9 u9 H locs hw9 hP' hD' hS => ?_)
        clear hPc hDc hFc
        subst hw9
        have hP : va_P (dC, dI) vwCl (b_e cB cC cI cJ cZ oA rA u_18.2 ++ b_k cB cC cI cJ cZ oA rA u_18.2 ++ b_p cB cC cI cJ cZ oA rA u_18.2 ++ b_o cB cC cI cJ cZ oA rA u_18.2 ++ b_s cB cC cI cJ cZ oA rA u_18.2 ++ b_c cB cC cI cJ cZ oA rA u_18.2 ++ b_t cB cC cI cJ cZ oA rA u_18.2 ++ b_d cB cC cI cJ cZ oA rA u_18.2) H := hP'
        clear hP' hD'
        refine lv_if_eq (tgt := 180) hx hb dX8_chooseAll_173 (by decide) (fun c_20 => ?_) (fun c_20 => ?_)
        · have hF_21 := ipos c_20 hF_19
          clear hF_19
          refine lv_iconst (v := 0) hx hb dX8_chooseAll_180 (by decide +kernel) ?_
          have h9 := Option.some.inj hF_21
          subst h9
          exact W.zret (v := 0) hx hb hr (by decide +kernel) (fun t ht hW => ⟨⟨0, (), rfl, rfl, m_end ht hP, hDD _⟩, hS.F ht⟩) hS.2.2 dX8_chooseAll_181
        · have hF_22 := ineg c_20 hF_19
          clear hF_19
          refine lv_iconst (v := 1) hx hb dX8_chooseAll_176 (by decide +kernel) ?_
          refine lv_goto (tgt := 181) hx hb dX8_chooseAll_177 (by decide) ?_
          have h9 := Option.some.inj hF_22
          subst h9
          exact W.zret (v := 1) hx hb hr (by decide +kernel) (fun t ht hW => ⟨⟨1, (), rfl, rfl, m_end ht hP, hDD _⟩, hS.F ht⟩) hS.2.2 dX8_chooseAll_181
    obtain ⟨j_24, ej_24, hF_25⟩ := bnd_e hF_12
    clear hF_12
    have Jj_24 : ∀  (σ_23 : HS), j_24  σ_23 = some res → ∀ (H : Heap) (locs : List Loc), va_P (dC, dI) vwCl (b_e cB cC cI cJ cZ oA rA σ_23 ++ b_k cB cC cI cJ cZ oA rA σ_23 ++ b_p cB cC cI cJ cZ oA rA σ_23 ++ b_o cB cC cI cJ cZ oA rA σ_23 ++ b_s cB cC cI cJ cZ oA rA σ_23 ++ b_c cB cC cI cJ cZ oA rA σ_23 ++ b_t cB cC cI cJ cZ oA rA σ_23 ++ b_d cB cC cI cJ cZ oA rA σ_23) H → va_S A s.heap H locs → ∀ ls : Array Slot, lv_has ls 4 [(0, .ref (oA 11))] → W p l e (headSpec (g_ws yX8_chooseAll cX8_chooseAll 4 (some .boolean)) { frames := 8, cells := 0, slots := 0, locals := 189 }).room s m ([.ref (oA 11)] : List Value).toArray below meth c H locs 0 0 (MQ below (va_Qi (fun r (_ : Unit) => r = res.1) (g_Bo (dC, dI) A (fun (_ : Unit) => (b_e cB cC cI cJ cZ oA rA res.2 ++ b_k cB cC cI cJ cZ oA rA res.2 ++ b_p cB cC cI cJ cZ oA rA res.2 ++ b_o cB cC cI cJ cZ oA rA res.2 ++ b_s cB cC cI cJ cZ oA rA res.2 ++ b_c cB cC cI cJ cZ oA rA res.2 ++ b_t cB cC cI cJ cZ oA rA res.2 ++ b_d cB cC cI cJ cZ oA rA res.2))) A) ([.ref (oA 11)] : List Value).toArray s 0 0 A) (F0 m 46 ls []) := by
      intro  σ_23 hF0 H locs hP hS ls hl
      subst ej_24
      have hF_26 := hF0
      clear hF0
      refine lv_aload_n hx hb dX8_chooseAll_46 rfl (lv_at hl 0 rfl) ?_
      refine va_get (D := (dC, dI)) (ci := 8) (v := .ref (oA 9)) (C := RX8) (T := TX8) (N := 16) hx hb hts ii_X8 hown hK hP 0 rfl rfl 0 (by decide) (hts (.fieldLink RX8 22 "StoryHouse$Teller" "play" "LStoryHouse$Play;") wq_286) (fun _ h9 => h9) rfl dX8_chooseAll_47 ?_
      refine va_get (D := (dC, dI)) (ci := 6) (v := .ref (rA 9 1)) (C := RX6) (T := TX6) (N := 12) hx hb hts ii_X6 hown hK hP 9 rfl rfl 1 (by decide) (hts (.fieldLink RX8 202 "StoryHouse$Play" "firsts" "[I") wq_223) (fun _ h9 => h9) rfl dX8_chooseAll_50 ?_
      refine lv_aload_n hx hb dX8_chooseAll_53 rfl (lv_at hl 0 rfl) ?_
      refine va_get (D := (dC, dI)) (ci := 8) (v := .int ((σ_23 11).1 13)) (C := RX8) (T := TX8) (N := 16) hx hb hts ii_X8 hown hK hP 0 rfl rfl 13 (by decide) (hts (.fieldLink RX8 199 "StoryHouse$Teller" "source" "I") wq_300) (fun _ h9 => h9) rfl dX8_chooseAll_54 ?_
      obtain ⟨x_27, ex_27, hF_28⟩ := bnd_e hF_26
      clear hF_26
      refine m_top ex_27 ?_
      have hq9 : ((b_e cB cC cI cJ cZ oA rA σ_23 ++ b_k cB cC cI cJ cZ oA rA σ_23 ++ b_p cB cC cI cJ cZ oA rA σ_23 ++ b_o cB cC cI cJ cZ oA rA σ_23 ++ b_s cB cC cI cJ cZ oA rA σ_23 ++ b_c cB cC cI cJ cZ oA rA σ_23 ++ b_t cB cC cI cJ cZ oA rA σ_23 ++ b_d cB cC cI cJ cZ oA rA σ_23))[11]? = some (rA 9 1, .inl (cI, 121, .inl ((σ_23 9).2.1 1))) := rfl
      have hPc := hP.sub (ws' := [(rA 9 1, .inl (cI, 121, .inl ((σ_23 9).2.1 1)))]) [11] (pk_fm (er_C hq9))
      have hDc := (hDD σ_23).sub (ws' := [(rA 9 1, .inl (cI, 121, .inl ((σ_23 9).2.1 1)))]) [11] (by decide +kernel) (er_C hq9)
      have hFc := va_free (wc := [(rA 9 1, .inl (cI, 121, .inl ((σ_23 9).2.1 1)))]) (hDD σ_23) hS hA [11] (er_C hq9)
      refine g_ofi (wc := [(rA 9 1, .inl (cI, 121, .inl ((σ_23 9).2.1 1)))]) (wr := (((b_e cB cC cI cJ cZ oA rA σ_23 ++ b_k cB cC cI cJ cZ oA rA σ_23 ++ b_p cB cC cI cJ cZ oA rA σ_23 ++ b_o cB cC cI cJ cZ oA rA σ_23 ++ b_s cB cC cI cJ cZ oA rA σ_23 ++ b_c cB cC cI cJ cZ oA rA σ_23 ++ b_t cB cC cI cJ cZ oA rA σ_23 ++ b_d cB cC cI cJ cZ oA rA σ_23)).eraseIdx 11)) hP (hDD σ_23) hS hFc [11] ((List.range ((b_e cB cC cI cJ cZ oA rA σ_23 ++ b_k cB cC cI cJ cZ oA rA σ_23 ++ b_p cB cC cI cJ cZ oA rA σ_23 ++ b_o cB cC cI cJ cZ oA rA σ_23 ++ b_s cB cC cI cJ cZ oA rA σ_23 ++ b_c cB cC cI cJ cZ oA rA σ_23 ++ b_t cB cC cI cJ cZ oA rA σ_23 ++ b_d cB cC cI cJ cZ oA rA σ_23)).length).eraseIdx 11) (er_C hq9) er_R er_n er_d (va_runSN (As := [.ref (rA 9 1), .int x_27]) (rest := []) ⟨hx, hb, hml, hown, hts⟩ (c_X11_at l dC dI cB cC cI cJ cZ cP H.size (rA 9 1) x_27 121 ((σ_23 9).2.1 1) (by decide)) ⟨va_cnB 2 hts (g_gA wq_407) rfl rfl rfl (nw_31 hN) (hts (.initialized RX11) wq_1) (by decide +kernel) ⟨Nat.le_of_ble_eq_true rfl, Nat.le_of_ble_eq_true rfl⟩, (hts (.static yX11_at) wq_406), trivial⟩ (g_preS g_bl0 hK hPc hDc hS hE hFc g_to0) rfl rfl hl.1 rfl (lv_room (Nat.le_of_ble_eq_true rfl)) dX8_chooseAll_57 ⟨Nat.le_of_ble_eq_true rfl, Nat.le_of_ble_eq_true rfl⟩) (fun r9 u9 H locs hw9 hP' hD' hS => ?_)
      clear hPc hDc hFc hD'
      have hP : va_P (dC, dI) vwCl (b_e cB cC cI cJ cZ oA rA σ_23 ++ b_k cB cC cI cJ cZ oA rA σ_23 ++ b_p cB cC cI cJ cZ oA rA σ_23 ++ b_o cB cC cI cJ cZ oA rA σ_23 ++ b_s cB cC cI cJ cZ oA rA σ_23 ++ b_c cB cC cI cJ cZ oA rA σ_23 ++ b_t cB cC cI cJ cZ oA rA σ_23 ++ b_d cB cC cI cJ cZ oA rA σ_23) H := er_I hP' hq9
      clear hP' hq9
      subst hw9
      obtain ⟨x_29, ex_29, hF_30⟩ := bnd_e hF_28
      clear hF_28
      refine m_top ex_29 ?_
      refine lv_istore_n (lv' := [(1, .int x_29), (0, .ref (oA 11))]) hx hb dX8_chooseAll_60 rfl hl (by decide) rfl (fun ls hl => ?_)
      refine lv_iconst (v := 0) hx hb dX8_chooseAll_61 (by decide +kernel) ?_
      refine lv_istore_n (lv' := [(2, .int 0), (1, .int x_29), (0, .ref (oA 11))]) hx hb dX8_chooseAll_62 rfl hl (by decide) rfl (fun ls hl => ?_)
      refine loopF_ind (P := fun (s_31 : Int32 × Int32 × HS) => ∀ (H : Heap) (locs : List Loc), va_P (dC, dI) vwCl (b_e cB cC cI cJ cZ oA rA s_31.2.2 ++ b_k cB cC cI cJ cZ oA rA s_31.2.2 ++ b_p cB cC cI cJ cZ oA rA s_31.2.2 ++ b_o cB cC cI cJ cZ oA rA s_31.2.2 ++ b_s cB cC cI cJ cZ oA rA s_31.2.2 ++ b_c cB cC cI cJ cZ oA rA s_31.2.2 ++ b_t cB cC cI cJ cZ oA rA s_31.2.2 ++ b_d cB cC cI cJ cZ oA rA s_31.2.2) H → va_S A s.heap H locs → ∀ ls : Array Slot, lv_has ls 4 [(0, .ref (oA 11)), (1, .int s_31.1), (2, .int s_31.2.1)] → W p l e (headSpec (g_ws yX8_chooseAll cX8_chooseAll 4 (some .boolean)) { frames := 8, cells := 0, slots := 0, locals := 189 }).room s m ([.ref (oA 11)] : List Value).toArray below meth c H locs 0 0 (MQ below (va_Qi (fun r (_ : Unit) => r = res.1) (g_Bo (dC, dI) A (fun (_ : Unit) => (b_e cB cC cI cJ cZ oA rA res.2 ++ b_k cB cC cI cJ cZ oA rA res.2 ++ b_p cB cC cI cJ cZ oA rA res.2 ++ b_o cB cC cI cJ cZ oA rA res.2 ++ b_s cB cC cI cJ cZ oA rA res.2 ++ b_c cB cC cI cJ cZ oA rA res.2 ++ b_t cB cC cI cJ cZ oA rA res.2 ++ b_d cB cC cI cJ cZ oA rA res.2))) A) ([.ref (oA 11)] : List Value).toArray s 0 0 A) (F0 m 63 ls [])) ?_ _ _ hF_30 _ _ hP hS ls (lv_sub hl [2, 1, 0] rfl)
      intro again_32 s_31 ih_33 hF_34
      intro H locs hP hS ls hl
      refine lv_iload_n hx hb dX8_chooseAll_63 rfl (lv_at hl 2 rfl) ?_
      refine lv_bipush (v := 120) hx hb dX8_chooseAll_64 (by decide +kernel) ?_
      refine lv_icmp_ge (tgt := 160) hx hb dX8_chooseAll_66 (by decide) (fun c_35 => ?_) (fun c_35 => ?_)
      · have hF_36 := ipos c_35 hF_34
        clear hF_34
        exact Jj_11  s_31.2.2 hF_36 _ _ hP hS ls (lv_sub hl [0] rfl)
      · have hF_37 := ineg c_35 hF_34
        clear hF_34
        refine lv_iload_n hx hb dX8_chooseAll_69 rfl (lv_at hl 1 rfl) ?_
        refine lv_if_eq (tgt := 160) hx hb dX8_chooseAll_70 (by decide) (fun c_38 => ?_) (fun c_38 => ?_)
        · have hF_39 := ipos c_38 hF_37
          clear hF_37
          exact Jj_11  s_31.2.2 hF_39 _ _ hP hS ls (lv_sub hl [0] rfl)
        · have hF_40 := ineg c_38 hF_37
          clear hF_37
          refine lv_aload_n hx hb dX8_chooseAll_73 rfl (lv_at hl 0 rfl) ?_
          refine va_get (D := (dC, dI)) (ci := 8) (v := .int ((s_31.2.2 11).1 8)) (C := RX8) (T := TX8) (N := 16) hx hb hts ii_X8 hown hK hP 0 rfl rfl 8 (by decide) (hts (.fieldLink RX8 127 "StoryHouse$Teller" "verb" "I") wq_295) (fun _ h9 => h9) rfl dX8_chooseAll_74 ?_
          refine lv_iconst (v := 4) hx hb dX8_chooseAll_77 (by decide +kernel) ?_
          obtain ⟨j_43, ej_43, hF_44⟩ := bnd_e hF_40
          clear hF_40
          have Jj_43 : ∀ (t_41 : Int32) (σ_42 : HS), j_43 t_41 σ_42 = some res → ∀ (H : Heap) (locs : List Loc), va_P (dC, dI) vwCl (b_e cB cC cI cJ cZ oA rA σ_42 ++ b_k cB cC cI cJ cZ oA rA σ_42 ++ b_p cB cC cI cJ cZ oA rA σ_42 ++ b_o cB cC cI cJ cZ oA rA σ_42 ++ b_s cB cC cI cJ cZ oA rA σ_42 ++ b_c cB cC cI cJ cZ oA rA σ_42 ++ b_t cB cC cI cJ cZ oA rA σ_42 ++ b_d cB cC cI cJ cZ oA rA σ_42) H → va_S A s.heap H locs → ∀ ls : Array Slot, lv_has ls 4 [(0, .ref (oA 11)), (1, .int s_31.1), (2, .int s_31.2.1)] → W p l e (headSpec (g_ws yX8_chooseAll cX8_chooseAll 4 (some .boolean)) { frames := 8, cells := 0, slots := 0, locals := 189 }).room s m ([.ref (oA 11)] : List Value).toArray below meth c H locs 0 0 (MQ below (va_Qi (fun r (_ : Unit) => r = res.1) (g_Bo (dC, dI) A (fun (_ : Unit) => (b_e cB cC cI cJ cZ oA rA res.2 ++ b_k cB cC cI cJ cZ oA rA res.2 ++ b_p cB cC cI cJ cZ oA rA res.2 ++ b_o cB cC cI cJ cZ oA rA res.2 ++ b_s cB cC cI cJ cZ oA rA res.2 ++ b_c cB cC cI cJ cZ oA rA res.2 ++ b_t cB cC cI cJ cZ oA rA res.2 ++ b_d cB cC cI cJ cZ oA rA res.2))) A) ([.ref (oA 11)] : List Value).toArray s 0 0 A) (F0 m 98 ls [.int t_41]) := by
            intro t_41 σ_42 hF0 H locs hP hS ls hl
            subst ej_43
            have hF_45 := hF0
            clear hF0
            refine lv_istore_n (lv' := [(3, .int t_41), (0, .ref (oA 11)), (1, .int s_31.1), (2, .int s_31.2.1)]) hx hb dX8_chooseAll_98 rfl hl (by decide) rfl (fun ls hl => ?_)
            refine lv_iload_n hx hb dX8_chooseAll_99 rfl (lv_at hl 2 rfl) ?_
            refine lv_iconst (v := 1) hx hb dX8_chooseAll_100 (by decide +kernel) ?_
            obtain ⟨j_47, ej_47, hF_48⟩ := bnd_e hF_45
            clear hF_45
            have Jj_47 : ∀  (σ_46 : HS), j_47  σ_46 = some res → ∀ (H : Heap) (locs : List Loc), va_P (dC, dI) vwCl (b_e cB cC cI cJ cZ oA rA σ_46 ++ b_k cB cC cI cJ cZ oA rA σ_46 ++ b_p cB cC cI cJ cZ oA rA σ_46 ++ b_o cB cC cI cJ cZ oA rA σ_46 ++ b_s cB cC cI cJ cZ oA rA σ_46 ++ b_c cB cC cI cJ cZ oA rA σ_46 ++ b_t cB cC cI cJ cZ oA rA σ_46 ++ b_d cB cC cI cJ cZ oA rA σ_46) H → va_S A s.heap H locs → ∀ ls : Array Slot, lv_has ls 4 [(0, .ref (oA 11)), (1, .int s_31.1), (2, .int s_31.2.1)] → W p l e (headSpec (g_ws yX8_chooseAll cX8_chooseAll 4 (some .boolean)) { frames := 8, cells := 0, slots := 0, locals := 189 }).room s m ([.ref (oA 11)] : List Value).toArray below meth c H locs 0 0 (MQ below (va_Qi (fun r (_ : Unit) => r = res.1) (g_Bo (dC, dI) A (fun (_ : Unit) => (b_e cB cC cI cJ cZ oA rA res.2 ++ b_k cB cC cI cJ cZ oA rA res.2 ++ b_p cB cC cI cJ cZ oA rA res.2 ++ b_o cB cC cI cJ cZ oA rA res.2 ++ b_s cB cC cI cJ cZ oA rA res.2 ++ b_c cB cC cI cJ cZ oA rA res.2 ++ b_t cB cC cI cJ cZ oA rA res.2 ++ b_d cB cC cI cJ cZ oA rA res.2))) A) ([.ref (oA 11)] : List Value).toArray s 0 0 A) (F0 m 142 ls []) := by
              intro  σ_46 hF0 H locs hP hS ls hl
              subst ej_47
              have hF_49 := hF0
              clear hF0
              refine lv_aload_n hx hb dX8_chooseAll_142 rfl (lv_at hl 0 rfl) ?_
              refine va_get (D := (dC, dI)) (ci := 8) (v := .ref (oA 9)) (C := RX8) (T := TX8) (N := 16) hx hb hts ii_X8 hown hK hP 0 rfl rfl 0 (by decide) (hts (.fieldLink RX8 22 "StoryHouse$Teller" "play" "LStoryHouse$Play;") wq_286) (fun _ h9 => h9) rfl dX8_chooseAll_143 ?_
              refine va_get (D := (dC, dI)) (ci := 6) (v := .ref (rA 9 2)) (C := RX6) (T := TX6) (N := 12) hx hb hts ii_X6 hown hK hP 9 rfl rfl 2 (by decide) (hts (.fieldLink RX8 208 "StoryHouse$Play" "nexts" "[I") wq_227) (fun _ h9 => h9) rfl dX8_chooseAll_146 ?_
              refine lv_iload_n hx hb dX8_chooseAll_149 rfl (lv_at hl 1 rfl) ?_
              have hq9 : ((b_e cB cC cI cJ cZ oA rA σ_46 ++ b_k cB cC cI cJ cZ oA rA σ_46 ++ b_p cB cC cI cJ cZ oA rA σ_46 ++ b_o cB cC cI cJ cZ oA rA σ_46 ++ b_s cB cC cI cJ cZ oA rA σ_46 ++ b_c cB cC cI cJ cZ oA rA σ_46 ++ b_t cB cC cI cJ cZ oA rA σ_46 ++ b_d cB cC cI cJ cZ oA rA σ_46))[12]? = some (rA 9 2, .inl (cI, 121, .inl ((σ_46 9).2.1 2))) := rfl
              have hPc := hP.sub (ws' := [(rA 9 2, .inl (cI, 121, .inl ((σ_46 9).2.1 2)))]) [12] (pk_fm (er_C hq9))
              have hDc := (hDD σ_46).sub (ws' := [(rA 9 2, .inl (cI, 121, .inl ((σ_46 9).2.1 2)))]) [12] (by decide +kernel) (er_C hq9)
              have hFc := va_free (wc := [(rA 9 2, .inl (cI, 121, .inl ((σ_46 9).2.1 2)))]) (hDD σ_46) hS hA [12] (er_C hq9)
              refine g_ofi (wc := [(rA 9 2, .inl (cI, 121, .inl ((σ_46 9).2.1 2)))]) (wr := (((b_e cB cC cI cJ cZ oA rA σ_46 ++ b_k cB cC cI cJ cZ oA rA σ_46 ++ b_p cB cC cI cJ cZ oA rA σ_46 ++ b_o cB cC cI cJ cZ oA rA σ_46 ++ b_s cB cC cI cJ cZ oA rA σ_46 ++ b_c cB cC cI cJ cZ oA rA σ_46 ++ b_t cB cC cI cJ cZ oA rA σ_46 ++ b_d cB cC cI cJ cZ oA rA σ_46)).eraseIdx 12)) hP (hDD σ_46) hS hFc [12] ((List.range ((b_e cB cC cI cJ cZ oA rA σ_46 ++ b_k cB cC cI cJ cZ oA rA σ_46 ++ b_p cB cC cI cJ cZ oA rA σ_46 ++ b_o cB cC cI cJ cZ oA rA σ_46 ++ b_s cB cC cI cJ cZ oA rA σ_46 ++ b_c cB cC cI cJ cZ oA rA σ_46 ++ b_t cB cC cI cJ cZ oA rA σ_46 ++ b_d cB cC cI cJ cZ oA rA σ_46)).length).eraseIdx 12) (er_C hq9) er_R er_n er_d (va_runSN (As := [.ref (rA 9 2), .int s_31.1]) (rest := []) ⟨hx, hb, hml, hown, hts⟩ (c_X11_at l dC dI cB cC cI cJ cZ cP H.size (rA 9 2) s_31.1 121 ((σ_46 9).2.1 2) (by decide)) ⟨va_cnB 2 hts (g_gA wq_407) rfl rfl rfl (nw_31 hN) (hts (.initialized RX11) wq_1) (by decide +kernel) ⟨Nat.le_of_ble_eq_true rfl, Nat.le_of_ble_eq_true rfl⟩, (hts (.static yX11_at) wq_406), trivial⟩ (g_preS g_bl0 hK hPc hDc hS hE hFc g_to0) rfl rfl hl.1 rfl (lv_room (Nat.le_of_ble_eq_true rfl)) dX8_chooseAll_150 ⟨Nat.le_of_ble_eq_true rfl, Nat.le_of_ble_eq_true rfl⟩) (fun r9 u9 H locs hw9 hP' hD' hS => ?_)
              clear hPc hDc hFc hD'
              have hP : va_P (dC, dI) vwCl (b_e cB cC cI cJ cZ oA rA σ_46 ++ b_k cB cC cI cJ cZ oA rA σ_46 ++ b_p cB cC cI cJ cZ oA rA σ_46 ++ b_o cB cC cI cJ cZ oA rA σ_46 ++ b_s cB cC cI cJ cZ oA rA σ_46 ++ b_c cB cC cI cJ cZ oA rA σ_46 ++ b_t cB cC cI cJ cZ oA rA σ_46 ++ b_d cB cC cI cJ cZ oA rA σ_46) H := er_I hP' hq9
              clear hP' hq9
              subst hw9
              obtain ⟨x_50, ex_50, hF_51⟩ := bnd_e hF_49
              clear hF_49
              refine m_top ex_50 ?_
              refine lv_istore_n (lv' := [(1, .int x_50), (0, .ref (oA 11)), (2, .int s_31.2.1)]) hx hb dX8_chooseAll_153 rfl hl (by decide) rfl (fun ls hl => ?_)
              obtain ⟨x_52, ex_52, hF_53⟩ := bnd_e hF_51
              clear hF_51
              refine lv_iinc (v := x_52) (lv' := [(2, .int x_52), (1, .int x_50), (0, .ref (oA 11))]) hx hb dX8_chooseAll_154 hl (k := 2) rfl (by rw [ex_52]; rfl) (by decide) rfl (fun ls hl => ?_)
              refine lv_goto (tgt := 63) hx hb dX8_chooseAll_157 (by decide) ?_
              exact ih_33 (x_50, x_52, σ_46) hF_53 _ _ hP hS ls (lv_sub hl [2, 1, 0] rfl)
            refine lv_icmp_eq (tgt := 142) hx hb dX8_chooseAll_101 (by decide) (fun c_54 => ?_) (fun c_54 => ?_)
            · have hF_55 := ipos c_54 hF_48
              clear hF_48
              exact Jj_47  σ_42 hF_55 _ _ hP hS ls (lv_sub hl [1, 2, 3] rfl)
            · have hF_56 := ineg c_54 hF_48
              clear hF_48
              refine lv_aload_n hx hb dX8_chooseAll_104 rfl (lv_at hl 1 rfl) ?_
              refine va_get (D := (dC, dI)) (ci := 8) (v := .ref (oA 9)) (C := RX8) (T := TX8) (N := 16) hx hb hts ii_X8 hown hK hP 0 rfl rfl 0 (by decide) (hts (.fieldLink RX8 22 "StoryHouse$Teller" "play" "LStoryHouse$Play;") wq_286) (fun _ h9 => h9) rfl dX8_chooseAll_105 ?_
              refine lv_iload_n hx hb dX8_chooseAll_108 rfl (lv_at hl 2 rfl) ?_
              refine lv_iconst (v := 2) hx hb dX8_chooseAll_109 (by decide +kernel) ?_
              obtain ⟨u_57, hu_57, hF_58⟩ := Option.bind_eq_some_iff.mp hF_56
              clear hF_56
              have hPc := bx_P (bs := [b_e cB cC cI cJ cZ oA rA σ_42, b_k cB cC cI cJ cZ oA rA σ_42, b_p cB cC cI cJ cZ oA rA σ_42, b_o cB cC cI cJ cZ oA rA σ_42, b_s cB cC cI cJ cZ oA rA σ_42, b_c cB cC cI cJ cZ oA rA σ_42, b_t cB cC cI cJ cZ oA rA σ_42, b_d cB cC cI cJ cZ oA rA σ_42]) (bs' := [b_p cB cC cI cJ cZ oA rA σ_42]) (ws' := (b_p cB cC cI cJ cZ oA rA σ_42)) hP fl_8 fl_1 [2] rfl
              have hDc := bx_D (bs := [b_e cB cC cI cJ cZ oA rA σ_42, b_k cB cC cI cJ cZ oA rA σ_42, b_p cB cC cI cJ cZ oA rA σ_42, b_o cB cC cI cJ cZ oA rA σ_42, b_s cB cC cI cJ cZ oA rA σ_42, b_c cB cC cI cJ cZ oA rA σ_42, b_t cB cC cI cJ cZ oA rA σ_42, b_d cB cC cI cJ cZ oA rA σ_42]) (bs' := [b_p cB cC cI cJ cZ oA rA σ_42]) (ws' := (b_p cB cC cI cJ cZ oA rA σ_42)) (hDD σ_42) fl_8 fl_1 [2] (by decide +kernel) rfl
              have hFc := bx_F (bs := [b_e cB cC cI cJ cZ oA rA σ_42, b_k cB cC cI cJ cZ oA rA σ_42, b_p cB cC cI cJ cZ oA rA σ_42, b_o cB cC cI cJ cZ oA rA σ_42, b_s cB cC cI cJ cZ oA rA σ_42, b_c cB cC cI cJ cZ oA rA σ_42, b_t cB cC cI cJ cZ oA rA σ_42, b_d cB cC cI cJ cZ oA rA σ_42]) (bs' := [b_p cB cC cI cJ cZ oA rA σ_42]) (wc := (b_p cB cC cI cJ cZ oA rA σ_42)) (hDD σ_42) hS hA fl_8 fl_1 [2] rfl
              refine g_ofi (wc := (b_p cB cC cI cJ cZ oA rA σ_42)) (wr := (b_e cB cC cI cJ cZ oA rA σ_42 ++ b_k cB cC cI cJ cZ oA rA σ_42 ++ b_o cB cC cI cJ cZ oA rA σ_42 ++ b_s cB cC cI cJ cZ oA rA σ_42 ++ b_c cB cC cI cJ cZ oA rA σ_42 ++ b_t cB cC cI cJ cZ oA rA σ_42 ++ b_d cB cC cI cJ cZ oA rA σ_42)) hP (hDD σ_42) hS hFc (bx_ix [b_e cB cC cI cJ cZ oA rA σ_42, b_k cB cC cI cJ cZ oA rA σ_42, b_p cB cC cI cJ cZ oA rA σ_42, b_o cB cC cI cJ cZ oA rA σ_42, b_s cB cC cI cJ cZ oA rA σ_42, b_c cB cC cI cJ cZ oA rA σ_42, b_t cB cC cI cJ cZ oA rA σ_42, b_d cB cC cI cJ cZ oA rA σ_42] [2]) (bx_ix [b_e cB cC cI cJ cZ oA rA σ_42, b_k cB cC cI cJ cZ oA rA σ_42, b_p cB cC cI cJ cZ oA rA σ_42, b_o cB cC cI cJ cZ oA rA σ_42, b_s cB cC cI cJ cZ oA rA σ_42, b_c cB cC cI cJ cZ oA rA σ_42, b_t cB cC cI cJ cZ oA rA σ_42, b_d cB cC cI cJ cZ oA rA σ_42] [0, 1, 3, 4, 5, 6, 7]) (bx_C (bs := [b_e cB cC cI cJ cZ oA rA σ_42, b_k cB cC cI cJ cZ oA rA σ_42, b_p cB cC cI cJ cZ oA rA σ_42, b_o cB cC cI cJ cZ oA rA σ_42, b_s cB cC cI cJ cZ oA rA σ_42, b_c cB cC cI cJ cZ oA rA σ_42, b_t cB cC cI cJ cZ oA rA σ_42, b_d cB cC cI cJ cZ oA rA σ_42]) (bs' := [b_p cB cC cI cJ cZ oA rA σ_42]) (is := [2]) fl_8 fl_1 rfl) (bx_C (bs := [b_e cB cC cI cJ cZ oA rA σ_42, b_k cB cC cI cJ cZ oA rA σ_42, b_p cB cC cI cJ cZ oA rA σ_42, b_o cB cC cI cJ cZ oA rA σ_42, b_s cB cC cI cJ cZ oA rA σ_42, b_c cB cC cI cJ cZ oA rA σ_42, b_t cB cC cI cJ cZ oA rA σ_42, b_d cB cC cI cJ cZ oA rA σ_42]) (bs' := [b_e cB cC cI cJ cZ oA rA σ_42, b_k cB cC cI cJ cZ oA rA σ_42, b_o cB cC cI cJ cZ oA rA σ_42, b_s cB cC cI cJ cZ oA rA σ_42, b_c cB cC cI cJ cZ oA rA σ_42, b_t cB cC cI cJ cZ oA rA σ_42, b_d cB cC cI cJ cZ oA rA σ_42]) (is := [0, 1, 3, 4, 5, 6, 7]) fl_8 fl_7 rfl) (bx_n (by decide +kernel)) (bx_d (by decide +kernel)) (va_runV (As := [.int s_31.1, .int 2]) (rest := []) ⟨hx, hb, hml, hown, hts⟩ (k_X6_bears l dC dI cB cC cI cJ cZ cP oA rA H.size  s_31.1 2 σ_42 _ hu_57) (cwV 2 hts (g_gV wq_1030 wq_987 wq_988 wq_10 wq_989) rfl rfl rfl (by decide +kernel) ⟨Nat.le_of_ble_eq_true rfl, Nat.le_of_ble_eq_true rfl⟩) (g_preV g_bl0 hK hPc hDc hS hE hFc g_to0 (q0 := 0) (ci := 6) rfl rfl) rfl rfl hl.1 rfl (lv_room (Nat.le_of_ble_eq_true rfl)) dX8_chooseAll_110 ⟨Nat.le_of_ble_eq_true rfl, Nat.le_of_ble_eq_true rfl⟩) (fun r9 u9 H locs hw9 hP' hD' hS => ?_)
              clear hPc hDc hFc
              subst hw9
              obtain ⟨σ_59, eσ_59, hF_60⟩ := bnd_e hF_58
              clear hF_58
              have hP : va_P (dC, dI) vwCl (b_e cB cC cI cJ cZ oA rA σ_59 ++ b_k cB cC cI cJ cZ oA rA σ_59 ++ b_p cB cC cI cJ cZ oA rA σ_59 ++ b_o cB cC cI cJ cZ oA rA σ_59 ++ b_s cB cC cI cJ cZ oA rA σ_59 ++ b_c cB cC cI cJ cZ oA rA σ_59 ++ b_t cB cC cI cJ cZ oA rA σ_59 ++ b_d cB cC cI cJ cZ oA rA σ_59) H := by rw [eσ_59]; exact bx_P (bs := [b_e cB cC cI cJ cZ oA rA σ_42, b_k cB cC cI cJ cZ oA rA σ_42, b_o cB cC cI cJ cZ oA rA σ_42, b_s cB cC cI cJ cZ oA rA σ_42, b_c cB cC cI cJ cZ oA rA σ_42, b_t cB cC cI cJ cZ oA rA σ_42, b_d cB cC cI cJ cZ oA rA σ_42] ++ [b_p cB cC cI cJ cZ oA rA u_57.2]) (bs' := [b_e cB cC cI cJ cZ oA rA (mrg (fun j => j == 9) σ_42 u_57.2), b_k cB cC cI cJ cZ oA rA (mrg (fun j => j == 9) σ_42 u_57.2), b_p cB cC cI cJ cZ oA rA (mrg (fun j => j == 9) σ_42 u_57.2), b_o cB cC cI cJ cZ oA rA (mrg (fun j => j == 9) σ_42 u_57.2), b_s cB cC cI cJ cZ oA rA (mrg (fun j => j == 9) σ_42 u_57.2), b_c cB cC cI cJ cZ oA rA (mrg (fun j => j == 9) σ_42 u_57.2), b_t cB cC cI cJ cZ oA rA (mrg (fun j => j == 9) σ_42 u_57.2), b_d cB cC cI cJ cZ oA rA (mrg (fun j => j == 9) σ_42 u_57.2)]) hP' (fl_a fl_7 fl_1) fl_8 [0, 1, 7, 2, 3, 4, 5, 6] rfl
              clear hP' hD'
              refine lv_if_ne (tgt := 142) hx hb dX8_chooseAll_113 (by decide) (fun c_61 => ?_) (fun c_61 => ?_)
              · have hF_70 := ineg c_61 hF_60
                clear hF_60
                exact Jj_47  σ_59 hF_70 _ _ hP hS ls (lv_sub hl [1, 2, 3] rfl)
              · have hF_62 := ipos c_61 hF_60
                clear hF_60
                refine lv_iload_n hx hb dX8_chooseAll_116 rfl (lv_at hl 0 rfl) ?_
                refine lv_if_ne (tgt := 142) hx hb dX8_chooseAll_117 (by decide) (fun c_63 => ?_) (fun c_63 => ?_)
                · have hF_69 := ineg c_63 hF_62
                  clear hF_62
                  exact Jj_47  σ_59 hF_69 _ _ hP hS ls (lv_sub hl [1, 2, 3] rfl)
                · have hF_64 := ipos c_63 hF_62
                  clear hF_62
                  refine lv_aload_n hx hb dX8_chooseAll_120 rfl (lv_at hl 1 rfl) ?_
                  refine va_get (D := (dC, dI)) (ci := 8) (v := .ref (rA 11 14)) (C := RX8) (T := TX8) (N := 16) hx hb hts ii_X8 hown hK hP 0 rfl rfl 14 (by decide) (hts (.fieldLink RX8 19 "StoryHouse$Teller" "chosen" "[I") wq_301) (fun _ h9 => h9) rfl dX8_chooseAll_121 ?_
                  refine lv_aload_n hx hb dX8_chooseAll_124 rfl (lv_at hl 1 rfl) ?_
                  refine va_get (D := (dC, dI)) (ci := 8) (v := .int ((σ_59 11).1 15)) (C := RX8) (T := TX8) (N := 16) hx hb hts ii_X8 hown hK hP 0 rfl rfl 15 (by decide) (hts (.fieldLink RX8 192 "StoryHouse$Teller" "chosenCount" "I") wq_302) (fun _ h9 => h9) rfl dX8_chooseAll_125 ?_
                  refine lv_iload_n hx hb dX8_chooseAll_128 rfl (lv_at hl 2 rfl) ?_
                  have hq9 : ((b_e cB cC cI cJ cZ oA rA σ_59 ++ b_k cB cC cI cJ cZ oA rA σ_59 ++ b_p cB cC cI cJ cZ oA rA σ_59 ++ b_o cB cC cI cJ cZ oA rA σ_59 ++ b_s cB cC cI cJ cZ oA rA σ_59 ++ b_c cB cC cI cJ cZ oA rA σ_59 ++ b_t cB cC cI cJ cZ oA rA σ_59 ++ b_d cB cC cI cJ cZ oA rA σ_59))[3]? = some (rA 11 14, .inl (cI, 120, .inl ((σ_59 11).2.1 14))) := rfl
                  have hPc := hP.sub (ws' := [(rA 11 14, .inl (cI, 120, .inl ((σ_59 11).2.1 14)))]) [3] (pk_fm (er_C hq9))
                  have hDc := (hDD σ_59).sub (ws' := [(rA 11 14, .inl (cI, 120, .inl ((σ_59 11).2.1 14)))]) [3] (by decide +kernel) (er_C hq9)
                  have hFc := va_free (wc := [(rA 11 14, .inl (cI, 120, .inl ((σ_59 11).2.1 14)))]) (hDD σ_59) hS hA [3] (er_C hq9)
                  refine g_ofv (wc := [(rA 11 14, .inl (cI, 120, .inl ((σ_59 11).2.1 14)))]) (wr := (((b_e cB cC cI cJ cZ oA rA σ_59 ++ b_k cB cC cI cJ cZ oA rA σ_59 ++ b_p cB cC cI cJ cZ oA rA σ_59 ++ b_o cB cC cI cJ cZ oA rA σ_59 ++ b_s cB cC cI cJ cZ oA rA σ_59 ++ b_c cB cC cI cJ cZ oA rA σ_59 ++ b_t cB cC cI cJ cZ oA rA σ_59 ++ b_d cB cC cI cJ cZ oA rA σ_59)).eraseIdx 3)) hP (hDD σ_59) hS hFc [3] ((List.range ((b_e cB cC cI cJ cZ oA rA σ_59 ++ b_k cB cC cI cJ cZ oA rA σ_59 ++ b_p cB cC cI cJ cZ oA rA σ_59 ++ b_o cB cC cI cJ cZ oA rA σ_59 ++ b_s cB cC cI cJ cZ oA rA σ_59 ++ b_c cB cC cI cJ cZ oA rA σ_59 ++ b_t cB cC cI cJ cZ oA rA σ_59 ++ b_d cB cC cI cJ cZ oA rA σ_59)).length).eraseIdx 3) (er_C hq9) er_R er_n er_d (va_runSN (As := [.ref (rA 11 14), .int ((σ_59 11).1 15), .int s_31.1]) (rest := []) ⟨hx, hb, hml, hown, hts⟩ (c_X11_put l dC dI cB cC cI cJ cZ cP H.size (rA 11 14) ((σ_59 11).1 15) s_31.1 120 ((σ_59 11).2.1 14) (by decide)) ⟨va_cnB 3 hts (g_gA wq_412) rfl rfl rfl (nw_34 hN) (hts (.initialized RX11) wq_1) (by decide +kernel) ⟨Nat.le_of_ble_eq_true rfl, Nat.le_of_ble_eq_true rfl⟩, (hts (.static yX11_put) wq_411), trivial⟩ (g_preS g_bl0 hK hPc hDc hS hE hFc g_to0) rfl rfl hl.1 rfl (lv_room (Nat.le_of_ble_eq_true rfl)) dX8_chooseAll_129 ⟨Nat.le_of_ble_eq_true rfl, Nat.le_of_ble_eq_true rfl⟩) (fun g9 H locs hw9 hP' hD' hS => ?_)
                  clear hPc hDc hFc hD'
                  obtain ⟨σ_65, eσ_65, hF_66⟩ := bnd_e hF_64
                  clear hF_64
                  subst hw9
                  have hP : va_P (dC, dI) vwCl (b_e cB cC cI cJ cZ oA rA σ_65 ++ b_k cB cC cI cJ cZ oA rA σ_65 ++ b_p cB cC cI cJ cZ oA rA σ_65 ++ b_o cB cC cI cJ cZ oA rA σ_65 ++ b_s cB cC cI cJ cZ oA rA σ_65 ++ b_c cB cC cI cJ cZ oA rA σ_65 ++ b_t cB cC cI cJ cZ oA rA σ_65 ++ b_d cB cC cI cJ cZ oA rA σ_65) H := by rw [eσ_65]; exact cs_ekposctd_e_14 ▸ er_P hP' (er_lt hq9)
                  clear hP' hq9
                  refine lv_aload_n hx hb dX8_chooseAll_132 rfl (lv_at hl 1 rfl) ?_
                  refine lv_dup hx hb dX8_chooseAll_133 rfl ?_
                  refine va_get (D := (dC, dI)) (ci := 8) (v := .int ((σ_65 11).1 15)) (C := RX8) (T := TX8) (N := 16) hx hb hts ii_X8 hown hK hP 0 rfl rfl 15 (by decide) (hts (.fieldLink RX8 192 "StoryHouse$Teller" "chosenCount" "I") wq_302) (fun _ h9 => h9) rfl dX8_chooseAll_134 ?_
                  refine lv_iconst (v := 1) hx hb dX8_chooseAll_137 (by decide +kernel) ?_
                  refine lv_iadd hx hb dX8_chooseAll_138 ?_
                  obtain ⟨σ_67, eσ_67, hF_68⟩ := bnd_e hF_66
                  clear hF_66
                  refine va_put (D := (dC, dI)) (ci := 8) (v := .int (((σ_65 11).1 15) + 1)) (ty := .int) (C := RX8) (T := TX8) (N := 16) hx hb hts ii_X8 tyX8 tyX8_ok nmX8 hown hK hP (hDD _) hS 0 rfl rfl 15 (by decide) (hts (.fieldLink RX8 192 "StoryHouse$Teller" "chosenCount" "I") wq_302) (fun _ h9 => h9) rfl (by decide +kernel) rfl rfl (Nat.le_of_ble_eq_true rfl) dX8_chooseAll_139 (fun H locs hP' _ hS => ?_)
                  have hP : va_P (dC, dI) vwCl (b_e cB cC cI cJ cZ oA rA σ_67 ++ b_k cB cC cI cJ cZ oA rA σ_67 ++ b_p cB cC cI cJ cZ oA rA σ_67 ++ b_o cB cC cI cJ cZ oA rA σ_67 ++ b_s cB cC cI cJ cZ oA rA σ_67 ++ b_c cB cC cI cJ cZ oA rA σ_67 ++ b_t cB cC cI cJ cZ oA rA σ_67 ++ b_d cB cC cI cJ cZ oA rA σ_67) H := by rw [eσ_67]; exact cs_ekposctd_e_15 ▸ hP'
                  clear hP'
                  exact Jj_47  σ_67 hF_68 _ _ hP hS ls (lv_sub hl [1, 2, 3] rfl)
          obtain ⟨j_72, ej_72, hF_73⟩ := bnd_e hF_44
          clear hF_44
          have Jj_72 : ∀  (σ_71 : HS), j_72  σ_71 = some res → ∀ (H : Heap) (locs : List Loc), va_P (dC, dI) vwCl (b_e cB cC cI cJ cZ oA rA σ_71 ++ b_k cB cC cI cJ cZ oA rA σ_71 ++ b_p cB cC cI cJ cZ oA rA σ_71 ++ b_o cB cC cI cJ cZ oA rA σ_71 ++ b_s cB cC cI cJ cZ oA rA σ_71 ++ b_c cB cC cI cJ cZ oA rA σ_71 ++ b_t cB cC cI cJ cZ oA rA σ_71 ++ b_d cB cC cI cJ cZ oA rA σ_71) H → va_S A s.heap H locs → ∀ ls : Array Slot, lv_has ls 4 [(0, .ref (oA 11)), (1, .int s_31.1), (2, .int s_31.2.1)] → W p l e (headSpec (g_ws yX8_chooseAll cX8_chooseAll 4 (some .boolean)) { frames := 8, cells := 0, slots := 0, locals := 189 }).room s m ([.ref (oA 11)] : List Value).toArray below meth c H locs 0 0 (MQ below (va_Qi (fun r (_ : Unit) => r = res.1) (g_Bo (dC, dI) A (fun (_ : Unit) => (b_e cB cC cI cJ cZ oA rA res.2 ++ b_k cB cC cI cJ cZ oA rA res.2 ++ b_p cB cC cI cJ cZ oA rA res.2 ++ b_o cB cC cI cJ cZ oA rA res.2 ++ b_s cB cC cI cJ cZ oA rA res.2 ++ b_c cB cC cI cJ cZ oA rA res.2 ++ b_t cB cC cI cJ cZ oA rA res.2 ++ b_d cB cC cI cJ cZ oA rA res.2))) A) ([.ref (oA 11)] : List Value).toArray s 0 0 A) (F0 m 97 ls []) := by
            intro  σ_71 hF0 H locs hP hS ls hl
            subst ej_72
            have hF_74 := hF0
            clear hF0
            refine lv_iconst (v := 0) hx hb dX8_chooseAll_97 (by decide +kernel) ?_
            exact Jj_43 0 σ_71 hF_74 _ _ hP hS ls (lv_sub hl [0, 1, 2] rfl)
          refine lv_icmp_ne (tgt := 97) hx hb dX8_chooseAll_78 (by decide) (fun c_75 => ?_) (fun c_75 => ?_)
          · have hF_84 := ineg c_75 hF_73
            clear hF_73
            exact Jj_72  s_31.2.2 hF_84 _ _ hP hS ls (lv_sub hl [0, 1, 2] rfl)
          · have hF_76 := ipos c_75 hF_73
            clear hF_73
            refine lv_aload_n hx hb dX8_chooseAll_81 rfl (lv_at hl 0 rfl) ?_
            refine va_get (D := (dC, dI)) (ci := 8) (v := .ref (oA 9)) (C := RX8) (T := TX8) (N := 16) hx hb hts ii_X8 hown hK hP 0 rfl rfl 0 (by decide) (hts (.fieldLink RX8 22 "StoryHouse$Teller" "play" "LStoryHouse$Play;") wq_286) (fun _ h9 => h9) rfl dX8_chooseAll_82 ?_
            refine lv_iload_n hx hb dX8_chooseAll_85 rfl (lv_at hl 1 rfl) ?_
            refine lv_iconst (v := 1) hx hb dX8_chooseAll_86 (by decide +kernel) ?_
            obtain ⟨u_77, hu_77, hF_78⟩ := Option.bind_eq_some_iff.mp hF_76
            clear hF_76
            have hPc := bx_P (bs := [b_e cB cC cI cJ cZ oA rA s_31.2.2, b_k cB cC cI cJ cZ oA rA s_31.2.2, b_p cB cC cI cJ cZ oA rA s_31.2.2, b_o cB cC cI cJ cZ oA rA s_31.2.2, b_s cB cC cI cJ cZ oA rA s_31.2.2, b_c cB cC cI cJ cZ oA rA s_31.2.2, b_t cB cC cI cJ cZ oA rA s_31.2.2, b_d cB cC cI cJ cZ oA rA s_31.2.2]) (bs' := [b_p cB cC cI cJ cZ oA rA s_31.2.2]) (ws' := (b_p cB cC cI cJ cZ oA rA s_31.2.2)) hP fl_8 fl_1 [2] rfl
            have hDc := bx_D (bs := [b_e cB cC cI cJ cZ oA rA s_31.2.2, b_k cB cC cI cJ cZ oA rA s_31.2.2, b_p cB cC cI cJ cZ oA rA s_31.2.2, b_o cB cC cI cJ cZ oA rA s_31.2.2, b_s cB cC cI cJ cZ oA rA s_31.2.2, b_c cB cC cI cJ cZ oA rA s_31.2.2, b_t cB cC cI cJ cZ oA rA s_31.2.2, b_d cB cC cI cJ cZ oA rA s_31.2.2]) (bs' := [b_p cB cC cI cJ cZ oA rA s_31.2.2]) (ws' := (b_p cB cC cI cJ cZ oA rA s_31.2.2)) (hDD s_31.2.2) fl_8 fl_1 [2] (by decide +kernel) rfl
            have hFc := bx_F (bs := [b_e cB cC cI cJ cZ oA rA s_31.2.2, b_k cB cC cI cJ cZ oA rA s_31.2.2, b_p cB cC cI cJ cZ oA rA s_31.2.2, b_o cB cC cI cJ cZ oA rA s_31.2.2, b_s cB cC cI cJ cZ oA rA s_31.2.2, b_c cB cC cI cJ cZ oA rA s_31.2.2, b_t cB cC cI cJ cZ oA rA s_31.2.2, b_d cB cC cI cJ cZ oA rA s_31.2.2]) (bs' := [b_p cB cC cI cJ cZ oA rA s_31.2.2]) (wc := (b_p cB cC cI cJ cZ oA rA s_31.2.2)) (hDD s_31.2.2) hS hA fl_8 fl_1 [2] rfl
            refine g_ofi (wc := (b_p cB cC cI cJ cZ oA rA s_31.2.2)) (wr := (b_e cB cC cI cJ cZ oA rA s_31.2.2 ++ b_k cB cC cI cJ cZ oA rA s_31.2.2 ++ b_o cB cC cI cJ cZ oA rA s_31.2.2 ++ b_s cB cC cI cJ cZ oA rA s_31.2.2 ++ b_c cB cC cI cJ cZ oA rA s_31.2.2 ++ b_t cB cC cI cJ cZ oA rA s_31.2.2 ++ b_d cB cC cI cJ cZ oA rA s_31.2.2)) hP (hDD s_31.2.2) hS hFc (bx_ix [b_e cB cC cI cJ cZ oA rA s_31.2.2, b_k cB cC cI cJ cZ oA rA s_31.2.2, b_p cB cC cI cJ cZ oA rA s_31.2.2, b_o cB cC cI cJ cZ oA rA s_31.2.2, b_s cB cC cI cJ cZ oA rA s_31.2.2, b_c cB cC cI cJ cZ oA rA s_31.2.2, b_t cB cC cI cJ cZ oA rA s_31.2.2, b_d cB cC cI cJ cZ oA rA s_31.2.2] [2]) (bx_ix [b_e cB cC cI cJ cZ oA rA s_31.2.2, b_k cB cC cI cJ cZ oA rA s_31.2.2, b_p cB cC cI cJ cZ oA rA s_31.2.2, b_o cB cC cI cJ cZ oA rA s_31.2.2, b_s cB cC cI cJ cZ oA rA s_31.2.2, b_c cB cC cI cJ cZ oA rA s_31.2.2, b_t cB cC cI cJ cZ oA rA s_31.2.2, b_d cB cC cI cJ cZ oA rA s_31.2.2] [0, 1, 3, 4, 5, 6, 7]) (bx_C (bs := [b_e cB cC cI cJ cZ oA rA s_31.2.2, b_k cB cC cI cJ cZ oA rA s_31.2.2, b_p cB cC cI cJ cZ oA rA s_31.2.2, b_o cB cC cI cJ cZ oA rA s_31.2.2, b_s cB cC cI cJ cZ oA rA s_31.2.2, b_c cB cC cI cJ cZ oA rA s_31.2.2, b_t cB cC cI cJ cZ oA rA s_31.2.2, b_d cB cC cI cJ cZ oA rA s_31.2.2]) (bs' := [b_p cB cC cI cJ cZ oA rA s_31.2.2]) (is := [2]) fl_8 fl_1 rfl) (bx_C (bs := [b_e cB cC cI cJ cZ oA rA s_31.2.2, b_k cB cC cI cJ cZ oA rA s_31.2.2, b_p cB cC cI cJ cZ oA rA s_31.2.2, b_o cB cC cI cJ cZ oA rA s_31.2.2, b_s cB cC cI cJ cZ oA rA s_31.2.2, b_c cB cC cI cJ cZ oA rA s_31.2.2, b_t cB cC cI cJ cZ oA rA s_31.2.2, b_d cB cC cI cJ cZ oA rA s_31.2.2]) (bs' := [b_e cB cC cI cJ cZ oA rA s_31.2.2, b_k cB cC cI cJ cZ oA rA s_31.2.2, b_o cB cC cI cJ cZ oA rA s_31.2.2, b_s cB cC cI cJ cZ oA rA s_31.2.2, b_c cB cC cI cJ cZ oA rA s_31.2.2, b_t cB cC cI cJ cZ oA rA s_31.2.2, b_d cB cC cI cJ cZ oA rA s_31.2.2]) (is := [0, 1, 3, 4, 5, 6, 7]) fl_8 fl_7 rfl) (bx_n (by decide +kernel)) (bx_d (by decide +kernel)) (va_runV (As := [.int s_31.1, .int 1]) (rest := []) ⟨hx, hb, hml, hown, hts⟩ (k_X6_bears l dC dI cB cC cI cJ cZ cP oA rA H.size  s_31.1 1 s_31.2.2 _ hu_77) (cwV 2 hts (g_gV wq_1030 wq_987 wq_988 wq_10 wq_989) rfl rfl rfl (by decide +kernel) ⟨Nat.le_of_ble_eq_true rfl, Nat.le_of_ble_eq_true rfl⟩) (g_preV g_bl0 hK hPc hDc hS hE hFc g_to0 (q0 := 0) (ci := 6) rfl rfl) rfl rfl hl.1 rfl (lv_room (Nat.le_of_ble_eq_true rfl)) dX8_chooseAll_87 ⟨Nat.le_of_ble_eq_true rfl, Nat.le_of_ble_eq_true rfl⟩) (fun r9 u9 H locs hw9 hP' hD' hS => ?_)
            clear hPc hDc hFc
            subst hw9
            obtain ⟨σ_79, eσ_79, hF_80⟩ := bnd_e hF_78
            clear hF_78
            have hP : va_P (dC, dI) vwCl (b_e cB cC cI cJ cZ oA rA σ_79 ++ b_k cB cC cI cJ cZ oA rA σ_79 ++ b_p cB cC cI cJ cZ oA rA σ_79 ++ b_o cB cC cI cJ cZ oA rA σ_79 ++ b_s cB cC cI cJ cZ oA rA σ_79 ++ b_c cB cC cI cJ cZ oA rA σ_79 ++ b_t cB cC cI cJ cZ oA rA σ_79 ++ b_d cB cC cI cJ cZ oA rA σ_79) H := by rw [eσ_79]; exact bx_P (bs := [b_e cB cC cI cJ cZ oA rA s_31.2.2, b_k cB cC cI cJ cZ oA rA s_31.2.2, b_o cB cC cI cJ cZ oA rA s_31.2.2, b_s cB cC cI cJ cZ oA rA s_31.2.2, b_c cB cC cI cJ cZ oA rA s_31.2.2, b_t cB cC cI cJ cZ oA rA s_31.2.2, b_d cB cC cI cJ cZ oA rA s_31.2.2] ++ [b_p cB cC cI cJ cZ oA rA u_77.2]) (bs' := [b_e cB cC cI cJ cZ oA rA (mrg (fun j => j == 9) s_31.2.2 u_77.2), b_k cB cC cI cJ cZ oA rA (mrg (fun j => j == 9) s_31.2.2 u_77.2), b_p cB cC cI cJ cZ oA rA (mrg (fun j => j == 9) s_31.2.2 u_77.2), b_o cB cC cI cJ cZ oA rA (mrg (fun j => j == 9) s_31.2.2 u_77.2), b_s cB cC cI cJ cZ oA rA (mrg (fun j => j == 9) s_31.2.2 u_77.2), b_c cB cC cI cJ cZ oA rA (mrg (fun j => j == 9) s_31.2.2 u_77.2), b_t cB cC cI cJ cZ oA rA (mrg (fun j => j == 9) s_31.2.2 u_77.2), b_d cB cC cI cJ cZ oA rA (mrg (fun j => j == 9) s_31.2.2 u_77.2)]) hP' (fl_a fl_7 fl_1) fl_8 [0, 1, 7, 2, 3, 4, 5, 6] rfl
            clear hP' hD'
            refine lv_if_eq (tgt := 97) hx hb dX8_chooseAll_90 (by decide) (fun c_81 => ?_) (fun c_81 => ?_)
            · have hF_82 := ipos c_81 hF_80
              clear hF_80
              exact Jj_72  σ_79 hF_82 _ _ hP hS ls (lv_sub hl [0, 1, 2] rfl)
            · have hF_83 := ineg c_81 hF_80
              clear hF_80
              refine lv_iconst (v := 1) hx hb dX8_chooseAll_93 (by decide +kernel) ?_
              refine lv_goto (tgt := 98) hx hb dX8_chooseAll_94 (by decide) ?_
              exact Jj_43 1 σ_79 hF_83 _ _ hP hS ls (lv_sub hl [0, 1, 2] rfl)
    refine lv_icmp_eq (tgt := 46) hx hb dX8_chooseAll_33 (by decide) (fun c_85 => ?_) (fun c_85 => ?_)
    · have hF_86 := ipos c_85 hF_25
      clear hF_25
      exact Jj_24  σ_8 hF_86 _ _ hP hS ls (lv_sub hl [0] rfl)
    · have hF_87 := ineg c_85 hF_25
      clear hF_25
      refine lv_aload_n hx hb dX8_chooseAll_36 rfl (lv_at hl 0 rfl) ?_
      refine va_get (D := (dC, dI)) (ci := 8) (v := .ref (oA 9)) (C := RX8) (T := TX8) (N := 16) hx hb hts ii_X8 hown hK hP 0 rfl rfl 0 (by decide) (hts (.fieldLink RX8 22 "StoryHouse$Teller" "play" "LStoryHouse$Play;") wq_286) (fun _ h9 => h9) rfl dX8_chooseAll_37 ?_
      obtain ⟨u_88, hu_88, hF_89⟩ := Option.bind_eq_some_iff.mp hF_87
      clear hF_87
      have hPc := bx_P (bs := [b_e cB cC cI cJ cZ oA rA σ_8, b_k cB cC cI cJ cZ oA rA σ_8, b_p cB cC cI cJ cZ oA rA σ_8, b_o cB cC cI cJ cZ oA rA σ_8, b_s cB cC cI cJ cZ oA rA σ_8, b_c cB cC cI cJ cZ oA rA σ_8, b_t cB cC cI cJ cZ oA rA σ_8, b_d cB cC cI cJ cZ oA rA σ_8]) (bs' := [b_p cB cC cI cJ cZ oA rA σ_8]) (ws' := (b_p cB cC cI cJ cZ oA rA σ_8)) hP fl_8 fl_1 [2] rfl
      have hDc := bx_D (bs := [b_e cB cC cI cJ cZ oA rA σ_8, b_k cB cC cI cJ cZ oA rA σ_8, b_p cB cC cI cJ cZ oA rA σ_8, b_o cB cC cI cJ cZ oA rA σ_8, b_s cB cC cI cJ cZ oA rA σ_8, b_c cB cC cI cJ cZ oA rA σ_8, b_t cB cC cI cJ cZ oA rA σ_8, b_d cB cC cI cJ cZ oA rA σ_8]) (bs' := [b_p cB cC cI cJ cZ oA rA σ_8]) (ws' := (b_p cB cC cI cJ cZ oA rA σ_8)) (hDD σ_8) fl_8 fl_1 [2] (by decide +kernel) rfl
      have hFc := bx_F (bs := [b_e cB cC cI cJ cZ oA rA σ_8, b_k cB cC cI cJ cZ oA rA σ_8, b_p cB cC cI cJ cZ oA rA σ_8, b_o cB cC cI cJ cZ oA rA σ_8, b_s cB cC cI cJ cZ oA rA σ_8, b_c cB cC cI cJ cZ oA rA σ_8, b_t cB cC cI cJ cZ oA rA σ_8, b_d cB cC cI cJ cZ oA rA σ_8]) (bs' := [b_p cB cC cI cJ cZ oA rA σ_8]) (wc := (b_p cB cC cI cJ cZ oA rA σ_8)) (hDD σ_8) hS hA fl_8 fl_1 [2] rfl
      refine g_ofi (wc := (b_p cB cC cI cJ cZ oA rA σ_8)) (wr := (b_e cB cC cI cJ cZ oA rA σ_8 ++ b_k cB cC cI cJ cZ oA rA σ_8 ++ b_o cB cC cI cJ cZ oA rA σ_8 ++ b_s cB cC cI cJ cZ oA rA σ_8 ++ b_c cB cC cI cJ cZ oA rA σ_8 ++ b_t cB cC cI cJ cZ oA rA σ_8 ++ b_d cB cC cI cJ cZ oA rA σ_8)) hP (hDD σ_8) hS hFc (bx_ix [b_e cB cC cI cJ cZ oA rA σ_8, b_k cB cC cI cJ cZ oA rA σ_8, b_p cB cC cI cJ cZ oA rA σ_8, b_o cB cC cI cJ cZ oA rA σ_8, b_s cB cC cI cJ cZ oA rA σ_8, b_c cB cC cI cJ cZ oA rA σ_8, b_t cB cC cI cJ cZ oA rA σ_8, b_d cB cC cI cJ cZ oA rA σ_8] [2]) (bx_ix [b_e cB cC cI cJ cZ oA rA σ_8, b_k cB cC cI cJ cZ oA rA σ_8, b_p cB cC cI cJ cZ oA rA σ_8, b_o cB cC cI cJ cZ oA rA σ_8, b_s cB cC cI cJ cZ oA rA σ_8, b_c cB cC cI cJ cZ oA rA σ_8, b_t cB cC cI cJ cZ oA rA σ_8, b_d cB cC cI cJ cZ oA rA σ_8] [0, 1, 3, 4, 5, 6, 7]) (bx_C (bs := [b_e cB cC cI cJ cZ oA rA σ_8, b_k cB cC cI cJ cZ oA rA σ_8, b_p cB cC cI cJ cZ oA rA σ_8, b_o cB cC cI cJ cZ oA rA σ_8, b_s cB cC cI cJ cZ oA rA σ_8, b_c cB cC cI cJ cZ oA rA σ_8, b_t cB cC cI cJ cZ oA rA σ_8, b_d cB cC cI cJ cZ oA rA σ_8]) (bs' := [b_p cB cC cI cJ cZ oA rA σ_8]) (is := [2]) fl_8 fl_1 rfl) (bx_C (bs := [b_e cB cC cI cJ cZ oA rA σ_8, b_k cB cC cI cJ cZ oA rA σ_8, b_p cB cC cI cJ cZ oA rA σ_8, b_o cB cC cI cJ cZ oA rA σ_8, b_s cB cC cI cJ cZ oA rA σ_8, b_c cB cC cI cJ cZ oA rA σ_8, b_t cB cC cI cJ cZ oA rA σ_8, b_d cB cC cI cJ cZ oA rA σ_8]) (bs' := [b_e cB cC cI cJ cZ oA rA σ_8, b_k cB cC cI cJ cZ oA rA σ_8, b_o cB cC cI cJ cZ oA rA σ_8, b_s cB cC cI cJ cZ oA rA σ_8, b_c cB cC cI cJ cZ oA rA σ_8, b_t cB cC cI cJ cZ oA rA σ_8, b_d cB cC cI cJ cZ oA rA σ_8]) (is := [0, 1, 3, 4, 5, 6, 7]) fl_8 fl_7 rfl) (bx_n (by decide +kernel)) (bx_d (by decide +kernel)) (va_runV (As := []) (rest := []) ⟨hx, hb, hml, hown, hts⟩ (k_X6_isLight l dC dI cB cC cI cJ cZ cP oA rA H.size  σ_8 _ hu_88) (cwV 0 hts (g_gV wq_978 wq_979 wq_980 wq_10 wq_981) rfl rfl rfl (by decide +kernel) ⟨Nat.le_of_ble_eq_true rfl, Nat.le_of_ble_eq_true rfl⟩) (g_preV g_bl0 hK hPc hDc hS hE hFc g_to0 (q0 := 0) (ci := 6) rfl rfl) rfl rfl hl.1 rfl (lv_room (Nat.le_of_ble_eq_true rfl)) dX8_chooseAll_40 ⟨Nat.le_of_ble_eq_true rfl, Nat.le_of_ble_eq_true rfl⟩) (fun r9 u9 H locs hw9 hP' hD' hS => ?_)
      clear hPc hDc hFc
      subst hw9
      obtain ⟨σ_90, eσ_90, hF_91⟩ := bnd_e hF_89
      clear hF_89
      have hP : va_P (dC, dI) vwCl (b_e cB cC cI cJ cZ oA rA σ_90 ++ b_k cB cC cI cJ cZ oA rA σ_90 ++ b_p cB cC cI cJ cZ oA rA σ_90 ++ b_o cB cC cI cJ cZ oA rA σ_90 ++ b_s cB cC cI cJ cZ oA rA σ_90 ++ b_c cB cC cI cJ cZ oA rA σ_90 ++ b_t cB cC cI cJ cZ oA rA σ_90 ++ b_d cB cC cI cJ cZ oA rA σ_90) H := by rw [eσ_90]; exact bx_P (bs := [b_e cB cC cI cJ cZ oA rA σ_8, b_k cB cC cI cJ cZ oA rA σ_8, b_o cB cC cI cJ cZ oA rA σ_8, b_s cB cC cI cJ cZ oA rA σ_8, b_c cB cC cI cJ cZ oA rA σ_8, b_t cB cC cI cJ cZ oA rA σ_8, b_d cB cC cI cJ cZ oA rA σ_8] ++ [b_p cB cC cI cJ cZ oA rA u_88.2]) (bs' := [b_e cB cC cI cJ cZ oA rA (mrg (fun j => j == 9) σ_8 u_88.2), b_k cB cC cI cJ cZ oA rA (mrg (fun j => j == 9) σ_8 u_88.2), b_p cB cC cI cJ cZ oA rA (mrg (fun j => j == 9) σ_8 u_88.2), b_o cB cC cI cJ cZ oA rA (mrg (fun j => j == 9) σ_8 u_88.2), b_s cB cC cI cJ cZ oA rA (mrg (fun j => j == 9) σ_8 u_88.2), b_c cB cC cI cJ cZ oA rA (mrg (fun j => j == 9) σ_8 u_88.2), b_t cB cC cI cJ cZ oA rA (mrg (fun j => j == 9) σ_8 u_88.2), b_d cB cC cI cJ cZ oA rA (mrg (fun j => j == 9) σ_8 u_88.2)]) hP' (fl_a fl_7 fl_1) fl_8 [0, 1, 7, 2, 3, 4, 5, 6] rfl
      clear hP' hD'
      refine lv_if_eq (tgt := 160) hx hb dX8_chooseAll_43 (by decide) (fun c_92 => ?_) (fun c_92 => ?_)
      · have hF_93 := ipos c_92 hF_91
        clear hF_91
        exact Jj_11  σ_90 hF_93 _ _ hP hS ls (lv_sub hl [0] rfl)
      · have hF_94 := ineg c_92 hF_91
        clear hF_91
        exact Jj_24  σ_90 hF_94 _ _ hP hS ls (lv_sub hl [0] rfl)
  refine lv_icmp_ne (tgt := 24) hx hb dX8_chooseAll_11 (by decide) (fun c_95 => ?_) (fun c_95 => ?_)
  · have hF_101 := ineg c_95 hF_6
    clear hF_6
    refine lv_iconst (v := 1) hx hb dX8_chooseAll_24 (by decide +kernel) ?_
    exact Jj_5 1 σ_1 hF_101 _ _ hP hS ls (lv_sub hl [0] rfl)
  · have hF_96 := ipos c_95 hF_6
    clear hF_6
    refine lv_aload_n hx hb dX8_chooseAll_14 rfl (lv_at hl 0 rfl) ?_
    refine va_get (D := (dC, dI)) (ci := 8) (v := .ref (oA 9)) (C := RX8) (T := TX8) (N := 16) hx hb hts ii_X8 hown hK hP 0 rfl rfl 0 (by decide) (hts (.fieldLink RX8 22 "StoryHouse$Teller" "play" "LStoryHouse$Play;") wq_286) (fun _ h9 => h9) rfl dX8_chooseAll_15 ?_
    obtain ⟨u_97, hu_97, hF_98⟩ := Option.bind_eq_some_iff.mp hF_96
    clear hF_96
    have hPc := bx_P (bs := [b_e cB cC cI cJ cZ oA rA σ_1, b_k cB cC cI cJ cZ oA rA σ_1, b_p cB cC cI cJ cZ oA rA σ_1, b_o cB cC cI cJ cZ oA rA σ_1, b_s cB cC cI cJ cZ oA rA σ_1, b_c cB cC cI cJ cZ oA rA σ_1, b_t cB cC cI cJ cZ oA rA σ_1, b_d cB cC cI cJ cZ oA rA σ_1]) (bs' := [b_p cB cC cI cJ cZ oA rA σ_1]) (ws' := (b_p cB cC cI cJ cZ oA rA σ_1)) hP fl_8 fl_1 [2] rfl
    have hDc := bx_D (bs := [b_e cB cC cI cJ cZ oA rA σ_1, b_k cB cC cI cJ cZ oA rA σ_1, b_p cB cC cI cJ cZ oA rA σ_1, b_o cB cC cI cJ cZ oA rA σ_1, b_s cB cC cI cJ cZ oA rA σ_1, b_c cB cC cI cJ cZ oA rA σ_1, b_t cB cC cI cJ cZ oA rA σ_1, b_d cB cC cI cJ cZ oA rA σ_1]) (bs' := [b_p cB cC cI cJ cZ oA rA σ_1]) (ws' := (b_p cB cC cI cJ cZ oA rA σ_1)) (hDD σ_1) fl_8 fl_1 [2] (by decide +kernel) rfl
    have hFc := bx_F (bs := [b_e cB cC cI cJ cZ oA rA σ_1, b_k cB cC cI cJ cZ oA rA σ_1, b_p cB cC cI cJ cZ oA rA σ_1, b_o cB cC cI cJ cZ oA rA σ_1, b_s cB cC cI cJ cZ oA rA σ_1, b_c cB cC cI cJ cZ oA rA σ_1, b_t cB cC cI cJ cZ oA rA σ_1, b_d cB cC cI cJ cZ oA rA σ_1]) (bs' := [b_p cB cC cI cJ cZ oA rA σ_1]) (wc := (b_p cB cC cI cJ cZ oA rA σ_1)) (hDD σ_1) hS hA fl_8 fl_1 [2] rfl
    refine g_ofi (wc := (b_p cB cC cI cJ cZ oA rA σ_1)) (wr := (b_e cB cC cI cJ cZ oA rA σ_1 ++ b_k cB cC cI cJ cZ oA rA σ_1 ++ b_o cB cC cI cJ cZ oA rA σ_1 ++ b_s cB cC cI cJ cZ oA rA σ_1 ++ b_c cB cC cI cJ cZ oA rA σ_1 ++ b_t cB cC cI cJ cZ oA rA σ_1 ++ b_d cB cC cI cJ cZ oA rA σ_1)) hP (hDD σ_1) hS hFc (bx_ix [b_e cB cC cI cJ cZ oA rA σ_1, b_k cB cC cI cJ cZ oA rA σ_1, b_p cB cC cI cJ cZ oA rA σ_1, b_o cB cC cI cJ cZ oA rA σ_1, b_s cB cC cI cJ cZ oA rA σ_1, b_c cB cC cI cJ cZ oA rA σ_1, b_t cB cC cI cJ cZ oA rA σ_1, b_d cB cC cI cJ cZ oA rA σ_1] [2]) (bx_ix [b_e cB cC cI cJ cZ oA rA σ_1, b_k cB cC cI cJ cZ oA rA σ_1, b_p cB cC cI cJ cZ oA rA σ_1, b_o cB cC cI cJ cZ oA rA σ_1, b_s cB cC cI cJ cZ oA rA σ_1, b_c cB cC cI cJ cZ oA rA σ_1, b_t cB cC cI cJ cZ oA rA σ_1, b_d cB cC cI cJ cZ oA rA σ_1] [0, 1, 3, 4, 5, 6, 7]) (bx_C (bs := [b_e cB cC cI cJ cZ oA rA σ_1, b_k cB cC cI cJ cZ oA rA σ_1, b_p cB cC cI cJ cZ oA rA σ_1, b_o cB cC cI cJ cZ oA rA σ_1, b_s cB cC cI cJ cZ oA rA σ_1, b_c cB cC cI cJ cZ oA rA σ_1, b_t cB cC cI cJ cZ oA rA σ_1, b_d cB cC cI cJ cZ oA rA σ_1]) (bs' := [b_p cB cC cI cJ cZ oA rA σ_1]) (is := [2]) fl_8 fl_1 rfl) (bx_C (bs := [b_e cB cC cI cJ cZ oA rA σ_1, b_k cB cC cI cJ cZ oA rA σ_1, b_p cB cC cI cJ cZ oA rA σ_1, b_o cB cC cI cJ cZ oA rA σ_1, b_s cB cC cI cJ cZ oA rA σ_1, b_c cB cC cI cJ cZ oA rA σ_1, b_t cB cC cI cJ cZ oA rA σ_1, b_d cB cC cI cJ cZ oA rA σ_1]) (bs' := [b_e cB cC cI cJ cZ oA rA σ_1, b_k cB cC cI cJ cZ oA rA σ_1, b_o cB cC cI cJ cZ oA rA σ_1, b_s cB cC cI cJ cZ oA rA σ_1, b_c cB cC cI cJ cZ oA rA σ_1, b_t cB cC cI cJ cZ oA rA σ_1, b_d cB cC cI cJ cZ oA rA σ_1]) (is := [0, 1, 3, 4, 5, 6, 7]) fl_8 fl_7 rfl) (bx_n (by decide +kernel)) (bx_d (by decide +kernel)) (va_runV (As := []) (rest := [.ref (oA 11)]) ⟨hx, hb, hml, hown, hts⟩ (k_X6_here l dC dI cB cC cI cJ cZ cP oA rA H.size  σ_1 _ hu_97) (cwV 0 hts (g_gV wq_1012 wq_983 wq_984 wq_10 wq_985) rfl rfl rfl (by decide +kernel) ⟨Nat.le_of_ble_eq_true rfl, Nat.le_of_ble_eq_true rfl⟩) (g_preV g_bl0 hK hPc hDc hS hE hFc g_to0 (q0 := 0) (ci := 6) rfl rfl) rfl rfl hl.1 rfl (lv_room (Nat.le_of_ble_eq_true rfl)) dX8_chooseAll_18 ⟨Nat.le_of_ble_eq_true rfl, Nat.le_of_ble_eq_true rfl⟩) (fun r9 u9 H locs hw9 hP' hD' hS => ?_)
    clear hPc hDc hFc
    subst hw9
    obtain ⟨σ_99, eσ_99, hF_100⟩ := bnd_e hF_98
    clear hF_98
    have hP : va_P (dC, dI) vwCl (b_e cB cC cI cJ cZ oA rA σ_99 ++ b_k cB cC cI cJ cZ oA rA σ_99 ++ b_p cB cC cI cJ cZ oA rA σ_99 ++ b_o cB cC cI cJ cZ oA rA σ_99 ++ b_s cB cC cI cJ cZ oA rA σ_99 ++ b_c cB cC cI cJ cZ oA rA σ_99 ++ b_t cB cC cI cJ cZ oA rA σ_99 ++ b_d cB cC cI cJ cZ oA rA σ_99) H := by rw [eσ_99]; exact bx_P (bs := [b_e cB cC cI cJ cZ oA rA σ_1, b_k cB cC cI cJ cZ oA rA σ_1, b_o cB cC cI cJ cZ oA rA σ_1, b_s cB cC cI cJ cZ oA rA σ_1, b_c cB cC cI cJ cZ oA rA σ_1, b_t cB cC cI cJ cZ oA rA σ_1, b_d cB cC cI cJ cZ oA rA σ_1] ++ [b_p cB cC cI cJ cZ oA rA u_97.2]) (bs' := [b_e cB cC cI cJ cZ oA rA (mrg (fun j => j == 9) σ_1 u_97.2), b_k cB cC cI cJ cZ oA rA (mrg (fun j => j == 9) σ_1 u_97.2), b_p cB cC cI cJ cZ oA rA (mrg (fun j => j == 9) σ_1 u_97.2), b_o cB cC cI cJ cZ oA rA (mrg (fun j => j == 9) σ_1 u_97.2), b_s cB cC cI cJ cZ oA rA (mrg (fun j => j == 9) σ_1 u_97.2), b_c cB cC cI cJ cZ oA rA (mrg (fun j => j == 9) σ_1 u_97.2), b_t cB cC cI cJ cZ oA rA (mrg (fun j => j == 9) σ_1 u_97.2), b_d cB cC cI cJ cZ oA rA (mrg (fun j => j == 9) σ_1 u_97.2)]) hP' (fl_a fl_7 fl_1) fl_8 [0, 1, 7, 2, 3, 4, 5, 6] rfl
    clear hP' hD'
    refine lv_goto (tgt := 25) hx hb dX8_chooseAll_21 (by decide) ?_
    exact Jj_5 u_97.1 σ_99 hF_100 _ _ hP hS ls (lv_sub hl [0] rfl)
theorem dX8_isNamed_0 : decode cX8_isNamed 0 = .ok (.iload_n 2, 1) := by decide +kernel
theorem dX8_isNamed_1 : decode cX8_isNamed 1 = .ok (.istore 4, 2) := by decide +kernel
theorem dX8_isNamed_3 : decode cX8_isNamed 3 = .ok (.iload 4, 2) := by decide +kernel
theorem dX8_isNamed_5 : decode cX8_isNamed 5 = .ok (.iload_n 3, 1) := by decide +kernel
theorem dX8_isNamed_6 : decode cX8_isNamed 6 = .ok (.if_icmp .ge 28, 3) := by decide +kernel
theorem dX8_isNamed_9 : decode cX8_isNamed 9 = .ok (.aload_n 0, 1) := by decide +kernel
theorem dX8_isNamed_10 : decode cX8_isNamed 10 = .ok (.getfield 85, 3) := by decide +kernel
theorem dX8_isNamed_13 : decode cX8_isNamed 13 = .ok (.iload_n 1, 1) := by decide +kernel
theorem dX8_isNamed_14 : decode cX8_isNamed 14 = .ok (.aload_n 0, 1) := by decide +kernel
theorem dX8_isNamed_15 : decode cX8_isNamed 15 = .ok (.iload 4, 2) := by decide +kernel
theorem dX8_isNamed_17 : decode cX8_isNamed 17 = .ok (.invokevirtual 55, 3) := by decide +kernel
theorem dX8_isNamed_20 : decode cX8_isNamed 20 = .ok (.invokevirtual 142, 3) := by decide +kernel
theorem dX8_isNamed_23 : decode cX8_isNamed 23 = .ok (.ifCond .ne 5, 3) := by decide +kernel
theorem dX8_isNamed_26 : decode cX8_isNamed 26 = .ok (.iconst 0, 1) := by decide +kernel
theorem dX8_isNamed_27 : decode cX8_isNamed 27 = .ok (.ireturn, 1) := by decide +kernel
theorem dX8_isNamed_28 : decode cX8_isNamed 28 = .ok (.iinc 4 1, 3) := by decide +kernel
theorem dX8_isNamed_31 : decode cX8_isNamed 31 = .ok (.goto (-28), 3) := by decide +kernel
theorem dX8_isNamed_34 : decode cX8_isNamed 34 = .ok (.iconst 1, 1) := by decide +kernel
theorem dX8_isNamed_35 : decode cX8_isNamed 35 = .ok (.ireturn, 1) := by decide +kernel
def F_X8_isNamed (p0 : Int32) (p1 : Int32) (p2 : Int32) (Γ : HS) : HR :=
  loopF (fun (again_2 : (Int32 × HS) → HR) (s_1 : Int32 × HS) => (
    if p2 ≤ s_1.1 then (
      some (1, s_1.2)
    ) else (
      (F_X8_term s_1.1 s_1.2).bind fun u_8 =>
      (F_X7_owns p0 u_8.1 u_8.2).bind fun u_10 =>
      bnd (mrg (fun j => j == 4 || j == 5 || j == 6 || j == 7) u_8.2 u_10.2) fun σ_12 =>
      if u_10.1 = 0 then (
        some (0, σ_12)
      ) else (
        bnd (s_1.1 + 1) fun (x_17 : Int32) =>
        again_2 (x_17, σ_12)
      )
    )
  )) FU (p1, Γ)
set_option maxHeartbeats 4000000 in
set_option maxRecDepth 100000 in
theorem k_X8_isNamed (l : Launch) (dC : Nat → ClassId) (dI : Nat → Nat → Nat) (cB cC cI cJ cZ cP : ClassId) (oA : Nat → Nat) (rA : Nat → Nat → Nat) (sz : Nat)  (p0 : Int32) (p1 : Int32) (p2 : Int32) (Γ : HS) (res : Int32 × HS) (hF : F_X8_isNamed p0 p1 p2 Γ = some res) : Met l yX8_isNamed (g_ws yX8_isNamed cX8_isNamed 5 (some .boolean)) ({ frames := 4, cells := 0, slots := 0, locals := 105 }) (va_Pc [.ref (oA 11), .int p0, .int p1, .int p2] (g_B (dC, dI) [(cB, .byte), (cC, .char), (cI, .int), (cJ, .long), (cZ, .boolean), (cP, .object "StoryHouse$Play")] sz (b_e cB cC cI cJ cZ oA rA Γ ++ b_k cB cC cI cJ cZ oA rA Γ ++ b_p cB cC cI cJ cZ oA rA Γ ++ b_o cB cC cI cJ cZ oA rA Γ ++ b_s cB cC cI cJ cZ oA rA Γ ++ b_c cB cC cI cJ cZ oA rA Γ ++ b_t cB cC cI cJ cZ oA rA Γ ++ b_d cB cC cI cJ cZ oA rA Γ) g_0)) (va_Qi (fun r (_ : Unit) => r = res.1) (g_Bo (dC, dI) (va_A (b_e cB cC cI cJ cZ oA rA Γ ++ b_k cB cC cI cJ cZ oA rA Γ ++ b_p cB cC cI cJ cZ oA rA Γ ++ b_o cB cC cI cJ cZ oA rA Γ ++ b_s cB cC cI cJ cZ oA rA Γ ++ b_c cB cC cI cJ cZ oA rA Γ ++ b_t cB cC cI cJ cZ oA rA Γ ++ b_d cB cC cI cJ cZ oA rA Γ) sz) (fun (_ : Unit) => (b_e cB cC cI cJ cZ oA rA res.2 ++ b_k cB cC cI cJ cZ oA rA res.2 ++ b_p cB cC cI cJ cZ oA rA res.2 ++ b_o cB cC cI cJ cZ oA rA res.2 ++ b_s cB cC cI cJ cZ oA rA res.2 ++ b_c cB cC cI cJ cZ oA rA res.2 ++ b_t cB cC cI cJ cZ oA rA res.2 ++ b_d cB cC cI cJ cZ oA rA res.2))) (va_A (b_e cB cC cI cJ cZ oA rA Γ ++ b_k cB cC cI cJ cZ oA rA Γ ++ b_p cB cC cI cJ cZ oA rA Γ ++ b_o cB cC cI cJ cZ oA rA Γ ++ b_s cB cC cI cJ cZ oA rA Γ ++ b_c cB cC cI cJ cZ oA rA Γ ++ b_t cB cC cI cJ cZ oA rA Γ ++ b_d cB cC cI cJ cZ oA rA Γ) sz)) 0 0 (va_A (b_e cB cC cI cJ cZ oA rA Γ ++ b_k cB cC cI cJ cZ oA rA Γ ++ b_p cB cC cI cJ cZ oA rA Γ ++ b_o cB cC cI cJ cZ oA rA Γ ++ b_s cB cC cI cJ cZ oA rA Γ ++ b_c cB cC cI cJ cZ oA rA Γ ++ b_t cB cC cI cJ cZ oA rA Γ ++ b_d cB cC cI cJ cZ oA rA Γ) sz) := by
  refine Met.ofW (cc := cX8_isNamed) (maxL := 5) (ret := (some .boolean)) (by decide) rfl ?_
  intro p e s m args below meth c s₁ B hml hv
  obtain ⟨rfl, hsz, hP, hK, hD0, hE, hX⟩ := hv
  have hx := B.exec
  have hb := B.bytes
  have hr := B.returns
  have hts0 := atoms_spec (ws := g_ws yX8_isNamed cX8_isNamed 5 (some .boolean)) B.pre
  have hts : ∀ w ∈ lw_good, w.before ([.ref (oA 11), .int p0, .int p1, .int p2] : List Value).toArray s = true := fun w z => hts0 w (List.mem_cons_of_mem _ z)
  have hown : s.vm.findClass RX8 = some m.cls := findClass_of_methodNamed B.named
  have hlocks := B.notSynchronized
  subst hsz
  have hD1 := hD0.self (sz := s.heap.size)
  generalize hAe : va_A (b_e cB cC cI cJ cZ oA rA Γ ++ b_k cB cC cI cJ cZ oA rA Γ ++ b_p cB cC cI cJ cZ oA rA Γ ++ b_o cB cC cI cJ cZ oA rA Γ ++ b_s cB cC cI cJ cZ oA rA Γ ++ b_c cB cC cI cJ cZ oA rA Γ ++ b_t cB cC cI cJ cZ oA rA Γ ++ b_d cB cC cI cJ cZ oA rA Γ) s.heap.size = A at hD1 hE hX ⊢
  have hA : ∀ q : Nat, s.heap.size ≤ q → A q := fun q z => by rw [← hAe]; exact Or.inr z
  have hDD : ∀ Γ : HS, va_D A (b_e cB cC cI cJ cZ oA rA Γ ++ b_k cB cC cI cJ cZ oA rA Γ ++ b_p cB cC cI cJ cZ oA rA Γ ++ b_o cB cC cI cJ cZ oA rA Γ ++ b_s cB cC cI cJ cZ oA rA Γ ++ b_c cB cC cI cJ cZ oA rA Γ ++ b_t cB cC cI cJ cZ oA rA Γ ++ b_d cB cC cI cJ cZ oA rA Γ) := fun Γ9 => va_D_fst (ws := (b_e cB cC cI cJ cZ oA rA Γ ++ b_k cB cC cI cJ cZ oA rA Γ ++ b_p cB cC cI cJ cZ oA rA Γ ++ b_o cB cC cI cJ cZ oA rA Γ ++ b_s cB cC cI cJ cZ oA rA Γ ++ b_c cB cC cI cJ cZ oA rA Γ ++ b_t cB cC cI cJ cZ oA rA Γ ++ b_d cB cC cI cJ cZ oA rA Γ)) (ws' := (b_e cB cC cI cJ cZ oA rA Γ9 ++ b_k cB cC cI cJ cZ oA rA Γ9 ++ b_p cB cC cI cJ cZ oA rA Γ9 ++ b_o cB cC cI cJ cZ oA rA Γ9 ++ b_s cB cC cI cJ cZ oA rA Γ9 ++ b_c cB cC cI cJ cZ oA rA Γ9 ++ b_t cB cC cI cJ cZ oA rA Γ9 ++ b_d cB cC cI cJ cZ oA rA Γ9)) rfl hD1
  have hN := hE.1
  have hS : va_S A s.heap s.heap [] := va_S.rf
  have hl := lv_entry ([.ref (oA 11), .int p0, .int p1, .int p2]) (n := 5) (Nat.le_of_ble_eq_true rfl)
  rw [lg_entry_eq]
  generalize (lg_sl ([.ref (oA 11), .int p0, .int p1, .int p2]) ++ List.replicate (5 - (lg_sl ([.ref (oA 11), .int p0, .int p1, .int p2])).length) Slot.unset).toArray = ls at hl ⊢
  have hl : lv_has ls 5 [(0, .ref (oA 11)), (1, .int p0), (2, .int p1), (3, .int p2)] := hl
  unfold F_X8_isNamed at hF
  refine lv_iload_n hx hb dX8_isNamed_0 rfl (lv_at hl 2 rfl) ?_
  refine lv_istore (lv' := [(4, .int p1), (0, .ref (oA 11)), (1, .int p0), (2, .int p1), (3, .int p2)]) hx hb dX8_isNamed_1 hl (by decide) rfl (fun ls hl => ?_)
  refine loopF_ind (P := fun (s_1 : Int32 × HS) => ∀ (H : Heap) (locs : List Loc), va_P (dC, dI) vwCl (b_e cB cC cI cJ cZ oA rA s_1.2 ++ b_k cB cC cI cJ cZ oA rA s_1.2 ++ b_p cB cC cI cJ cZ oA rA s_1.2 ++ b_o cB cC cI cJ cZ oA rA s_1.2 ++ b_s cB cC cI cJ cZ oA rA s_1.2 ++ b_c cB cC cI cJ cZ oA rA s_1.2 ++ b_t cB cC cI cJ cZ oA rA s_1.2 ++ b_d cB cC cI cJ cZ oA rA s_1.2) H → va_S A s.heap H locs → ∀ ls : Array Slot, lv_has ls 5 [(0, .ref (oA 11)), (1, .int p0), (3, .int p2), (4, .int s_1.1)] → W p l e (headSpec (g_ws yX8_isNamed cX8_isNamed 5 (some .boolean)) { frames := 4, cells := 0, slots := 0, locals := 105 }).room s m ([.ref (oA 11), .int p0, .int p1, .int p2] : List Value).toArray below meth c H locs 0 0 (MQ below (va_Qi (fun r (_ : Unit) => r = res.1) (g_Bo (dC, dI) A (fun (_ : Unit) => (b_e cB cC cI cJ cZ oA rA res.2 ++ b_k cB cC cI cJ cZ oA rA res.2 ++ b_p cB cC cI cJ cZ oA rA res.2 ++ b_o cB cC cI cJ cZ oA rA res.2 ++ b_s cB cC cI cJ cZ oA rA res.2 ++ b_c cB cC cI cJ cZ oA rA res.2 ++ b_t cB cC cI cJ cZ oA rA res.2 ++ b_d cB cC cI cJ cZ oA rA res.2))) A) ([.ref (oA 11), .int p0, .int p1, .int p2] : List Value).toArray s 0 0 A) (F0 m 3 ls [])) ?_ _ _ hF _ _ hP hS ls (lv_sub hl [1, 2, 4, 0] rfl)
  intro again_2 s_1 ih_3 hF_4
  intro H locs hP hS ls hl
  refine lv_iload hx hb dX8_isNamed_3 (lv_at hl 3 rfl) ?_
  refine lv_iload_n hx hb dX8_isNamed_5 rfl (lv_at hl 2 rfl) ?_
  refine lv_icmp_ge (tgt := 34) hx hb dX8_isNamed_6 (by decide) (fun c_5 => ?_) (fun c_5 => ?_)
  · have hF_6 := ipos c_5 hF_4
    clear hF_4
    refine lv_iconst (v := 1) hx hb dX8_isNamed_34 (by decide +kernel) ?_
    have h9 := Option.some.inj hF_6
    subst h9
    exact W.zret (v := 1) hx hb hr (by decide +kernel) (fun t ht hW => ⟨⟨1, (), rfl, rfl, m_end ht hP, hDD _⟩, hS.F ht⟩) hS.2.2 dX8_isNamed_35
  · have hF_7 := ineg c_5 hF_4
    clear hF_4
    refine lv_aload_n hx hb dX8_isNamed_9 rfl (lv_at hl 0 rfl) ?_
    refine va_get (D := (dC, dI)) (ci := 8) (v := .ref (oA 4)) (C := RX8) (T := TX8) (N := 16) hx hb hts ii_X8 hown hK hP 0 rfl rfl 3 (by decide) (hts (.fieldLink RX8 85 "StoryHouse$Teller" "story" "LStoryHouse$Story;") wq_290) (fun _ h9 => h9) rfl dX8_isNamed_10 ?_
    refine lv_iload_n hx hb dX8_isNamed_13 rfl (lv_at hl 1 rfl) ?_
    refine lv_aload_n hx hb dX8_isNamed_14 rfl (lv_at hl 0 rfl) ?_
    refine lv_iload hx hb dX8_isNamed_15 (lv_at hl 3 rfl) ?_
    obtain ⟨u_8, hu_8, hF_9⟩ := Option.bind_eq_some_iff.mp hF_7
    clear hF_7
    have hPc := bx_P (bs := [b_e cB cC cI cJ cZ oA rA s_1.2, b_k cB cC cI cJ cZ oA rA s_1.2, b_p cB cC cI cJ cZ oA rA s_1.2, b_o cB cC cI cJ cZ oA rA s_1.2, b_s cB cC cI cJ cZ oA rA s_1.2, b_c cB cC cI cJ cZ oA rA s_1.2, b_t cB cC cI cJ cZ oA rA s_1.2, b_d cB cC cI cJ cZ oA rA s_1.2]) (bs' := [b_e cB cC cI cJ cZ oA rA s_1.2, b_k cB cC cI cJ cZ oA rA s_1.2, b_p cB cC cI cJ cZ oA rA s_1.2, b_o cB cC cI cJ cZ oA rA s_1.2, b_s cB cC cI cJ cZ oA rA s_1.2, b_c cB cC cI cJ cZ oA rA s_1.2, b_t cB cC cI cJ cZ oA rA s_1.2, b_d cB cC cI cJ cZ oA rA s_1.2]) (ws' := (b_e cB cC cI cJ cZ oA rA s_1.2 ++ b_k cB cC cI cJ cZ oA rA s_1.2 ++ b_p cB cC cI cJ cZ oA rA s_1.2 ++ b_o cB cC cI cJ cZ oA rA s_1.2 ++ b_s cB cC cI cJ cZ oA rA s_1.2 ++ b_c cB cC cI cJ cZ oA rA s_1.2 ++ b_t cB cC cI cJ cZ oA rA s_1.2 ++ b_d cB cC cI cJ cZ oA rA s_1.2)) hP fl_8 fl_8 [0, 1, 2, 3, 4, 5, 6, 7] rfl
    have hDc := bx_D (bs := [b_e cB cC cI cJ cZ oA rA s_1.2, b_k cB cC cI cJ cZ oA rA s_1.2, b_p cB cC cI cJ cZ oA rA s_1.2, b_o cB cC cI cJ cZ oA rA s_1.2, b_s cB cC cI cJ cZ oA rA s_1.2, b_c cB cC cI cJ cZ oA rA s_1.2, b_t cB cC cI cJ cZ oA rA s_1.2, b_d cB cC cI cJ cZ oA rA s_1.2]) (bs' := [b_e cB cC cI cJ cZ oA rA s_1.2, b_k cB cC cI cJ cZ oA rA s_1.2, b_p cB cC cI cJ cZ oA rA s_1.2, b_o cB cC cI cJ cZ oA rA s_1.2, b_s cB cC cI cJ cZ oA rA s_1.2, b_c cB cC cI cJ cZ oA rA s_1.2, b_t cB cC cI cJ cZ oA rA s_1.2, b_d cB cC cI cJ cZ oA rA s_1.2]) (ws' := (b_e cB cC cI cJ cZ oA rA s_1.2 ++ b_k cB cC cI cJ cZ oA rA s_1.2 ++ b_p cB cC cI cJ cZ oA rA s_1.2 ++ b_o cB cC cI cJ cZ oA rA s_1.2 ++ b_s cB cC cI cJ cZ oA rA s_1.2 ++ b_c cB cC cI cJ cZ oA rA s_1.2 ++ b_t cB cC cI cJ cZ oA rA s_1.2 ++ b_d cB cC cI cJ cZ oA rA s_1.2)) (hDD s_1.2) fl_8 fl_8 [0, 1, 2, 3, 4, 5, 6, 7] (by decide +kernel) rfl
    have hFc := bx_F (bs := [b_e cB cC cI cJ cZ oA rA s_1.2, b_k cB cC cI cJ cZ oA rA s_1.2, b_p cB cC cI cJ cZ oA rA s_1.2, b_o cB cC cI cJ cZ oA rA s_1.2, b_s cB cC cI cJ cZ oA rA s_1.2, b_c cB cC cI cJ cZ oA rA s_1.2, b_t cB cC cI cJ cZ oA rA s_1.2, b_d cB cC cI cJ cZ oA rA s_1.2]) (bs' := [b_e cB cC cI cJ cZ oA rA s_1.2, b_k cB cC cI cJ cZ oA rA s_1.2, b_p cB cC cI cJ cZ oA rA s_1.2, b_o cB cC cI cJ cZ oA rA s_1.2, b_s cB cC cI cJ cZ oA rA s_1.2, b_c cB cC cI cJ cZ oA rA s_1.2, b_t cB cC cI cJ cZ oA rA s_1.2, b_d cB cC cI cJ cZ oA rA s_1.2]) (wc := (b_e cB cC cI cJ cZ oA rA s_1.2 ++ b_k cB cC cI cJ cZ oA rA s_1.2 ++ b_p cB cC cI cJ cZ oA rA s_1.2 ++ b_o cB cC cI cJ cZ oA rA s_1.2 ++ b_s cB cC cI cJ cZ oA rA s_1.2 ++ b_c cB cC cI cJ cZ oA rA s_1.2 ++ b_t cB cC cI cJ cZ oA rA s_1.2 ++ b_d cB cC cI cJ cZ oA rA s_1.2)) (hDD s_1.2) hS hA fl_8 fl_8 [0, 1, 2, 3, 4, 5, 6, 7] rfl
    refine g_ofi (wc := (b_e cB cC cI cJ cZ oA rA s_1.2 ++ b_k cB cC cI cJ cZ oA rA s_1.2 ++ b_p cB cC cI cJ cZ oA rA s_1.2 ++ b_o cB cC cI cJ cZ oA rA s_1.2 ++ b_s cB cC cI cJ cZ oA rA s_1.2 ++ b_c cB cC cI cJ cZ oA rA s_1.2 ++ b_t cB cC cI cJ cZ oA rA s_1.2 ++ b_d cB cC cI cJ cZ oA rA s_1.2)) (wr := ([] : va_W)) hP (hDD s_1.2) hS hFc (bx_ix [b_e cB cC cI cJ cZ oA rA s_1.2, b_k cB cC cI cJ cZ oA rA s_1.2, b_p cB cC cI cJ cZ oA rA s_1.2, b_o cB cC cI cJ cZ oA rA s_1.2, b_s cB cC cI cJ cZ oA rA s_1.2, b_c cB cC cI cJ cZ oA rA s_1.2, b_t cB cC cI cJ cZ oA rA s_1.2, b_d cB cC cI cJ cZ oA rA s_1.2] [0, 1, 2, 3, 4, 5, 6, 7]) (bx_ix [b_e cB cC cI cJ cZ oA rA s_1.2, b_k cB cC cI cJ cZ oA rA s_1.2, b_p cB cC cI cJ cZ oA rA s_1.2, b_o cB cC cI cJ cZ oA rA s_1.2, b_s cB cC cI cJ cZ oA rA s_1.2, b_c cB cC cI cJ cZ oA rA s_1.2, b_t cB cC cI cJ cZ oA rA s_1.2, b_d cB cC cI cJ cZ oA rA s_1.2] []) (bx_C (bs := [b_e cB cC cI cJ cZ oA rA s_1.2, b_k cB cC cI cJ cZ oA rA s_1.2, b_p cB cC cI cJ cZ oA rA s_1.2, b_o cB cC cI cJ cZ oA rA s_1.2, b_s cB cC cI cJ cZ oA rA s_1.2, b_c cB cC cI cJ cZ oA rA s_1.2, b_t cB cC cI cJ cZ oA rA s_1.2, b_d cB cC cI cJ cZ oA rA s_1.2]) (bs' := [b_e cB cC cI cJ cZ oA rA s_1.2, b_k cB cC cI cJ cZ oA rA s_1.2, b_p cB cC cI cJ cZ oA rA s_1.2, b_o cB cC cI cJ cZ oA rA s_1.2, b_s cB cC cI cJ cZ oA rA s_1.2, b_c cB cC cI cJ cZ oA rA s_1.2, b_t cB cC cI cJ cZ oA rA s_1.2, b_d cB cC cI cJ cZ oA rA s_1.2]) (is := [0, 1, 2, 3, 4, 5, 6, 7]) fl_8 fl_8 rfl) (bx_C (bs := [b_e cB cC cI cJ cZ oA rA s_1.2, b_k cB cC cI cJ cZ oA rA s_1.2, b_p cB cC cI cJ cZ oA rA s_1.2, b_o cB cC cI cJ cZ oA rA s_1.2, b_s cB cC cI cJ cZ oA rA s_1.2, b_c cB cC cI cJ cZ oA rA s_1.2, b_t cB cC cI cJ cZ oA rA s_1.2, b_d cB cC cI cJ cZ oA rA s_1.2]) (bs' := []) (is := []) fl_8 fl_0 rfl) (bx_n (by decide +kernel)) (bx_d (by decide +kernel)) (va_runV (As := [.int s_1.1]) (rest := [.int p0, .ref (oA 4)]) ⟨hx, hb, hml, hown, hts⟩ (k_X8_term l dC dI cB cC cI cJ cZ cP oA rA H.size  s_1.1 s_1.2 _ hu_8) (cwV 1 hts (g_gV wq_1065 wq_1066 wq_2074 wq_12 wq_1067) rfl rfl rfl (by decide +kernel) ⟨Nat.le_of_ble_eq_true rfl, Nat.le_of_ble_eq_true rfl⟩) (g_preV g_bl0 hK hPc hDc hS hE hFc g_to0 (q0 := 0) (ci := 8) rfl rfl) rfl rfl hl.1 rfl (lv_room (Nat.le_of_ble_eq_true rfl)) dX8_isNamed_17 ⟨Nat.le_of_ble_eq_true rfl, Nat.le_of_ble_eq_true rfl⟩) (fun r9 u9 H locs hw9 hP' hD' hS => ?_)
    clear hPc hDc hFc
    subst hw9
    have hP : va_P (dC, dI) vwCl (b_e cB cC cI cJ cZ oA rA u_8.2 ++ b_k cB cC cI cJ cZ oA rA u_8.2 ++ b_p cB cC cI cJ cZ oA rA u_8.2 ++ b_o cB cC cI cJ cZ oA rA u_8.2 ++ b_s cB cC cI cJ cZ oA rA u_8.2 ++ b_c cB cC cI cJ cZ oA rA u_8.2 ++ b_t cB cC cI cJ cZ oA rA u_8.2 ++ b_d cB cC cI cJ cZ oA rA u_8.2) H := hP'
    clear hP' hD'
    obtain ⟨u_10, hu_10, hF_11⟩ := Option.bind_eq_some_iff.mp hF_9
    clear hF_9
    have hPc := bx_P (bs := [b_e cB cC cI cJ cZ oA rA u_8.2, b_k cB cC cI cJ cZ oA rA u_8.2, b_p cB cC cI cJ cZ oA rA u_8.2, b_o cB cC cI cJ cZ oA rA u_8.2, b_s cB cC cI cJ cZ oA rA u_8.2, b_c cB cC cI cJ cZ oA rA u_8.2, b_t cB cC cI cJ cZ oA rA u_8.2, b_d cB cC cI cJ cZ oA rA u_8.2]) (bs' := [b_s cB cC cI cJ cZ oA rA u_8.2, b_c cB cC cI cJ cZ oA rA u_8.2, b_t cB cC cI cJ cZ oA rA u_8.2, b_d cB cC cI cJ cZ oA rA u_8.2]) (ws' := (b_s cB cC cI cJ cZ oA rA u_8.2 ++ b_c cB cC cI cJ cZ oA rA u_8.2 ++ b_t cB cC cI cJ cZ oA rA u_8.2 ++ b_d cB cC cI cJ cZ oA rA u_8.2)) hP fl_8 fl_4 [4, 5, 6, 7] rfl
    have hDc := bx_D (bs := [b_e cB cC cI cJ cZ oA rA u_8.2, b_k cB cC cI cJ cZ oA rA u_8.2, b_p cB cC cI cJ cZ oA rA u_8.2, b_o cB cC cI cJ cZ oA rA u_8.2, b_s cB cC cI cJ cZ oA rA u_8.2, b_c cB cC cI cJ cZ oA rA u_8.2, b_t cB cC cI cJ cZ oA rA u_8.2, b_d cB cC cI cJ cZ oA rA u_8.2]) (bs' := [b_s cB cC cI cJ cZ oA rA u_8.2, b_c cB cC cI cJ cZ oA rA u_8.2, b_t cB cC cI cJ cZ oA rA u_8.2, b_d cB cC cI cJ cZ oA rA u_8.2]) (ws' := (b_s cB cC cI cJ cZ oA rA u_8.2 ++ b_c cB cC cI cJ cZ oA rA u_8.2 ++ b_t cB cC cI cJ cZ oA rA u_8.2 ++ b_d cB cC cI cJ cZ oA rA u_8.2)) (hDD u_8.2) fl_8 fl_4 [4, 5, 6, 7] (by decide +kernel) rfl
    have hFc := bx_F (bs := [b_e cB cC cI cJ cZ oA rA u_8.2, b_k cB cC cI cJ cZ oA rA u_8.2, b_p cB cC cI cJ cZ oA rA u_8.2, b_o cB cC cI cJ cZ oA rA u_8.2, b_s cB cC cI cJ cZ oA rA u_8.2, b_c cB cC cI cJ cZ oA rA u_8.2, b_t cB cC cI cJ cZ oA rA u_8.2, b_d cB cC cI cJ cZ oA rA u_8.2]) (bs' := [b_s cB cC cI cJ cZ oA rA u_8.2, b_c cB cC cI cJ cZ oA rA u_8.2, b_t cB cC cI cJ cZ oA rA u_8.2, b_d cB cC cI cJ cZ oA rA u_8.2]) (wc := (b_s cB cC cI cJ cZ oA rA u_8.2 ++ b_c cB cC cI cJ cZ oA rA u_8.2 ++ b_t cB cC cI cJ cZ oA rA u_8.2 ++ b_d cB cC cI cJ cZ oA rA u_8.2)) (hDD u_8.2) hS hA fl_8 fl_4 [4, 5, 6, 7] rfl
    refine g_ofi (wc := (b_s cB cC cI cJ cZ oA rA u_8.2 ++ b_c cB cC cI cJ cZ oA rA u_8.2 ++ b_t cB cC cI cJ cZ oA rA u_8.2 ++ b_d cB cC cI cJ cZ oA rA u_8.2)) (wr := (b_e cB cC cI cJ cZ oA rA u_8.2 ++ b_k cB cC cI cJ cZ oA rA u_8.2 ++ b_p cB cC cI cJ cZ oA rA u_8.2 ++ b_o cB cC cI cJ cZ oA rA u_8.2)) hP (hDD u_8.2) hS hFc (bx_ix [b_e cB cC cI cJ cZ oA rA u_8.2, b_k cB cC cI cJ cZ oA rA u_8.2, b_p cB cC cI cJ cZ oA rA u_8.2, b_o cB cC cI cJ cZ oA rA u_8.2, b_s cB cC cI cJ cZ oA rA u_8.2, b_c cB cC cI cJ cZ oA rA u_8.2, b_t cB cC cI cJ cZ oA rA u_8.2, b_d cB cC cI cJ cZ oA rA u_8.2] [4, 5, 6, 7]) (bx_ix [b_e cB cC cI cJ cZ oA rA u_8.2, b_k cB cC cI cJ cZ oA rA u_8.2, b_p cB cC cI cJ cZ oA rA u_8.2, b_o cB cC cI cJ cZ oA rA u_8.2, b_s cB cC cI cJ cZ oA rA u_8.2, b_c cB cC cI cJ cZ oA rA u_8.2, b_t cB cC cI cJ cZ oA rA u_8.2, b_d cB cC cI cJ cZ oA rA u_8.2] [0, 1, 2, 3]) (bx_C (bs := [b_e cB cC cI cJ cZ oA rA u_8.2, b_k cB cC cI cJ cZ oA rA u_8.2, b_p cB cC cI cJ cZ oA rA u_8.2, b_o cB cC cI cJ cZ oA rA u_8.2, b_s cB cC cI cJ cZ oA rA u_8.2, b_c cB cC cI cJ cZ oA rA u_8.2, b_t cB cC cI cJ cZ oA rA u_8.2, b_d cB cC cI cJ cZ oA rA u_8.2]) (bs' := [b_s cB cC cI cJ cZ oA rA u_8.2, b_c cB cC cI cJ cZ oA rA u_8.2, b_t cB cC cI cJ cZ oA rA u_8.2, b_d cB cC cI cJ cZ oA rA u_8.2]) (is := [4, 5, 6, 7]) fl_8 fl_4 rfl) (bx_C (bs := [b_e cB cC cI cJ cZ oA rA u_8.2, b_k cB cC cI cJ cZ oA rA u_8.2, b_p cB cC cI cJ cZ oA rA u_8.2, b_o cB cC cI cJ cZ oA rA u_8.2, b_s cB cC cI cJ cZ oA rA u_8.2, b_c cB cC cI cJ cZ oA rA u_8.2, b_t cB cC cI cJ cZ oA rA u_8.2, b_d cB cC cI cJ cZ oA rA u_8.2]) (bs' := [b_e cB cC cI cJ cZ oA rA u_8.2, b_k cB cC cI cJ cZ oA rA u_8.2, b_p cB cC cI cJ cZ oA rA u_8.2, b_o cB cC cI cJ cZ oA rA u_8.2]) (is := [0, 1, 2, 3]) fl_8 fl_4 rfl) (bx_n (by decide +kernel)) (bx_d (by decide +kernel)) (va_runV (As := [.int p0, .int u_8.1]) (rest := []) ⟨hx, hb, hml, hown, hts⟩ (k_X7_owns l dC dI cB cC cI cJ cZ cP oA rA H.size  p0 u_8.1 u_8.2 _ hu_10) (cwV 2 hts (g_gV wq_1078 wq_1079 wq_1080 wq_5 wq_1081) rfl rfl rfl (by decide +kernel) ⟨Nat.le_of_ble_eq_true rfl, Nat.le_of_ble_eq_true rfl⟩) (g_preV g_bl0 hK hPc hDc hS hE hFc g_to0 (q0 := 0) (ci := 7) rfl rfl) rfl rfl hl.1 rfl (lv_room (Nat.le_of_ble_eq_true rfl)) dX8_isNamed_20 ⟨Nat.le_of_ble_eq_true rfl, Nat.le_of_ble_eq_true rfl⟩) (fun r9 u9 H locs hw9 hP' hD' hS => ?_)
    clear hPc hDc hFc
    subst hw9
    obtain ⟨σ_12, eσ_12, hF_13⟩ := bnd_e hF_11
    clear hF_11
    have hP : va_P (dC, dI) vwCl (b_e cB cC cI cJ cZ oA rA σ_12 ++ b_k cB cC cI cJ cZ oA rA σ_12 ++ b_p cB cC cI cJ cZ oA rA σ_12 ++ b_o cB cC cI cJ cZ oA rA σ_12 ++ b_s cB cC cI cJ cZ oA rA σ_12 ++ b_c cB cC cI cJ cZ oA rA σ_12 ++ b_t cB cC cI cJ cZ oA rA σ_12 ++ b_d cB cC cI cJ cZ oA rA σ_12) H := by rw [eσ_12]; exact bx_P (bs := [b_e cB cC cI cJ cZ oA rA u_8.2, b_k cB cC cI cJ cZ oA rA u_8.2, b_p cB cC cI cJ cZ oA rA u_8.2, b_o cB cC cI cJ cZ oA rA u_8.2] ++ [b_s cB cC cI cJ cZ oA rA u_10.2, b_c cB cC cI cJ cZ oA rA u_10.2, b_t cB cC cI cJ cZ oA rA u_10.2, b_d cB cC cI cJ cZ oA rA u_10.2]) (bs' := [b_e cB cC cI cJ cZ oA rA (mrg (fun j => j == 4 || j == 5 || j == 6 || j == 7) u_8.2 u_10.2), b_k cB cC cI cJ cZ oA rA (mrg (fun j => j == 4 || j == 5 || j == 6 || j == 7) u_8.2 u_10.2), b_p cB cC cI cJ cZ oA rA (mrg (fun j => j == 4 || j == 5 || j == 6 || j == 7) u_8.2 u_10.2), b_o cB cC cI cJ cZ oA rA (mrg (fun j => j == 4 || j == 5 || j == 6 || j == 7) u_8.2 u_10.2), b_s cB cC cI cJ cZ oA rA (mrg (fun j => j == 4 || j == 5 || j == 6 || j == 7) u_8.2 u_10.2), b_c cB cC cI cJ cZ oA rA (mrg (fun j => j == 4 || j == 5 || j == 6 || j == 7) u_8.2 u_10.2), b_t cB cC cI cJ cZ oA rA (mrg (fun j => j == 4 || j == 5 || j == 6 || j == 7) u_8.2 u_10.2), b_d cB cC cI cJ cZ oA rA (mrg (fun j => j == 4 || j == 5 || j == 6 || j == 7) u_8.2 u_10.2)]) hP' (fl_a fl_4 fl_4) fl_8 [0, 1, 2, 3, 4, 5, 6, 7] rfl
    clear hP' hD'
    refine lv_if_ne (tgt := 28) hx hb dX8_isNamed_23 (by decide) (fun c_14 => ?_) (fun c_14 => ?_)
    · have hF_16 := ineg c_14 hF_13
      clear hF_13
      obtain ⟨x_17, ex_17, hF_18⟩ := bnd_e hF_16
      clear hF_16
      refine lv_iinc (v := x_17) (lv' := [(4, .int x_17), (0, .ref (oA 11)), (1, .int p0), (3, .int p2)]) hx hb dX8_isNamed_28 hl (k := 3) rfl (by rw [ex_17]; rfl) (by decide) rfl (fun ls hl => ?_)
      refine lv_goto (tgt := 3) hx hb dX8_isNamed_31 (by decide) ?_
      exact ih_3 (x_17, σ_12) hF_18 _ _ hP hS ls (lv_sub hl [1, 2, 3, 0] rfl)
    · have hF_15 := ipos c_14 hF_13
      clear hF_13
      refine lv_iconst (v := 0) hx hb dX8_isNamed_26 (by decide +kernel) ?_
      have h9 := Option.some.inj hF_15
      subst h9
      exact W.zret (v := 0) hx hb hr (by decide +kernel) (fun t ht hW => ⟨⟨0, (), rfl, rfl, m_end ht hP, hDD _⟩, hS.F ht⟩) hS.2.2 dX8_isNamed_27
