/-! methods of the class: what each does is its function -/
theorem dX8_look_0 : decode cX8_look 0 = .ok (.aload_n 0, 1) := by decide +kernel
theorem dX8_look_1 : decode cX8_look 1 = .ok (.getfield 22, 3) := by decide +kernel
theorem dX8_look_4 : decode cX8_look 4 = .ok (.invokevirtual 171, 3) := by decide +kernel
theorem dX8_look_7 : decode cX8_look 7 = .ok (.ifCond .ne 14, 3) := by decide +kernel
theorem dX8_look_10 : decode cX8_look 10 = .ok (.aload_n 0, 1) := by decide +kernel
theorem dX8_look_11 : decode cX8_look 11 = .ok (.getfield 26, 3) := by decide +kernel
theorem dX8_look_14 : decode cX8_look 14 = .ok (.ldc_w 314, 3) := by decide +kernel
theorem dX8_look_17 : decode cX8_look 17 = .ok (.invokevirtual 65, 3) := by decide +kernel
theorem dX8_look_20 : decode cX8_look 20 = .ok (.return_, 1) := by decide +kernel
theorem dX8_look_21 : decode cX8_look 21 = .ok (.aload_n 0, 1) := by decide +kernel
theorem dX8_look_22 : decode cX8_look 22 = .ok (.getfield 22, 3) := by decide +kernel
theorem dX8_look_25 : decode cX8_look 25 = .ok (.invokevirtual 195, 3) := by decide +kernel
theorem dX8_look_28 : decode cX8_look 28 = .ok (.istore_n 1, 1) := by decide +kernel
theorem dX8_look_29 : decode cX8_look 29 = .ok (.aload_n 0, 1) := by decide +kernel
theorem dX8_look_30 : decode cX8_look 30 = .ok (.getfield 30, 3) := by decide +kernel
theorem dX8_look_33 : decode cX8_look 33 = .ok (.iload_n 1, 1) := by decide +kernel
theorem dX8_look_34 : decode cX8_look 34 = .ok (.invokevirtual 227, 3) := by decide +kernel
theorem dX8_look_37 : decode cX8_look 37 = .ok (.aload_n 0, 1) := by decide +kernel
theorem dX8_look_38 : decode cX8_look 38 = .ok (.getfield 26, 3) := by decide +kernel
theorem dX8_look_41 : decode cX8_look 41 = .ok (.ldc_w 316, 3) := by decide +kernel
theorem dX8_look_44 : decode cX8_look 44 = .ok (.invokevirtual 65, 3) := by decide +kernel
theorem dX8_look_47 : decode cX8_look 47 = .ok (.aload_n 0, 1) := by decide +kernel
theorem dX8_look_48 : decode cX8_look 48 = .ok (.getfield 85, 3) := by decide +kernel
theorem dX8_look_51 : decode cX8_look 51 = .ok (.getfield 318, 3) := by decide +kernel
theorem dX8_look_54 : decode cX8_look 54 = .ok (.iload_n 1, 1) := by decide +kernel
theorem dX8_look_55 : decode cX8_look 55 = .ok (.invokestatic 70, 3) := by decide +kernel
theorem dX8_look_58 : decode cX8_look 58 = .ok (.iconst (-1), 1) := by decide +kernel
theorem dX8_look_59 : decode cX8_look 59 = .ok (.if_icmp .eq 31, 3) := by decide +kernel
theorem dX8_look_62 : decode cX8_look 62 = .ok (.aload_n 0, 1) := by decide +kernel
theorem dX8_look_63 : decode cX8_look 63 = .ok (.getfield 30, 3) := by decide +kernel
theorem dX8_look_66 : decode cX8_look 66 = .ok (.aload_n 0, 1) := by decide +kernel
theorem dX8_look_67 : decode cX8_look 67 = .ok (.getfield 85, 3) := by decide +kernel
theorem dX8_look_70 : decode cX8_look 70 = .ok (.getfield 318, 3) := by decide +kernel
theorem dX8_look_73 : decode cX8_look 73 = .ok (.iload_n 1, 1) := by decide +kernel
theorem dX8_look_74 : decode cX8_look 74 = .ok (.invokestatic 70, 3) := by decide +kernel
theorem dX8_look_77 : decode cX8_look 77 = .ok (.invokevirtual 321, 3) := by decide +kernel
theorem dX8_look_80 : decode cX8_look 80 = .ok (.aload_n 0, 1) := by decide +kernel
theorem dX8_look_81 : decode cX8_look 81 = .ok (.getfield 26, 3) := by decide +kernel
theorem dX8_look_84 : decode cX8_look 84 = .ok (.ldc_w 316, 3) := by decide +kernel
theorem dX8_look_87 : decode cX8_look 87 = .ok (.invokevirtual 65, 3) := by decide +kernel
theorem dX8_look_90 : decode cX8_look 90 = .ok (.aload_n 0, 1) := by decide +kernel
theorem dX8_look_91 : decode cX8_look 91 = .ok (.getfield 22, 3) := by decide +kernel
theorem dX8_look_94 : decode cX8_look 94 = .ok (.getfield 202, 3) := by decide +kernel
theorem dX8_look_97 : decode cX8_look 97 = .ok (.iload_n 1, 1) := by decide +kernel
theorem dX8_look_98 : decode cX8_look 98 = .ok (.invokestatic 70, 3) := by decide +kernel
theorem dX8_look_101 : decode cX8_look 101 = .ok (.istore_n 2, 1) := by decide +kernel
theorem dX8_look_102 : decode cX8_look 102 = .ok (.iconst 0, 1) := by decide +kernel
theorem dX8_look_103 : decode cX8_look 103 = .ok (.istore_n 3, 1) := by decide +kernel
theorem dX8_look_104 : decode cX8_look 104 = .ok (.iload_n 3, 1) := by decide +kernel
theorem dX8_look_105 : decode cX8_look 105 = .ok (.bipush 120, 2) := by decide +kernel
theorem dX8_look_107 : decode cX8_look 107 = .ok (.if_icmp .ge 75, 3) := by decide +kernel
theorem dX8_look_110 : decode cX8_look 110 = .ok (.iload_n 2, 1) := by decide +kernel
theorem dX8_look_111 : decode cX8_look 111 = .ok (.ifCond .eq 71, 3) := by decide +kernel
theorem dX8_look_114 : decode cX8_look 114 = .ok (.iload_n 2, 1) := by decide +kernel
theorem dX8_look_115 : decode cX8_look 115 = .ok (.iconst 1, 1) := by decide +kernel
theorem dX8_look_116 : decode cX8_look 116 = .ok (.if_icmp .eq 48, 3) := by decide +kernel
theorem dX8_look_119 : decode cX8_look 119 = .ok (.aload_n 0, 1) := by decide +kernel
theorem dX8_look_120 : decode cX8_look 120 = .ok (.getfield 22, 3) := by decide +kernel
theorem dX8_look_123 : decode cX8_look 123 = .ok (.iload_n 2, 1) := by decide +kernel
theorem dX8_look_124 : decode cX8_look 124 = .ok (.iconst 2, 1) := by decide +kernel
theorem dX8_look_125 : decode cX8_look 125 = .ok (.invokevirtual 205, 3) := by decide +kernel
theorem dX8_look_128 : decode cX8_look 128 = .ok (.ifCond .ne 36, 3) := by decide +kernel
theorem dX8_look_131 : decode cX8_look 131 = .ok (.aload_n 0, 1) := by decide +kernel
theorem dX8_look_132 : decode cX8_look 132 = .ok (.getfield 26, 3) := by decide +kernel
theorem dX8_look_135 : decode cX8_look 135 = .ok (.ldc_w 324, 3) := by decide +kernel
theorem dX8_look_138 : decode cX8_look 138 = .ok (.invokevirtual 233, 3) := by decide +kernel
theorem dX8_look_141 : decode cX8_look 141 = .ok (.aload_n 0, 1) := by decide +kernel
theorem dX8_look_142 : decode cX8_look 142 = .ok (.getfield 30, 3) := by decide +kernel
theorem dX8_look_145 : decode cX8_look 145 = .ok (.iload_n 2, 1) := by decide +kernel
theorem dX8_look_146 : decode cX8_look 146 = .ok (.invokevirtual 227, 3) := by decide +kernel
theorem dX8_look_149 : decode cX8_look 149 = .ok (.aload_n 0, 1) := by decide +kernel
theorem dX8_look_150 : decode cX8_look 150 = .ok (.getfield 26, 3) := by decide +kernel
theorem dX8_look_153 : decode cX8_look 153 = .ok (.ldc_w 326, 3) := by decide +kernel
theorem dX8_look_156 : decode cX8_look 156 = .ok (.invokevirtual 65, 3) := by decide +kernel
theorem dX8_look_159 : decode cX8_look 159 = .ok (.aload_n 0, 1) := by decide +kernel
theorem dX8_look_160 : decode cX8_look 160 = .ok (.iload_n 2, 1) := by decide +kernel
theorem dX8_look_161 : decode cX8_look 161 = .ok (.invokevirtual 328, 3) := by decide +kernel
theorem dX8_look_164 : decode cX8_look 164 = .ok (.aload_n 0, 1) := by decide +kernel
theorem dX8_look_165 : decode cX8_look 165 = .ok (.getfield 22, 3) := by decide +kernel
theorem dX8_look_168 : decode cX8_look 168 = .ok (.getfield 208, 3) := by decide +kernel
theorem dX8_look_171 : decode cX8_look 171 = .ok (.iload_n 2, 1) := by decide +kernel
theorem dX8_look_172 : decode cX8_look 172 = .ok (.invokestatic 70, 3) := by decide +kernel
theorem dX8_look_175 : decode cX8_look 175 = .ok (.istore_n 2, 1) := by decide +kernel
theorem dX8_look_176 : decode cX8_look 176 = .ok (.iinc 3 1, 3) := by decide +kernel
theorem dX8_look_179 : decode cX8_look 179 = .ok (.goto (-75), 3) := by decide +kernel
theorem dX8_look_182 : decode cX8_look 182 = .ok (.return_, 1) := by decide +kernel
def F_X8_look  (Γ : HS) : HR :=
  (F_X6_isLight Γ).bind fun u_1 =>
  bnd (mrg (fun j => j == 9) Γ u_1.2) fun σ_3 =>
  if u_1.1 = 0 then (
    (F_X5_line ([73, 116, 32, 105, 115, 32, 100, 97, 114, 107, 46] : List Int32) σ_3).bind fun u_8 =>
    bnd (mrg (fun j => j == 8) σ_3 u_8.2) fun σ_10 =>
    some (0, σ_10)
  ) else (
    (F_X6_here σ_3).bind fun u_13 =>
    bnd (mrg (fun j => j == 9) σ_3 u_13.2) fun σ_15 =>
    (F_X3_sayName u_13.1 σ_15).bind fun u_17 =>
    bnd (mrg (fun j => j == 10 || j == 9 || j == 8 || j == 4 || j == 5 || j == 6 || j == 7) σ_15 u_17.2) fun σ_19 =>
    (F_X5_line ([] : List Int32) σ_19).bind fun u_22 =>
    bnd (mrg (fun j => j == 8) σ_19 u_22.2) fun σ_24 =>
    bnd ((g_at 121 ((σ_24 4).2.1 3) u_13.1)) fun (x_26 : Int32) =>
    bnd (fun  (σ_28 : HS) => (
      bnd ((g_at 121 ((σ_28 9).2.1 1) u_13.1)) fun (x_32 : Int32) =>
      loopF (fun (again_35 : (Int32 × Int32 × HS) → HR) (s_34 : Int32 × Int32 × HS) => (
        if 120 ≤ s_34.2.1 then (
          some (0, s_34.2.2)
        ) else (
          if s_34.1 = 0 then (
            some (0, s_34.2.2)
          ) else (
            bnd (fun  (σ_44 : HS) => (
              bnd ((g_at 121 ((σ_44 9).2.1 2) s_34.1)) fun (x_48 : Int32) =>
              bnd (s_34.2.1 + 1) fun (x_50 : Int32) =>
              again_35 (x_48, x_50, σ_44)
            ) : HS → HR) fun j_45 =>
            if s_34.1 = 1 then (
              j_45  s_34.2.2
            ) else (
              (F_X6_bears s_34.1 2 s_34.2.2).bind fun u_55 =>
              bnd (mrg (fun j => j == 9) s_34.2.2 u_55.2) fun σ_57 =>
              if u_55.1 = 0 then (
                (F_X5_text ([84, 104, 101, 114, 101, 32, 105, 115, 32] : List Int32) σ_57).bind fun u_62 =>
                bnd (mrg (fun j => j == 8) σ_57 u_62.2) fun σ_64 =>
                (F_X3_sayName s_34.1 σ_64).bind fun u_66 =>
                bnd (mrg (fun j => j == 10 || j == 9 || j == 8 || j == 4 || j == 5 || j == 6 || j == 7) σ_64 u_66.2) fun σ_68 =>
                (F_X5_line ([32, 104, 101, 114, 101, 46] : List Int32) σ_68).bind fun u_71 =>
                bnd (mrg (fun j => j == 8) σ_68 u_71.2) fun σ_73 =>
                (F_X8_tellInside s_34.1 σ_73).bind fun u_75 =>
                j_45  u_75.2
              ) else (
                j_45  σ_57
              )
            )
          )
        )
      )) FU (x_32, 0, σ_28)
    ) : HS → HR) fun j_29 =>
    if x_26 = (-1) then (
      j_29  σ_24
    ) else (
      bnd ((g_at 121 ((σ_24 4).2.1 3) u_13.1)) fun (x_81 : Int32) =>
      (F_X3_sayText x_81 σ_24).bind fun u_83 =>
      bnd (mrg (fun j => j == 10 || j == 9 || j == 8 || j == 4 || j == 5 || j == 6 || j == 7) σ_24 u_83.2) fun σ_85 =>
      (F_X5_line ([] : List Int32) σ_85).bind fun u_88 =>
      bnd (mrg (fun j => j == 8) σ_85 u_88.2) fun σ_90 =>
      j_29  σ_90
    )
  )
set_option maxHeartbeats 4000000 in
set_option maxRecDepth 100000 in
theorem k_X8_look (l : Launch) (dC : Nat → ClassId) (dI : Nat → Nat → Nat) (cB cC cI cJ cZ cP : ClassId) (oA : Nat → Nat) (rA : Nat → Nat → Nat) (sz : Nat)   (Γ : HS) (res : Int32 × HS) (hF : F_X8_look  Γ = some res) : Met l yX8_look (g_ws yX8_look cX8_look 4 none) ({ frames := 9, cells := 0, slots := 0, locals := 220 }) (va_Pc [.ref (oA 11)] (g_B (dC, dI) [(cB, .byte), (cC, .char), (cI, .int), (cJ, .long), (cZ, .boolean), (cP, .object "StoryHouse$Play")] sz (b_e cB cC cI cJ cZ oA rA Γ ++ b_k cB cC cI cJ cZ oA rA Γ ++ b_p cB cC cI cJ cZ oA rA Γ ++ b_o cB cC cI cJ cZ oA rA Γ ++ b_s cB cC cI cJ cZ oA rA Γ ++ b_c cB cC cI cJ cZ oA rA Γ ++ b_t cB cC cI cJ cZ oA rA Γ ++ b_d cB cC cI cJ cZ oA rA Γ) g_0)) (va_Qv (fun (_ : Unit) => True) (g_Bo (dC, dI) (va_A (b_e cB cC cI cJ cZ oA rA Γ ++ b_k cB cC cI cJ cZ oA rA Γ ++ b_p cB cC cI cJ cZ oA rA Γ ++ b_o cB cC cI cJ cZ oA rA Γ ++ b_s cB cC cI cJ cZ oA rA Γ ++ b_c cB cC cI cJ cZ oA rA Γ ++ b_t cB cC cI cJ cZ oA rA Γ ++ b_d cB cC cI cJ cZ oA rA Γ) sz) (fun (_ : Unit) => (b_e cB cC cI cJ cZ oA rA res.2 ++ b_k cB cC cI cJ cZ oA rA res.2 ++ b_p cB cC cI cJ cZ oA rA res.2 ++ b_o cB cC cI cJ cZ oA rA res.2 ++ b_s cB cC cI cJ cZ oA rA res.2 ++ b_c cB cC cI cJ cZ oA rA res.2 ++ b_t cB cC cI cJ cZ oA rA res.2 ++ b_d cB cC cI cJ cZ oA rA res.2))) (va_A (b_e cB cC cI cJ cZ oA rA Γ ++ b_k cB cC cI cJ cZ oA rA Γ ++ b_p cB cC cI cJ cZ oA rA Γ ++ b_o cB cC cI cJ cZ oA rA Γ ++ b_s cB cC cI cJ cZ oA rA Γ ++ b_c cB cC cI cJ cZ oA rA Γ ++ b_t cB cC cI cJ cZ oA rA Γ ++ b_d cB cC cI cJ cZ oA rA Γ) sz)) 0 0 (va_A (b_e cB cC cI cJ cZ oA rA Γ ++ b_k cB cC cI cJ cZ oA rA Γ ++ b_p cB cC cI cJ cZ oA rA Γ ++ b_o cB cC cI cJ cZ oA rA Γ ++ b_s cB cC cI cJ cZ oA rA Γ ++ b_c cB cC cI cJ cZ oA rA Γ ++ b_t cB cC cI cJ cZ oA rA Γ ++ b_d cB cC cI cJ cZ oA rA Γ) sz) := by
  refine Met.ofW (cc := cX8_look) (maxL := 4) (ret := none) (by decide) rfl ?_
  intro p e s m args below meth c s₁ B hml hv
  obtain ⟨rfl, hsz, hP, hK, hD0, hE, hX⟩ := hv
  have hx := B.exec
  have hb := B.bytes
  have hr := B.returns
  have hts0 := atoms_spec (ws := g_ws yX8_look cX8_look 4 none) B.pre
  have hts : ∀ w ∈ lw_good, w.before ([.ref (oA 11)] : List Value).toArray s = true := fun w z => hts0 w (List.mem_cons_of_mem _ z)
  have hown : s.vm.findClass RX8 = some m.cls := findClass_of_methodNamed B.named
  have hlocks := B.notSynchronized
  subst hsz
  have hD1 := hD0.self (sz := s.heap.size)
  generalize hAe : va_A (b_e cB cC cI cJ cZ oA rA Γ ++ b_k cB cC cI cJ cZ oA rA Γ ++ b_p cB cC cI cJ cZ oA rA Γ ++ b_o cB cC cI cJ cZ oA rA Γ ++ b_s cB cC cI cJ cZ oA rA Γ ++ b_c cB cC cI cJ cZ oA rA Γ ++ b_t cB cC cI cJ cZ oA rA Γ ++ b_d cB cC cI cJ cZ oA rA Γ) s.heap.size = A at hD1 hE hX ⊢
  have hA : ∀ q : Nat, s.heap.size ≤ q → A q := fun q z => by rw [← hAe]; exact Or.inr z
  have hDD : ∀ Γ : HS, va_D A (b_e cB cC cI cJ cZ oA rA Γ ++ b_k cB cC cI cJ cZ oA rA Γ ++ b_p cB cC cI cJ cZ oA rA Γ ++ b_o cB cC cI cJ cZ oA rA Γ ++ b_s cB cC cI cJ cZ oA rA Γ ++ b_c cB cC cI cJ cZ oA rA Γ ++ b_t cB cC cI cJ cZ oA rA Γ ++ b_d cB cC cI cJ cZ oA rA Γ) := fun Γ9 => va_D_fst (ws := (b_e cB cC cI cJ cZ oA rA Γ ++ b_k cB cC cI cJ cZ oA rA Γ ++ b_p cB cC cI cJ cZ oA rA Γ ++ b_o cB cC cI cJ cZ oA rA Γ ++ b_s cB cC cI cJ cZ oA rA Γ ++ b_c cB cC cI cJ cZ oA rA Γ ++ b_t cB cC cI cJ cZ oA rA Γ ++ b_d cB cC cI cJ cZ oA rA Γ)) (ws' := (b_e cB cC cI cJ cZ oA rA Γ9 ++ b_k cB cC cI cJ cZ oA rA Γ9 ++ b_p cB cC cI cJ cZ oA rA Γ9 ++ b_o cB cC cI cJ cZ oA rA Γ9 ++ b_s cB cC cI cJ cZ oA rA Γ9 ++ b_c cB cC cI cJ cZ oA rA Γ9 ++ b_t cB cC cI cJ cZ oA rA Γ9 ++ b_d cB cC cI cJ cZ oA rA Γ9)) rfl hD1
  have hN := hE.1
  have hS : va_S A s.heap s.heap [] := va_S.rf
  have hl := lv_entry ([.ref (oA 11)]) (n := 4) (Nat.le_of_ble_eq_true rfl)
  rw [lg_entry_eq]
  generalize (lg_sl ([.ref (oA 11)]) ++ List.replicate (4 - (lg_sl ([.ref (oA 11)])).length) Slot.unset).toArray = ls at hl ⊢
  have hl : lv_has ls 4 [(0, .ref (oA 11))] := hl
  unfold F_X8_look at hF
  refine lv_aload_n hx hb dX8_look_0 rfl (lv_at hl 0 rfl) ?_
  refine va_get (D := (dC, dI)) (ci := 8) (v := .ref (oA 9)) (C := RX8) (T := TX8) (N := 16) hx hb hts ii_X8 hown hK hP 0 rfl rfl 0 (by decide) (hts (.fieldLink RX8 22 "StoryHouse$Teller" "play" "LStoryHouse$Play;") wq_286) (fun _ h9 => h9) rfl dX8_look_1 ?_
  obtain ⟨u_1, hu_1, hF_2⟩ := Option.bind_eq_some_iff.mp hF
  clear hF
  have hPc := hP.sub (ws' := (b_p cB cC cI cJ cZ oA rA Γ)) [9, 10, 11, 12, 13, 14, 15, 16] rfl
  have hDc := (hDD Γ).sub (ws' := (b_p cB cC cI cJ cZ oA rA Γ)) [9, 10, 11, 12, 13, 14, 15, 16] (by decide +kernel) rfl
  have hFc := va_free (wc := (b_p cB cC cI cJ cZ oA rA Γ)) (hDD Γ) hS hA [9, 10, 11, 12, 13, 14, 15, 16] rfl
  refine g_ofi (wc := (b_p cB cC cI cJ cZ oA rA Γ)) (wr := (b_e cB cC cI cJ cZ oA rA Γ ++ b_k cB cC cI cJ cZ oA rA Γ ++ b_o cB cC cI cJ cZ oA rA Γ ++ b_s cB cC cI cJ cZ oA rA Γ ++ b_c cB cC cI cJ cZ oA rA Γ ++ b_t cB cC cI cJ cZ oA rA Γ ++ b_d cB cC cI cJ cZ oA rA Γ)) hP (hDD Γ) hS hFc [9, 10, 11, 12, 13, 14, 15, 16] [0, 1, 2, 3, 4, 5, 6, 7, 8, 17, 18, 19, 20, 21, 22, 23, 24, 25, 26, 27, 28, 29, 30, 31, 32, 33, 34, 35, 36, 37, 38, 39, 40, 41, 42, 43, 44, 45, 46, 47, 48, 49] rfl rfl (by decide +kernel) (by decide +kernel) (va_runV (As := []) (rest := []) ⟨hx, hb, hml, hown, hts⟩ (k_X6_isLight l dC dI cB cC cI cJ cZ cP oA rA s.heap.size  Γ _ hu_1) (cwV 0 hts (g_gV wq_978 wq_979 wq_980 wq_10 wq_981) rfl rfl rfl (by decide +kernel) ⟨Nat.le_of_ble_eq_true rfl, Nat.le_of_ble_eq_true rfl⟩) (g_preV g_bl0 hK hPc hDc hS hE hFc g_to0 (q0 := 0) (ci := 6) rfl rfl) rfl rfl hl.1 rfl (lv_room (Nat.le_of_ble_eq_true rfl)) dX8_look_4 ⟨Nat.le_of_ble_eq_true rfl, Nat.le_of_ble_eq_true rfl⟩) (fun r9 u9 H locs hw9 hP' hD' hS => ?_)
  clear hPc hDc hFc
  subst hw9
  obtain ⟨σ_3, eσ_3, hF_4⟩ := bnd_e hF_2
  clear hF_2
  have hP : va_P (dC, dI) vwCl (b_e cB cC cI cJ cZ oA rA σ_3 ++ b_k cB cC cI cJ cZ oA rA σ_3 ++ b_p cB cC cI cJ cZ oA rA σ_3 ++ b_o cB cC cI cJ cZ oA rA σ_3 ++ b_s cB cC cI cJ cZ oA rA σ_3 ++ b_c cB cC cI cJ cZ oA rA σ_3 ++ b_t cB cC cI cJ cZ oA rA σ_3 ++ b_d cB cC cI cJ cZ oA rA σ_3) H := by rw [eσ_3]; exact hP'.sub [0, 1, 2, 3, 4, 5, 6, 7, 8, 42, 43, 44, 45, 46, 47, 48, 49, 9, 10, 11, 12, 13, 14, 15, 16, 17, 18, 19, 20, 21, 22, 23, 24, 25, 26, 27, 28, 29, 30, 31, 32, 33, 34, 35, 36, 37, 38, 39, 40, 41] rfl
  clear hP' hD'
  refine lv_if_ne (tgt := 21) hx hb dX8_look_7 (by decide) (fun c_5 => ?_) (fun c_5 => ?_)
  · have hF_12 := ineg c_5 hF_4
    clear hF_4
    refine lv_aload_n hx hb dX8_look_21 rfl (lv_at hl 0 rfl) ?_
    refine va_get (D := (dC, dI)) (ci := 8) (v := .ref (oA 9)) (C := RX8) (T := TX8) (N := 16) hx hb hts ii_X8 hown hK hP 0 rfl rfl 0 (by decide) (hts (.fieldLink RX8 22 "StoryHouse$Teller" "play" "LStoryHouse$Play;") wq_286) (fun _ h9 => h9) rfl dX8_look_22 ?_
    obtain ⟨u_13, hu_13, hF_14⟩ := Option.bind_eq_some_iff.mp hF_12
    clear hF_12
    have hPc := hP.sub (ws' := (b_p cB cC cI cJ cZ oA rA σ_3)) [9, 10, 11, 12, 13, 14, 15, 16] rfl
    have hDc := (hDD σ_3).sub (ws' := (b_p cB cC cI cJ cZ oA rA σ_3)) [9, 10, 11, 12, 13, 14, 15, 16] (by decide +kernel) rfl
    have hFc := va_free (wc := (b_p cB cC cI cJ cZ oA rA σ_3)) (hDD σ_3) hS hA [9, 10, 11, 12, 13, 14, 15, 16] rfl
    refine g_ofi (wc := (b_p cB cC cI cJ cZ oA rA σ_3)) (wr := (b_e cB cC cI cJ cZ oA rA σ_3 ++ b_k cB cC cI cJ cZ oA rA σ_3 ++ b_o cB cC cI cJ cZ oA rA σ_3 ++ b_s cB cC cI cJ cZ oA rA σ_3 ++ b_c cB cC cI cJ cZ oA rA σ_3 ++ b_t cB cC cI cJ cZ oA rA σ_3 ++ b_d cB cC cI cJ cZ oA rA σ_3)) hP (hDD σ_3) hS hFc [9, 10, 11, 12, 13, 14, 15, 16] [0, 1, 2, 3, 4, 5, 6, 7, 8, 17, 18, 19, 20, 21, 22, 23, 24, 25, 26, 27, 28, 29, 30, 31, 32, 33, 34, 35, 36, 37, 38, 39, 40, 41, 42, 43, 44, 45, 46, 47, 48, 49] rfl rfl (by decide +kernel) (by decide +kernel) (va_runV (As := []) (rest := []) ⟨hx, hb, hml, hown, hts⟩ (k_X6_here l dC dI cB cC cI cJ cZ cP oA rA H.size  σ_3 _ hu_13) (cwV 0 hts (g_gV wq_1012 wq_983 wq_984 wq_10 wq_985) rfl rfl rfl (by decide +kernel) ⟨Nat.le_of_ble_eq_true rfl, Nat.le_of_ble_eq_true rfl⟩) (g_preV g_bl0 hK hPc hDc hS hE hFc g_to0 (q0 := 0) (ci := 6) rfl rfl) rfl rfl hl.1 rfl (lv_room (Nat.le_of_ble_eq_true rfl)) dX8_look_25 ⟨Nat.le_of_ble_eq_true rfl, Nat.le_of_ble_eq_true rfl⟩) (fun r9 u9 H locs hw9 hP' hD' hS => ?_)
    clear hPc hDc hFc
    subst hw9
    obtain ⟨σ_15, eσ_15, hF_16⟩ := bnd_e hF_14
    clear hF_14
    have hP : va_P (dC, dI) vwCl (b_e cB cC cI cJ cZ oA rA σ_15 ++ b_k cB cC cI cJ cZ oA rA σ_15 ++ b_p cB cC cI cJ cZ oA rA σ_15 ++ b_o cB cC cI cJ cZ oA rA σ_15 ++ b_s cB cC cI cJ cZ oA rA σ_15 ++ b_c cB cC cI cJ cZ oA rA σ_15 ++ b_t cB cC cI cJ cZ oA rA σ_15 ++ b_d cB cC cI cJ cZ oA rA σ_15) H := by rw [eσ_15]; exact hP'.sub [0, 1, 2, 3, 4, 5, 6, 7, 8, 42, 43, 44, 45, 46, 47, 48, 49, 9, 10, 11, 12, 13, 14, 15, 16, 17, 18, 19, 20, 21, 22, 23, 24, 25, 26, 27, 28, 29, 30, 31, 32, 33, 34, 35, 36, 37, 38, 39, 40, 41] rfl
    clear hP' hD'
    refine lv_istore_n (lv' := [(1, .int u_13.1), (0, .ref (oA 11))]) hx hb dX8_look_28 rfl hl (by decide) rfl (fun ls hl => ?_)
    refine lv_aload_n hx hb dX8_look_29 rfl (lv_at hl 1 rfl) ?_
    refine va_get (D := (dC, dI)) (ci := 8) (v := .ref (oA 10)) (C := RX8) (T := TX8) (N := 16) hx hb hts ii_X8 hown hK hP 0 rfl rfl 2 (by decide) (hts (.fieldLink RX8 30 "StoryHouse$Teller" "machine" "LStoryHouse$Machine;") wq_288) (fun _ h9 => h9) rfl dX8_look_30 ?_
    refine lv_iload_n hx hb dX8_look_33 rfl (lv_at hl 0 rfl) ?_
    obtain ⟨u_17, hu_17, hF_18⟩ := Option.bind_eq_some_iff.mp hF_16
    clear hF_16
    have hPc := hP.sub (ws' := (b_k cB cC cI cJ cZ oA rA σ_15 ++ b_p cB cC cI cJ cZ oA rA σ_15 ++ b_o cB cC cI cJ cZ oA rA σ_15 ++ b_s cB cC cI cJ cZ oA rA σ_15 ++ b_c cB cC cI cJ cZ oA rA σ_15 ++ b_t cB cC cI cJ cZ oA rA σ_15 ++ b_d cB cC cI cJ cZ oA rA σ_15)) [4, 5, 6, 7, 8, 9, 10, 11, 12, 13, 14, 15, 16, 17, 18, 19, 20, 21, 22, 23, 24, 25, 26, 27, 28, 29, 30, 31, 32, 33, 34, 35, 36, 37, 38, 39, 40, 41, 42, 43, 44, 45, 46, 47, 48, 49] rfl
    have hDc := (hDD σ_15).sub (ws' := (b_k cB cC cI cJ cZ oA rA σ_15 ++ b_p cB cC cI cJ cZ oA rA σ_15 ++ b_o cB cC cI cJ cZ oA rA σ_15 ++ b_s cB cC cI cJ cZ oA rA σ_15 ++ b_c cB cC cI cJ cZ oA rA σ_15 ++ b_t cB cC cI cJ cZ oA rA σ_15 ++ b_d cB cC cI cJ cZ oA rA σ_15)) [4, 5, 6, 7, 8, 9, 10, 11, 12, 13, 14, 15, 16, 17, 18, 19, 20, 21, 22, 23, 24, 25, 26, 27, 28, 29, 30, 31, 32, 33, 34, 35, 36, 37, 38, 39, 40, 41, 42, 43, 44, 45, 46, 47, 48, 49] (by decide +kernel) rfl
    have hFc := va_free (wc := (b_k cB cC cI cJ cZ oA rA σ_15 ++ b_p cB cC cI cJ cZ oA rA σ_15 ++ b_o cB cC cI cJ cZ oA rA σ_15 ++ b_s cB cC cI cJ cZ oA rA σ_15 ++ b_c cB cC cI cJ cZ oA rA σ_15 ++ b_t cB cC cI cJ cZ oA rA σ_15 ++ b_d cB cC cI cJ cZ oA rA σ_15)) (hDD σ_15) hS hA [4, 5, 6, 7, 8, 9, 10, 11, 12, 13, 14, 15, 16, 17, 18, 19, 20, 21, 22, 23, 24, 25, 26, 27, 28, 29, 30, 31, 32, 33, 34, 35, 36, 37, 38, 39, 40, 41, 42, 43, 44, 45, 46, 47, 48, 49] rfl
    refine g_ofv (wc := (b_k cB cC cI cJ cZ oA rA σ_15 ++ b_p cB cC cI cJ cZ oA rA σ_15 ++ b_o cB cC cI cJ cZ oA rA σ_15 ++ b_s cB cC cI cJ cZ oA rA σ_15 ++ b_c cB cC cI cJ cZ oA rA σ_15 ++ b_t cB cC cI cJ cZ oA rA σ_15 ++ b_d cB cC cI cJ cZ oA rA σ_15)) (wr := (b_e cB cC cI cJ cZ oA rA σ_15)) hP (hDD σ_15) hS hFc [4, 5, 6, 7, 8, 9, 10, 11, 12, 13, 14, 15, 16, 17, 18, 19, 20, 21, 22, 23, 24, 25, 26, 27, 28, 29, 30, 31, 32, 33, 34, 35, 36, 37, 38, 39, 40, 41, 42, 43, 44, 45, 46, 47, 48, 49] [0, 1, 2, 3] rfl rfl (by decide +kernel) (by decide +kernel) (va_runV (As := [.int u_13.1]) (rest := []) ⟨hx, hb, hml, hown, hts⟩ (k_X3_sayName l dC dI cB cC cI cJ cZ cP oA rA H.size  u_13.1 σ_15 _ hu_17) (cwV 1 hts (g_gV wq_1013 wq_1014 wq_1015 wq_11 wq_1016) rfl rfl rfl (by decide +kernel) ⟨Nat.le_of_ble_eq_true rfl, Nat.le_of_ble_eq_true rfl⟩) (g_preV g_bl0 hK hPc hDc hS hE hFc g_to0 (q0 := 0) (ci := 3) rfl rfl) rfl rfl hl.1 rfl (lv_room (Nat.le_of_ble_eq_true rfl)) dX8_look_34 ⟨Nat.le_of_ble_eq_true rfl, Nat.le_of_ble_eq_true rfl⟩) (fun u9 H locs hw9 hP' hD' hS => ?_)
    clear hPc hDc hFc
    obtain ⟨σ_19, eσ_19, hF_20⟩ := bnd_e hF_18
    clear hF_18
    have hP : va_P (dC, dI) vwCl (b_e cB cC cI cJ cZ oA rA σ_19 ++ b_k cB cC cI cJ cZ oA rA σ_19 ++ b_p cB cC cI cJ cZ oA rA σ_19 ++ b_o cB cC cI cJ cZ oA rA σ_19 ++ b_s cB cC cI cJ cZ oA rA σ_19 ++ b_c cB cC cI cJ cZ oA rA σ_19 ++ b_t cB cC cI cJ cZ oA rA σ_19 ++ b_d cB cC cI cJ cZ oA rA σ_19) H := by rw [eσ_19]; exact hP'.sub [0, 1, 2, 3, 4, 5, 6, 7, 8, 9, 10, 11, 12, 13, 14, 15, 16, 17, 18, 19, 20, 21, 22, 23, 24, 25, 26, 27, 28, 29, 30, 31, 32, 33, 34, 35, 36, 37, 38, 39, 40, 41, 42, 43, 44, 45, 46, 47, 48, 49] rfl
    clear hP' hD'
    refine lv_aload_n hx hb dX8_look_37 rfl (lv_at hl 1 rfl) ?_
    refine va_get (D := (dC, dI)) (ci := 8) (v := .ref (oA 8)) (C := RX8) (T := TX8) (N := 16) hx hb hts ii_X8 hown hK hP 0 rfl rfl 1 (by decide) (hts (.fieldLink RX8 26 "StoryHouse$Teller" "told" "LStoryHouse$Out;") wq_287) (fun _ h9 => h9) rfl dX8_look_38 ?_
    obtain ⟨q_21, vq_21, hRq_21, hSq_21⟩ := hE.2.2.2.2 _ (List.mem_of_getElem? (i := 28) rfl)
    refine g_ldcwS (own := RX8) (tx := "") hx hb hown hRq_21 dX8_look_41 ?_
    obtain ⟨u_22, hu_22, hF_23⟩ := Option.bind_eq_some_iff.mp hF_20
    clear hF_20
    have hPc := hP.sub (ws' := (b_o cB cC cI cJ cZ oA rA σ_19)) [17, 18] rfl
    have hDc := (hDD σ_19).sub (ws' := (b_o cB cC cI cJ cZ oA rA σ_19)) [17, 18] (by decide +kernel) rfl
    have hFc := va_free (wc := (b_o cB cC cI cJ cZ oA rA σ_19)) (hDD σ_19) hS hA [17, 18] rfl
    refine g_ofv (wc := (b_o cB cC cI cJ cZ oA rA σ_19)) (wr := (b_e cB cC cI cJ cZ oA rA σ_19 ++ b_k cB cC cI cJ cZ oA rA σ_19 ++ b_p cB cC cI cJ cZ oA rA σ_19 ++ b_s cB cC cI cJ cZ oA rA σ_19 ++ b_c cB cC cI cJ cZ oA rA σ_19 ++ b_t cB cC cI cJ cZ oA rA σ_19 ++ b_d cB cC cI cJ cZ oA rA σ_19)) hP (hDD σ_19) hS hFc [17, 18] [0, 1, 2, 3, 4, 5, 6, 7, 8, 9, 10, 11, 12, 13, 14, 15, 16, 19, 20, 21, 22, 23, 24, 25, 26, 27, 28, 29, 30, 31, 32, 33, 34, 35, 36, 37, 38, 39, 40, 41, 42, 43, 44, 45, 46, 47, 48, 49] rfl rfl (by decide +kernel) (by decide +kernel) (va_runV (As := [.ref q_21]) (rest := []) ⟨hx, hb, hml, hown, hts⟩ (k_X5_line l dC dI cB cC cI cJ cZ cP oA rA H.size q_21 _ ([] : List Int32) σ_19 _ hu_22) (cwV 1 hts (g_gV wq_998 wq_999 wq_1000 wq_9 wq_1001) rfl rfl rfl (by decide +kernel) ⟨Nat.le_of_ble_eq_true rfl, Nat.le_of_ble_eq_true rfl⟩) (g_preV g_blS hK hPc hDc hS hE hFc (g_toS hSq_21 hS hFc) (q0 := 0) (ci := 5) rfl rfl) rfl rfl hl.1 rfl (lv_room (Nat.le_of_ble_eq_true rfl)) dX8_look_44 ⟨Nat.le_of_ble_eq_true rfl, Nat.le_of_ble_eq_true rfl⟩) (fun u9 H locs hw9 hP' hD' hS => ?_)
    clear hPc hDc hFc
    obtain ⟨σ_24, eσ_24, hF_25⟩ := bnd_e hF_23
    clear hF_23
    have hP : va_P (dC, dI) vwCl (b_e cB cC cI cJ cZ oA rA σ_24 ++ b_k cB cC cI cJ cZ oA rA σ_24 ++ b_p cB cC cI cJ cZ oA rA σ_24 ++ b_o cB cC cI cJ cZ oA rA σ_24 ++ b_s cB cC cI cJ cZ oA rA σ_24 ++ b_c cB cC cI cJ cZ oA rA σ_24 ++ b_t cB cC cI cJ cZ oA rA σ_24 ++ b_d cB cC cI cJ cZ oA rA σ_24) H := by rw [eσ_24]; exact hP'.sub [0, 1, 2, 3, 4, 5, 6, 7, 8, 9, 10, 11, 12, 13, 14, 15, 16, 48, 49, 17, 18, 19, 20, 21, 22, 23, 24, 25, 26, 27, 28, 29, 30, 31, 32, 33, 34, 35, 36, 37, 38, 39, 40, 41, 42, 43, 44, 45, 46, 47] rfl
    clear hP' hD'
    refine lv_aload_n hx hb dX8_look_47 rfl (lv_at hl 1 rfl) ?_
    refine va_get (D := (dC, dI)) (ci := 8) (v := .ref (oA 4)) (C := RX8) (T := TX8) (N := 16) hx hb hts ii_X8 hown hK hP 0 rfl rfl 3 (by decide) (hts (.fieldLink RX8 85 "StoryHouse$Teller" "story" "LStoryHouse$Story;") wq_290) (fun _ h9 => h9) rfl dX8_look_48 ?_
    refine va_get (D := (dC, dI)) (ci := 7) (v := .ref (rA 4 3)) (C := RX7) (T := TX7) (N := 19) hx hb hts ii_X7 hown hK hP 19 rfl rfl 3 (by decide) (hts (.fieldLink RX8 318 "StoryHouse$Story" "described" "[I") wq_161) (fun _ h9 => h9) rfl dX8_look_51 ?_
    refine lv_iload_n hx hb dX8_look_54 rfl (lv_at hl 0 rfl) ?_
    have hPc := hP.sub (ws' := [(rA 4 3, .inl (cI, 121, .inl ((σ_24 4).2.1 3)))]) [23] rfl
    have hDc := (hDD σ_24).sub (ws' := [(rA 4 3, .inl (cI, 121, .inl ((σ_24 4).2.1 3)))]) [23] (by decide +kernel) rfl
    have hFc := va_free (wc := [(rA 4 3, .inl (cI, 121, .inl ((σ_24 4).2.1 3)))]) (hDD σ_24) hS hA [23] rfl
    refine g_ofi (wc := [(rA 4 3, .inl (cI, 121, .inl ((σ_24 4).2.1 3)))]) (wr := (((b_e cB cC cI cJ cZ oA rA σ_24 ++ b_k cB cC cI cJ cZ oA rA σ_24 ++ b_p cB cC cI cJ cZ oA rA σ_24 ++ b_o cB cC cI cJ cZ oA rA σ_24 ++ b_s cB cC cI cJ cZ oA rA σ_24 ++ b_c cB cC cI cJ cZ oA rA σ_24 ++ b_t cB cC cI cJ cZ oA rA σ_24 ++ b_d cB cC cI cJ cZ oA rA σ_24)).eraseIdx 23)) hP (hDD σ_24) hS hFc [23] [0, 1, 2, 3, 4, 5, 6, 7, 8, 9, 10, 11, 12, 13, 14, 15, 16, 17, 18, 19, 20, 21, 22, 24, 25, 26, 27, 28, 29, 30, 31, 32, 33, 34, 35, 36, 37, 38, 39, 40, 41, 42, 43, 44, 45, 46, 47, 48, 49] rfl rfl (by decide +kernel) (by decide +kernel) (va_runSN (As := [.ref (rA 4 3), .int u_13.1]) (rest := []) ⟨hx, hb, hml, hown, hts⟩ (c_X11_at l dC dI cB cC cI cJ cZ cP H.size (rA 4 3) u_13.1 121 ((σ_24 4).2.1 3) (by decide)) ⟨va_cnB 2 hts (g_gA wq_407) rfl rfl rfl (hN.at 31 rfl) (hts (.initialized RX11) wq_1) (by decide +kernel) ⟨Nat.le_of_ble_eq_true rfl, Nat.le_of_ble_eq_true rfl⟩, (hts (.static yX11_at) wq_406), trivial⟩ (g_preS g_bl0 hK hPc hDc hS hE hFc g_to0) rfl rfl hl.1 rfl (lv_room (Nat.le_of_ble_eq_true rfl)) dX8_look_55 ⟨Nat.le_of_ble_eq_true rfl, Nat.le_of_ble_eq_true rfl⟩) (fun r9 u9 H locs hw9 hP' hD' hS => ?_)
    clear hPc hDc hFc hD'
    have hP : va_P (dC, dI) vwCl (b_e cB cC cI cJ cZ oA rA σ_24 ++ b_k cB cC cI cJ cZ oA rA σ_24 ++ b_p cB cC cI cJ cZ oA rA σ_24 ++ b_o cB cC cI cJ cZ oA rA σ_24 ++ b_s cB cC cI cJ cZ oA rA σ_24 ++ b_c cB cC cI cJ cZ oA rA σ_24 ++ b_t cB cC cI cJ cZ oA rA σ_24 ++ b_d cB cC cI cJ cZ oA rA σ_24) H := hP'.sub [0, 1, 2, 3, 4, 5, 6, 7, 8, 9, 10, 11, 12, 13, 14, 15, 16, 17, 18, 19, 20, 21, 22, 49, 23, 24, 25, 26, 27, 28, 29, 30, 31, 32, 33, 34, 35, 36, 37, 38, 39, 40, 41, 42, 43, 44, 45, 46, 47, 48] rfl
    clear hP'
    subst hw9
    obtain ⟨x_26, ex_26, hF_27⟩ := bnd_e hF_25
    clear hF_25
    refine m_top ex_26 ?_
    refine lv_iconst (v := (-1)) hx hb dX8_look_58 (by decide +kernel) ?_
    obtain ⟨j_29, ej_29, hF_30⟩ := bnd_e hF_27
    clear hF_27
    have Jj_29 : ∀  (σ_28 : HS), j_29  σ_28 = some res → ∀ (H : Heap) (locs : List Loc), va_P (dC, dI) vwCl (b_e cB cC cI cJ cZ oA rA σ_28 ++ b_k cB cC cI cJ cZ oA rA σ_28 ++ b_p cB cC cI cJ cZ oA rA σ_28 ++ b_o cB cC cI cJ cZ oA rA σ_28 ++ b_s cB cC cI cJ cZ oA rA σ_28 ++ b_c cB cC cI cJ cZ oA rA σ_28 ++ b_t cB cC cI cJ cZ oA rA σ_28 ++ b_d cB cC cI cJ cZ oA rA σ_28) H → va_S A s.heap H locs → ∀ ls : Array Slot, lv_has ls 4 [(0, .ref (oA 11)), (1, .int u_13.1)] → W p l e (headSpec (g_ws yX8_look cX8_look 4 none) { frames := 9, cells := 0, slots := 0, locals := 220 }).room s m ([.ref (oA 11)] : List Value).toArray below meth c H locs 0 0 (MQ below (va_Qv (fun (_ : Unit) => True) (g_Bo (dC, dI) A (fun (_ : Unit) => (b_e cB cC cI cJ cZ oA rA res.2 ++ b_k cB cC cI cJ cZ oA rA res.2 ++ b_p cB cC cI cJ cZ oA rA res.2 ++ b_o cB cC cI cJ cZ oA rA res.2 ++ b_s cB cC cI cJ cZ oA rA res.2 ++ b_c cB cC cI cJ cZ oA rA res.2 ++ b_t cB cC cI cJ cZ oA rA res.2 ++ b_d cB cC cI cJ cZ oA rA res.2))) A) ([.ref (oA 11)] : List Value).toArray s 0 0 A) (F0 m 90 ls []) := by
      intro  σ_28 hF0 H locs hP hS ls hl
      subst ej_29
      have hF_31 := hF0
      clear hF0
      refine lv_aload_n hx hb dX8_look_90 rfl (lv_at hl 0 rfl) ?_
      refine va_get (D := (dC, dI)) (ci := 8) (v := .ref (oA 9)) (C := RX8) (T := TX8) (N := 16) hx hb hts ii_X8 hown hK hP 0 rfl rfl 0 (by decide) (hts (.fieldLink RX8 22 "StoryHouse$Teller" "play" "LStoryHouse$Play;") wq_286) (fun _ h9 => h9) rfl dX8_look_91 ?_
      refine va_get (D := (dC, dI)) (ci := 6) (v := .ref (rA 9 1)) (C := RX6) (T := TX6) (N := 12) hx hb hts ii_X6 hown hK hP 9 rfl rfl 1 (by decide) (hts (.fieldLink RX8 202 "StoryHouse$Play" "firsts" "[I") wq_223) (fun _ h9 => h9) rfl dX8_look_94 ?_
      refine lv_iload_n hx hb dX8_look_97 rfl (lv_at hl 1 rfl) ?_
      have hPc := hP.sub (ws' := [(rA 9 1, .inl (cI, 121, .inl ((σ_28 9).2.1 1)))]) [11] rfl
      have hDc := (hDD σ_28).sub (ws' := [(rA 9 1, .inl (cI, 121, .inl ((σ_28 9).2.1 1)))]) [11] (by decide +kernel) rfl
      have hFc := va_free (wc := [(rA 9 1, .inl (cI, 121, .inl ((σ_28 9).2.1 1)))]) (hDD σ_28) hS hA [11] rfl
      refine g_ofi (wc := [(rA 9 1, .inl (cI, 121, .inl ((σ_28 9).2.1 1)))]) (wr := (((b_e cB cC cI cJ cZ oA rA σ_28 ++ b_k cB cC cI cJ cZ oA rA σ_28 ++ b_p cB cC cI cJ cZ oA rA σ_28 ++ b_o cB cC cI cJ cZ oA rA σ_28 ++ b_s cB cC cI cJ cZ oA rA σ_28 ++ b_c cB cC cI cJ cZ oA rA σ_28 ++ b_t cB cC cI cJ cZ oA rA σ_28 ++ b_d cB cC cI cJ cZ oA rA σ_28)).eraseIdx 11)) hP (hDD σ_28) hS hFc [11] [0, 1, 2, 3, 4, 5, 6, 7, 8, 9, 10, 12, 13, 14, 15, 16, 17, 18, 19, 20, 21, 22, 23, 24, 25, 26, 27, 28, 29, 30, 31, 32, 33, 34, 35, 36, 37, 38, 39, 40, 41, 42, 43, 44, 45, 46, 47, 48, 49] rfl rfl (by decide +kernel) (by decide +kernel) (va_runSN (As := [.ref (rA 9 1), .int u_13.1]) (rest := []) ⟨hx, hb, hml, hown, hts⟩ (c_X11_at l dC dI cB cC cI cJ cZ cP H.size (rA 9 1) u_13.1 121 ((σ_28 9).2.1 1) (by decide)) ⟨va_cnB 2 hts (g_gA wq_407) rfl rfl rfl (hN.at 31 rfl) (hts (.initialized RX11) wq_1) (by decide +kernel) ⟨Nat.le_of_ble_eq_true rfl, Nat.le_of_ble_eq_true rfl⟩, (hts (.static yX11_at) wq_406), trivial⟩ (g_preS g_bl0 hK hPc hDc hS hE hFc g_to0) rfl rfl hl.1 rfl (lv_room (Nat.le_of_ble_eq_true rfl)) dX8_look_98 ⟨Nat.le_of_ble_eq_true rfl, Nat.le_of_ble_eq_true rfl⟩) (fun r9 u9 H locs hw9 hP' hD' hS => ?_)
      clear hPc hDc hFc hD'
      have hP : va_P (dC, dI) vwCl (b_e cB cC cI cJ cZ oA rA σ_28 ++ b_k cB cC cI cJ cZ oA rA σ_28 ++ b_p cB cC cI cJ cZ oA rA σ_28 ++ b_o cB cC cI cJ cZ oA rA σ_28 ++ b_s cB cC cI cJ cZ oA rA σ_28 ++ b_c cB cC cI cJ cZ oA rA σ_28 ++ b_t cB cC cI cJ cZ oA rA σ_28 ++ b_d cB cC cI cJ cZ oA rA σ_28) H := hP'.sub [0, 1, 2, 3, 4, 5, 6, 7, 8, 9, 10, 49, 11, 12, 13, 14, 15, 16, 17, 18, 19, 20, 21, 22, 23, 24, 25, 26, 27, 28, 29, 30, 31, 32, 33, 34, 35, 36, 37, 38, 39, 40, 41, 42, 43, 44, 45, 46, 47, 48] rfl
      clear hP'
      subst hw9
      obtain ⟨x_32, ex_32, hF_33⟩ := bnd_e hF_31
      clear hF_31
      refine m_top ex_32 ?_
      refine lv_istore_n (lv' := [(2, .int x_32), (0, .ref (oA 11)), (1, .int u_13.1)]) hx hb dX8_look_101 rfl hl (by decide) rfl (fun ls hl => ?_)
      refine lv_iconst (v := 0) hx hb dX8_look_102 (by decide +kernel) ?_
      refine lv_istore_n (lv' := [(3, .int 0), (2, .int x_32), (0, .ref (oA 11)), (1, .int u_13.1)]) hx hb dX8_look_103 rfl hl (by decide) rfl (fun ls hl => ?_)
      refine loopF_ind (P := fun (s_34 : Int32 × Int32 × HS) => ∀ (H : Heap) (locs : List Loc), va_P (dC, dI) vwCl (b_e cB cC cI cJ cZ oA rA s_34.2.2 ++ b_k cB cC cI cJ cZ oA rA s_34.2.2 ++ b_p cB cC cI cJ cZ oA rA s_34.2.2 ++ b_o cB cC cI cJ cZ oA rA s_34.2.2 ++ b_s cB cC cI cJ cZ oA rA s_34.2.2 ++ b_c cB cC cI cJ cZ oA rA s_34.2.2 ++ b_t cB cC cI cJ cZ oA rA s_34.2.2 ++ b_d cB cC cI cJ cZ oA rA s_34.2.2) H → va_S A s.heap H locs → ∀ ls : Array Slot, lv_has ls 4 [(0, .ref (oA 11)), (2, .int s_34.1), (3, .int s_34.2.1)] → W p l e (headSpec (g_ws yX8_look cX8_look 4 none) { frames := 9, cells := 0, slots := 0, locals := 220 }).room s m ([.ref (oA 11)] : List Value).toArray below meth c H locs 0 0 (MQ below (va_Qv (fun (_ : Unit) => True) (g_Bo (dC, dI) A (fun (_ : Unit) => (b_e cB cC cI cJ cZ oA rA res.2 ++ b_k cB cC cI cJ cZ oA rA res.2 ++ b_p cB cC cI cJ cZ oA rA res.2 ++ b_o cB cC cI cJ cZ oA rA res.2 ++ b_s cB cC cI cJ cZ oA rA res.2 ++ b_c cB cC cI cJ cZ oA rA res.2 ++ b_t cB cC cI cJ cZ oA rA res.2 ++ b_d cB cC cI cJ cZ oA rA res.2))) A) ([.ref (oA 11)] : List Value).toArray s 0 0 A) (F0 m 104 ls [])) ?_ _ _ hF_33 _ _ hP hS ls (lv_sub hl [2, 1, 0] rfl)
      intro again_35 s_34 ih_36 hF_37
      intro H locs hP hS ls hl
      refine lv_iload_n hx hb dX8_look_104 rfl (lv_at hl 2 rfl) ?_
      refine lv_bipush (v := 120) hx hb dX8_look_105 (by decide +kernel) ?_
      refine lv_icmp_ge (tgt := 182) hx hb dX8_look_107 (by decide) (fun c_38 => ?_) (fun c_38 => ?_)
      · have hF_39 := ipos c_38 hF_37
        clear hF_37
        have h9 := Option.some.inj hF_39
        subst h9
        exact W.vret hx hb hr (fun t ht hW => ⟨⟨(), rfl, trivial, m_end ht hP, hDD _⟩, hS.F ht⟩) hS.2.2 dX8_look_182
      · have hF_40 := ineg c_38 hF_37
        clear hF_37
        refine lv_iload_n hx hb dX8_look_110 rfl (lv_at hl 1 rfl) ?_
        refine lv_if_eq (tgt := 182) hx hb dX8_look_111 (by decide) (fun c_41 => ?_) (fun c_41 => ?_)
        · have hF_42 := ipos c_41 hF_40
          clear hF_40
          have h9 := Option.some.inj hF_42
          subst h9
          exact W.vret hx hb hr (fun t ht hW => ⟨⟨(), rfl, trivial, m_end ht hP, hDD _⟩, hS.F ht⟩) hS.2.2 dX8_look_182
        · have hF_43 := ineg c_41 hF_40
          clear hF_40
          refine lv_iload_n hx hb dX8_look_114 rfl (lv_at hl 1 rfl) ?_
          refine lv_iconst (v := 1) hx hb dX8_look_115 (by decide +kernel) ?_
          obtain ⟨j_45, ej_45, hF_46⟩ := bnd_e hF_43
          clear hF_43
          have Jj_45 : ∀  (σ_44 : HS), j_45  σ_44 = some res → ∀ (H : Heap) (locs : List Loc), va_P (dC, dI) vwCl (b_e cB cC cI cJ cZ oA rA σ_44 ++ b_k cB cC cI cJ cZ oA rA σ_44 ++ b_p cB cC cI cJ cZ oA rA σ_44 ++ b_o cB cC cI cJ cZ oA rA σ_44 ++ b_s cB cC cI cJ cZ oA rA σ_44 ++ b_c cB cC cI cJ cZ oA rA σ_44 ++ b_t cB cC cI cJ cZ oA rA σ_44 ++ b_d cB cC cI cJ cZ oA rA σ_44) H → va_S A s.heap H locs → ∀ ls : Array Slot, lv_has ls 4 [(0, .ref (oA 11)), (2, .int s_34.1), (3, .int s_34.2.1)] → W p l e (headSpec (g_ws yX8_look cX8_look 4 none) { frames := 9, cells := 0, slots := 0, locals := 220 }).room s m ([.ref (oA 11)] : List Value).toArray below meth c H locs 0 0 (MQ below (va_Qv (fun (_ : Unit) => True) (g_Bo (dC, dI) A (fun (_ : Unit) => (b_e cB cC cI cJ cZ oA rA res.2 ++ b_k cB cC cI cJ cZ oA rA res.2 ++ b_p cB cC cI cJ cZ oA rA res.2 ++ b_o cB cC cI cJ cZ oA rA res.2 ++ b_s cB cC cI cJ cZ oA rA res.2 ++ b_c cB cC cI cJ cZ oA rA res.2 ++ b_t cB cC cI cJ cZ oA rA res.2 ++ b_d cB cC cI cJ cZ oA rA res.2))) A) ([.ref (oA 11)] : List Value).toArray s 0 0 A) (F0 m 164 ls []) := by
            intro  σ_44 hF0 H locs hP hS ls hl
            subst ej_45
            have hF_47 := hF0
            clear hF0
            refine lv_aload_n hx hb dX8_look_164 rfl (lv_at hl 0 rfl) ?_
            refine va_get (D := (dC, dI)) (ci := 8) (v := .ref (oA 9)) (C := RX8) (T := TX8) (N := 16) hx hb hts ii_X8 hown hK hP 0 rfl rfl 0 (by decide) (hts (.fieldLink RX8 22 "StoryHouse$Teller" "play" "LStoryHouse$Play;") wq_286) (fun _ h9 => h9) rfl dX8_look_165 ?_
            refine va_get (D := (dC, dI)) (ci := 6) (v := .ref (rA 9 2)) (C := RX6) (T := TX6) (N := 12) hx hb hts ii_X6 hown hK hP 9 rfl rfl 2 (by decide) (hts (.fieldLink RX8 208 "StoryHouse$Play" "nexts" "[I") wq_227) (fun _ h9 => h9) rfl dX8_look_168 ?_
            refine lv_iload_n hx hb dX8_look_171 rfl (lv_at hl 1 rfl) ?_
            have hPc := hP.sub (ws' := [(rA 9 2, .inl (cI, 121, .inl ((σ_44 9).2.1 2)))]) [12] rfl
            have hDc := (hDD σ_44).sub (ws' := [(rA 9 2, .inl (cI, 121, .inl ((σ_44 9).2.1 2)))]) [12] (by decide +kernel) rfl
            have hFc := va_free (wc := [(rA 9 2, .inl (cI, 121, .inl ((σ_44 9).2.1 2)))]) (hDD σ_44) hS hA [12] rfl
            refine g_ofi (wc := [(rA 9 2, .inl (cI, 121, .inl ((σ_44 9).2.1 2)))]) (wr := (((b_e cB cC cI cJ cZ oA rA σ_44 ++ b_k cB cC cI cJ cZ oA rA σ_44 ++ b_p cB cC cI cJ cZ oA rA σ_44 ++ b_o cB cC cI cJ cZ oA rA σ_44 ++ b_s cB cC cI cJ cZ oA rA σ_44 ++ b_c cB cC cI cJ cZ oA rA σ_44 ++ b_t cB cC cI cJ cZ oA rA σ_44 ++ b_d cB cC cI cJ cZ oA rA σ_44)).eraseIdx 12)) hP (hDD σ_44) hS hFc [12] [0, 1, 2, 3, 4, 5, 6, 7, 8, 9, 10, 11, 13, 14, 15, 16, 17, 18, 19, 20, 21, 22, 23, 24, 25, 26, 27, 28, 29, 30, 31, 32, 33, 34, 35, 36, 37, 38, 39, 40, 41, 42, 43, 44, 45, 46, 47, 48, 49] rfl rfl (by decide +kernel) (by decide +kernel) (va_runSN (As := [.ref (rA 9 2), .int s_34.1]) (rest := []) ⟨hx, hb, hml, hown, hts⟩ (c_X11_at l dC dI cB cC cI cJ cZ cP H.size (rA 9 2) s_34.1 121 ((σ_44 9).2.1 2) (by decide)) ⟨va_cnB 2 hts (g_gA wq_407) rfl rfl rfl (hN.at 31 rfl) (hts (.initialized RX11) wq_1) (by decide +kernel) ⟨Nat.le_of_ble_eq_true rfl, Nat.le_of_ble_eq_true rfl⟩, (hts (.static yX11_at) wq_406), trivial⟩ (g_preS g_bl0 hK hPc hDc hS hE hFc g_to0) rfl rfl hl.1 rfl (lv_room (Nat.le_of_ble_eq_true rfl)) dX8_look_172 ⟨Nat.le_of_ble_eq_true rfl, Nat.le_of_ble_eq_true rfl⟩) (fun r9 u9 H locs hw9 hP' hD' hS => ?_)
            clear hPc hDc hFc hD'
            have hP : va_P (dC, dI) vwCl (b_e cB cC cI cJ cZ oA rA σ_44 ++ b_k cB cC cI cJ cZ oA rA σ_44 ++ b_p cB cC cI cJ cZ oA rA σ_44 ++ b_o cB cC cI cJ cZ oA rA σ_44 ++ b_s cB cC cI cJ cZ oA rA σ_44 ++ b_c cB cC cI cJ cZ oA rA σ_44 ++ b_t cB cC cI cJ cZ oA rA σ_44 ++ b_d cB cC cI cJ cZ oA rA σ_44) H := hP'.sub [0, 1, 2, 3, 4, 5, 6, 7, 8, 9, 10, 11, 49, 12, 13, 14, 15, 16, 17, 18, 19, 20, 21, 22, 23, 24, 25, 26, 27, 28, 29, 30, 31, 32, 33, 34, 35, 36, 37, 38, 39, 40, 41, 42, 43, 44, 45, 46, 47, 48] rfl
            clear hP'
            subst hw9
            obtain ⟨x_48, ex_48, hF_49⟩ := bnd_e hF_47
            clear hF_47
            refine m_top ex_48 ?_
            refine lv_istore_n (lv' := [(2, .int x_48), (0, .ref (oA 11)), (3, .int s_34.2.1)]) hx hb dX8_look_175 rfl hl (by decide) rfl (fun ls hl => ?_)
            obtain ⟨x_50, ex_50, hF_51⟩ := bnd_e hF_49
            clear hF_49
            refine lv_iinc (v := x_50) (lv' := [(3, .int x_50), (2, .int x_48), (0, .ref (oA 11))]) hx hb dX8_look_176 hl (k := 2) rfl (by rw [ex_50]; rfl) (by decide) rfl (fun ls hl => ?_)
            refine lv_goto (tgt := 104) hx hb dX8_look_179 (by decide) ?_
            exact ih_36 (x_48, x_50, σ_44) hF_51 _ _ hP hS ls (lv_sub hl [2, 1, 0] rfl)
          refine lv_icmp_eq (tgt := 164) hx hb dX8_look_116 (by decide) (fun c_52 => ?_) (fun c_52 => ?_)
          · have hF_53 := ipos c_52 hF_46
            clear hF_46
            exact Jj_45  s_34.2.2 hF_53 _ _ hP hS ls (lv_sub hl [0, 1, 2] rfl)
          · have hF_54 := ineg c_52 hF_46
            clear hF_46
            refine lv_aload_n hx hb dX8_look_119 rfl (lv_at hl 0 rfl) ?_
            refine va_get (D := (dC, dI)) (ci := 8) (v := .ref (oA 9)) (C := RX8) (T := TX8) (N := 16) hx hb hts ii_X8 hown hK hP 0 rfl rfl 0 (by decide) (hts (.fieldLink RX8 22 "StoryHouse$Teller" "play" "LStoryHouse$Play;") wq_286) (fun _ h9 => h9) rfl dX8_look_120 ?_
            refine lv_iload_n hx hb dX8_look_123 rfl (lv_at hl 1 rfl) ?_
            refine lv_iconst (v := 2) hx hb dX8_look_124 (by decide +kernel) ?_
            obtain ⟨u_55, hu_55, hF_56⟩ := Option.bind_eq_some_iff.mp hF_54
            clear hF_54
            have hPc := hP.sub (ws' := (b_p cB cC cI cJ cZ oA rA s_34.2.2)) [9, 10, 11, 12, 13, 14, 15, 16] rfl
            have hDc := (hDD s_34.2.2).sub (ws' := (b_p cB cC cI cJ cZ oA rA s_34.2.2)) [9, 10, 11, 12, 13, 14, 15, 16] (by decide +kernel) rfl
            have hFc := va_free (wc := (b_p cB cC cI cJ cZ oA rA s_34.2.2)) (hDD s_34.2.2) hS hA [9, 10, 11, 12, 13, 14, 15, 16] rfl
            refine g_ofi (wc := (b_p cB cC cI cJ cZ oA rA s_34.2.2)) (wr := (b_e cB cC cI cJ cZ oA rA s_34.2.2 ++ b_k cB cC cI cJ cZ oA rA s_34.2.2 ++ b_o cB cC cI cJ cZ oA rA s_34.2.2 ++ b_s cB cC cI cJ cZ oA rA s_34.2.2 ++ b_c cB cC cI cJ cZ oA rA s_34.2.2 ++ b_t cB cC cI cJ cZ oA rA s_34.2.2 ++ b_d cB cC cI cJ cZ oA rA s_34.2.2)) hP (hDD s_34.2.2) hS hFc [9, 10, 11, 12, 13, 14, 15, 16] [0, 1, 2, 3, 4, 5, 6, 7, 8, 17, 18, 19, 20, 21, 22, 23, 24, 25, 26, 27, 28, 29, 30, 31, 32, 33, 34, 35, 36, 37, 38, 39, 40, 41, 42, 43, 44, 45, 46, 47, 48, 49] rfl rfl (by decide +kernel) (by decide +kernel) (va_runV (As := [.int s_34.1, .int 2]) (rest := []) ⟨hx, hb, hml, hown, hts⟩ (k_X6_bears l dC dI cB cC cI cJ cZ cP oA rA H.size  s_34.1 2 s_34.2.2 _ hu_55) (cwV 2 hts (g_gV wq_1030 wq_987 wq_988 wq_10 wq_989) rfl rfl rfl (by decide +kernel) ⟨Nat.le_of_ble_eq_true rfl, Nat.le_of_ble_eq_true rfl⟩) (g_preV g_bl0 hK hPc hDc hS hE hFc g_to0 (q0 := 0) (ci := 6) rfl rfl) rfl rfl hl.1 rfl (lv_room (Nat.le_of_ble_eq_true rfl)) dX8_look_125 ⟨Nat.le_of_ble_eq_true rfl, Nat.le_of_ble_eq_true rfl⟩) (fun r9 u9 H locs hw9 hP' hD' hS => ?_)
            clear hPc hDc hFc
            subst hw9
            obtain ⟨σ_57, eσ_57, hF_58⟩ := bnd_e hF_56
            clear hF_56
            have hP : va_P (dC, dI) vwCl (b_e cB cC cI cJ cZ oA rA σ_57 ++ b_k cB cC cI cJ cZ oA rA σ_57 ++ b_p cB cC cI cJ cZ oA rA σ_57 ++ b_o cB cC cI cJ cZ oA rA σ_57 ++ b_s cB cC cI cJ cZ oA rA σ_57 ++ b_c cB cC cI cJ cZ oA rA σ_57 ++ b_t cB cC cI cJ cZ oA rA σ_57 ++ b_d cB cC cI cJ cZ oA rA σ_57) H := by rw [eσ_57]; exact hP'.sub [0, 1, 2, 3, 4, 5, 6, 7, 8, 42, 43, 44, 45, 46, 47, 48, 49, 9, 10, 11, 12, 13, 14, 15, 16, 17, 18, 19, 20, 21, 22, 23, 24, 25, 26, 27, 28, 29, 30, 31, 32, 33, 34, 35, 36, 37, 38, 39, 40, 41] rfl
            clear hP' hD'
            refine lv_if_ne (tgt := 164) hx hb dX8_look_128 (by decide) (fun c_59 => ?_) (fun c_59 => ?_)
            · have hF_77 := ineg c_59 hF_58
              clear hF_58
              exact Jj_45  σ_57 hF_77 _ _ hP hS ls (lv_sub hl [0, 1, 2] rfl)
            · have hF_60 := ipos c_59 hF_58
              clear hF_58
              refine lv_aload_n hx hb dX8_look_131 rfl (lv_at hl 0 rfl) ?_
              refine va_get (D := (dC, dI)) (ci := 8) (v := .ref (oA 8)) (C := RX8) (T := TX8) (N := 16) hx hb hts ii_X8 hown hK hP 0 rfl rfl 1 (by decide) (hts (.fieldLink RX8 26 "StoryHouse$Teller" "told" "LStoryHouse$Out;") wq_287) (fun _ h9 => h9) rfl dX8_look_132 ?_
              obtain ⟨q_61, vq_61, hRq_61, hSq_61⟩ := hE.2.2.2.2 _ (List.mem_of_getElem? (i := 29) rfl)
              refine g_ldcwS (own := RX8) (tx := "There is ") hx hb hown hRq_61 dX8_look_135 ?_
              obtain ⟨u_62, hu_62, hF_63⟩ := Option.bind_eq_some_iff.mp hF_60
              clear hF_60
              have hPc := hP.sub (ws' := (b_o cB cC cI cJ cZ oA rA σ_57)) [17, 18] rfl
              have hDc := (hDD σ_57).sub (ws' := (b_o cB cC cI cJ cZ oA rA σ_57)) [17, 18] (by decide +kernel) rfl
              have hFc := va_free (wc := (b_o cB cC cI cJ cZ oA rA σ_57)) (hDD σ_57) hS hA [17, 18] rfl
              refine g_ofv (wc := (b_o cB cC cI cJ cZ oA rA σ_57)) (wr := (b_e cB cC cI cJ cZ oA rA σ_57 ++ b_k cB cC cI cJ cZ oA rA σ_57 ++ b_p cB cC cI cJ cZ oA rA σ_57 ++ b_s cB cC cI cJ cZ oA rA σ_57 ++ b_c cB cC cI cJ cZ oA rA σ_57 ++ b_t cB cC cI cJ cZ oA rA σ_57 ++ b_d cB cC cI cJ cZ oA rA σ_57)) hP (hDD σ_57) hS hFc [17, 18] [0, 1, 2, 3, 4, 5, 6, 7, 8, 9, 10, 11, 12, 13, 14, 15, 16, 19, 20, 21, 22, 23, 24, 25, 26, 27, 28, 29, 30, 31, 32, 33, 34, 35, 36, 37, 38, 39, 40, 41, 42, 43, 44, 45, 46, 47, 48, 49] rfl rfl (by decide +kernel) (by decide +kernel) (va_runV (As := [.ref q_61]) (rest := []) ⟨hx, hb, hml, hown, hts⟩ (k_X5_text l dC dI cB cC cI cJ cZ cP oA rA H.size q_61 _ ([84, 104, 101, 114, 101, 32, 105, 115, 32] : List Int32) σ_57 _ hu_62) (cwV 1 hts (g_gV wq_1031 wq_1003 wq_1004 wq_9 wq_1005) rfl rfl rfl (by decide +kernel) ⟨Nat.le_of_ble_eq_true rfl, Nat.le_of_ble_eq_true rfl⟩) (g_preV g_blS hK hPc hDc hS hE hFc (g_toS hSq_61 hS hFc) (q0 := 0) (ci := 5) rfl rfl) rfl rfl hl.1 rfl (lv_room (Nat.le_of_ble_eq_true rfl)) dX8_look_138 ⟨Nat.le_of_ble_eq_true rfl, Nat.le_of_ble_eq_true rfl⟩) (fun u9 H locs hw9 hP' hD' hS => ?_)
              clear hPc hDc hFc
              obtain ⟨σ_64, eσ_64, hF_65⟩ := bnd_e hF_63
              clear hF_63
              have hP : va_P (dC, dI) vwCl (b_e cB cC cI cJ cZ oA rA σ_64 ++ b_k cB cC cI cJ cZ oA rA σ_64 ++ b_p cB cC cI cJ cZ oA rA σ_64 ++ b_o cB cC cI cJ cZ oA rA σ_64 ++ b_s cB cC cI cJ cZ oA rA σ_64 ++ b_c cB cC cI cJ cZ oA rA σ_64 ++ b_t cB cC cI cJ cZ oA rA σ_64 ++ b_d cB cC cI cJ cZ oA rA σ_64) H := by rw [eσ_64]; exact hP'.sub [0, 1, 2, 3, 4, 5, 6, 7, 8, 9, 10, 11, 12, 13, 14, 15, 16, 48, 49, 17, 18, 19, 20, 21, 22, 23, 24, 25, 26, 27, 28, 29, 30, 31, 32, 33, 34, 35, 36, 37, 38, 39, 40, 41, 42, 43, 44, 45, 46, 47] rfl
              clear hP' hD'
              refine lv_aload_n hx hb dX8_look_141 rfl (lv_at hl 0 rfl) ?_
              refine va_get (D := (dC, dI)) (ci := 8) (v := .ref (oA 10)) (C := RX8) (T := TX8) (N := 16) hx hb hts ii_X8 hown hK hP 0 rfl rfl 2 (by decide) (hts (.fieldLink RX8 30 "StoryHouse$Teller" "machine" "LStoryHouse$Machine;") wq_288) (fun _ h9 => h9) rfl dX8_look_142 ?_
              refine lv_iload_n hx hb dX8_look_145 rfl (lv_at hl 1 rfl) ?_
              obtain ⟨u_66, hu_66, hF_67⟩ := Option.bind_eq_some_iff.mp hF_65
              clear hF_65
              have hPc := hP.sub (ws' := (b_k cB cC cI cJ cZ oA rA σ_64 ++ b_p cB cC cI cJ cZ oA rA σ_64 ++ b_o cB cC cI cJ cZ oA rA σ_64 ++ b_s cB cC cI cJ cZ oA rA σ_64 ++ b_c cB cC cI cJ cZ oA rA σ_64 ++ b_t cB cC cI cJ cZ oA rA σ_64 ++ b_d cB cC cI cJ cZ oA rA σ_64)) [4, 5, 6, 7, 8, 9, 10, 11, 12, 13, 14, 15, 16, 17, 18, 19, 20, 21, 22, 23, 24, 25, 26, 27, 28, 29, 30, 31, 32, 33, 34, 35, 36, 37, 38, 39, 40, 41, 42, 43, 44, 45, 46, 47, 48, 49] rfl
              have hDc := (hDD σ_64).sub (ws' := (b_k cB cC cI cJ cZ oA rA σ_64 ++ b_p cB cC cI cJ cZ oA rA σ_64 ++ b_o cB cC cI cJ cZ oA rA σ_64 ++ b_s cB cC cI cJ cZ oA rA σ_64 ++ b_c cB cC cI cJ cZ oA rA σ_64 ++ b_t cB cC cI cJ cZ oA rA σ_64 ++ b_d cB cC cI cJ cZ oA rA σ_64)) [4, 5, 6, 7, 8, 9, 10, 11, 12, 13, 14, 15, 16, 17, 18, 19, 20, 21, 22, 23, 24, 25, 26, 27, 28, 29, 30, 31, 32, 33, 34, 35, 36, 37, 38, 39, 40, 41, 42, 43, 44, 45, 46, 47, 48, 49] (by decide +kernel) rfl
              have hFc := va_free (wc := (b_k cB cC cI cJ cZ oA rA σ_64 ++ b_p cB cC cI cJ cZ oA rA σ_64 ++ b_o cB cC cI cJ cZ oA rA σ_64 ++ b_s cB cC cI cJ cZ oA rA σ_64 ++ b_c cB cC cI cJ cZ oA rA σ_64 ++ b_t cB cC cI cJ cZ oA rA σ_64 ++ b_d cB cC cI cJ cZ oA rA σ_64)) (hDD σ_64) hS hA [4, 5, 6, 7, 8, 9, 10, 11, 12, 13, 14, 15, 16, 17, 18, 19, 20, 21, 22, 23, 24, 25, 26, 27, 28, 29, 30, 31, 32, 33, 34, 35, 36, 37, 38, 39, 40, 41, 42, 43, 44, 45, 46, 47, 48, 49] rfl
              refine g_ofv (wc := (b_k cB cC cI cJ cZ oA rA σ_64 ++ b_p cB cC cI cJ cZ oA rA σ_64 ++ b_o cB cC cI cJ cZ oA rA σ_64 ++ b_s cB cC cI cJ cZ oA rA σ_64 ++ b_c cB cC cI cJ cZ oA rA σ_64 ++ b_t cB cC cI cJ cZ oA rA σ_64 ++ b_d cB cC cI cJ cZ oA rA σ_64)) (wr := (b_e cB cC cI cJ cZ oA rA σ_64)) hP (hDD σ_64) hS hFc [4, 5, 6, 7, 8, 9, 10, 11, 12, 13, 14, 15, 16, 17, 18, 19, 20, 21, 22, 23, 24, 25, 26, 27, 28, 29, 30, 31, 32, 33, 34, 35, 36, 37, 38, 39, 40, 41, 42, 43, 44, 45, 46, 47, 48, 49] [0, 1, 2, 3] rfl rfl (by decide +kernel) (by decide +kernel) (va_runV (As := [.int s_34.1]) (rest := []) ⟨hx, hb, hml, hown, hts⟩ (k_X3_sayName l dC dI cB cC cI cJ cZ cP oA rA H.size  s_34.1 σ_64 _ hu_66) (cwV 1 hts (g_gV wq_1013 wq_1014 wq_1015 wq_11 wq_1016) rfl rfl rfl (by decide +kernel) ⟨Nat.le_of_ble_eq_true rfl, Nat.le_of_ble_eq_true rfl⟩) (g_preV g_bl0 hK hPc hDc hS hE hFc g_to0 (q0 := 0) (ci := 3) rfl rfl) rfl rfl hl.1 rfl (lv_room (Nat.le_of_ble_eq_true rfl)) dX8_look_146 ⟨Nat.le_of_ble_eq_true rfl, Nat.le_of_ble_eq_true rfl⟩) (fun u9 H locs hw9 hP' hD' hS => ?_)
              clear hPc hDc hFc
              obtain ⟨σ_68, eσ_68, hF_69⟩ := bnd_e hF_67
              clear hF_67
              have hP : va_P (dC, dI) vwCl (b_e cB cC cI cJ cZ oA rA σ_68 ++ b_k cB cC cI cJ cZ oA rA σ_68 ++ b_p cB cC cI cJ cZ oA rA σ_68 ++ b_o cB cC cI cJ cZ oA rA σ_68 ++ b_s cB cC cI cJ cZ oA rA σ_68 ++ b_c cB cC cI cJ cZ oA rA σ_68 ++ b_t cB cC cI cJ cZ oA rA σ_68 ++ b_d cB cC cI cJ cZ oA rA σ_68) H := by rw [eσ_68]; exact hP'.sub [0, 1, 2, 3, 4, 5, 6, 7, 8, 9, 10, 11, 12, 13, 14, 15, 16, 17, 18, 19, 20, 21, 22, 23, 24, 25, 26, 27, 28, 29, 30, 31, 32, 33, 34, 35, 36, 37, 38, 39, 40, 41, 42, 43, 44, 45, 46, 47, 48, 49] rfl
              clear hP' hD'
              refine lv_aload_n hx hb dX8_look_149 rfl (lv_at hl 0 rfl) ?_
              refine va_get (D := (dC, dI)) (ci := 8) (v := .ref (oA 8)) (C := RX8) (T := TX8) (N := 16) hx hb hts ii_X8 hown hK hP 0 rfl rfl 1 (by decide) (hts (.fieldLink RX8 26 "StoryHouse$Teller" "told" "LStoryHouse$Out;") wq_287) (fun _ h9 => h9) rfl dX8_look_150 ?_
              obtain ⟨q_70, vq_70, hRq_70, hSq_70⟩ := hE.2.2.2.2 _ (List.mem_of_getElem? (i := 30) rfl)
              refine g_ldcwS (own := RX8) (tx := " here.") hx hb hown hRq_70 dX8_look_153 ?_
              obtain ⟨u_71, hu_71, hF_72⟩ := Option.bind_eq_some_iff.mp hF_69
              clear hF_69
              have hPc := hP.sub (ws' := (b_o cB cC cI cJ cZ oA rA σ_68)) [17, 18] rfl
              have hDc := (hDD σ_68).sub (ws' := (b_o cB cC cI cJ cZ oA rA σ_68)) [17, 18] (by decide +kernel) rfl
              have hFc := va_free (wc := (b_o cB cC cI cJ cZ oA rA σ_68)) (hDD σ_68) hS hA [17, 18] rfl
              refine g_ofv (wc := (b_o cB cC cI cJ cZ oA rA σ_68)) (wr := (b_e cB cC cI cJ cZ oA rA σ_68 ++ b_k cB cC cI cJ cZ oA rA σ_68 ++ b_p cB cC cI cJ cZ oA rA σ_68 ++ b_s cB cC cI cJ cZ oA rA σ_68 ++ b_c cB cC cI cJ cZ oA rA σ_68 ++ b_t cB cC cI cJ cZ oA rA σ_68 ++ b_d cB cC cI cJ cZ oA rA σ_68)) hP (hDD σ_68) hS hFc [17, 18] [0, 1, 2, 3, 4, 5, 6, 7, 8, 9, 10, 11, 12, 13, 14, 15, 16, 19, 20, 21, 22, 23, 24, 25, 26, 27, 28, 29, 30, 31, 32, 33, 34, 35, 36, 37, 38, 39, 40, 41, 42, 43, 44, 45, 46, 47, 48, 49] rfl rfl (by decide +kernel) (by decide +kernel) (va_runV (As := [.ref q_70]) (rest := []) ⟨hx, hb, hml, hown, hts⟩ (k_X5_line l dC dI cB cC cI cJ cZ cP oA rA H.size q_70 _ ([32, 104, 101, 114, 101, 46] : List Int32) σ_68 _ hu_71) (cwV 1 hts (g_gV wq_998 wq_999 wq_1000 wq_9 wq_1001) rfl rfl rfl (by decide +kernel) ⟨Nat.le_of_ble_eq_true rfl, Nat.le_of_ble_eq_true rfl⟩) (g_preV g_blS hK hPc hDc hS hE hFc (g_toS hSq_70 hS hFc) (q0 := 0) (ci := 5) rfl rfl) rfl rfl hl.1 rfl (lv_room (Nat.le_of_ble_eq_true rfl)) dX8_look_156 ⟨Nat.le_of_ble_eq_true rfl, Nat.le_of_ble_eq_true rfl⟩) (fun u9 H locs hw9 hP' hD' hS => ?_)
              clear hPc hDc hFc
              obtain ⟨σ_73, eσ_73, hF_74⟩ := bnd_e hF_72
              clear hF_72
              have hP : va_P (dC, dI) vwCl (b_e cB cC cI cJ cZ oA rA σ_73 ++ b_k cB cC cI cJ cZ oA rA σ_73 ++ b_p cB cC cI cJ cZ oA rA σ_73 ++ b_o cB cC cI cJ cZ oA rA σ_73 ++ b_s cB cC cI cJ cZ oA rA σ_73 ++ b_c cB cC cI cJ cZ oA rA σ_73 ++ b_t cB cC cI cJ cZ oA rA σ_73 ++ b_d cB cC cI cJ cZ oA rA σ_73) H := by rw [eσ_73]; exact hP'.sub [0, 1, 2, 3, 4, 5, 6, 7, 8, 9, 10, 11, 12, 13, 14, 15, 16, 48, 49, 17, 18, 19, 20, 21, 22, 23, 24, 25, 26, 27, 28, 29, 30, 31, 32, 33, 34, 35, 36, 37, 38, 39, 40, 41, 42, 43, 44, 45, 46, 47] rfl
              clear hP' hD'
              refine lv_aload_n hx hb dX8_look_159 rfl (lv_at hl 0 rfl) ?_
              refine lv_iload_n hx hb dX8_look_160 rfl (lv_at hl 1 rfl) ?_
              obtain ⟨u_75, hu_75, hF_76⟩ := Option.bind_eq_some_iff.mp hF_74
              clear hF_74
              have hPc := hP.sub (ws' := (b_e cB cC cI cJ cZ oA rA σ_73 ++ b_k cB cC cI cJ cZ oA rA σ_73 ++ b_p cB cC cI cJ cZ oA rA σ_73 ++ b_o cB cC cI cJ cZ oA rA σ_73 ++ b_s cB cC cI cJ cZ oA rA σ_73 ++ b_c cB cC cI cJ cZ oA rA σ_73 ++ b_t cB cC cI cJ cZ oA rA σ_73 ++ b_d cB cC cI cJ cZ oA rA σ_73)) [0, 1, 2, 3, 4, 5, 6, 7, 8, 9, 10, 11, 12, 13, 14, 15, 16, 17, 18, 19, 20, 21, 22, 23, 24, 25, 26, 27, 28, 29, 30, 31, 32, 33, 34, 35, 36, 37, 38, 39, 40, 41, 42, 43, 44, 45, 46, 47, 48, 49] rfl
              have hDc := (hDD σ_73).sub (ws' := (b_e cB cC cI cJ cZ oA rA σ_73 ++ b_k cB cC cI cJ cZ oA rA σ_73 ++ b_p cB cC cI cJ cZ oA rA σ_73 ++ b_o cB cC cI cJ cZ oA rA σ_73 ++ b_s cB cC cI cJ cZ oA rA σ_73 ++ b_c cB cC cI cJ cZ oA rA σ_73 ++ b_t cB cC cI cJ cZ oA rA σ_73 ++ b_d cB cC cI cJ cZ oA rA σ_73)) [0, 1, 2, 3, 4, 5, 6, 7, 8, 9, 10, 11, 12, 13, 14, 15, 16, 17, 18, 19, 20, 21, 22, 23, 24, 25, 26, 27, 28, 29, 30, 31, 32, 33, 34, 35, 36, 37, 38, 39, 40, 41, 42, 43, 44, 45, 46, 47, 48, 49] (by decide +kernel) rfl
              have hFc := va_free (wc := (b_e cB cC cI cJ cZ oA rA σ_73 ++ b_k cB cC cI cJ cZ oA rA σ_73 ++ b_p cB cC cI cJ cZ oA rA σ_73 ++ b_o cB cC cI cJ cZ oA rA σ_73 ++ b_s cB cC cI cJ cZ oA rA σ_73 ++ b_c cB cC cI cJ cZ oA rA σ_73 ++ b_t cB cC cI cJ cZ oA rA σ_73 ++ b_d cB cC cI cJ cZ oA rA σ_73)) (hDD σ_73) hS hA [0, 1, 2, 3, 4, 5, 6, 7, 8, 9, 10, 11, 12, 13, 14, 15, 16, 17, 18, 19, 20, 21, 22, 23, 24, 25, 26, 27, 28, 29, 30, 31, 32, 33, 34, 35, 36, 37, 38, 39, 40, 41, 42, 43, 44, 45, 46, 47, 48, 49] rfl
              refine g_ofv (wc := (b_e cB cC cI cJ cZ oA rA σ_73 ++ b_k cB cC cI cJ cZ oA rA σ_73 ++ b_p cB cC cI cJ cZ oA rA σ_73 ++ b_o cB cC cI cJ cZ oA rA σ_73 ++ b_s cB cC cI cJ cZ oA rA σ_73 ++ b_c cB cC cI cJ cZ oA rA σ_73 ++ b_t cB cC cI cJ cZ oA rA σ_73 ++ b_d cB cC cI cJ cZ oA rA σ_73)) (wr := ([] : va_W)) hP (hDD σ_73) hS hFc [0, 1, 2, 3, 4, 5, 6, 7, 8, 9, 10, 11, 12, 13, 14, 15, 16, 17, 18, 19, 20, 21, 22, 23, 24, 25, 26, 27, 28, 29, 30, 31, 32, 33, 34, 35, 36, 37, 38, 39, 40, 41, 42, 43, 44, 45, 46, 47, 48, 49] [] rfl rfl (by decide +kernel) (by decide +kernel) (va_runV (As := [.int s_34.1]) (rest := []) ⟨hx, hb, hml, hown, hts⟩ (k_X8_tellInside l dC dI cB cC cI cJ cZ cP oA rA H.size  s_34.1 σ_73 _ hu_75) (cwV 1 hts (g_gV wq_1032 wq_1033 wq_2069 wq_12 wq_1034) rfl rfl rfl (by decide +kernel) ⟨Nat.le_of_ble_eq_true rfl, Nat.le_of_ble_eq_true rfl⟩) (g_preV g_bl0 hK hPc hDc hS hE hFc g_to0 (q0 := 0) (ci := 8) rfl rfl) rfl rfl hl.1 rfl (lv_room (Nat.le_of_ble_eq_true rfl)) dX8_look_161 ⟨Nat.le_of_ble_eq_true rfl, Nat.le_of_ble_eq_true rfl⟩) (fun u9 H locs hw9 hP' hD' hS => ?_)
              clear hPc hDc hFc
              have hP : va_P (dC, dI) vwCl (b_e cB cC cI cJ cZ oA rA u_75.2 ++ b_k cB cC cI cJ cZ oA rA u_75.2 ++ b_p cB cC cI cJ cZ oA rA u_75.2 ++ b_o cB cC cI cJ cZ oA rA u_75.2 ++ b_s cB cC cI cJ cZ oA rA u_75.2 ++ b_c cB cC cI cJ cZ oA rA u_75.2 ++ b_t cB cC cI cJ cZ oA rA u_75.2 ++ b_d cB cC cI cJ cZ oA rA u_75.2) H := hP'
              clear hP' hD'
              exact Jj_45  u_75.2 hF_76 _ _ hP hS ls (lv_sub hl [0, 1, 2] rfl)
    refine lv_icmp_eq (tgt := 90) hx hb dX8_look_59 (by decide) (fun c_78 => ?_) (fun c_78 => ?_)
    · have hF_79 := ipos c_78 hF_30
      clear hF_30
      exact Jj_29  σ_24 hF_79 _ _ hP hS ls (lv_sub hl [1, 0] rfl)
    · have hF_80 := ineg c_78 hF_30
      clear hF_30
      refine lv_aload_n hx hb dX8_look_62 rfl (lv_at hl 1 rfl) ?_
      refine va_get (D := (dC, dI)) (ci := 8) (v := .ref (oA 10)) (C := RX8) (T := TX8) (N := 16) hx hb hts ii_X8 hown hK hP 0 rfl rfl 2 (by decide) (hts (.fieldLink RX8 30 "StoryHouse$Teller" "machine" "LStoryHouse$Machine;") wq_288) (fun _ h9 => h9) rfl dX8_look_63 ?_
      refine lv_aload_n hx hb dX8_look_66 rfl (lv_at hl 1 rfl) ?_
      refine va_get (D := (dC, dI)) (ci := 8) (v := .ref (oA 4)) (C := RX8) (T := TX8) (N := 16) hx hb hts ii_X8 hown hK hP 0 rfl rfl 3 (by decide) (hts (.fieldLink RX8 85 "StoryHouse$Teller" "story" "LStoryHouse$Story;") wq_290) (fun _ h9 => h9) rfl dX8_look_67 ?_
      refine va_get (D := (dC, dI)) (ci := 7) (v := .ref (rA 4 3)) (C := RX7) (T := TX7) (N := 19) hx hb hts ii_X7 hown hK hP 19 rfl rfl 3 (by decide) (hts (.fieldLink RX8 318 "StoryHouse$Story" "described" "[I") wq_161) (fun _ h9 => h9) rfl dX8_look_70 ?_
      refine lv_iload_n hx hb dX8_look_73 rfl (lv_at hl 0 rfl) ?_
      have hPc := hP.sub (ws' := [(rA 4 3, .inl (cI, 121, .inl ((σ_24 4).2.1 3)))]) [23] rfl
      have hDc := (hDD σ_24).sub (ws' := [(rA 4 3, .inl (cI, 121, .inl ((σ_24 4).2.1 3)))]) [23] (by decide +kernel) rfl
      have hFc := va_free (wc := [(rA 4 3, .inl (cI, 121, .inl ((σ_24 4).2.1 3)))]) (hDD σ_24) hS hA [23] rfl
      refine g_ofi (wc := [(rA 4 3, .inl (cI, 121, .inl ((σ_24 4).2.1 3)))]) (wr := (((b_e cB cC cI cJ cZ oA rA σ_24 ++ b_k cB cC cI cJ cZ oA rA σ_24 ++ b_p cB cC cI cJ cZ oA rA σ_24 ++ b_o cB cC cI cJ cZ oA rA σ_24 ++ b_s cB cC cI cJ cZ oA rA σ_24 ++ b_c cB cC cI cJ cZ oA rA σ_24 ++ b_t cB cC cI cJ cZ oA rA σ_24 ++ b_d cB cC cI cJ cZ oA rA σ_24)).eraseIdx 23)) hP (hDD σ_24) hS hFc [23] [0, 1, 2, 3, 4, 5, 6, 7, 8, 9, 10, 11, 12, 13, 14, 15, 16, 17, 18, 19, 20, 21, 22, 24, 25, 26, 27, 28, 29, 30, 31, 32, 33, 34, 35, 36, 37, 38, 39, 40, 41, 42, 43, 44, 45, 46, 47, 48, 49] rfl rfl (by decide +kernel) (by decide +kernel) (va_runSN (As := [.ref (rA 4 3), .int u_13.1]) (rest := [.ref (oA 10)]) ⟨hx, hb, hml, hown, hts⟩ (c_X11_at l dC dI cB cC cI cJ cZ cP H.size (rA 4 3) u_13.1 121 ((σ_24 4).2.1 3) (by decide)) ⟨va_cnB 2 hts (g_gA wq_407) rfl rfl rfl (hN.at 31 rfl) (hts (.initialized RX11) wq_1) (by decide +kernel) ⟨Nat.le_of_ble_eq_true rfl, Nat.le_of_ble_eq_true rfl⟩, (hts (.static yX11_at) wq_406), trivial⟩ (g_preS g_bl0 hK hPc hDc hS hE hFc g_to0) rfl rfl hl.1 rfl (lv_room (Nat.le_of_ble_eq_true rfl)) dX8_look_74 ⟨Nat.le_of_ble_eq_true rfl, Nat.le_of_ble_eq_true rfl⟩) (fun r9 u9 H locs hw9 hP' hD' hS => ?_)
      clear hPc hDc hFc hD'
      have hP : va_P (dC, dI) vwCl (b_e cB cC cI cJ cZ oA rA σ_24 ++ b_k cB cC cI cJ cZ oA rA σ_24 ++ b_p cB cC cI cJ cZ oA rA σ_24 ++ b_o cB cC cI cJ cZ oA rA σ_24 ++ b_s cB cC cI cJ cZ oA rA σ_24 ++ b_c cB cC cI cJ cZ oA rA σ_24 ++ b_t cB cC cI cJ cZ oA rA σ_24 ++ b_d cB cC cI cJ cZ oA rA σ_24) H := hP'.sub [0, 1, 2, 3, 4, 5, 6, 7, 8, 9, 10, 11, 12, 13, 14, 15, 16, 17, 18, 19, 20, 21, 22, 49, 23, 24, 25, 26, 27, 28, 29, 30, 31, 32, 33, 34, 35, 36, 37, 38, 39, 40, 41, 42, 43, 44, 45, 46, 47, 48] rfl
      clear hP'
      subst hw9
      obtain ⟨x_81, ex_81, hF_82⟩ := bnd_e hF_80
      clear hF_80
      refine m_top ex_81 ?_
      obtain ⟨u_83, hu_83, hF_84⟩ := Option.bind_eq_some_iff.mp hF_82
      clear hF_82
      have hPc := hP.sub (ws' := (b_k cB cC cI cJ cZ oA rA σ_24 ++ b_p cB cC cI cJ cZ oA rA σ_24 ++ b_o cB cC cI cJ cZ oA rA σ_24 ++ b_s cB cC cI cJ cZ oA rA σ_24 ++ b_c cB cC cI cJ cZ oA rA σ_24 ++ b_t cB cC cI cJ cZ oA rA σ_24 ++ b_d cB cC cI cJ cZ oA rA σ_24)) [4, 5, 6, 7, 8, 9, 10, 11, 12, 13, 14, 15, 16, 17, 18, 19, 20, 21, 22, 23, 24, 25, 26, 27, 28, 29, 30, 31, 32, 33, 34, 35, 36, 37, 38, 39, 40, 41, 42, 43, 44, 45, 46, 47, 48, 49] rfl
      have hDc := (hDD σ_24).sub (ws' := (b_k cB cC cI cJ cZ oA rA σ_24 ++ b_p cB cC cI cJ cZ oA rA σ_24 ++ b_o cB cC cI cJ cZ oA rA σ_24 ++ b_s cB cC cI cJ cZ oA rA σ_24 ++ b_c cB cC cI cJ cZ oA rA σ_24 ++ b_t cB cC cI cJ cZ oA rA σ_24 ++ b_d cB cC cI cJ cZ oA rA σ_24)) [4, 5, 6, 7, 8, 9, 10, 11, 12, 13, 14, 15, 16, 17, 18, 19, 20, 21, 22, 23, 24, 25, 26, 27, 28, 29, 30, 31, 32, 33, 34, 35, 36, 37, 38, 39, 40, 41, 42, 43, 44, 45, 46, 47, 48, 49] (by decide +kernel) rfl
      have hFc := va_free (wc := (b_k cB cC cI cJ cZ oA rA σ_24 ++ b_p cB cC cI cJ cZ oA rA σ_24 ++ b_o cB cC cI cJ cZ oA rA σ_24 ++ b_s cB cC cI cJ cZ oA rA σ_24 ++ b_c cB cC cI cJ cZ oA rA σ_24 ++ b_t cB cC cI cJ cZ oA rA σ_24 ++ b_d cB cC cI cJ cZ oA rA σ_24)) (hDD σ_24) hS hA [4, 5, 6, 7, 8, 9, 10, 11, 12, 13, 14, 15, 16, 17, 18, 19, 20, 21, 22, 23, 24, 25, 26, 27, 28, 29, 30, 31, 32, 33, 34, 35, 36, 37, 38, 39, 40, 41, 42, 43, 44, 45, 46, 47, 48, 49] rfl
      refine g_ofv (wc := (b_k cB cC cI cJ cZ oA rA σ_24 ++ b_p cB cC cI cJ cZ oA rA σ_24 ++ b_o cB cC cI cJ cZ oA rA σ_24 ++ b_s cB cC cI cJ cZ oA rA σ_24 ++ b_c cB cC cI cJ cZ oA rA σ_24 ++ b_t cB cC cI cJ cZ oA rA σ_24 ++ b_d cB cC cI cJ cZ oA rA σ_24)) (wr := (b_e cB cC cI cJ cZ oA rA σ_24)) hP (hDD σ_24) hS hFc [4, 5, 6, 7, 8, 9, 10, 11, 12, 13, 14, 15, 16, 17, 18, 19, 20, 21, 22, 23, 24, 25, 26, 27, 28, 29, 30, 31, 32, 33, 34, 35, 36, 37, 38, 39, 40, 41, 42, 43, 44, 45, 46, 47, 48, 49] [0, 1, 2, 3] rfl rfl (by decide +kernel) (by decide +kernel) (va_runV (As := [.int x_81]) (rest := []) ⟨hx, hb, hml, hown, hts⟩ (k_X3_sayText l dC dI cB cC cI cJ cZ cP oA rA H.size  x_81 σ_24 _ hu_83) (cwV 1 hts (g_gV wq_1029 wq_1019 wq_1020 wq_11 wq_1021) rfl rfl rfl (by decide +kernel) ⟨Nat.le_of_ble_eq_true rfl, Nat.le_of_ble_eq_true rfl⟩) (g_preV g_bl0 hK hPc hDc hS hE hFc g_to0 (q0 := 0) (ci := 3) rfl rfl) rfl rfl hl.1 rfl (lv_room (Nat.le_of_ble_eq_true rfl)) dX8_look_77 ⟨Nat.le_of_ble_eq_true rfl, Nat.le_of_ble_eq_true rfl⟩) (fun u9 H locs hw9 hP' hD' hS => ?_)
      clear hPc hDc hFc
      obtain ⟨σ_85, eσ_85, hF_86⟩ := bnd_e hF_84
      clear hF_84
      have hP : va_P (dC, dI) vwCl (b_e cB cC cI cJ cZ oA rA σ_85 ++ b_k cB cC cI cJ cZ oA rA σ_85 ++ b_p cB cC cI cJ cZ oA rA σ_85 ++ b_o cB cC cI cJ cZ oA rA σ_85 ++ b_s cB cC cI cJ cZ oA rA σ_85 ++ b_c cB cC cI cJ cZ oA rA σ_85 ++ b_t cB cC cI cJ cZ oA rA σ_85 ++ b_d cB cC cI cJ cZ oA rA σ_85) H := by rw [eσ_85]; exact hP'.sub [0, 1, 2, 3, 4, 5, 6, 7, 8, 9, 10, 11, 12, 13, 14, 15, 16, 17, 18, 19, 20, 21, 22, 23, 24, 25, 26, 27, 28, 29, 30, 31, 32, 33, 34, 35, 36, 37, 38, 39, 40, 41, 42, 43, 44, 45, 46, 47, 48, 49] rfl
      clear hP' hD'
      refine lv_aload_n hx hb dX8_look_80 rfl (lv_at hl 1 rfl) ?_
      refine va_get (D := (dC, dI)) (ci := 8) (v := .ref (oA 8)) (C := RX8) (T := TX8) (N := 16) hx hb hts ii_X8 hown hK hP 0 rfl rfl 1 (by decide) (hts (.fieldLink RX8 26 "StoryHouse$Teller" "told" "LStoryHouse$Out;") wq_287) (fun _ h9 => h9) rfl dX8_look_81 ?_
      obtain ⟨q_87, vq_87, hRq_87, hSq_87⟩ := hE.2.2.2.2 _ (List.mem_of_getElem? (i := 28) rfl)
      refine g_ldcwS (own := RX8) (tx := "") hx hb hown hRq_87 dX8_look_84 ?_
      obtain ⟨u_88, hu_88, hF_89⟩ := Option.bind_eq_some_iff.mp hF_86
      clear hF_86
      have hPc := hP.sub (ws' := (b_o cB cC cI cJ cZ oA rA σ_85)) [17, 18] rfl
      have hDc := (hDD σ_85).sub (ws' := (b_o cB cC cI cJ cZ oA rA σ_85)) [17, 18] (by decide +kernel) rfl
      have hFc := va_free (wc := (b_o cB cC cI cJ cZ oA rA σ_85)) (hDD σ_85) hS hA [17, 18] rfl
      refine g_ofv (wc := (b_o cB cC cI cJ cZ oA rA σ_85)) (wr := (b_e cB cC cI cJ cZ oA rA σ_85 ++ b_k cB cC cI cJ cZ oA rA σ_85 ++ b_p cB cC cI cJ cZ oA rA σ_85 ++ b_s cB cC cI cJ cZ oA rA σ_85 ++ b_c cB cC cI cJ cZ oA rA σ_85 ++ b_t cB cC cI cJ cZ oA rA σ_85 ++ b_d cB cC cI cJ cZ oA rA σ_85)) hP (hDD σ_85) hS hFc [17, 18] [0, 1, 2, 3, 4, 5, 6, 7, 8, 9, 10, 11, 12, 13, 14, 15, 16, 19, 20, 21, 22, 23, 24, 25, 26, 27, 28, 29, 30, 31, 32, 33, 34, 35, 36, 37, 38, 39, 40, 41, 42, 43, 44, 45, 46, 47, 48, 49] rfl rfl (by decide +kernel) (by decide +kernel) (va_runV (As := [.ref q_87]) (rest := []) ⟨hx, hb, hml, hown, hts⟩ (k_X5_line l dC dI cB cC cI cJ cZ cP oA rA H.size q_87 _ ([] : List Int32) σ_85 _ hu_88) (cwV 1 hts (g_gV wq_998 wq_999 wq_1000 wq_9 wq_1001) rfl rfl rfl (by decide +kernel) ⟨Nat.le_of_ble_eq_true rfl, Nat.le_of_ble_eq_true rfl⟩) (g_preV g_blS hK hPc hDc hS hE hFc (g_toS hSq_87 hS hFc) (q0 := 0) (ci := 5) rfl rfl) rfl rfl hl.1 rfl (lv_room (Nat.le_of_ble_eq_true rfl)) dX8_look_87 ⟨Nat.le_of_ble_eq_true rfl, Nat.le_of_ble_eq_true rfl⟩) (fun u9 H locs hw9 hP' hD' hS => ?_)
      clear hPc hDc hFc
      obtain ⟨σ_90, eσ_90, hF_91⟩ := bnd_e hF_89
      clear hF_89
      have hP : va_P (dC, dI) vwCl (b_e cB cC cI cJ cZ oA rA σ_90 ++ b_k cB cC cI cJ cZ oA rA σ_90 ++ b_p cB cC cI cJ cZ oA rA σ_90 ++ b_o cB cC cI cJ cZ oA rA σ_90 ++ b_s cB cC cI cJ cZ oA rA σ_90 ++ b_c cB cC cI cJ cZ oA rA σ_90 ++ b_t cB cC cI cJ cZ oA rA σ_90 ++ b_d cB cC cI cJ cZ oA rA σ_90) H := by rw [eσ_90]; exact hP'.sub [0, 1, 2, 3, 4, 5, 6, 7, 8, 9, 10, 11, 12, 13, 14, 15, 16, 48, 49, 17, 18, 19, 20, 21, 22, 23, 24, 25, 26, 27, 28, 29, 30, 31, 32, 33, 34, 35, 36, 37, 38, 39, 40, 41, 42, 43, 44, 45, 46, 47] rfl
      clear hP' hD'
      exact Jj_29  σ_90 hF_91 _ _ hP hS ls (lv_sub hl [1, 0] rfl)
  · have hF_6 := ipos c_5 hF_4
    clear hF_4
    refine lv_aload_n hx hb dX8_look_10 rfl (lv_at hl 0 rfl) ?_
    refine va_get (D := (dC, dI)) (ci := 8) (v := .ref (oA 8)) (C := RX8) (T := TX8) (N := 16) hx hb hts ii_X8 hown hK hP 0 rfl rfl 1 (by decide) (hts (.fieldLink RX8 26 "StoryHouse$Teller" "told" "LStoryHouse$Out;") wq_287) (fun _ h9 => h9) rfl dX8_look_11 ?_
    obtain ⟨q_7, vq_7, hRq_7, hSq_7⟩ := hE.2.2.2.2 _ (List.mem_of_getElem? (i := 26) rfl)
    refine g_ldcwS (own := RX8) (tx := "It is dark.") hx hb hown hRq_7 dX8_look_14 ?_
    obtain ⟨u_8, hu_8, hF_9⟩ := Option.bind_eq_some_iff.mp hF_6
    clear hF_6
    have hPc := hP.sub (ws' := (b_o cB cC cI cJ cZ oA rA σ_3)) [17, 18] rfl
    have hDc := (hDD σ_3).sub (ws' := (b_o cB cC cI cJ cZ oA rA σ_3)) [17, 18] (by decide +kernel) rfl
    have hFc := va_free (wc := (b_o cB cC cI cJ cZ oA rA σ_3)) (hDD σ_3) hS hA [17, 18] rfl
    refine g_ofv (wc := (b_o cB cC cI cJ cZ oA rA σ_3)) (wr := (b_e cB cC cI cJ cZ oA rA σ_3 ++ b_k cB cC cI cJ cZ oA rA σ_3 ++ b_p cB cC cI cJ cZ oA rA σ_3 ++ b_s cB cC cI cJ cZ oA rA σ_3 ++ b_c cB cC cI cJ cZ oA rA σ_3 ++ b_t cB cC cI cJ cZ oA rA σ_3 ++ b_d cB cC cI cJ cZ oA rA σ_3)) hP (hDD σ_3) hS hFc [17, 18] [0, 1, 2, 3, 4, 5, 6, 7, 8, 9, 10, 11, 12, 13, 14, 15, 16, 19, 20, 21, 22, 23, 24, 25, 26, 27, 28, 29, 30, 31, 32, 33, 34, 35, 36, 37, 38, 39, 40, 41, 42, 43, 44, 45, 46, 47, 48, 49] rfl rfl (by decide +kernel) (by decide +kernel) (va_runV (As := [.ref q_7]) (rest := []) ⟨hx, hb, hml, hown, hts⟩ (k_X5_line l dC dI cB cC cI cJ cZ cP oA rA H.size q_7 _ ([73, 116, 32, 105, 115, 32, 100, 97, 114, 107, 46] : List Int32) σ_3 _ hu_8) (cwV 1 hts (g_gV wq_998 wq_999 wq_1000 wq_9 wq_1001) rfl rfl rfl (by decide +kernel) ⟨Nat.le_of_ble_eq_true rfl, Nat.le_of_ble_eq_true rfl⟩) (g_preV g_blS hK hPc hDc hS hE hFc (g_toS hSq_7 hS hFc) (q0 := 0) (ci := 5) rfl rfl) rfl rfl hl.1 rfl (lv_room (Nat.le_of_ble_eq_true rfl)) dX8_look_17 ⟨Nat.le_of_ble_eq_true rfl, Nat.le_of_ble_eq_true rfl⟩) (fun u9 H locs hw9 hP' hD' hS => ?_)
    clear hPc hDc hFc
    obtain ⟨σ_10, eσ_10, hF_11⟩ := bnd_e hF_9
    clear hF_9
    have hP : va_P (dC, dI) vwCl (b_e cB cC cI cJ cZ oA rA σ_10 ++ b_k cB cC cI cJ cZ oA rA σ_10 ++ b_p cB cC cI cJ cZ oA rA σ_10 ++ b_o cB cC cI cJ cZ oA rA σ_10 ++ b_s cB cC cI cJ cZ oA rA σ_10 ++ b_c cB cC cI cJ cZ oA rA σ_10 ++ b_t cB cC cI cJ cZ oA rA σ_10 ++ b_d cB cC cI cJ cZ oA rA σ_10) H := by rw [eσ_10]; exact hP'.sub [0, 1, 2, 3, 4, 5, 6, 7, 8, 9, 10, 11, 12, 13, 14, 15, 16, 48, 49, 17, 18, 19, 20, 21, 22, 23, 24, 25, 26, 27, 28, 29, 30, 31, 32, 33, 34, 35, 36, 37, 38, 39, 40, 41, 42, 43, 44, 45, 46, 47] rfl
    clear hP' hD'
    have h9 := Option.some.inj hF_11
    subst h9
    exact W.vret hx hb hr (fun t ht hW => ⟨⟨(), rfl, trivial, m_end ht hP, hDD _⟩, hS.F ht⟩) hS.2.2 dX8_look_20
theorem dX8_perform_0 : decode cX8_perform 0 = .ok (.aload_n 0, 1) := by decide +kernel
theorem dX8_perform_1 : decode cX8_perform 1 = .ok (.getfield 30, 3) := by decide +kernel
theorem dX8_perform_4 : decode cX8_perform 4 = .ok (.aload_n 0, 1) := by decide +kernel
theorem dX8_perform_5 : decode cX8_perform 5 = .ok (.getfield 114, 3) := by decide +kernel
theorem dX8_perform_8 : decode cX8_perform 8 = .ok (.putfield 255, 3) := by decide +kernel
theorem dX8_perform_11 : decode cX8_perform 11 = .ok (.aload_n 0, 1) := by decide +kernel
theorem dX8_perform_12 : decode cX8_perform 12 = .ok (.getfield 30, 3) := by decide +kernel
theorem dX8_perform_15 : decode cX8_perform 15 = .ok (.aload_n 0, 1) := by decide +kernel
theorem dX8_perform_16 : decode cX8_perform 16 = .ok (.getfield 117, 3) := by decide +kernel
theorem dX8_perform_19 : decode cX8_perform 19 = .ok (.putfield 256, 3) := by decide +kernel
theorem dX8_perform_22 : decode cX8_perform 22 = .ok (.aload_n 0, 1) := by decide +kernel
theorem dX8_perform_23 : decode cX8_perform 23 = .ok (.getfield 127, 3) := by decide +kernel
theorem dX8_perform_26 : decode cX8_perform 26 = .ok (.bipush 11, 2) := by decide +kernel
theorem dX8_perform_28 : decode cX8_perform 28 = .ok (.if_icmp .eq 21, 3) := by decide +kernel
theorem dX8_perform_31 : decode cX8_perform 31 = .ok (.aload_n 0, 1) := by decide +kernel
theorem dX8_perform_32 : decode cX8_perform 32 = .ok (.getfield 114, 3) := by decide +kernel
theorem dX8_perform_35 : decode cX8_perform 35 = .ok (.ifCond .eq 14, 3) := by decide +kernel
theorem dX8_perform_38 : decode cX8_perform 38 = .ok (.aload_n 0, 1) := by decide +kernel
theorem dX8_perform_39 : decode cX8_perform 39 = .ok (.getfield 22, 3) := by decide +kernel
theorem dX8_perform_42 : decode cX8_perform 42 = .ok (.aload_n 0, 1) := by decide +kernel
theorem dX8_perform_43 : decode cX8_perform 43 = .ok (.getfield 114, 3) := by decide +kernel
theorem dX8_perform_46 : decode cX8_perform 46 = .ok (.putfield 174, 3) := by decide +kernel
theorem dX8_perform_49 : decode cX8_perform 49 = .ok (.aload_n 0, 1) := by decide +kernel
theorem dX8_perform_50 : decode cX8_perform 50 = .ok (.getfield 85, 3) := by decide +kernel
theorem dX8_perform_53 : decode cX8_perform 53 = .ok (.getfield 139, 3) := by decide +kernel
theorem dX8_perform_56 : decode cX8_perform 56 = .ok (.iconst 5, 1) := by decide +kernel
theorem dX8_perform_57 : decode cX8_perform 57 = .ok (.invokestatic 70, 3) := by decide +kernel
theorem dX8_perform_60 : decode cX8_perform 60 = .ok (.istore_n 1, 1) := by decide +kernel
theorem dX8_perform_61 : decode cX8_perform 61 = .ok (.iconst 0, 1) := by decide +kernel
theorem dX8_perform_62 : decode cX8_perform 62 = .ok (.istore_n 2, 1) := by decide +kernel
theorem dX8_perform_63 : decode cX8_perform 63 = .ok (.iload_n 2, 1) := by decide +kernel
theorem dX8_perform_64 : decode cX8_perform 64 = .ok (.iload_n 1, 1) := by decide +kernel
theorem dX8_perform_65 : decode cX8_perform 65 = .ok (.if_icmp .ge 52, 3) := by decide +kernel
theorem dX8_perform_68 : decode cX8_perform 68 = .ok (.iload_n 2, 1) := by decide +kernel
theorem dX8_perform_69 : decode cX8_perform 69 = .ok (.sipush 200, 3) := by decide +kernel
theorem dX8_perform_72 : decode cX8_perform 72 = .ok (.if_icmp .ge 45, 3) := by decide +kernel
theorem dX8_perform_75 : decode cX8_perform 75 = .ok (.aload_n 0, 1) := by decide +kernel
theorem dX8_perform_76 : decode cX8_perform 76 = .ok (.iload_n 2, 1) := by decide +kernel
theorem dX8_perform_77 : decode cX8_perform 77 = .ok (.invokevirtual 257, 3) := by decide +kernel
theorem dX8_perform_80 : decode cX8_perform 80 = .ok (.ifCond .eq 31, 3) := by decide +kernel
theorem dX8_perform_83 : decode cX8_perform 83 = .ok (.aload_n 0, 1) := by decide +kernel
theorem dX8_perform_84 : decode cX8_perform 84 = .ok (.getfield 30, 3) := by decide +kernel
theorem dX8_perform_87 : decode cX8_perform 87 = .ok (.bipush 100, 2) := by decide +kernel
theorem dX8_perform_89 : decode cX8_perform 89 = .ok (.iload_n 2, 1) := by decide +kernel
theorem dX8_perform_90 : decode cX8_perform 90 = .ok (.iadd, 1) := by decide +kernel
theorem dX8_perform_91 : decode cX8_perform 91 = .ok (.invokevirtual 262, 3) := by decide +kernel
theorem dX8_perform_94 : decode cX8_perform 94 = .ok (.istore_n 3, 1) := by decide +kernel
theorem dX8_perform_95 : decode cX8_perform 95 = .ok (.iload_n 3, 1) := by decide +kernel
theorem dX8_perform_96 : decode cX8_perform 96 = .ok (.iconst 1, 1) := by decide +kernel
theorem dX8_perform_97 : decode cX8_perform 97 = .ok (.if_icmp .eq 14, 3) := by decide +kernel
theorem dX8_perform_100 : decode cX8_perform 100 = .ok (.iload_n 3, 1) := by decide +kernel
theorem dX8_perform_101 : decode cX8_perform 101 = .ok (.iconst 2, 1) := by decide +kernel
theorem dX8_perform_102 : decode cX8_perform 102 = .ok (.if_icmp .ne 7, 3) := by decide +kernel
theorem dX8_perform_105 : decode cX8_perform 105 = .ok (.iconst 1, 1) := by decide +kernel
theorem dX8_perform_106 : decode cX8_perform 106 = .ok (.goto 4, 3) := by decide +kernel
theorem dX8_perform_109 : decode cX8_perform 109 = .ok (.iconst 0, 1) := by decide +kernel
theorem dX8_perform_110 : decode cX8_perform 110 = .ok (.ireturn, 1) := by decide +kernel
theorem dX8_perform_111 : decode cX8_perform 111 = .ok (.iinc 2 1, 3) := by decide +kernel
theorem dX8_perform_114 : decode cX8_perform 114 = .ok (.goto (-51), 3) := by decide +kernel
theorem dX8_perform_117 : decode cX8_perform 117 = .ok (.aload_n 0, 1) := by decide +kernel
theorem dX8_perform_118 : decode cX8_perform 118 = .ok (.invokevirtual 265, 3) := by decide +kernel
theorem dX8_perform_121 : decode cX8_perform 121 = .ok (.ifCond .eq 7, 3) := by decide +kernel
theorem dX8_perform_124 : decode cX8_perform 124 = .ok (.aload_n 0, 1) := by decide +kernel
theorem dX8_perform_125 : decode cX8_perform 125 = .ok (.invokevirtual 268, 3) := by decide +kernel
theorem dX8_perform_128 : decode cX8_perform 128 = .ok (.iconst 1, 1) := by decide +kernel
theorem dX8_perform_129 : decode cX8_perform 129 = .ok (.ireturn, 1) := by decide +kernel
def F_X8_perform  (Γ : HS) : HR :=
  bnd (cI' Γ 10 3 ((Γ 11).1 10)) fun σ_1 =>
  bnd (cI' σ_1 10 4 ((σ_1 11).1 11)) fun σ_3 =>
  bnd (fun  (σ_5 : HS) => (
    bnd ((g_at 7 ((σ_5 4).2.1 0) 5)) fun (x_9 : Int32) =>
    loopF (fun (again_12 : (Int32 × HS) → HR) (s_11 : Int32 × HS) => (
      bnd (fun  (σ_15 : HS) => (
        (F_X8_doing σ_15).bind fun u_19 =>
        if u_19.1 = 0 then (
          some (1, u_19.2)
        ) else (
          (F_X8_look u_19.2).bind fun u_24 =>
          some (1, u_24.2)
        )
      ) : HS → HR) fun j_16 =>
      if x_9 ≤ s_11.1 then (
        j_16  s_11.2
      ) else (
        if 200 ≤ s_11.1 then (
          j_16  s_11.2
        ) else (
          (F_X8_isMeant s_11.1 s_11.2).bind fun u_32 =>
          bnd (fun  (σ_34 : HS) => (
            bnd (s_11.1 + 1) fun (x_38 : Int32) =>
            again_12 (x_38, σ_34)
          ) : HS → HR) fun j_35 =>
          if u_32.1 = 0 then (
            j_35  u_32.2
          ) else (
            (F_X3_run (100 + s_11.1) u_32.2).bind fun u_43 =>
            bnd (mrg (fun j => j == 10 || j == 9 || j == 8 || j == 4 || j == 5 || j == 6 || j == 7) u_32.2 u_43.2) fun σ_45 =>
            if u_43.1 = 1 then (
              j_35  σ_45
            ) else (
              if u_43.1 = 2 then (
                some (1, σ_45)
              ) else (
                some (0, σ_45)
              )
            )
          )
        )
      )
    )) FU (0, σ_5)
  ) : HS → HR) fun j_6 =>
  if ((σ_3 11).1 8) = 11 then (
    j_6  σ_3
  ) else (
    if ((σ_3 11).1 10) = 0 then (
      j_6  σ_3
    ) else (
      bnd (cI' σ_3 9 11 ((σ_3 11).1 10)) fun σ_59 =>
      j_6  σ_59
    )
  )
set_option maxHeartbeats 4000000 in
set_option maxRecDepth 100000 in
theorem k_X8_perform (l : Launch) (dC : Nat → ClassId) (dI : Nat → Nat → Nat) (cB cC cI cJ cZ cP : ClassId) (oA : Nat → Nat) (rA : Nat → Nat → Nat) (sz : Nat)   (Γ : HS) (res : Int32 × HS) (hF : F_X8_perform  Γ = some res) : Met l yX8_perform (g_ws yX8_perform cX8_perform 4 (some .boolean)) ({ frames := 10, cells := 0, slots := 0, locals := 245 }) (va_Pc [.ref (oA 11)] (g_B (dC, dI) [(cB, .byte), (cC, .char), (cI, .int), (cJ, .long), (cZ, .boolean), (cP, .object "StoryHouse$Play")] sz (b_e cB cC cI cJ cZ oA rA Γ ++ b_k cB cC cI cJ cZ oA rA Γ ++ b_p cB cC cI cJ cZ oA rA Γ ++ b_o cB cC cI cJ cZ oA rA Γ ++ b_s cB cC cI cJ cZ oA rA Γ ++ b_c cB cC cI cJ cZ oA rA Γ ++ b_t cB cC cI cJ cZ oA rA Γ ++ b_d cB cC cI cJ cZ oA rA Γ) g_0)) (va_Qi (fun r (_ : Unit) => r = res.1) (g_Bo (dC, dI) (va_A (b_e cB cC cI cJ cZ oA rA Γ ++ b_k cB cC cI cJ cZ oA rA Γ ++ b_p cB cC cI cJ cZ oA rA Γ ++ b_o cB cC cI cJ cZ oA rA Γ ++ b_s cB cC cI cJ cZ oA rA Γ ++ b_c cB cC cI cJ cZ oA rA Γ ++ b_t cB cC cI cJ cZ oA rA Γ ++ b_d cB cC cI cJ cZ oA rA Γ) sz) (fun (_ : Unit) => (b_e cB cC cI cJ cZ oA rA res.2 ++ b_k cB cC cI cJ cZ oA rA res.2 ++ b_p cB cC cI cJ cZ oA rA res.2 ++ b_o cB cC cI cJ cZ oA rA res.2 ++ b_s cB cC cI cJ cZ oA rA res.2 ++ b_c cB cC cI cJ cZ oA rA res.2 ++ b_t cB cC cI cJ cZ oA rA res.2 ++ b_d cB cC cI cJ cZ oA rA res.2))) (va_A (b_e cB cC cI cJ cZ oA rA Γ ++ b_k cB cC cI cJ cZ oA rA Γ ++ b_p cB cC cI cJ cZ oA rA Γ ++ b_o cB cC cI cJ cZ oA rA Γ ++ b_s cB cC cI cJ cZ oA rA Γ ++ b_c cB cC cI cJ cZ oA rA Γ ++ b_t cB cC cI cJ cZ oA rA Γ ++ b_d cB cC cI cJ cZ oA rA Γ) sz)) 0 0 (va_A (b_e cB cC cI cJ cZ oA rA Γ ++ b_k cB cC cI cJ cZ oA rA Γ ++ b_p cB cC cI cJ cZ oA rA Γ ++ b_o cB cC cI cJ cZ oA rA Γ ++ b_s cB cC cI cJ cZ oA rA Γ ++ b_c cB cC cI cJ cZ oA rA Γ ++ b_t cB cC cI cJ cZ oA rA Γ ++ b_d cB cC cI cJ cZ oA rA Γ) sz) := by
  refine Met.ofW (cc := cX8_perform) (maxL := 4) (ret := (some .boolean)) (by decide) rfl ?_
  intro p e s m args below meth c s₁ B hml hv
  obtain ⟨rfl, hsz, hP, hK, hD0, hE, hX⟩ := hv
  have hx := B.exec
  have hb := B.bytes
  have hr := B.returns
  have hts0 := atoms_spec (ws := g_ws yX8_perform cX8_perform 4 (some .boolean)) B.pre
  have hts : ∀ w ∈ lw_good, w.before ([.ref (oA 11)] : List Value).toArray s = true := fun w z => hts0 w (List.mem_cons_of_mem _ z)
  have hown : s.vm.findClass RX8 = some m.cls := findClass_of_methodNamed B.named
  have hlocks := B.notSynchronized
  subst hsz
  have hD1 := hD0.self (sz := s.heap.size)
  generalize hAe : va_A (b_e cB cC cI cJ cZ oA rA Γ ++ b_k cB cC cI cJ cZ oA rA Γ ++ b_p cB cC cI cJ cZ oA rA Γ ++ b_o cB cC cI cJ cZ oA rA Γ ++ b_s cB cC cI cJ cZ oA rA Γ ++ b_c cB cC cI cJ cZ oA rA Γ ++ b_t cB cC cI cJ cZ oA rA Γ ++ b_d cB cC cI cJ cZ oA rA Γ) s.heap.size = A at hD1 hE hX ⊢
  have hA : ∀ q : Nat, s.heap.size ≤ q → A q := fun q z => by rw [← hAe]; exact Or.inr z
  have hDD : ∀ Γ : HS, va_D A (b_e cB cC cI cJ cZ oA rA Γ ++ b_k cB cC cI cJ cZ oA rA Γ ++ b_p cB cC cI cJ cZ oA rA Γ ++ b_o cB cC cI cJ cZ oA rA Γ ++ b_s cB cC cI cJ cZ oA rA Γ ++ b_c cB cC cI cJ cZ oA rA Γ ++ b_t cB cC cI cJ cZ oA rA Γ ++ b_d cB cC cI cJ cZ oA rA Γ) := fun Γ9 => va_D_fst (ws := (b_e cB cC cI cJ cZ oA rA Γ ++ b_k cB cC cI cJ cZ oA rA Γ ++ b_p cB cC cI cJ cZ oA rA Γ ++ b_o cB cC cI cJ cZ oA rA Γ ++ b_s cB cC cI cJ cZ oA rA Γ ++ b_c cB cC cI cJ cZ oA rA Γ ++ b_t cB cC cI cJ cZ oA rA Γ ++ b_d cB cC cI cJ cZ oA rA Γ)) (ws' := (b_e cB cC cI cJ cZ oA rA Γ9 ++ b_k cB cC cI cJ cZ oA rA Γ9 ++ b_p cB cC cI cJ cZ oA rA Γ9 ++ b_o cB cC cI cJ cZ oA rA Γ9 ++ b_s cB cC cI cJ cZ oA rA Γ9 ++ b_c cB cC cI cJ cZ oA rA Γ9 ++ b_t cB cC cI cJ cZ oA rA Γ9 ++ b_d cB cC cI cJ cZ oA rA Γ9)) rfl hD1
  have hN := hE.1
  have hS : va_S A s.heap s.heap [] := va_S.rf
  have hl := lv_entry ([.ref (oA 11)]) (n := 4) (Nat.le_of_ble_eq_true rfl)
  rw [lg_entry_eq]
  generalize (lg_sl ([.ref (oA 11)]) ++ List.replicate (4 - (lg_sl ([.ref (oA 11)])).length) Slot.unset).toArray = ls at hl ⊢
  have hl : lv_has ls 4 [(0, .ref (oA 11))] := hl
  unfold F_X8_perform at hF
  refine lv_aload_n hx hb dX8_perform_0 rfl (lv_at hl 0 rfl) ?_
  refine va_get (D := (dC, dI)) (ci := 8) (v := .ref (oA 10)) (C := RX8) (T := TX8) (N := 16) hx hb hts ii_X8 hown hK hP 0 rfl rfl 2 (by decide) (hts (.fieldLink RX8 30 "StoryHouse$Teller" "machine" "LStoryHouse$Machine;") wq_288) (fun _ h9 => h9) rfl dX8_perform_1 ?_
  refine lv_aload_n hx hb dX8_perform_4 rfl (lv_at hl 0 rfl) ?_
  refine va_get (D := (dC, dI)) (ci := 8) (v := .int ((Γ 11).1 10)) (C := RX8) (T := TX8) (N := 16) hx hb hts ii_X8 hown hK hP 0 rfl rfl 10 (by decide) (hts (.fieldLink RX8 114 "StoryHouse$Teller" "noun" "I") wq_297) (fun _ h9 => h9) rfl dX8_perform_5 ?_
  obtain ⟨σ_1, eσ_1, hF_2⟩ := bnd_e hF
  clear hF
  refine va_put (D := (dC, dI)) (ci := 3) (v := .int ((Γ 11).1 10)) (ty := .int) (C := RX3) (T := TX3) (N := 16) hx hb hts ii_X3 tyX3 tyX3_ok nmX3 hown hK hP (hDD _) hS 4 rfl rfl 3 (by decide) (hts (.fieldLink RX8 255 "StoryHouse$Machine" "noun" "I") wq_263) (fun _ h9 => h9) rfl (by decide +kernel) rfl rfl (Nat.le_of_ble_eq_true rfl) dX8_perform_8 (fun H locs hP' _ hS => ?_)
  have hP : va_P (dC, dI) vwCl (b_e cB cC cI cJ cZ oA rA σ_1 ++ b_k cB cC cI cJ cZ oA rA σ_1 ++ b_p cB cC cI cJ cZ oA rA σ_1 ++ b_o cB cC cI cJ cZ oA rA σ_1 ++ b_s cB cC cI cJ cZ oA rA σ_1 ++ b_c cB cC cI cJ cZ oA rA σ_1 ++ b_t cB cC cI cJ cZ oA rA σ_1 ++ b_d cB cC cI cJ cZ oA rA σ_1) H := by rw [eσ_1]; exact cs_ekposctd_k_3 ▸ hP'
  clear hP'
  refine lv_aload_n hx hb dX8_perform_11 rfl (lv_at hl 0 rfl) ?_
  refine va_get (D := (dC, dI)) (ci := 8) (v := .ref (oA 10)) (C := RX8) (T := TX8) (N := 16) hx hb hts ii_X8 hown hK hP 0 rfl rfl 2 (by decide) (hts (.fieldLink RX8 30 "StoryHouse$Teller" "machine" "LStoryHouse$Machine;") wq_288) (fun _ h9 => h9) rfl dX8_perform_12 ?_
  refine lv_aload_n hx hb dX8_perform_15 rfl (lv_at hl 0 rfl) ?_
  refine va_get (D := (dC, dI)) (ci := 8) (v := .int ((σ_1 11).1 11)) (C := RX8) (T := TX8) (N := 16) hx hb hts ii_X8 hown hK hP 0 rfl rfl 11 (by decide) (hts (.fieldLink RX8 117 "StoryHouse$Teller" "second" "I") wq_298) (fun _ h9 => h9) rfl dX8_perform_16 ?_
  obtain ⟨σ_3, eσ_3, hF_4⟩ := bnd_e hF_2
  clear hF_2
  refine va_put (D := (dC, dI)) (ci := 3) (v := .int ((σ_1 11).1 11)) (ty := .int) (C := RX3) (T := TX3) (N := 16) hx hb hts ii_X3 tyX3 tyX3_ok nmX3 hown hK hP (hDD _) hS 4 rfl rfl 4 (by decide) (hts (.fieldLink RX8 256 "StoryHouse$Machine" "second" "I") wq_265) (fun _ h9 => h9) rfl (by decide +kernel) rfl rfl (Nat.le_of_ble_eq_true rfl) dX8_perform_19 (fun H locs hP' _ hS => ?_)
  have hP : va_P (dC, dI) vwCl (b_e cB cC cI cJ cZ oA rA σ_3 ++ b_k cB cC cI cJ cZ oA rA σ_3 ++ b_p cB cC cI cJ cZ oA rA σ_3 ++ b_o cB cC cI cJ cZ oA rA σ_3 ++ b_s cB cC cI cJ cZ oA rA σ_3 ++ b_c cB cC cI cJ cZ oA rA σ_3 ++ b_t cB cC cI cJ cZ oA rA σ_3 ++ b_d cB cC cI cJ cZ oA rA σ_3) H := by rw [eσ_3]; exact cs_ekposctd_k_4 ▸ hP'
  clear hP'
  refine lv_aload_n hx hb dX8_perform_22 rfl (lv_at hl 0 rfl) ?_
  refine va_get (D := (dC, dI)) (ci := 8) (v := .int ((σ_3 11).1 8)) (C := RX8) (T := TX8) (N := 16) hx hb hts ii_X8 hown hK hP 0 rfl rfl 8 (by decide) (hts (.fieldLink RX8 127 "StoryHouse$Teller" "verb" "I") wq_295) (fun _ h9 => h9) rfl dX8_perform_23 ?_
  refine lv_bipush (v := 11) hx hb dX8_perform_26 (by decide +kernel) ?_
  obtain ⟨j_6, ej_6, hF_7⟩ := bnd_e hF_4
  clear hF_4
  have Jj_6 : ∀  (σ_5 : HS), j_6  σ_5 = some res → ∀ (H : Heap) (locs : List Loc), va_P (dC, dI) vwCl (b_e cB cC cI cJ cZ oA rA σ_5 ++ b_k cB cC cI cJ cZ oA rA σ_5 ++ b_p cB cC cI cJ cZ oA rA σ_5 ++ b_o cB cC cI cJ cZ oA rA σ_5 ++ b_s cB cC cI cJ cZ oA rA σ_5 ++ b_c cB cC cI cJ cZ oA rA σ_5 ++ b_t cB cC cI cJ cZ oA rA σ_5 ++ b_d cB cC cI cJ cZ oA rA σ_5) H → va_S A s.heap H locs → ∀ ls : Array Slot, lv_has ls 4 [(0, .ref (oA 11))] → W p l e (headSpec (g_ws yX8_perform cX8_perform 4 (some .boolean)) { frames := 10, cells := 0, slots := 0, locals := 245 }).room s m ([.ref (oA 11)] : List Value).toArray below meth c H locs 0 0 (MQ below (va_Qi (fun r (_ : Unit) => r = res.1) (g_Bo (dC, dI) A (fun (_ : Unit) => (b_e cB cC cI cJ cZ oA rA res.2 ++ b_k cB cC cI cJ cZ oA rA res.2 ++ b_p cB cC cI cJ cZ oA rA res.2 ++ b_o cB cC cI cJ cZ oA rA res.2 ++ b_s cB cC cI cJ cZ oA rA res.2 ++ b_c cB cC cI cJ cZ oA rA res.2 ++ b_t cB cC cI cJ cZ oA rA res.2 ++ b_d cB cC cI cJ cZ oA rA res.2))) A) ([.ref (oA 11)] : List Value).toArray s 0 0 A) (F0 m 49 ls []) := by
    intro  σ_5 hF0 H locs hP hS ls hl
    subst ej_6
    have hF_8 := hF0
    clear hF0
    refine lv_aload_n hx hb dX8_perform_49 rfl (lv_at hl 0 rfl) ?_
    refine va_get (D := (dC, dI)) (ci := 8) (v := .ref (oA 4)) (C := RX8) (T := TX8) (N := 16) hx hb hts ii_X8 hown hK hP 0 rfl rfl 3 (by decide) (hts (.fieldLink RX8 85 "StoryHouse$Teller" "story" "LStoryHouse$Story;") wq_290) (fun _ h9 => h9) rfl dX8_perform_50 ?_
    refine va_get (D := (dC, dI)) (ci := 7) (v := .ref (rA 4 0)) (C := RX7) (T := TX7) (N := 19) hx hb hts ii_X7 hown hK hP 19 rfl rfl 0 (by decide) (hts (.fieldLink RX8 139 "StoryHouse$Story" "counts" "[I") wq_155) (fun _ h9 => h9) rfl dX8_perform_53 ?_
    refine lv_iconst (v := 5) hx hb dX8_perform_56 (by decide +kernel) ?_
    have hPc := hP.sub (ws' := [(rA 4 0, .inl (cI, 7, .inl ((σ_5 4).2.1 0)))]) [20] rfl
    have hDc := (hDD σ_5).sub (ws' := [(rA 4 0, .inl (cI, 7, .inl ((σ_5 4).2.1 0)))]) [20] (by decide +kernel) rfl
    have hFc := va_free (wc := [(rA 4 0, .inl (cI, 7, .inl ((σ_5 4).2.1 0)))]) (hDD σ_5) hS hA [20] rfl
    refine g_ofi (wc := [(rA 4 0, .inl (cI, 7, .inl ((σ_5 4).2.1 0)))]) (wr := (((b_e cB cC cI cJ cZ oA rA σ_5 ++ b_k cB cC cI cJ cZ oA rA σ_5 ++ b_p cB cC cI cJ cZ oA rA σ_5 ++ b_o cB cC cI cJ cZ oA rA σ_5 ++ b_s cB cC cI cJ cZ oA rA σ_5 ++ b_c cB cC cI cJ cZ oA rA σ_5 ++ b_t cB cC cI cJ cZ oA rA σ_5 ++ b_d cB cC cI cJ cZ oA rA σ_5)).eraseIdx 20)) hP (hDD σ_5) hS hFc [20] [0, 1, 2, 3, 4, 5, 6, 7, 8, 9, 10, 11, 12, 13, 14, 15, 16, 17, 18, 19, 21, 22, 23, 24, 25, 26, 27, 28, 29, 30, 31, 32, 33, 34, 35, 36, 37, 38, 39, 40, 41, 42, 43, 44, 45, 46, 47, 48, 49] rfl rfl (by decide +kernel) (by decide +kernel) (va_runSN (As := [.ref (rA 4 0), .int 5]) (rest := []) ⟨hx, hb, hml, hown, hts⟩ (c_X11_at l dC dI cB cC cI cJ cZ cP H.size (rA 4 0) 5 7 ((σ_5 4).2.1 0) (by decide)) ⟨va_cnB 2 hts (g_gA wq_407) rfl rfl rfl (hN.at 31 rfl) (hts (.initialized RX11) wq_1) (by decide +kernel) ⟨Nat.le_of_ble_eq_true rfl, Nat.le_of_ble_eq_true rfl⟩, (hts (.static yX11_at) wq_406), trivial⟩ (g_preS g_bl0 hK hPc hDc hS hE hFc g_to0) rfl rfl hl.1 rfl (lv_room (Nat.le_of_ble_eq_true rfl)) dX8_perform_57 ⟨Nat.le_of_ble_eq_true rfl, Nat.le_of_ble_eq_true rfl⟩) (fun r9 u9 H locs hw9 hP' hD' hS => ?_)
    clear hPc hDc hFc hD'
    have hP : va_P (dC, dI) vwCl (b_e cB cC cI cJ cZ oA rA σ_5 ++ b_k cB cC cI cJ cZ oA rA σ_5 ++ b_p cB cC cI cJ cZ oA rA σ_5 ++ b_o cB cC cI cJ cZ oA rA σ_5 ++ b_s cB cC cI cJ cZ oA rA σ_5 ++ b_c cB cC cI cJ cZ oA rA σ_5 ++ b_t cB cC cI cJ cZ oA rA σ_5 ++ b_d cB cC cI cJ cZ oA rA σ_5) H := hP'.sub [0, 1, 2, 3, 4, 5, 6, 7, 8, 9, 10, 11, 12, 13, 14, 15, 16, 17, 18, 19, 49, 20, 21, 22, 23, 24, 25, 26, 27, 28, 29, 30, 31, 32, 33, 34, 35, 36, 37, 38, 39, 40, 41, 42, 43, 44, 45, 46, 47, 48] rfl
    clear hP'
    subst hw9
    obtain ⟨x_9, ex_9, hF_10⟩ := bnd_e hF_8
    clear hF_8
    refine m_top ex_9 ?_
    refine lv_istore_n (lv' := [(1, .int x_9), (0, .ref (oA 11))]) hx hb dX8_perform_60 rfl hl (by decide) rfl (fun ls hl => ?_)
    refine lv_iconst (v := 0) hx hb dX8_perform_61 (by decide +kernel) ?_
    refine lv_istore_n (lv' := [(2, .int 0), (1, .int x_9), (0, .ref (oA 11))]) hx hb dX8_perform_62 rfl hl (by decide) rfl (fun ls hl => ?_)
    refine loopF_ind (P := fun (s_11 : Int32 × HS) => ∀ (H : Heap) (locs : List Loc), va_P (dC, dI) vwCl (b_e cB cC cI cJ cZ oA rA s_11.2 ++ b_k cB cC cI cJ cZ oA rA s_11.2 ++ b_p cB cC cI cJ cZ oA rA s_11.2 ++ b_o cB cC cI cJ cZ oA rA s_11.2 ++ b_s cB cC cI cJ cZ oA rA s_11.2 ++ b_c cB cC cI cJ cZ oA rA s_11.2 ++ b_t cB cC cI cJ cZ oA rA s_11.2 ++ b_d cB cC cI cJ cZ oA rA s_11.2) H → va_S A s.heap H locs → ∀ ls : Array Slot, lv_has ls 4 [(0, .ref (oA 11)), (1, .int x_9), (2, .int s_11.1)] → W p l e (headSpec (g_ws yX8_perform cX8_perform 4 (some .boolean)) { frames := 10, cells := 0, slots := 0, locals := 245 }).room s m ([.ref (oA 11)] : List Value).toArray below meth c H locs 0 0 (MQ below (va_Qi (fun r (_ : Unit) => r = res.1) (g_Bo (dC, dI) A (fun (_ : Unit) => (b_e cB cC cI cJ cZ oA rA res.2 ++ b_k cB cC cI cJ cZ oA rA res.2 ++ b_p cB cC cI cJ cZ oA rA res.2 ++ b_o cB cC cI cJ cZ oA rA res.2 ++ b_s cB cC cI cJ cZ oA rA res.2 ++ b_c cB cC cI cJ cZ oA rA res.2 ++ b_t cB cC cI cJ cZ oA rA res.2 ++ b_d cB cC cI cJ cZ oA rA res.2))) A) ([.ref (oA 11)] : List Value).toArray s 0 0 A) (F0 m 63 ls [])) ?_ _ _ hF_10 _ _ hP hS ls (lv_sub hl [2, 1, 0] rfl)
    intro again_12 s_11 ih_13 hF_14
    intro H locs hP hS ls hl
    refine lv_iload_n hx hb dX8_perform_63 rfl (lv_at hl 2 rfl) ?_
    refine lv_iload_n hx hb dX8_perform_64 rfl (lv_at hl 1 rfl) ?_
    obtain ⟨j_16, ej_16, hF_17⟩ := bnd_e hF_14
    clear hF_14
    have Jj_16 : ∀  (σ_15 : HS), j_16  σ_15 = some res → ∀ (H : Heap) (locs : List Loc), va_P (dC, dI) vwCl (b_e cB cC cI cJ cZ oA rA σ_15 ++ b_k cB cC cI cJ cZ oA rA σ_15 ++ b_p cB cC cI cJ cZ oA rA σ_15 ++ b_o cB cC cI cJ cZ oA rA σ_15 ++ b_s cB cC cI cJ cZ oA rA σ_15 ++ b_c cB cC cI cJ cZ oA rA σ_15 ++ b_t cB cC cI cJ cZ oA rA σ_15 ++ b_d cB cC cI cJ cZ oA rA σ_15) H → va_S A s.heap H locs → ∀ ls : Array Slot, lv_has ls 4 [(0, .ref (oA 11))] → W p l e (headSpec (g_ws yX8_perform cX8_perform 4 (some .boolean)) { frames := 10, cells := 0, slots := 0, locals := 245 }).room s m ([.ref (oA 11)] : List Value).toArray below meth c H locs 0 0 (MQ below (va_Qi (fun r (_ : Unit) => r = res.1) (g_Bo (dC, dI) A (fun (_ : Unit) => (b_e cB cC cI cJ cZ oA rA res.2 ++ b_k cB cC cI cJ cZ oA rA res.2 ++ b_p cB cC cI cJ cZ oA rA res.2 ++ b_o cB cC cI cJ cZ oA rA res.2 ++ b_s cB cC cI cJ cZ oA rA res.2 ++ b_c cB cC cI cJ cZ oA rA res.2 ++ b_t cB cC cI cJ cZ oA rA res.2 ++ b_d cB cC cI cJ cZ oA rA res.2))) A) ([.ref (oA 11)] : List Value).toArray s 0 0 A) (F0 m 117 ls []) := by
      intro  σ_15 hF0 H locs hP hS ls hl
      subst ej_16
      have hF_18 := hF0
      clear hF0
      refine lv_aload_n hx hb dX8_perform_117 rfl (lv_at hl 0 rfl) ?_
      obtain ⟨u_19, hu_19, hF_20⟩ := Option.bind_eq_some_iff.mp hF_18
      clear hF_18
      have hPc := hP.sub (ws' := (b_e cB cC cI cJ cZ oA rA σ_15 ++ b_k cB cC cI cJ cZ oA rA σ_15 ++ b_p cB cC cI cJ cZ oA rA σ_15 ++ b_o cB cC cI cJ cZ oA rA σ_15 ++ b_s cB cC cI cJ cZ oA rA σ_15 ++ b_c cB cC cI cJ cZ oA rA σ_15 ++ b_t cB cC cI cJ cZ oA rA σ_15 ++ b_d cB cC cI cJ cZ oA rA σ_15)) [0, 1, 2, 3, 4, 5, 6, 7, 8, 9, 10, 11, 12, 13, 14, 15, 16, 17, 18, 19, 20, 21, 22, 23, 24, 25, 26, 27, 28, 29, 30, 31, 32, 33, 34, 35, 36, 37, 38, 39, 40, 41, 42, 43, 44, 45, 46, 47, 48, 49] rfl
      have hDc := (hDD σ_15).sub (ws' := (b_e cB cC cI cJ cZ oA rA σ_15 ++ b_k cB cC cI cJ cZ oA rA σ_15 ++ b_p cB cC cI cJ cZ oA rA σ_15 ++ b_o cB cC cI cJ cZ oA rA σ_15 ++ b_s cB cC cI cJ cZ oA rA σ_15 ++ b_c cB cC cI cJ cZ oA rA σ_15 ++ b_t cB cC cI cJ cZ oA rA σ_15 ++ b_d cB cC cI cJ cZ oA rA σ_15)) [0, 1, 2, 3, 4, 5, 6, 7, 8, 9, 10, 11, 12, 13, 14, 15, 16, 17, 18, 19, 20, 21, 22, 23, 24, 25, 26, 27, 28, 29, 30, 31, 32, 33, 34, 35, 36, 37, 38, 39, 40, 41, 42, 43, 44, 45, 46, 47, 48, 49] (by decide +kernel) rfl
      have hFc := va_free (wc := (b_e cB cC cI cJ cZ oA rA σ_15 ++ b_k cB cC cI cJ cZ oA rA σ_15 ++ b_p cB cC cI cJ cZ oA rA σ_15 ++ b_o cB cC cI cJ cZ oA rA σ_15 ++ b_s cB cC cI cJ cZ oA rA σ_15 ++ b_c cB cC cI cJ cZ oA rA σ_15 ++ b_t cB cC cI cJ cZ oA rA σ_15 ++ b_d cB cC cI cJ cZ oA rA σ_15)) (hDD σ_15) hS hA [0, 1, 2, 3, 4, 5, 6, 7, 8, 9, 10, 11, 12, 13, 14, 15, 16, 17, 18, 19, 20, 21, 22, 23, 24, 25, 26, 27, 28, 29, 30, 31, 32, 33, 34, 35, 36, 37, 38, 39, 40, 41, 42, 43, 44, 45, 46, 47, 48, 49] rfl
      refine g_ofi (wc := (b_e cB cC cI cJ cZ oA rA σ_15 ++ b_k cB cC cI cJ cZ oA rA σ_15 ++ b_p cB cC cI cJ cZ oA rA σ_15 ++ b_o cB cC cI cJ cZ oA rA σ_15 ++ b_s cB cC cI cJ cZ oA rA σ_15 ++ b_c cB cC cI cJ cZ oA rA σ_15 ++ b_t cB cC cI cJ cZ oA rA σ_15 ++ b_d cB cC cI cJ cZ oA rA σ_15)) (wr := ([] : va_W)) hP (hDD σ_15) hS hFc [0, 1, 2, 3, 4, 5, 6, 7, 8, 9, 10, 11, 12, 13, 14, 15, 16, 17, 18, 19, 20, 21, 22, 23, 24, 25, 26, 27, 28, 29, 30, 31, 32, 33, 34, 35, 36, 37, 38, 39, 40, 41, 42, 43, 44, 45, 46, 47, 48, 49] [] rfl rfl (by decide +kernel) (by decide +kernel) (va_runV (As := []) (rest := []) ⟨hx, hb, hml, hown, hts⟩ (k_X8_doing l dC dI cB cC cI cJ cZ cP oA rA H.size  σ_15 _ hu_19) (cwV 0 hts (g_gV wq_1217 wq_1218 wq_2100 wq_12 wq_1219) rfl rfl rfl (by decide +kernel) ⟨Nat.le_of_ble_eq_true rfl, Nat.le_of_ble_eq_true rfl⟩) (g_preV g_bl0 hK hPc hDc hS hE hFc g_to0 (q0 := 0) (ci := 8) rfl rfl) rfl rfl hl.1 rfl (lv_room (Nat.le_of_ble_eq_true rfl)) dX8_perform_118 ⟨Nat.le_of_ble_eq_true rfl, Nat.le_of_ble_eq_true rfl⟩) (fun r9 u9 H locs hw9 hP' hD' hS => ?_)
      clear hPc hDc hFc
      subst hw9
      have hP : va_P (dC, dI) vwCl (b_e cB cC cI cJ cZ oA rA u_19.2 ++ b_k cB cC cI cJ cZ oA rA u_19.2 ++ b_p cB cC cI cJ cZ oA rA u_19.2 ++ b_o cB cC cI cJ cZ oA rA u_19.2 ++ b_s cB cC cI cJ cZ oA rA u_19.2 ++ b_c cB cC cI cJ cZ oA rA u_19.2 ++ b_t cB cC cI cJ cZ oA rA u_19.2 ++ b_d cB cC cI cJ cZ oA rA u_19.2) H := hP'
      clear hP' hD'
      refine lv_if_eq (tgt := 128) hx hb dX8_perform_121 (by decide) (fun c_21 => ?_) (fun c_21 => ?_)
      · have hF_22 := ipos c_21 hF_20
        clear hF_20
        refine lv_iconst (v := 1) hx hb dX8_perform_128 (by decide +kernel) ?_
        have h9 := Option.some.inj hF_22
        subst h9
        exact W.zret (v := 1) hx hb hr (by decide +kernel) (fun t ht hW => ⟨⟨1, (), rfl, rfl, m_end ht hP, hDD _⟩, hS.F ht⟩) hS.2.2 dX8_perform_129
      · have hF_23 := ineg c_21 hF_20
        clear hF_20
        refine lv_aload_n hx hb dX8_perform_124 rfl (lv_at hl 0 rfl) ?_
        obtain ⟨u_24, hu_24, hF_25⟩ := Option.bind_eq_some_iff.mp hF_23
        clear hF_23
        have hPc := hP.sub (ws' := (b_e cB cC cI cJ cZ oA rA u_19.2 ++ b_k cB cC cI cJ cZ oA rA u_19.2 ++ b_p cB cC cI cJ cZ oA rA u_19.2 ++ b_o cB cC cI cJ cZ oA rA u_19.2 ++ b_s cB cC cI cJ cZ oA rA u_19.2 ++ b_c cB cC cI cJ cZ oA rA u_19.2 ++ b_t cB cC cI cJ cZ oA rA u_19.2 ++ b_d cB cC cI cJ cZ oA rA u_19.2)) [0, 1, 2, 3, 4, 5, 6, 7, 8, 9, 10, 11, 12, 13, 14, 15, 16, 17, 18, 19, 20, 21, 22, 23, 24, 25, 26, 27, 28, 29, 30, 31, 32, 33, 34, 35, 36, 37, 38, 39, 40, 41, 42, 43, 44, 45, 46, 47, 48, 49] rfl
        have hDc := (hDD u_19.2).sub (ws' := (b_e cB cC cI cJ cZ oA rA u_19.2 ++ b_k cB cC cI cJ cZ oA rA u_19.2 ++ b_p cB cC cI cJ cZ oA rA u_19.2 ++ b_o cB cC cI cJ cZ oA rA u_19.2 ++ b_s cB cC cI cJ cZ oA rA u_19.2 ++ b_c cB cC cI cJ cZ oA rA u_19.2 ++ b_t cB cC cI cJ cZ oA rA u_19.2 ++ b_d cB cC cI cJ cZ oA rA u_19.2)) [0, 1, 2, 3, 4, 5, 6, 7, 8, 9, 10, 11, 12, 13, 14, 15, 16, 17, 18, 19, 20, 21, 22, 23, 24, 25, 26, 27, 28, 29, 30, 31, 32, 33, 34, 35, 36, 37, 38, 39, 40, 41, 42, 43, 44, 45, 46, 47, 48, 49] (by decide +kernel) rfl
        have hFc := va_free (wc := (b_e cB cC cI cJ cZ oA rA u_19.2 ++ b_k cB cC cI cJ cZ oA rA u_19.2 ++ b_p cB cC cI cJ cZ oA rA u_19.2 ++ b_o cB cC cI cJ cZ oA rA u_19.2 ++ b_s cB cC cI cJ cZ oA rA u_19.2 ++ b_c cB cC cI cJ cZ oA rA u_19.2 ++ b_t cB cC cI cJ cZ oA rA u_19.2 ++ b_d cB cC cI cJ cZ oA rA u_19.2)) (hDD u_19.2) hS hA [0, 1, 2, 3, 4, 5, 6, 7, 8, 9, 10, 11, 12, 13, 14, 15, 16, 17, 18, 19, 20, 21, 22, 23, 24, 25, 26, 27, 28, 29, 30, 31, 32, 33, 34, 35, 36, 37, 38, 39, 40, 41, 42, 43, 44, 45, 46, 47, 48, 49] rfl
        refine g_ofv (wc := (b_e cB cC cI cJ cZ oA rA u_19.2 ++ b_k cB cC cI cJ cZ oA rA u_19.2 ++ b_p cB cC cI cJ cZ oA rA u_19.2 ++ b_o cB cC cI cJ cZ oA rA u_19.2 ++ b_s cB cC cI cJ cZ oA rA u_19.2 ++ b_c cB cC cI cJ cZ oA rA u_19.2 ++ b_t cB cC cI cJ cZ oA rA u_19.2 ++ b_d cB cC cI cJ cZ oA rA u_19.2)) (wr := ([] : va_W)) hP (hDD u_19.2) hS hFc [0, 1, 2, 3, 4, 5, 6, 7, 8, 9, 10, 11, 12, 13, 14, 15, 16, 17, 18, 19, 20, 21, 22, 23, 24, 25, 26, 27, 28, 29, 30, 31, 32, 33, 34, 35, 36, 37, 38, 39, 40, 41, 42, 43, 44, 45, 46, 47, 48, 49] [] rfl rfl (by decide +kernel) (by decide +kernel) (va_runV (As := []) (rest := []) ⟨hx, hb, hml, hown, hts⟩ (k_X8_look l dC dI cB cC cI cJ cZ cP oA rA H.size  u_19.2 _ hu_24) (cwV 0 hts (g_gV wq_1254 wq_975 wq_976 wq_12 wq_977) rfl rfl rfl (by decide +kernel) ⟨Nat.le_of_ble_eq_true rfl, Nat.le_of_ble_eq_true rfl⟩) (g_preV g_bl0 hK hPc hDc hS hE hFc g_to0 (q0 := 0) (ci := 8) rfl rfl) rfl rfl hl.1 rfl (lv_room (Nat.le_of_ble_eq_true rfl)) dX8_perform_125 ⟨Nat.le_of_ble_eq_true rfl, Nat.le_of_ble_eq_true rfl⟩) (fun u9 H locs hw9 hP' hD' hS => ?_)
        clear hPc hDc hFc
        have hP : va_P (dC, dI) vwCl (b_e cB cC cI cJ cZ oA rA u_24.2 ++ b_k cB cC cI cJ cZ oA rA u_24.2 ++ b_p cB cC cI cJ cZ oA rA u_24.2 ++ b_o cB cC cI cJ cZ oA rA u_24.2 ++ b_s cB cC cI cJ cZ oA rA u_24.2 ++ b_c cB cC cI cJ cZ oA rA u_24.2 ++ b_t cB cC cI cJ cZ oA rA u_24.2 ++ b_d cB cC cI cJ cZ oA rA u_24.2) H := hP'
        clear hP' hD'
        refine lv_iconst (v := 1) hx hb dX8_perform_128 (by decide +kernel) ?_
        have h9 := Option.some.inj hF_25
        subst h9
        exact W.zret (v := 1) hx hb hr (by decide +kernel) (fun t ht hW => ⟨⟨1, (), rfl, rfl, m_end ht hP, hDD _⟩, hS.F ht⟩) hS.2.2 dX8_perform_129
    refine lv_icmp_ge (tgt := 117) hx hb dX8_perform_65 (by decide) (fun c_26 => ?_) (fun c_26 => ?_)
    · have hF_27 := ipos c_26 hF_17
      clear hF_17
      exact Jj_16  s_11.2 hF_27 _ _ hP hS ls (lv_sub hl [0] rfl)
    · have hF_28 := ineg c_26 hF_17
      clear hF_17
      refine lv_iload_n hx hb dX8_perform_68 rfl (lv_at hl 2 rfl) ?_
      refine lv_sipush (v := 200) hx hb dX8_perform_69 (by decide +kernel) ?_
      refine lv_icmp_ge (tgt := 117) hx hb dX8_perform_72 (by decide) (fun c_29 => ?_) (fun c_29 => ?_)
      · have hF_30 := ipos c_29 hF_28
        clear hF_28
        exact Jj_16  s_11.2 hF_30 _ _ hP hS ls (lv_sub hl [0] rfl)
      · have hF_31 := ineg c_29 hF_28
        clear hF_28
        refine lv_aload_n hx hb dX8_perform_75 rfl (lv_at hl 0 rfl) ?_
        refine lv_iload_n hx hb dX8_perform_76 rfl (lv_at hl 2 rfl) ?_
        obtain ⟨u_32, hu_32, hF_33⟩ := Option.bind_eq_some_iff.mp hF_31
        clear hF_31
        have hPc := hP.sub (ws' := (b_e cB cC cI cJ cZ oA rA s_11.2 ++ b_k cB cC cI cJ cZ oA rA s_11.2 ++ b_p cB cC cI cJ cZ oA rA s_11.2 ++ b_o cB cC cI cJ cZ oA rA s_11.2 ++ b_s cB cC cI cJ cZ oA rA s_11.2 ++ b_c cB cC cI cJ cZ oA rA s_11.2 ++ b_t cB cC cI cJ cZ oA rA s_11.2 ++ b_d cB cC cI cJ cZ oA rA s_11.2)) [0, 1, 2, 3, 4, 5, 6, 7, 8, 9, 10, 11, 12, 13, 14, 15, 16, 17, 18, 19, 20, 21, 22, 23, 24, 25, 26, 27, 28, 29, 30, 31, 32, 33, 34, 35, 36, 37, 38, 39, 40, 41, 42, 43, 44, 45, 46, 47, 48, 49] rfl
        have hDc := (hDD s_11.2).sub (ws' := (b_e cB cC cI cJ cZ oA rA s_11.2 ++ b_k cB cC cI cJ cZ oA rA s_11.2 ++ b_p cB cC cI cJ cZ oA rA s_11.2 ++ b_o cB cC cI cJ cZ oA rA s_11.2 ++ b_s cB cC cI cJ cZ oA rA s_11.2 ++ b_c cB cC cI cJ cZ oA rA s_11.2 ++ b_t cB cC cI cJ cZ oA rA s_11.2 ++ b_d cB cC cI cJ cZ oA rA s_11.2)) [0, 1, 2, 3, 4, 5, 6, 7, 8, 9, 10, 11, 12, 13, 14, 15, 16, 17, 18, 19, 20, 21, 22, 23, 24, 25, 26, 27, 28, 29, 30, 31, 32, 33, 34, 35, 36, 37, 38, 39, 40, 41, 42, 43, 44, 45, 46, 47, 48, 49] (by decide +kernel) rfl
        have hFc := va_free (wc := (b_e cB cC cI cJ cZ oA rA s_11.2 ++ b_k cB cC cI cJ cZ oA rA s_11.2 ++ b_p cB cC cI cJ cZ oA rA s_11.2 ++ b_o cB cC cI cJ cZ oA rA s_11.2 ++ b_s cB cC cI cJ cZ oA rA s_11.2 ++ b_c cB cC cI cJ cZ oA rA s_11.2 ++ b_t cB cC cI cJ cZ oA rA s_11.2 ++ b_d cB cC cI cJ cZ oA rA s_11.2)) (hDD s_11.2) hS hA [0, 1, 2, 3, 4, 5, 6, 7, 8, 9, 10, 11, 12, 13, 14, 15, 16, 17, 18, 19, 20, 21, 22, 23, 24, 25, 26, 27, 28, 29, 30, 31, 32, 33, 34, 35, 36, 37, 38, 39, 40, 41, 42, 43, 44, 45, 46, 47, 48, 49] rfl
        refine g_ofi (wc := (b_e cB cC cI cJ cZ oA rA s_11.2 ++ b_k cB cC cI cJ cZ oA rA s_11.2 ++ b_p cB cC cI cJ cZ oA rA s_11.2 ++ b_o cB cC cI cJ cZ oA rA s_11.2 ++ b_s cB cC cI cJ cZ oA rA s_11.2 ++ b_c cB cC cI cJ cZ oA rA s_11.2 ++ b_t cB cC cI cJ cZ oA rA s_11.2 ++ b_d cB cC cI cJ cZ oA rA s_11.2)) (wr := ([] : va_W)) hP (hDD s_11.2) hS hFc [0, 1, 2, 3, 4, 5, 6, 7, 8, 9, 10, 11, 12, 13, 14, 15, 16, 17, 18, 19, 20, 21, 22, 23, 24, 25, 26, 27, 28, 29, 30, 31, 32, 33, 34, 35, 36, 37, 38, 39, 40, 41, 42, 43, 44, 45, 46, 47, 48, 49] [] rfl rfl (by decide +kernel) (by decide +kernel) (va_runV (As := [.int s_11.1]) (rest := []) ⟨hx, hb, hml, hown, hts⟩ (k_X8_isMeant l dC dI cB cC cI cJ cZ cP oA rA H.size  s_11.1 s_11.2 _ hu_32) (cwV 1 hts (g_gV wq_1121 wq_1122 wq_2083 wq_12 wq_1123) rfl rfl rfl (by decide +kernel) ⟨Nat.le_of_ble_eq_true rfl, Nat.le_of_ble_eq_true rfl⟩) (g_preV g_bl0 hK hPc hDc hS hE hFc g_to0 (q0 := 0) (ci := 8) rfl rfl) rfl rfl hl.1 rfl (lv_room (Nat.le_of_ble_eq_true rfl)) dX8_perform_77 ⟨Nat.le_of_ble_eq_true rfl, Nat.le_of_ble_eq_true rfl⟩) (fun r9 u9 H locs hw9 hP' hD' hS => ?_)
        clear hPc hDc hFc
        subst hw9
        have hP : va_P (dC, dI) vwCl (b_e cB cC cI cJ cZ oA rA u_32.2 ++ b_k cB cC cI cJ cZ oA rA u_32.2 ++ b_p cB cC cI cJ cZ oA rA u_32.2 ++ b_o cB cC cI cJ cZ oA rA u_32.2 ++ b_s cB cC cI cJ cZ oA rA u_32.2 ++ b_c cB cC cI cJ cZ oA rA u_32.2 ++ b_t cB cC cI cJ cZ oA rA u_32.2 ++ b_d cB cC cI cJ cZ oA rA u_32.2) H := hP'
        clear hP' hD'
        obtain ⟨j_35, ej_35, hF_36⟩ := bnd_e hF_33
        clear hF_33
        have Jj_35 : ∀  (σ_34 : HS), j_35  σ_34 = some res → ∀ (H : Heap) (locs : List Loc), va_P (dC, dI) vwCl (b_e cB cC cI cJ cZ oA rA σ_34 ++ b_k cB cC cI cJ cZ oA rA σ_34 ++ b_p cB cC cI cJ cZ oA rA σ_34 ++ b_o cB cC cI cJ cZ oA rA σ_34 ++ b_s cB cC cI cJ cZ oA rA σ_34 ++ b_c cB cC cI cJ cZ oA rA σ_34 ++ b_t cB cC cI cJ cZ oA rA σ_34 ++ b_d cB cC cI cJ cZ oA rA σ_34) H → va_S A s.heap H locs → ∀ ls : Array Slot, lv_has ls 4 [(0, .ref (oA 11)), (1, .int x_9), (2, .int s_11.1)] → W p l e (headSpec (g_ws yX8_perform cX8_perform 4 (some .boolean)) { frames := 10, cells := 0, slots := 0, locals := 245 }).room s m ([.ref (oA 11)] : List Value).toArray below meth c H locs 0 0 (MQ below (va_Qi (fun r (_ : Unit) => r = res.1) (g_Bo (dC, dI) A (fun (_ : Unit) => (b_e cB cC cI cJ cZ oA rA res.2 ++ b_k cB cC cI cJ cZ oA rA res.2 ++ b_p cB cC cI cJ cZ oA rA res.2 ++ b_o cB cC cI cJ cZ oA rA res.2 ++ b_s cB cC cI cJ cZ oA rA res.2 ++ b_c cB cC cI cJ cZ oA rA res.2 ++ b_t cB cC cI cJ cZ oA rA res.2 ++ b_d cB cC cI cJ cZ oA rA res.2))) A) ([.ref (oA 11)] : List Value).toArray s 0 0 A) (F0 m 111 ls []) := by
          intro  σ_34 hF0 H locs hP hS ls hl
          subst ej_35
          have hF_37 := hF0
          clear hF0
          obtain ⟨x_38, ex_38, hF_39⟩ := bnd_e hF_37
          clear hF_37
          refine lv_iinc (v := x_38) (lv' := [(2, .int x_38), (0, .ref (oA 11)), (1, .int x_9)]) hx hb dX8_perform_111 hl (k := 2) rfl (by rw [ex_38]; rfl) (by decide) rfl (fun ls hl => ?_)
          refine lv_goto (tgt := 63) hx hb dX8_perform_114 (by decide) ?_
          exact ih_13 (x_38, σ_34) hF_39 _ _ hP hS ls (lv_sub hl [1, 2, 0] rfl)
        refine lv_if_eq (tgt := 111) hx hb dX8_perform_80 (by decide) (fun c_40 => ?_) (fun c_40 => ?_)
        · have hF_41 := ipos c_40 hF_36
          clear hF_36
          exact Jj_35  u_32.2 hF_41 _ _ hP hS ls (lv_sub hl [0, 1, 2] rfl)
        · have hF_42 := ineg c_40 hF_36
          clear hF_36
          refine lv_aload_n hx hb dX8_perform_83 rfl (lv_at hl 0 rfl) ?_
          refine va_get (D := (dC, dI)) (ci := 8) (v := .ref (oA 10)) (C := RX8) (T := TX8) (N := 16) hx hb hts ii_X8 hown hK hP 0 rfl rfl 2 (by decide) (hts (.fieldLink RX8 30 "StoryHouse$Teller" "machine" "LStoryHouse$Machine;") wq_288) (fun _ h9 => h9) rfl dX8_perform_84 ?_
          refine lv_bipush (v := 100) hx hb dX8_perform_87 (by decide +kernel) ?_
          refine lv_iload_n hx hb dX8_perform_89 rfl (lv_at hl 2 rfl) ?_
          refine lv_iadd hx hb dX8_perform_90 ?_
          obtain ⟨u_43, hu_43, hF_44⟩ := Option.bind_eq_some_iff.mp hF_42
          clear hF_42
          have hPc := hP.sub (ws' := (b_k cB cC cI cJ cZ oA rA u_32.2 ++ b_p cB cC cI cJ cZ oA rA u_32.2 ++ b_o cB cC cI cJ cZ oA rA u_32.2 ++ b_s cB cC cI cJ cZ oA rA u_32.2 ++ b_c cB cC cI cJ cZ oA rA u_32.2 ++ b_t cB cC cI cJ cZ oA rA u_32.2 ++ b_d cB cC cI cJ cZ oA rA u_32.2)) [4, 5, 6, 7, 8, 9, 10, 11, 12, 13, 14, 15, 16, 17, 18, 19, 20, 21, 22, 23, 24, 25, 26, 27, 28, 29, 30, 31, 32, 33, 34, 35, 36, 37, 38, 39, 40, 41, 42, 43, 44, 45, 46, 47, 48, 49] rfl
          have hDc := (hDD u_32.2).sub (ws' := (b_k cB cC cI cJ cZ oA rA u_32.2 ++ b_p cB cC cI cJ cZ oA rA u_32.2 ++ b_o cB cC cI cJ cZ oA rA u_32.2 ++ b_s cB cC cI cJ cZ oA rA u_32.2 ++ b_c cB cC cI cJ cZ oA rA u_32.2 ++ b_t cB cC cI cJ cZ oA rA u_32.2 ++ b_d cB cC cI cJ cZ oA rA u_32.2)) [4, 5, 6, 7, 8, 9, 10, 11, 12, 13, 14, 15, 16, 17, 18, 19, 20, 21, 22, 23, 24, 25, 26, 27, 28, 29, 30, 31, 32, 33, 34, 35, 36, 37, 38, 39, 40, 41, 42, 43, 44, 45, 46, 47, 48, 49] (by decide +kernel) rfl
          have hFc := va_free (wc := (b_k cB cC cI cJ cZ oA rA u_32.2 ++ b_p cB cC cI cJ cZ oA rA u_32.2 ++ b_o cB cC cI cJ cZ oA rA u_32.2 ++ b_s cB cC cI cJ cZ oA rA u_32.2 ++ b_c cB cC cI cJ cZ oA rA u_32.2 ++ b_t cB cC cI cJ cZ oA rA u_32.2 ++ b_d cB cC cI cJ cZ oA rA u_32.2)) (hDD u_32.2) hS hA [4, 5, 6, 7, 8, 9, 10, 11, 12, 13, 14, 15, 16, 17, 18, 19, 20, 21, 22, 23, 24, 25, 26, 27, 28, 29, 30, 31, 32, 33, 34, 35, 36, 37, 38, 39, 40, 41, 42, 43, 44, 45, 46, 47, 48, 49] rfl
          refine g_ofi (wc := (b_k cB cC cI cJ cZ oA rA u_32.2 ++ b_p cB cC cI cJ cZ oA rA u_32.2 ++ b_o cB cC cI cJ cZ oA rA u_32.2 ++ b_s cB cC cI cJ cZ oA rA u_32.2 ++ b_c cB cC cI cJ cZ oA rA u_32.2 ++ b_t cB cC cI cJ cZ oA rA u_32.2 ++ b_d cB cC cI cJ cZ oA rA u_32.2)) (wr := (b_e cB cC cI cJ cZ oA rA u_32.2)) hP (hDD u_32.2) hS hFc [4, 5, 6, 7, 8, 9, 10, 11, 12, 13, 14, 15, 16, 17, 18, 19, 20, 21, 22, 23, 24, 25, 26, 27, 28, 29, 30, 31, 32, 33, 34, 35, 36, 37, 38, 39, 40, 41, 42, 43, 44, 45, 46, 47, 48, 49] [0, 1, 2, 3] rfl rfl (by decide +kernel) (by decide +kernel) (va_runV (As := [.int (100 + s_11.1)]) (rest := []) ⟨hx, hb, hml, hown, hts⟩ (k_X3_run l dC dI cB cC cI cJ cZ cP oA rA H.size  (100 + s_11.1) u_32.2 _ hu_43) (cwV 1 hts (g_gV wq_1127 wq_1128 wq_1129 wq_11 wq_1130) rfl rfl rfl (by decide +kernel) ⟨Nat.le_of_ble_eq_true rfl, Nat.le_of_ble_eq_true rfl⟩) (g_preV g_bl0 hK hPc hDc hS hE hFc g_to0 (q0 := 0) (ci := 3) rfl rfl) rfl rfl hl.1 rfl (lv_room (Nat.le_of_ble_eq_true rfl)) dX8_perform_91 ⟨Nat.le_of_ble_eq_true rfl, Nat.le_of_ble_eq_true rfl⟩) (fun r9 u9 H locs hw9 hP' hD' hS => ?_)
          clear hPc hDc hFc
          subst hw9
          obtain ⟨σ_45, eσ_45, hF_46⟩ := bnd_e hF_44
          clear hF_44
          have hP : va_P (dC, dI) vwCl (b_e cB cC cI cJ cZ oA rA σ_45 ++ b_k cB cC cI cJ cZ oA rA σ_45 ++ b_p cB cC cI cJ cZ oA rA σ_45 ++ b_o cB cC cI cJ cZ oA rA σ_45 ++ b_s cB cC cI cJ cZ oA rA σ_45 ++ b_c cB cC cI cJ cZ oA rA σ_45 ++ b_t cB cC cI cJ cZ oA rA σ_45 ++ b_d cB cC cI cJ cZ oA rA σ_45) H := by rw [eσ_45]; exact hP'.sub [0, 1, 2, 3, 4, 5, 6, 7, 8, 9, 10, 11, 12, 13, 14, 15, 16, 17, 18, 19, 20, 21, 22, 23, 24, 25, 26, 27, 28, 29, 30, 31, 32, 33, 34, 35, 36, 37, 38, 39, 40, 41, 42, 43, 44, 45, 46, 47, 48, 49] rfl
          clear hP' hD'
          refine lv_istore_n (lv' := [(3, .int u_43.1), (0, .ref (oA 11)), (1, .int x_9), (2, .int s_11.1)]) hx hb dX8_perform_94 rfl hl (by decide) rfl (fun ls hl => ?_)
          refine lv_iload_n hx hb dX8_perform_95 rfl (lv_at hl 0 rfl) ?_
          refine lv_iconst (v := 1) hx hb dX8_perform_96 (by decide +kernel) ?_
          refine lv_icmp_eq (tgt := 111) hx hb dX8_perform_97 (by decide) (fun c_47 => ?_) (fun c_47 => ?_)
          · have hF_48 := ipos c_47 hF_46
            clear hF_46
            exact Jj_35  σ_45 hF_48 _ _ hP hS ls (lv_sub hl [1, 2, 3] rfl)
          · have hF_49 := ineg c_47 hF_46
            clear hF_46
            refine lv_iload_n hx hb dX8_perform_100 rfl (lv_at hl 0 rfl) ?_
            refine lv_iconst (v := 2) hx hb dX8_perform_101 (by decide +kernel) ?_
            refine lv_icmp_ne (tgt := 109) hx hb dX8_perform_102 (by decide) (fun c_50 => ?_) (fun c_50 => ?_)
            · have hF_52 := ineg c_50 hF_49
              clear hF_49
              refine lv_iconst (v := 0) hx hb dX8_perform_109 (by decide +kernel) ?_
              have h9 := Option.some.inj hF_52
              subst h9
              exact W.zret (v := 0) hx hb hr (by decide +kernel) (fun t ht hW => ⟨⟨0, (), rfl, rfl, m_end ht hP, hDD _⟩, hS.F ht⟩) hS.2.2 dX8_perform_110
            · have hF_51 := ipos c_50 hF_49
              clear hF_49
              refine lv_iconst (v := 1) hx hb dX8_perform_105 (by decide +kernel) ?_
              refine lv_goto (tgt := 110) hx hb dX8_perform_106 (by decide) ?_
              have h9 := Option.some.inj hF_51
              subst h9
              exact W.zret (v := 1) hx hb hr (by decide +kernel) (fun t ht hW => ⟨⟨1, (), rfl, rfl, m_end ht hP, hDD _⟩, hS.F ht⟩) hS.2.2 dX8_perform_110
  refine lv_icmp_eq (tgt := 49) hx hb dX8_perform_28 (by decide) (fun c_53 => ?_) (fun c_53 => ?_)
  · have hF_54 := ipos c_53 hF_7
    clear hF_7
    exact Jj_6  σ_3 hF_54 _ _ hP hS ls (lv_sub hl [0] rfl)
  · have hF_55 := ineg c_53 hF_7
    clear hF_7
    refine lv_aload_n hx hb dX8_perform_31 rfl (lv_at hl 0 rfl) ?_
    refine va_get (D := (dC, dI)) (ci := 8) (v := .int ((σ_3 11).1 10)) (C := RX8) (T := TX8) (N := 16) hx hb hts ii_X8 hown hK hP 0 rfl rfl 10 (by decide) (hts (.fieldLink RX8 114 "StoryHouse$Teller" "noun" "I") wq_297) (fun _ h9 => h9) rfl dX8_perform_32 ?_
    refine lv_if_eq (tgt := 49) hx hb dX8_perform_35 (by decide) (fun c_56 => ?_) (fun c_56 => ?_)
    · have hF_57 := ipos c_56 hF_55
      clear hF_55
      exact Jj_6  σ_3 hF_57 _ _ hP hS ls (lv_sub hl [0] rfl)
    · have hF_58 := ineg c_56 hF_55
      clear hF_55
      refine lv_aload_n hx hb dX8_perform_38 rfl (lv_at hl 0 rfl) ?_
      refine va_get (D := (dC, dI)) (ci := 8) (v := .ref (oA 9)) (C := RX8) (T := TX8) (N := 16) hx hb hts ii_X8 hown hK hP 0 rfl rfl 0 (by decide) (hts (.fieldLink RX8 22 "StoryHouse$Teller" "play" "LStoryHouse$Play;") wq_286) (fun _ h9 => h9) rfl dX8_perform_39 ?_
      refine lv_aload_n hx hb dX8_perform_42 rfl (lv_at hl 0 rfl) ?_
      refine va_get (D := (dC, dI)) (ci := 8) (v := .int ((σ_3 11).1 10)) (C := RX8) (T := TX8) (N := 16) hx hb hts ii_X8 hown hK hP 0 rfl rfl 10 (by decide) (hts (.fieldLink RX8 114 "StoryHouse$Teller" "noun" "I") wq_297) (fun _ h9 => h9) rfl dX8_perform_43 ?_
      obtain ⟨σ_59, eσ_59, hF_60⟩ := bnd_e hF_58
      clear hF_58
      refine va_put (D := (dC, dI)) (ci := 6) (v := .int ((σ_3 11).1 10)) (ty := .int) (C := RX6) (T := TX6) (N := 12) hx hb hts ii_X6 tyX6 tyX6_ok nmX6 hown hK hP (hDD _) hS 9 rfl rfl 11 (by decide) (hts (.fieldLink RX8 174 "StoryHouse$Play" "it" "I") wq_251) (fun _ h9 => h9) rfl (by decide +kernel) rfl rfl (Nat.le_of_ble_eq_true rfl) dX8_perform_46 (fun H locs hP' _ hS => ?_)
      have hP : va_P (dC, dI) vwCl (b_e cB cC cI cJ cZ oA rA σ_59 ++ b_k cB cC cI cJ cZ oA rA σ_59 ++ b_p cB cC cI cJ cZ oA rA σ_59 ++ b_o cB cC cI cJ cZ oA rA σ_59 ++ b_s cB cC cI cJ cZ oA rA σ_59 ++ b_c cB cC cI cJ cZ oA rA σ_59 ++ b_t cB cC cI cJ cZ oA rA σ_59 ++ b_d cB cC cI cJ cZ oA rA σ_59) H := by rw [eσ_59]; exact cs_ekposctd_p_11 ▸ hP'
      clear hP'
      exact Jj_6  σ_59 hF_60 _ _ hP hS ls (lv_sub hl [0] rfl)
