/-! methods of the class: what each does is its function -/
theorem dX8_nounOf_0 : decode cX8_nounOf 0 = .ok (.aload_n 0, 1) := by decide +kernel
theorem dX8_nounOf_1 : decode cX8_nounOf 1 = .ok (.getfield 22, 3) := by decide +kernel
theorem dX8_nounOf_4 : decode cX8_nounOf 4 = .ok (.invokevirtual 171, 3) := by decide +kernel
theorem dX8_nounOf_7 : decode cX8_nounOf 7 = .ok (.istore_n 3, 1) := by decide +kernel
theorem dX8_nounOf_8 : decode cX8_nounOf 8 = .ok (.iconst 0, 1) := by decide +kernel
theorem dX8_nounOf_9 : decode cX8_nounOf 9 = .ok (.istore 4, 2) := by decide +kernel
theorem dX8_nounOf_11 : decode cX8_nounOf 11 = .ok (.iload_n 2, 1) := by decide +kernel
theorem dX8_nounOf_12 : decode cX8_nounOf 12 = .ok (.iload_n 1, 1) := by decide +kernel
theorem dX8_nounOf_13 : decode cX8_nounOf 13 = .ok (.isub, 1) := by decide +kernel
theorem dX8_nounOf_14 : decode cX8_nounOf 14 = .ok (.iconst 1, 1) := by decide +kernel
theorem dX8_nounOf_15 : decode cX8_nounOf 15 = .ok (.if_icmp .ne 56, 3) := by decide +kernel
theorem dX8_nounOf_18 : decode cX8_nounOf 18 = .ok (.aload_n 0, 1) := by decide +kernel
theorem dX8_nounOf_19 : decode cX8_nounOf 19 = .ok (.iload_n 1, 1) := by decide +kernel
theorem dX8_nounOf_20 : decode cX8_nounOf 20 = .ok (.invokevirtual 55, 3) := by decide +kernel
theorem dX8_nounOf_23 : decode cX8_nounOf 23 = .ok (.iconst 2, 1) := by decide +kernel
theorem dX8_nounOf_24 : decode cX8_nounOf 24 = .ok (.if_icmp .ne 47, 3) := by decide +kernel
theorem dX8_nounOf_27 : decode cX8_nounOf 27 = .ok (.aload_n 0, 1) := by decide +kernel
theorem dX8_nounOf_28 : decode cX8_nounOf 28 = .ok (.getfield 22, 3) := by decide +kernel
theorem dX8_nounOf_31 : decode cX8_nounOf 31 = .ok (.getfield 174, 3) := by decide +kernel
theorem dX8_nounOf_34 : decode cX8_nounOf 34 = .ok (.ifCond .eq 31, 3) := by decide +kernel
theorem dX8_nounOf_37 : decode cX8_nounOf 37 = .ok (.aload_n 0, 1) := by decide +kernel
theorem dX8_nounOf_38 : decode cX8_nounOf 38 = .ok (.getfield 22, 3) := by decide +kernel
theorem dX8_nounOf_41 : decode cX8_nounOf 41 = .ok (.aload_n 0, 1) := by decide +kernel
theorem dX8_nounOf_42 : decode cX8_nounOf 42 = .ok (.getfield 22, 3) := by decide +kernel
theorem dX8_nounOf_45 : decode cX8_nounOf 45 = .ok (.getfield 174, 3) := by decide +kernel
theorem dX8_nounOf_48 : decode cX8_nounOf 48 = .ok (.iload_n 3, 1) := by decide +kernel
theorem dX8_nounOf_49 : decode cX8_nounOf 49 = .ok (.invokevirtual 177, 3) := by decide +kernel
theorem dX8_nounOf_52 : decode cX8_nounOf 52 = .ok (.ifCond .eq 13, 3) := by decide +kernel
theorem dX8_nounOf_55 : decode cX8_nounOf 55 = .ok (.aload_n 0, 1) := by decide +kernel
theorem dX8_nounOf_56 : decode cX8_nounOf 56 = .ok (.getfield 22, 3) := by decide +kernel
theorem dX8_nounOf_59 : decode cX8_nounOf 59 = .ok (.getfield 174, 3) := by decide +kernel
theorem dX8_nounOf_62 : decode cX8_nounOf 62 = .ok (.goto 4, 3) := by decide +kernel
theorem dX8_nounOf_65 : decode cX8_nounOf 65 = .ok (.iconst 0, 1) := by decide +kernel
theorem dX8_nounOf_66 : decode cX8_nounOf 66 = .ok (.istore 4, 2) := by decide +kernel
theorem dX8_nounOf_68 : decode cX8_nounOf 68 = .ok (.goto 75, 3) := by decide +kernel
theorem dX8_nounOf_71 : decode cX8_nounOf 71 = .ok (.iconst 1, 1) := by decide +kernel
theorem dX8_nounOf_72 : decode cX8_nounOf 72 = .ok (.istore 5, 2) := by decide +kernel
theorem dX8_nounOf_74 : decode cX8_nounOf 74 = .ok (.iload 5, 2) := by decide +kernel
theorem dX8_nounOf_76 : decode cX8_nounOf 76 = .ok (.bipush 120, 2) := by decide +kernel
theorem dX8_nounOf_78 : decode cX8_nounOf 78 = .ok (.if_icmp .gt 65, 3) := by decide +kernel
theorem dX8_nounOf_81 : decode cX8_nounOf 81 = .ok (.aload_n 0, 1) := by decide +kernel
theorem dX8_nounOf_82 : decode cX8_nounOf 82 = .ok (.getfield 85, 3) := by decide +kernel
theorem dX8_nounOf_85 : decode cX8_nounOf 85 = .ok (.iload 5, 2) := by decide +kernel
theorem dX8_nounOf_87 : decode cX8_nounOf 87 = .ok (.invokevirtual 181, 3) := by decide +kernel
theorem dX8_nounOf_90 : decode cX8_nounOf 90 = .ok (.ifCond .eq 53, 3) := by decide +kernel
theorem dX8_nounOf_93 : decode cX8_nounOf 93 = .ok (.aload_n 0, 1) := by decide +kernel
theorem dX8_nounOf_94 : decode cX8_nounOf 94 = .ok (.iload 5, 2) := by decide +kernel
theorem dX8_nounOf_96 : decode cX8_nounOf 96 = .ok (.iload_n 1, 1) := by decide +kernel
theorem dX8_nounOf_97 : decode cX8_nounOf 97 = .ok (.iload_n 2, 1) := by decide +kernel
theorem dX8_nounOf_98 : decode cX8_nounOf 98 = .ok (.invokevirtual 184, 3) := by decide +kernel
theorem dX8_nounOf_101 : decode cX8_nounOf 101 = .ok (.ifCond .eq 36, 3) := by decide +kernel
theorem dX8_nounOf_104 : decode cX8_nounOf 104 = .ok (.aload_n 0, 1) := by decide +kernel
theorem dX8_nounOf_105 : decode cX8_nounOf 105 = .ok (.getfield 22, 3) := by decide +kernel
theorem dX8_nounOf_108 : decode cX8_nounOf 108 = .ok (.iload 5, 2) := by decide +kernel
theorem dX8_nounOf_110 : decode cX8_nounOf 110 = .ok (.iload_n 3, 1) := by decide +kernel
theorem dX8_nounOf_111 : decode cX8_nounOf 111 = .ok (.invokevirtual 177, 3) := by decide +kernel
theorem dX8_nounOf_114 : decode cX8_nounOf 114 = .ok (.ifCond .eq 23, 3) := by decide +kernel
theorem dX8_nounOf_117 : decode cX8_nounOf 117 = .ok (.iload 4, 2) := by decide +kernel
theorem dX8_nounOf_119 : decode cX8_nounOf 119 = .ok (.ifCond .eq 14, 3) := by decide +kernel
theorem dX8_nounOf_122 : decode cX8_nounOf 122 = .ok (.aload_n 0, 1) := by decide +kernel
theorem dX8_nounOf_123 : decode cX8_nounOf 123 = .ok (.getfield 26, 3) := by decide +kernel
theorem dX8_nounOf_126 : decode cX8_nounOf 126 = .ok (.ldc 188, 2) := by decide +kernel
theorem dX8_nounOf_128 : decode cX8_nounOf 128 = .ok (.invokevirtual 65, 3) := by decide +kernel
theorem dX8_nounOf_131 : decode cX8_nounOf 131 = .ok (.iconst 0, 1) := by decide +kernel
theorem dX8_nounOf_132 : decode cX8_nounOf 132 = .ok (.ireturn, 1) := by decide +kernel
theorem dX8_nounOf_133 : decode cX8_nounOf 133 = .ok (.iload 5, 2) := by decide +kernel
theorem dX8_nounOf_135 : decode cX8_nounOf 135 = .ok (.istore 4, 2) := by decide +kernel
theorem dX8_nounOf_137 : decode cX8_nounOf 137 = .ok (.iinc 5 1, 3) := by decide +kernel
theorem dX8_nounOf_140 : decode cX8_nounOf 140 = .ok (.goto (-66), 3) := by decide +kernel
theorem dX8_nounOf_143 : decode cX8_nounOf 143 = .ok (.iload 4, 2) := by decide +kernel
theorem dX8_nounOf_145 : decode cX8_nounOf 145 = .ok (.ifCond .ne 12, 3) := by decide +kernel
theorem dX8_nounOf_148 : decode cX8_nounOf 148 = .ok (.aload_n 0, 1) := by decide +kernel
theorem dX8_nounOf_149 : decode cX8_nounOf 149 = .ok (.getfield 26, 3) := by decide +kernel
theorem dX8_nounOf_152 : decode cX8_nounOf 152 = .ok (.ldc 190, 2) := by decide +kernel
theorem dX8_nounOf_154 : decode cX8_nounOf 154 = .ok (.invokevirtual 65, 3) := by decide +kernel
theorem dX8_nounOf_157 : decode cX8_nounOf 157 = .ok (.iload 4, 2) := by decide +kernel
theorem dX8_nounOf_159 : decode cX8_nounOf 159 = .ok (.ireturn, 1) := by decide +kernel
def F_X8_nounOf (p0 : Int32) (p1 : Int32) (Γ : HS) : HR :=
  (F_X6_isLight Γ).bind fun u_1 =>
  bnd (mrg (fun j => j == 9) Γ u_1.2) fun σ_3 =>
  bnd (fun (v4_5 : Int32) (σ_6 : HS) => (
    if v4_5 = 0 then (
      (F_X5_line ([89, 111, 117, 32, 115, 101, 101, 32, 110, 111, 32, 115, 117, 99, 104, 32, 116, 104, 105, 110, 103, 46] : List Int32) σ_6).bind fun u_13 =>
      bnd (mrg (fun j => j == 8) σ_6 u_13.2) fun σ_15 =>
      some (v4_5, σ_15)
    ) else (
      some (v4_5, σ_6)
    )
  ) : Int32 → HS → HR) fun j_7 =>
  bnd (fun  (σ_18 : HS) => (
    loopF (fun (again_23 : (Int32 × Int32 × HS) → HR) (s_22 : Int32 × Int32 × HS) => (
      if 120 < s_22.2.1 then (
        j_7 s_22.1 s_22.2.2
      ) else (
        (F_X7_isObject s_22.2.1 s_22.2.2).bind fun u_29 =>
        bnd (mrg (fun j => j == 4 || j == 5 || j == 6 || j == 7) s_22.2.2 u_29.2) fun σ_31 =>
        if u_29.1 = 0 then (
          j_7 s_22.1 σ_31
        ) else (
          (F_X8_isNamed s_22.2.1 p0 p1 σ_31).bind fun u_36 =>
          bnd (fun (v4_38 : Int32) (σ_39 : HS) => (
            bnd (s_22.2.1 + 1) fun (x_43 : Int32) =>
            again_23 (v4_38, x_43, σ_39)
          ) : Int32 → HS → HR) fun j_40 =>
          if u_36.1 = 0 then (
            j_40 s_22.1 u_36.2
          ) else (
            (F_X6_isInScope s_22.2.1 u_1.1 u_36.2).bind fun u_48 =>
            bnd (mrg (fun j => j == 9) u_36.2 u_48.2) fun σ_50 =>
            if u_48.1 = 0 then (
              j_40 s_22.1 σ_50
            ) else (
              if s_22.1 = 0 then (
                j_40 s_22.2.1 σ_50
              ) else (
                (F_X5_line ([87, 104, 105, 99, 104, 32, 111, 110, 101, 32, 100, 111, 32, 121, 111, 117, 32, 109, 101, 97, 110, 63] : List Int32) σ_50).bind fun u_59 =>
                bnd (mrg (fun j => j == 8) σ_50 u_59.2) fun σ_61 =>
                some (0, σ_61)
              )
            )
          )
        )
      )
    )) FU (0, 1, σ_18)
  ) : HS → HR) fun j_19 =>
  if (p1 - p0) = 1 then (
    (F_X8_term p0 σ_3).bind fun u_65 =>
    if u_65.1 = 2 then (
      bnd (fun (t_69 : Int32) (σ_70 : HS) => (
        j_7 t_69 σ_70
      ) : Int32 → HS → HR) fun j_71 =>
      bnd (fun  (σ_74 : HS) => (
        j_71 0 σ_74
      ) : HS → HR) fun j_75 =>
      if ((u_65.2 9).1 11) = 0 then (
        j_75  u_65.2
      ) else (
        (F_X6_isInScope ((u_65.2 9).1 11) u_1.1 u_65.2).bind fun u_81 =>
        bnd (mrg (fun j => j == 9) u_65.2 u_81.2) fun σ_83 =>
        if u_81.1 = 0 then (
          j_75  σ_83
        ) else (
          j_71 ((σ_83 9).1 11) σ_83
        )
      )
    ) else (
      j_19  u_65.2
    )
  ) else (
    j_19  σ_3
  )
set_option maxHeartbeats 4000000 in
set_option maxRecDepth 100000 in
theorem k_X8_nounOf (l : Launch) (dC : Nat → ClassId) (dI : Nat → Nat → Nat) (cB cC cI cJ cZ cP : ClassId) (oA : Nat → Nat) (rA : Nat → Nat → Nat) (sz : Nat)  (p0 : Int32) (p1 : Int32) (Γ : HS) (res : Int32 × HS) (hF : F_X8_nounOf p0 p1 Γ = some res) : Met l yX8_nounOf (g_ws yX8_nounOf cX8_nounOf 6 (some .int)) ({ frames := 7, cells := 0, slots := 0, locals := 168 }) (va_Pc [.ref (oA 11), .int p0, .int p1] (g_B (dC, dI) [(cB, .byte), (cC, .char), (cI, .int), (cJ, .long), (cZ, .boolean), (cP, .object "StoryHouse$Play")] sz (b_e cB cC cI cJ cZ oA rA Γ ++ b_k cB cC cI cJ cZ oA rA Γ ++ b_p cB cC cI cJ cZ oA rA Γ ++ b_o cB cC cI cJ cZ oA rA Γ ++ b_s cB cC cI cJ cZ oA rA Γ ++ b_c cB cC cI cJ cZ oA rA Γ ++ b_t cB cC cI cJ cZ oA rA Γ ++ b_d cB cC cI cJ cZ oA rA Γ) g_0)) (va_Qi (fun r (_ : Unit) => r = res.1) (g_Bo (dC, dI) (va_A (b_e cB cC cI cJ cZ oA rA Γ ++ b_k cB cC cI cJ cZ oA rA Γ ++ b_p cB cC cI cJ cZ oA rA Γ ++ b_o cB cC cI cJ cZ oA rA Γ ++ b_s cB cC cI cJ cZ oA rA Γ ++ b_c cB cC cI cJ cZ oA rA Γ ++ b_t cB cC cI cJ cZ oA rA Γ ++ b_d cB cC cI cJ cZ oA rA Γ) sz) (fun (_ : Unit) => (b_e cB cC cI cJ cZ oA rA res.2 ++ b_k cB cC cI cJ cZ oA rA res.2 ++ b_p cB cC cI cJ cZ oA rA res.2 ++ b_o cB cC cI cJ cZ oA rA res.2 ++ b_s cB cC cI cJ cZ oA rA res.2 ++ b_c cB cC cI cJ cZ oA rA res.2 ++ b_t cB cC cI cJ cZ oA rA res.2 ++ b_d cB cC cI cJ cZ oA rA res.2))) (va_A (b_e cB cC cI cJ cZ oA rA Γ ++ b_k cB cC cI cJ cZ oA rA Γ ++ b_p cB cC cI cJ cZ oA rA Γ ++ b_o cB cC cI cJ cZ oA rA Γ ++ b_s cB cC cI cJ cZ oA rA Γ ++ b_c cB cC cI cJ cZ oA rA Γ ++ b_t cB cC cI cJ cZ oA rA Γ ++ b_d cB cC cI cJ cZ oA rA Γ) sz)) 0 0 (va_A (b_e cB cC cI cJ cZ oA rA Γ ++ b_k cB cC cI cJ cZ oA rA Γ ++ b_p cB cC cI cJ cZ oA rA Γ ++ b_o cB cC cI cJ cZ oA rA Γ ++ b_s cB cC cI cJ cZ oA rA Γ ++ b_c cB cC cI cJ cZ oA rA Γ ++ b_t cB cC cI cJ cZ oA rA Γ ++ b_d cB cC cI cJ cZ oA rA Γ) sz) := by
  refine Met.ofW (cc := cX8_nounOf) (maxL := 6) (ret := (some .int)) (by decide) rfl ?_
  intro p e s m args below meth c s₁ B hml hv
  obtain ⟨rfl, hsz, hP, hK, hD0, hE, hX⟩ := hv
  have hx := B.exec
  have hb := B.bytes
  have hr := B.returns
  have hts0 := atoms_spec (ws := g_ws yX8_nounOf cX8_nounOf 6 (some .int)) B.pre
  have hts : ∀ w ∈ lw_good, w.before ([.ref (oA 11), .int p0, .int p1] : List Value).toArray s = true := fun w z => hts0 w (List.mem_cons_of_mem _ z)
  have hown : s.vm.findClass RX8 = some m.cls := findClass_of_methodNamed B.named
  have hlocks := B.notSynchronized
  subst hsz
  have hD1 := hD0.self (sz := s.heap.size)
  generalize hAe : va_A (b_e cB cC cI cJ cZ oA rA Γ ++ b_k cB cC cI cJ cZ oA rA Γ ++ b_p cB cC cI cJ cZ oA rA Γ ++ b_o cB cC cI cJ cZ oA rA Γ ++ b_s cB cC cI cJ cZ oA rA Γ ++ b_c cB cC cI cJ cZ oA rA Γ ++ b_t cB cC cI cJ cZ oA rA Γ ++ b_d cB cC cI cJ cZ oA rA Γ) s.heap.size = A at hD1 hE hX ⊢
  have hA : ∀ q : Nat, s.heap.size ≤ q → A q := fun q z => by rw [← hAe]; exact Or.inr z
  have hDD : ∀ Γ : HS, va_D A (b_e cB cC cI cJ cZ oA rA Γ ++ b_k cB cC cI cJ cZ oA rA Γ ++ b_p cB cC cI cJ cZ oA rA Γ ++ b_o cB cC cI cJ cZ oA rA Γ ++ b_s cB cC cI cJ cZ oA rA Γ ++ b_c cB cC cI cJ cZ oA rA Γ ++ b_t cB cC cI cJ cZ oA rA Γ ++ b_d cB cC cI cJ cZ oA rA Γ) := fun Γ9 => va_D_fst (ws := (b_e cB cC cI cJ cZ oA rA Γ ++ b_k cB cC cI cJ cZ oA rA Γ ++ b_p cB cC cI cJ cZ oA rA Γ ++ b_o cB cC cI cJ cZ oA rA Γ ++ b_s cB cC cI cJ cZ oA rA Γ ++ b_c cB cC cI cJ cZ oA rA Γ ++ b_t cB cC cI cJ cZ oA rA Γ ++ b_d cB cC cI cJ cZ oA rA Γ)) (ws' := (b_e cB cC cI cJ cZ oA rA Γ9 ++ b_k cB cC cI cJ cZ oA rA Γ9 ++ b_p cB cC cI cJ cZ oA rA Γ9 ++ b_o cB cC cI cJ cZ oA rA Γ9 ++ b_s cB cC cI cJ cZ oA rA Γ9 ++ b_c cB cC cI cJ cZ oA rA Γ9 ++ b_t cB cC cI cJ cZ oA rA Γ9 ++ b_d cB cC cI cJ cZ oA rA Γ9)) rfl hD1
  have hN := hE.1
  have hS : va_S A s.heap s.heap [] := va_S.rf
  have hl := lv_entry ([.ref (oA 11), .int p0, .int p1]) (n := 6) (Nat.le_of_ble_eq_true rfl)
  rw [lg_entry_eq]
  generalize (lg_sl ([.ref (oA 11), .int p0, .int p1]) ++ List.replicate (6 - (lg_sl ([.ref (oA 11), .int p0, .int p1])).length) Slot.unset).toArray = ls at hl ⊢
  have hl : lv_has ls 6 [(0, .ref (oA 11)), (1, .int p0), (2, .int p1)] := hl
  unfold F_X8_nounOf at hF
  refine lv_aload_n hx hb dX8_nounOf_0 rfl (lv_at hl 0 rfl) ?_
  refine va_get (D := (dC, dI)) (ci := 8) (v := .ref (oA 9)) (C := RX8) (T := TX8) (N := 16) hx hb hts ii_X8 hown hK hP 0 rfl rfl 0 (by decide) (hts (.fieldLink RX8 22 "StoryHouse$Teller" "play" "LStoryHouse$Play;") wq_286) (fun _ h9 => h9) rfl dX8_nounOf_1 ?_
  obtain ⟨u_1, hu_1, hF_2⟩ := Option.bind_eq_some_iff.mp hF
  clear hF
  have hPc := bx_P (bs := [b_e cB cC cI cJ cZ oA rA Γ, b_k cB cC cI cJ cZ oA rA Γ, b_p cB cC cI cJ cZ oA rA Γ, b_o cB cC cI cJ cZ oA rA Γ, b_s cB cC cI cJ cZ oA rA Γ, b_c cB cC cI cJ cZ oA rA Γ, b_t cB cC cI cJ cZ oA rA Γ, b_d cB cC cI cJ cZ oA rA Γ]) (bs' := [b_p cB cC cI cJ cZ oA rA Γ]) (ws' := (b_p cB cC cI cJ cZ oA rA Γ)) hP fl_8 fl_1 [2] rfl
  have hDc := bx_D (bs := [b_e cB cC cI cJ cZ oA rA Γ, b_k cB cC cI cJ cZ oA rA Γ, b_p cB cC cI cJ cZ oA rA Γ, b_o cB cC cI cJ cZ oA rA Γ, b_s cB cC cI cJ cZ oA rA Γ, b_c cB cC cI cJ cZ oA rA Γ, b_t cB cC cI cJ cZ oA rA Γ, b_d cB cC cI cJ cZ oA rA Γ]) (bs' := [b_p cB cC cI cJ cZ oA rA Γ]) (ws' := (b_p cB cC cI cJ cZ oA rA Γ)) (hDD Γ) fl_8 fl_1 [2] (by decide +kernel) rfl
  have hFc := bx_F (bs := [b_e cB cC cI cJ cZ oA rA Γ, b_k cB cC cI cJ cZ oA rA Γ, b_p cB cC cI cJ cZ oA rA Γ, b_o cB cC cI cJ cZ oA rA Γ, b_s cB cC cI cJ cZ oA rA Γ, b_c cB cC cI cJ cZ oA rA Γ, b_t cB cC cI cJ cZ oA rA Γ, b_d cB cC cI cJ cZ oA rA Γ]) (bs' := [b_p cB cC cI cJ cZ oA rA Γ]) (wc := (b_p cB cC cI cJ cZ oA rA Γ)) (hDD Γ) hS hA fl_8 fl_1 [2] rfl
  refine g_ofi (wc := (b_p cB cC cI cJ cZ oA rA Γ)) (wr := (b_e cB cC cI cJ cZ oA rA Γ ++ b_k cB cC cI cJ cZ oA rA Γ ++ b_o cB cC cI cJ cZ oA rA Γ ++ b_s cB cC cI cJ cZ oA rA Γ ++ b_c cB cC cI cJ cZ oA rA Γ ++ b_t cB cC cI cJ cZ oA rA Γ ++ b_d cB cC cI cJ cZ oA rA Γ)) hP (hDD Γ) hS hFc (bx_ix [b_e cB cC cI cJ cZ oA rA Γ, b_k cB cC cI cJ cZ oA rA Γ, b_p cB cC cI cJ cZ oA rA Γ, b_o cB cC cI cJ cZ oA rA Γ, b_s cB cC cI cJ cZ oA rA Γ, b_c cB cC cI cJ cZ oA rA Γ, b_t cB cC cI cJ cZ oA rA Γ, b_d cB cC cI cJ cZ oA rA Γ] [2]) (bx_ix [b_e cB cC cI cJ cZ oA rA Γ, b_k cB cC cI cJ cZ oA rA Γ, b_p cB cC cI cJ cZ oA rA Γ, b_o cB cC cI cJ cZ oA rA Γ, b_s cB cC cI cJ cZ oA rA Γ, b_c cB cC cI cJ cZ oA rA Γ, b_t cB cC cI cJ cZ oA rA Γ, b_d cB cC cI cJ cZ oA rA Γ] [0, 1, 3, 4, 5, 6, 7]) (bx_C (bs := [b_e cB cC cI cJ cZ oA rA Γ, b_k cB cC cI cJ cZ oA rA Γ, b_p cB cC cI cJ cZ oA rA Γ, b_o cB cC cI cJ cZ oA rA Γ, b_s cB cC cI cJ cZ oA rA Γ, b_c cB cC cI cJ cZ oA rA Γ, b_t cB cC cI cJ cZ oA rA Γ, b_d cB cC cI cJ cZ oA rA Γ]) (bs' := [b_p cB cC cI cJ cZ oA rA Γ]) (is := [2]) fl_8 fl_1 rfl) (bx_C (bs := [b_e cB cC cI cJ cZ oA rA Γ, b_k cB cC cI cJ cZ oA rA Γ, b_p cB cC cI cJ cZ oA rA Γ, b_o cB cC cI cJ cZ oA rA Γ, b_s cB cC cI cJ cZ oA rA Γ, b_c cB cC cI cJ cZ oA rA Γ, b_t cB cC cI cJ cZ oA rA Γ, b_d cB cC cI cJ cZ oA rA Γ]) (bs' := [b_e cB cC cI cJ cZ oA rA Γ, b_k cB cC cI cJ cZ oA rA Γ, b_o cB cC cI cJ cZ oA rA Γ, b_s cB cC cI cJ cZ oA rA Γ, b_c cB cC cI cJ cZ oA rA Γ, b_t cB cC cI cJ cZ oA rA Γ, b_d cB cC cI cJ cZ oA rA Γ]) (is := [0, 1, 3, 4, 5, 6, 7]) fl_8 fl_7 rfl) (bx_n (by decide +kernel)) (bx_d (by decide +kernel)) (va_runV (As := []) (rest := []) ⟨hx, hb, hml, hown, hts⟩ (k_X6_isLight l dC dI cB cC cI cJ cZ cP oA rA s.heap.size  Γ _ hu_1) (cwV 0 hts (g_gV wq_978 wq_979 wq_980 wq_10 wq_981) rfl rfl rfl (by decide +kernel) ⟨Nat.le_of_ble_eq_true rfl, Nat.le_of_ble_eq_true rfl⟩) (g_preV g_bl0 hK hPc hDc hS hE hFc g_to0 (q0 := 0) (ci := 6) rfl rfl) rfl rfl hl.1 rfl (lv_room (Nat.le_of_ble_eq_true rfl)) dX8_nounOf_4 ⟨Nat.le_of_ble_eq_true rfl, Nat.le_of_ble_eq_true rfl⟩) (fun r9 u9 H locs hw9 hP' hD' hS => ?_)
  clear hPc hDc hFc
  subst hw9
  obtain ⟨σ_3, eσ_3, hF_4⟩ := bnd_e hF_2
  clear hF_2
  have hP : va_P (dC, dI) vwCl (b_e cB cC cI cJ cZ oA rA σ_3 ++ b_k cB cC cI cJ cZ oA rA σ_3 ++ b_p cB cC cI cJ cZ oA rA σ_3 ++ b_o cB cC cI cJ cZ oA rA σ_3 ++ b_s cB cC cI cJ cZ oA rA σ_3 ++ b_c cB cC cI cJ cZ oA rA σ_3 ++ b_t cB cC cI cJ cZ oA rA σ_3 ++ b_d cB cC cI cJ cZ oA rA σ_3) H := by rw [eσ_3]; exact bx_P (bs := [b_e cB cC cI cJ cZ oA rA Γ, b_k cB cC cI cJ cZ oA rA Γ, b_o cB cC cI cJ cZ oA rA Γ, b_s cB cC cI cJ cZ oA rA Γ, b_c cB cC cI cJ cZ oA rA Γ, b_t cB cC cI cJ cZ oA rA Γ, b_d cB cC cI cJ cZ oA rA Γ] ++ [b_p cB cC cI cJ cZ oA rA u_1.2]) (bs' := [b_e cB cC cI cJ cZ oA rA (mrg (fun j => j == 9) Γ u_1.2), b_k cB cC cI cJ cZ oA rA (mrg (fun j => j == 9) Γ u_1.2), b_p cB cC cI cJ cZ oA rA (mrg (fun j => j == 9) Γ u_1.2), b_o cB cC cI cJ cZ oA rA (mrg (fun j => j == 9) Γ u_1.2), b_s cB cC cI cJ cZ oA rA (mrg (fun j => j == 9) Γ u_1.2), b_c cB cC cI cJ cZ oA rA (mrg (fun j => j == 9) Γ u_1.2), b_t cB cC cI cJ cZ oA rA (mrg (fun j => j == 9) Γ u_1.2), b_d cB cC cI cJ cZ oA rA (mrg (fun j => j == 9) Γ u_1.2)]) hP' (fl_a fl_7 fl_1) fl_8 [0, 1, 7, 2, 3, 4, 5, 6] rfl
  clear hP' hD'
  refine lv_istore_n (lv' := [(3, .int u_1.1), (0, .ref (oA 11)), (1, .int p0), (2, .int p1)]) hx hb dX8_nounOf_7 rfl hl (by decide) rfl (fun ls hl => ?_)
  refine lv_iconst (v := 0) hx hb dX8_nounOf_8 (by decide +kernel) ?_
  refine lv_istore (lv' := [(4, .int 0), (3, .int u_1.1), (0, .ref (oA 11)), (1, .int p0), (2, .int p1)]) hx hb dX8_nounOf_9 hl (by decide) rfl (fun ls hl => ?_)
  refine lv_iload_n hx hb dX8_nounOf_11 rfl (lv_at hl 4 rfl) ?_
  refine lv_iload_n hx hb dX8_nounOf_12 rfl (lv_at hl 3 rfl) ?_
  refine lv_isub hx hb dX8_nounOf_13 ?_
  refine lv_iconst (v := 1) hx hb dX8_nounOf_14 (by decide +kernel) ?_
  obtain ⟨j_7, ej_7, hF_8⟩ := bnd_e hF_4
  clear hF_4
  have Jj_7 : ∀ (v4_5 : Int32) (σ_6 : HS), j_7 v4_5 σ_6 = some res → ∀ (H : Heap) (locs : List Loc), va_P (dC, dI) vwCl (b_e cB cC cI cJ cZ oA rA σ_6 ++ b_k cB cC cI cJ cZ oA rA σ_6 ++ b_p cB cC cI cJ cZ oA rA σ_6 ++ b_o cB cC cI cJ cZ oA rA σ_6 ++ b_s cB cC cI cJ cZ oA rA σ_6 ++ b_c cB cC cI cJ cZ oA rA σ_6 ++ b_t cB cC cI cJ cZ oA rA σ_6 ++ b_d cB cC cI cJ cZ oA rA σ_6) H → va_S A s.heap H locs → ∀ ls : Array Slot, lv_has ls 6 [(0, .ref (oA 11)), (4, .int v4_5)] → W p l e (headSpec (g_ws yX8_nounOf cX8_nounOf 6 (some .int)) { frames := 7, cells := 0, slots := 0, locals := 168 }).room s m ([.ref (oA 11), .int p0, .int p1] : List Value).toArray below meth c H locs 0 0 (MQ below (va_Qi (fun r (_ : Unit) => r = res.1) (g_Bo (dC, dI) A (fun (_ : Unit) => (b_e cB cC cI cJ cZ oA rA res.2 ++ b_k cB cC cI cJ cZ oA rA res.2 ++ b_p cB cC cI cJ cZ oA rA res.2 ++ b_o cB cC cI cJ cZ oA rA res.2 ++ b_s cB cC cI cJ cZ oA rA res.2 ++ b_c cB cC cI cJ cZ oA rA res.2 ++ b_t cB cC cI cJ cZ oA rA res.2 ++ b_d cB cC cI cJ cZ oA rA res.2))) A) ([.ref (oA 11), .int p0, .int p1] : List Value).toArray s 0 0 A) (F0 m 143 ls []) := by
    intro v4_5 σ_6 hF0 H locs hP hS ls hl
    subst ej_7
    have hF_9 := hF0
    clear hF0
    refine lv_iload hx hb dX8_nounOf_143 (lv_at hl 1 rfl) ?_
    refine lv_if_ne (tgt := 157) hx hb dX8_nounOf_145 (by decide) (fun c_10 => ?_) (fun c_10 => ?_)
    · have hF_17 := ineg c_10 hF_9
      clear hF_9
      refine lv_iload hx hb dX8_nounOf_157 (lv_at hl 1 rfl) ?_
      have h9 := Option.some.inj hF_17
      subst h9
      exact W.iret (v := v4_5) hx hb hr (fun t ht hW => ⟨⟨v4_5, (), rfl, rfl, m_end ht hP, hDD _⟩, hS.F ht⟩) hS.2.2 dX8_nounOf_159
    · have hF_11 := ipos c_10 hF_9
      clear hF_9
      refine lv_aload_n hx hb dX8_nounOf_148 rfl (lv_at hl 0 rfl) ?_
      refine va_get (D := (dC, dI)) (ci := 8) (v := .ref (oA 8)) (C := RX8) (T := TX8) (N := 16) hx hb hts ii_X8 hown hK hP 0 rfl rfl 1 (by decide) (hts (.fieldLink RX8 26 "StoryHouse$Teller" "told" "LStoryHouse$Out;") wq_287) (fun _ h9 => h9) rfl dX8_nounOf_149 ?_
      obtain ⟨q_12, vq_12, hRq_12, hSq_12⟩ := hE.2.2.2.2 _ (List.mem_of_getElem? (i := 44) rfl)
      refine va_ldcS (own := RX8) (tx := "You see no such thing.") hx hb hown hRq_12 dX8_nounOf_152 ?_
      obtain ⟨u_13, hu_13, hF_14⟩ := Option.bind_eq_some_iff.mp hF_11
      clear hF_11
      have hPc := bx_P (bs := [b_e cB cC cI cJ cZ oA rA σ_6, b_k cB cC cI cJ cZ oA rA σ_6, b_p cB cC cI cJ cZ oA rA σ_6, b_o cB cC cI cJ cZ oA rA σ_6, b_s cB cC cI cJ cZ oA rA σ_6, b_c cB cC cI cJ cZ oA rA σ_6, b_t cB cC cI cJ cZ oA rA σ_6, b_d cB cC cI cJ cZ oA rA σ_6]) (bs' := [b_o cB cC cI cJ cZ oA rA σ_6]) (ws' := (b_o cB cC cI cJ cZ oA rA σ_6)) hP fl_8 fl_1 [3] rfl
      have hDc := bx_D (bs := [b_e cB cC cI cJ cZ oA rA σ_6, b_k cB cC cI cJ cZ oA rA σ_6, b_p cB cC cI cJ cZ oA rA σ_6, b_o cB cC cI cJ cZ oA rA σ_6, b_s cB cC cI cJ cZ oA rA σ_6, b_c cB cC cI cJ cZ oA rA σ_6, b_t cB cC cI cJ cZ oA rA σ_6, b_d cB cC cI cJ cZ oA rA σ_6]) (bs' := [b_o cB cC cI cJ cZ oA rA σ_6]) (ws' := (b_o cB cC cI cJ cZ oA rA σ_6)) (hDD σ_6) fl_8 fl_1 [3] (by decide +kernel) rfl
      have hFc := bx_F (bs := [b_e cB cC cI cJ cZ oA rA σ_6, b_k cB cC cI cJ cZ oA rA σ_6, b_p cB cC cI cJ cZ oA rA σ_6, b_o cB cC cI cJ cZ oA rA σ_6, b_s cB cC cI cJ cZ oA rA σ_6, b_c cB cC cI cJ cZ oA rA σ_6, b_t cB cC cI cJ cZ oA rA σ_6, b_d cB cC cI cJ cZ oA rA σ_6]) (bs' := [b_o cB cC cI cJ cZ oA rA σ_6]) (wc := (b_o cB cC cI cJ cZ oA rA σ_6)) (hDD σ_6) hS hA fl_8 fl_1 [3] rfl
      refine g_ofv (wc := (b_o cB cC cI cJ cZ oA rA σ_6)) (wr := (b_e cB cC cI cJ cZ oA rA σ_6 ++ b_k cB cC cI cJ cZ oA rA σ_6 ++ b_p cB cC cI cJ cZ oA rA σ_6 ++ b_s cB cC cI cJ cZ oA rA σ_6 ++ b_c cB cC cI cJ cZ oA rA σ_6 ++ b_t cB cC cI cJ cZ oA rA σ_6 ++ b_d cB cC cI cJ cZ oA rA σ_6)) hP (hDD σ_6) hS hFc (bx_ix [b_e cB cC cI cJ cZ oA rA σ_6, b_k cB cC cI cJ cZ oA rA σ_6, b_p cB cC cI cJ cZ oA rA σ_6, b_o cB cC cI cJ cZ oA rA σ_6, b_s cB cC cI cJ cZ oA rA σ_6, b_c cB cC cI cJ cZ oA rA σ_6, b_t cB cC cI cJ cZ oA rA σ_6, b_d cB cC cI cJ cZ oA rA σ_6] [3]) (bx_ix [b_e cB cC cI cJ cZ oA rA σ_6, b_k cB cC cI cJ cZ oA rA σ_6, b_p cB cC cI cJ cZ oA rA σ_6, b_o cB cC cI cJ cZ oA rA σ_6, b_s cB cC cI cJ cZ oA rA σ_6, b_c cB cC cI cJ cZ oA rA σ_6, b_t cB cC cI cJ cZ oA rA σ_6, b_d cB cC cI cJ cZ oA rA σ_6] [0, 1, 2, 4, 5, 6, 7]) (bx_C (bs := [b_e cB cC cI cJ cZ oA rA σ_6, b_k cB cC cI cJ cZ oA rA σ_6, b_p cB cC cI cJ cZ oA rA σ_6, b_o cB cC cI cJ cZ oA rA σ_6, b_s cB cC cI cJ cZ oA rA σ_6, b_c cB cC cI cJ cZ oA rA σ_6, b_t cB cC cI cJ cZ oA rA σ_6, b_d cB cC cI cJ cZ oA rA σ_6]) (bs' := [b_o cB cC cI cJ cZ oA rA σ_6]) (is := [3]) fl_8 fl_1 rfl) (bx_C (bs := [b_e cB cC cI cJ cZ oA rA σ_6, b_k cB cC cI cJ cZ oA rA σ_6, b_p cB cC cI cJ cZ oA rA σ_6, b_o cB cC cI cJ cZ oA rA σ_6, b_s cB cC cI cJ cZ oA rA σ_6, b_c cB cC cI cJ cZ oA rA σ_6, b_t cB cC cI cJ cZ oA rA σ_6, b_d cB cC cI cJ cZ oA rA σ_6]) (bs' := [b_e cB cC cI cJ cZ oA rA σ_6, b_k cB cC cI cJ cZ oA rA σ_6, b_p cB cC cI cJ cZ oA rA σ_6, b_s cB cC cI cJ cZ oA rA σ_6, b_c cB cC cI cJ cZ oA rA σ_6, b_t cB cC cI cJ cZ oA rA σ_6, b_d cB cC cI cJ cZ oA rA σ_6]) (is := [0, 1, 2, 4, 5, 6, 7]) fl_8 fl_7 rfl) (bx_n (by decide +kernel)) (bx_d (by decide +kernel)) (va_runV (As := [.ref q_12]) (rest := []) ⟨hx, hb, hml, hown, hts⟩ (k_X5_line l dC dI cB cC cI cJ cZ cP oA rA H.size q_12 _ ([89, 111, 117, 32, 115, 101, 101, 32, 110, 111, 32, 115, 117, 99, 104, 32, 116, 104, 105, 110, 103, 46] : List Int32) σ_6 _ hu_13) (cwV 1 hts (g_gV wq_998 wq_999 wq_1000 wq_9 wq_1001) rfl rfl rfl (by decide +kernel) ⟨Nat.le_of_ble_eq_true rfl, Nat.le_of_ble_eq_true rfl⟩) (g_preV g_blS hK hPc hDc hS hE hFc (g_toS hSq_12 hS hFc) (q0 := 0) (ci := 5) rfl rfl) rfl rfl hl.1 rfl (lv_room (Nat.le_of_ble_eq_true rfl)) dX8_nounOf_154 ⟨Nat.le_of_ble_eq_true rfl, Nat.le_of_ble_eq_true rfl⟩) (fun u9 H locs hw9 hP' hD' hS => ?_)
      clear hPc hDc hFc
      obtain ⟨σ_15, eσ_15, hF_16⟩ := bnd_e hF_14
      clear hF_14
      have hP : va_P (dC, dI) vwCl (b_e cB cC cI cJ cZ oA rA σ_15 ++ b_k cB cC cI cJ cZ oA rA σ_15 ++ b_p cB cC cI cJ cZ oA rA σ_15 ++ b_o cB cC cI cJ cZ oA rA σ_15 ++ b_s cB cC cI cJ cZ oA rA σ_15 ++ b_c cB cC cI cJ cZ oA rA σ_15 ++ b_t cB cC cI cJ cZ oA rA σ_15 ++ b_d cB cC cI cJ cZ oA rA σ_15) H := by rw [eσ_15]; exact bx_P (bs := [b_e cB cC cI cJ cZ oA rA σ_6, b_k cB cC cI cJ cZ oA rA σ_6, b_p cB cC cI cJ cZ oA rA σ_6, b_s cB cC cI cJ cZ oA rA σ_6, b_c cB cC cI cJ cZ oA rA σ_6, b_t cB cC cI cJ cZ oA rA σ_6, b_d cB cC cI cJ cZ oA rA σ_6] ++ [b_o cB cC cI cJ cZ oA rA u_13.2]) (bs' := [b_e cB cC cI cJ cZ oA rA (mrg (fun j => j == 8) σ_6 u_13.2), b_k cB cC cI cJ cZ oA rA (mrg (fun j => j == 8) σ_6 u_13.2), b_p cB cC cI cJ cZ oA rA (mrg (fun j => j == 8) σ_6 u_13.2), b_o cB cC cI cJ cZ oA rA (mrg (fun j => j == 8) σ_6 u_13.2), b_s cB cC cI cJ cZ oA rA (mrg (fun j => j == 8) σ_6 u_13.2), b_c cB cC cI cJ cZ oA rA (mrg (fun j => j == 8) σ_6 u_13.2), b_t cB cC cI cJ cZ oA rA (mrg (fun j => j == 8) σ_6 u_13.2), b_d cB cC cI cJ cZ oA rA (mrg (fun j => j == 8) σ_6 u_13.2)]) hP' (fl_a fl_7 fl_1) fl_8 [0, 1, 2, 7, 3, 4, 5, 6] rfl
      clear hP' hD'
      refine lv_iload hx hb dX8_nounOf_157 (lv_at hl 1 rfl) ?_
      have h9 := Option.some.inj hF_16
      subst h9
      exact W.iret (v := v4_5) hx hb hr (fun t ht hW => ⟨⟨v4_5, (), rfl, rfl, m_end ht hP, hDD _⟩, hS.F ht⟩) hS.2.2 dX8_nounOf_159
  obtain ⟨j_19, ej_19, hF_20⟩ := bnd_e hF_8
  clear hF_8
  have Jj_19 : ∀  (σ_18 : HS), j_19  σ_18 = some res → ∀ (H : Heap) (locs : List Loc), va_P (dC, dI) vwCl (b_e cB cC cI cJ cZ oA rA σ_18 ++ b_k cB cC cI cJ cZ oA rA σ_18 ++ b_p cB cC cI cJ cZ oA rA σ_18 ++ b_o cB cC cI cJ cZ oA rA σ_18 ++ b_s cB cC cI cJ cZ oA rA σ_18 ++ b_c cB cC cI cJ cZ oA rA σ_18 ++ b_t cB cC cI cJ cZ oA rA σ_18 ++ b_d cB cC cI cJ cZ oA rA σ_18) H → va_S A s.heap H locs → ∀ ls : Array Slot, lv_has ls 6 [(0, .ref (oA 11)), (1, .int p0), (2, .int p1), (3, .int u_1.1), (4, .int 0)] → W p l e (headSpec (g_ws yX8_nounOf cX8_nounOf 6 (some .int)) { frames := 7, cells := 0, slots := 0, locals := 168 }).room s m ([.ref (oA 11), .int p0, .int p1] : List Value).toArray below meth c H locs 0 0 (MQ below (va_Qi (fun r (_ : Unit) => r = res.1) (g_Bo (dC, dI) A (fun (_ : Unit) => (b_e cB cC cI cJ cZ oA rA res.2 ++ b_k cB cC cI cJ cZ oA rA res.2 ++ b_p cB cC cI cJ cZ oA rA res.2 ++ b_o cB cC cI cJ cZ oA rA res.2 ++ b_s cB cC cI cJ cZ oA rA res.2 ++ b_c cB cC cI cJ cZ oA rA res.2 ++ b_t cB cC cI cJ cZ oA rA res.2 ++ b_d cB cC cI cJ cZ oA rA res.2))) A) ([.ref (oA 11), .int p0, .int p1] : List Value).toArray s 0 0 A) (F0 m 71 ls []) := by
    intro  σ_18 hF0 H locs hP hS ls hl
    subst ej_19
    have hF_21 := hF0
    clear hF0
    refine lv_iconst (v := 1) hx hb dX8_nounOf_71 (by decide +kernel) ?_
    refine lv_istore (lv' := [(5, .int 1), (0, .ref (oA 11)), (1, .int p0), (2, .int p1), (3, .int u_1.1), (4, .int 0)]) hx hb dX8_nounOf_72 hl (by decide) rfl (fun ls hl => ?_)
    refine loopF_ind (P := fun (s_22 : Int32 × Int32 × HS) => ∀ (H : Heap) (locs : List Loc), va_P (dC, dI) vwCl (b_e cB cC cI cJ cZ oA rA s_22.2.2 ++ b_k cB cC cI cJ cZ oA rA s_22.2.2 ++ b_p cB cC cI cJ cZ oA rA s_22.2.2 ++ b_o cB cC cI cJ cZ oA rA s_22.2.2 ++ b_s cB cC cI cJ cZ oA rA s_22.2.2 ++ b_c cB cC cI cJ cZ oA rA s_22.2.2 ++ b_t cB cC cI cJ cZ oA rA s_22.2.2 ++ b_d cB cC cI cJ cZ oA rA s_22.2.2) H → va_S A s.heap H locs → ∀ ls : Array Slot, lv_has ls 6 [(0, .ref (oA 11)), (1, .int p0), (2, .int p1), (3, .int u_1.1), (4, .int s_22.1), (5, .int s_22.2.1)] → W p l e (headSpec (g_ws yX8_nounOf cX8_nounOf 6 (some .int)) { frames := 7, cells := 0, slots := 0, locals := 168 }).room s m ([.ref (oA 11), .int p0, .int p1] : List Value).toArray below meth c H locs 0 0 (MQ below (va_Qi (fun r (_ : Unit) => r = res.1) (g_Bo (dC, dI) A (fun (_ : Unit) => (b_e cB cC cI cJ cZ oA rA res.2 ++ b_k cB cC cI cJ cZ oA rA res.2 ++ b_p cB cC cI cJ cZ oA rA res.2 ++ b_o cB cC cI cJ cZ oA rA res.2 ++ b_s cB cC cI cJ cZ oA rA res.2 ++ b_c cB cC cI cJ cZ oA rA res.2 ++ b_t cB cC cI cJ cZ oA rA res.2 ++ b_d cB cC cI cJ cZ oA rA res.2))) A) ([.ref (oA 11), .int p0, .int p1] : List Value).toArray s 0 0 A) (F0 m 74 ls [])) ?_ _ _ hF_21 _ _ hP hS ls (lv_sub hl [1, 2, 3, 4, 5, 0] rfl)
    intro again_23 s_22 ih_24 hF_25
    intro H locs hP hS ls hl
    refine lv_iload hx hb dX8_nounOf_74 (lv_at hl 5 rfl) ?_
    refine lv_bipush (v := 120) hx hb dX8_nounOf_76 (by decide +kernel) ?_
    refine lv_icmp_gt (tgt := 143) hx hb dX8_nounOf_78 (by decide) (fun c_26 => ?_) (fun c_26 => ?_)
    · have hF_27 := ipos c_26 hF_25
      clear hF_25
      exact Jj_7 s_22.1 s_22.2.2 hF_27 _ _ hP hS ls (lv_sub hl [0, 4] rfl)
    · have hF_28 := ineg c_26 hF_25
      clear hF_25
      refine lv_aload_n hx hb dX8_nounOf_81 rfl (lv_at hl 0 rfl) ?_
      refine va_get (D := (dC, dI)) (ci := 8) (v := .ref (oA 4)) (C := RX8) (T := TX8) (N := 16) hx hb hts ii_X8 hown hK hP 0 rfl rfl 3 (by decide) (hts (.fieldLink RX8 85 "StoryHouse$Teller" "story" "LStoryHouse$Story;") wq_290) (fun _ h9 => h9) rfl dX8_nounOf_82 ?_
      refine lv_iload hx hb dX8_nounOf_85 (lv_at hl 5 rfl) ?_
      obtain ⟨u_29, hu_29, hF_30⟩ := Option.bind_eq_some_iff.mp hF_28
      clear hF_28
      have hPc := bx_P (bs := [b_e cB cC cI cJ cZ oA rA s_22.2.2, b_k cB cC cI cJ cZ oA rA s_22.2.2, b_p cB cC cI cJ cZ oA rA s_22.2.2, b_o cB cC cI cJ cZ oA rA s_22.2.2, b_s cB cC cI cJ cZ oA rA s_22.2.2, b_c cB cC cI cJ cZ oA rA s_22.2.2, b_t cB cC cI cJ cZ oA rA s_22.2.2, b_d cB cC cI cJ cZ oA rA s_22.2.2]) (bs' := [b_s cB cC cI cJ cZ oA rA s_22.2.2, b_c cB cC cI cJ cZ oA rA s_22.2.2, b_t cB cC cI cJ cZ oA rA s_22.2.2, b_d cB cC cI cJ cZ oA rA s_22.2.2]) (ws' := (b_s cB cC cI cJ cZ oA rA s_22.2.2 ++ b_c cB cC cI cJ cZ oA rA s_22.2.2 ++ b_t cB cC cI cJ cZ oA rA s_22.2.2 ++ b_d cB cC cI cJ cZ oA rA s_22.2.2)) hP fl_8 fl_4 [4, 5, 6, 7] rfl
      have hDc := bx_D (bs := [b_e cB cC cI cJ cZ oA rA s_22.2.2, b_k cB cC cI cJ cZ oA rA s_22.2.2, b_p cB cC cI cJ cZ oA rA s_22.2.2, b_o cB cC cI cJ cZ oA rA s_22.2.2, b_s cB cC cI cJ cZ oA rA s_22.2.2, b_c cB cC cI cJ cZ oA rA s_22.2.2, b_t cB cC cI cJ cZ oA rA s_22.2.2, b_d cB cC cI cJ cZ oA rA s_22.2.2]) (bs' := [b_s cB cC cI cJ cZ oA rA s_22.2.2, b_c cB cC cI cJ cZ oA rA s_22.2.2, b_t cB cC cI cJ cZ oA rA s_22.2.2, b_d cB cC cI cJ cZ oA rA s_22.2.2]) (ws' := (b_s cB cC cI cJ cZ oA rA s_22.2.2 ++ b_c cB cC cI cJ cZ oA rA s_22.2.2 ++ b_t cB cC cI cJ cZ oA rA s_22.2.2 ++ b_d cB cC cI cJ cZ oA rA s_22.2.2)) (hDD s_22.2.2) fl_8 fl_4 [4, 5, 6, 7] (by decide +kernel) rfl
      have hFc := bx_F (bs := [b_e cB cC cI cJ cZ oA rA s_22.2.2, b_k cB cC cI cJ cZ oA rA s_22.2.2, b_p cB cC cI cJ cZ oA rA s_22.2.2, b_o cB cC cI cJ cZ oA rA s_22.2.2, b_s cB cC cI cJ cZ oA rA s_22.2.2, b_c cB cC cI cJ cZ oA rA s_22.2.2, b_t cB cC cI cJ cZ oA rA s_22.2.2, b_d cB cC cI cJ cZ oA rA s_22.2.2]) (bs' := [b_s cB cC cI cJ cZ oA rA s_22.2.2, b_c cB cC cI cJ cZ oA rA s_22.2.2, b_t cB cC cI cJ cZ oA rA s_22.2.2, b_d cB cC cI cJ cZ oA rA s_22.2.2]) (wc := (b_s cB cC cI cJ cZ oA rA s_22.2.2 ++ b_c cB cC cI cJ cZ oA rA s_22.2.2 ++ b_t cB cC cI cJ cZ oA rA s_22.2.2 ++ b_d cB cC cI cJ cZ oA rA s_22.2.2)) (hDD s_22.2.2) hS hA fl_8 fl_4 [4, 5, 6, 7] rfl
      refine g_ofi (wc := (b_s cB cC cI cJ cZ oA rA s_22.2.2 ++ b_c cB cC cI cJ cZ oA rA s_22.2.2 ++ b_t cB cC cI cJ cZ oA rA s_22.2.2 ++ b_d cB cC cI cJ cZ oA rA s_22.2.2)) (wr := (b_e cB cC cI cJ cZ oA rA s_22.2.2 ++ b_k cB cC cI cJ cZ oA rA s_22.2.2 ++ b_p cB cC cI cJ cZ oA rA s_22.2.2 ++ b_o cB cC cI cJ cZ oA rA s_22.2.2)) hP (hDD s_22.2.2) hS hFc (bx_ix [b_e cB cC cI cJ cZ oA rA s_22.2.2, b_k cB cC cI cJ cZ oA rA s_22.2.2, b_p cB cC cI cJ cZ oA rA s_22.2.2, b_o cB cC cI cJ cZ oA rA s_22.2.2, b_s cB cC cI cJ cZ oA rA s_22.2.2, b_c cB cC cI cJ cZ oA rA s_22.2.2, b_t cB cC cI cJ cZ oA rA s_22.2.2, b_d cB cC cI cJ cZ oA rA s_22.2.2] [4, 5, 6, 7]) (bx_ix [b_e cB cC cI cJ cZ oA rA s_22.2.2, b_k cB cC cI cJ cZ oA rA s_22.2.2, b_p cB cC cI cJ cZ oA rA s_22.2.2, b_o cB cC cI cJ cZ oA rA s_22.2.2, b_s cB cC cI cJ cZ oA rA s_22.2.2, b_c cB cC cI cJ cZ oA rA s_22.2.2, b_t cB cC cI cJ cZ oA rA s_22.2.2, b_d cB cC cI cJ cZ oA rA s_22.2.2] [0, 1, 2, 3]) (bx_C (bs := [b_e cB cC cI cJ cZ oA rA s_22.2.2, b_k cB cC cI cJ cZ oA rA s_22.2.2, b_p cB cC cI cJ cZ oA rA s_22.2.2, b_o cB cC cI cJ cZ oA rA s_22.2.2, b_s cB cC cI cJ cZ oA rA s_22.2.2, b_c cB cC cI cJ cZ oA rA s_22.2.2, b_t cB cC cI cJ cZ oA rA s_22.2.2, b_d cB cC cI cJ cZ oA rA s_22.2.2]) (bs' := [b_s cB cC cI cJ cZ oA rA s_22.2.2, b_c cB cC cI cJ cZ oA rA s_22.2.2, b_t cB cC cI cJ cZ oA rA s_22.2.2, b_d cB cC cI cJ cZ oA rA s_22.2.2]) (is := [4, 5, 6, 7]) fl_8 fl_4 rfl) (bx_C (bs := [b_e cB cC cI cJ cZ oA rA s_22.2.2, b_k cB cC cI cJ cZ oA rA s_22.2.2, b_p cB cC cI cJ cZ oA rA s_22.2.2, b_o cB cC cI cJ cZ oA rA s_22.2.2, b_s cB cC cI cJ cZ oA rA s_22.2.2, b_c cB cC cI cJ cZ oA rA s_22.2.2, b_t cB cC cI cJ cZ oA rA s_22.2.2, b_d cB cC cI cJ cZ oA rA s_22.2.2]) (bs' := [b_e cB cC cI cJ cZ oA rA s_22.2.2, b_k cB cC cI cJ cZ oA rA s_22.2.2, b_p cB cC cI cJ cZ oA rA s_22.2.2, b_o cB cC cI cJ cZ oA rA s_22.2.2]) (is := [0, 1, 2, 3]) fl_8 fl_4 rfl) (bx_n (by decide +kernel)) (bx_d (by decide +kernel)) (va_runV (As := [.int s_22.2.1]) (rest := []) ⟨hx, hb, hml, hown, hts⟩ (k_X7_isObject l dC dI cB cC cI cJ cZ cP oA rA H.size  s_22.2.1 s_22.2.2 _ hu_29) (cwV 1 hts (g_gV wq_1101 wq_971 wq_972 wq_5 wq_973) rfl rfl rfl (by decide +kernel) ⟨Nat.le_of_ble_eq_true rfl, Nat.le_of_ble_eq_true rfl⟩) (g_preV g_bl0 hK hPc hDc hS hE hFc g_to0 (q0 := 0) (ci := 7) rfl rfl) rfl rfl hl.1 rfl (lv_room (Nat.le_of_ble_eq_true rfl)) dX8_nounOf_87 ⟨Nat.le_of_ble_eq_true rfl, Nat.le_of_ble_eq_true rfl⟩) (fun r9 u9 H locs hw9 hP' hD' hS => ?_)
      clear hPc hDc hFc
      subst hw9
      obtain ⟨σ_31, eσ_31, hF_32⟩ := bnd_e hF_30
      clear hF_30
      have hP : va_P (dC, dI) vwCl (b_e cB cC cI cJ cZ oA rA σ_31 ++ b_k cB cC cI cJ cZ oA rA σ_31 ++ b_p cB cC cI cJ cZ oA rA σ_31 ++ b_o cB cC cI cJ cZ oA rA σ_31 ++ b_s cB cC cI cJ cZ oA rA σ_31 ++ b_c cB cC cI cJ cZ oA rA σ_31 ++ b_t cB cC cI cJ cZ oA rA σ_31 ++ b_d cB cC cI cJ cZ oA rA σ_31) H := by rw [eσ_31]; exact bx_P (bs := [b_e cB cC cI cJ cZ oA rA s_22.2.2, b_k cB cC cI cJ cZ oA rA s_22.2.2, b_p cB cC cI cJ cZ oA rA s_22.2.2, b_o cB cC cI cJ cZ oA rA s_22.2.2] ++ [b_s cB cC cI cJ cZ oA rA u_29.2, b_c cB cC cI cJ cZ oA rA u_29.2, b_t cB cC cI cJ cZ oA rA u_29.2, b_d cB cC cI cJ cZ oA rA u_29.2]) (bs' := [b_e cB cC cI cJ cZ oA rA (mrg (fun j => j == 4 || j == 5 || j == 6 || j == 7) s_22.2.2 u_29.2), b_k cB cC cI cJ cZ oA rA (mrg (fun j => j == 4 || j == 5 || j == 6 || j == 7) s_22.2.2 u_29.2), b_p cB cC cI cJ cZ oA rA (mrg (fun j => j == 4 || j == 5 || j == 6 || j == 7) s_22.2.2 u_29.2), b_o cB cC cI cJ cZ oA rA (mrg (fun j => j == 4 || j == 5 || j == 6 || j == 7) s_22.2.2 u_29.2), b_s cB cC cI cJ cZ oA rA (mrg (fun j => j == 4 || j == 5 || j == 6 || j == 7) s_22.2.2 u_29.2), b_c cB cC cI cJ cZ oA rA (mrg (fun j => j == 4 || j == 5 || j == 6 || j == 7) s_22.2.2 u_29.2), b_t cB cC cI cJ cZ oA rA (mrg (fun j => j == 4 || j == 5 || j == 6 || j == 7) s_22.2.2 u_29.2), b_d cB cC cI cJ cZ oA rA (mrg (fun j => j == 4 || j == 5 || j == 6 || j == 7) s_22.2.2 u_29.2)]) hP' (fl_a fl_4 fl_4) fl_8 [0, 1, 2, 3, 4, 5, 6, 7] rfl
      clear hP' hD'
      refine lv_if_eq (tgt := 143) hx hb dX8_nounOf_90 (by decide) (fun c_33 => ?_) (fun c_33 => ?_)
      · have hF_34 := ipos c_33 hF_32
        clear hF_32
        exact Jj_7 s_22.1 σ_31 hF_34 _ _ hP hS ls (lv_sub hl [0, 4] rfl)
      · have hF_35 := ineg c_33 hF_32
        clear hF_32
        refine lv_aload_n hx hb dX8_nounOf_93 rfl (lv_at hl 0 rfl) ?_
        refine lv_iload hx hb dX8_nounOf_94 (lv_at hl 5 rfl) ?_
        refine lv_iload_n hx hb dX8_nounOf_96 rfl (lv_at hl 1 rfl) ?_
        refine lv_iload_n hx hb dX8_nounOf_97 rfl (lv_at hl 2 rfl) ?_
        obtain ⟨u_36, hu_36, hF_37⟩ := Option.bind_eq_some_iff.mp hF_35
        clear hF_35
        have hPc := bx_P (bs := [b_e cB cC cI cJ cZ oA rA σ_31, b_k cB cC cI cJ cZ oA rA σ_31, b_p cB cC cI cJ cZ oA rA σ_31, b_o cB cC cI cJ cZ oA rA σ_31, b_s cB cC cI cJ cZ oA rA σ_31, b_c cB cC cI cJ cZ oA rA σ_31, b_t cB cC cI cJ cZ oA rA σ_31, b_d cB cC cI cJ cZ oA rA σ_31]) (bs' := [b_e cB cC cI cJ cZ oA rA σ_31, b_k cB cC cI cJ cZ oA rA σ_31, b_p cB cC cI cJ cZ oA rA σ_31, b_o cB cC cI cJ cZ oA rA σ_31, b_s cB cC cI cJ cZ oA rA σ_31, b_c cB cC cI cJ cZ oA rA σ_31, b_t cB cC cI cJ cZ oA rA σ_31, b_d cB cC cI cJ cZ oA rA σ_31]) (ws' := (b_e cB cC cI cJ cZ oA rA σ_31 ++ b_k cB cC cI cJ cZ oA rA σ_31 ++ b_p cB cC cI cJ cZ oA rA σ_31 ++ b_o cB cC cI cJ cZ oA rA σ_31 ++ b_s cB cC cI cJ cZ oA rA σ_31 ++ b_c cB cC cI cJ cZ oA rA σ_31 ++ b_t cB cC cI cJ cZ oA rA σ_31 ++ b_d cB cC cI cJ cZ oA rA σ_31)) hP fl_8 fl_8 [0, 1, 2, 3, 4, 5, 6, 7] rfl
        have hDc := bx_D (bs := [b_e cB cC cI cJ cZ oA rA σ_31, b_k cB cC cI cJ cZ oA rA σ_31, b_p cB cC cI cJ cZ oA rA σ_31, b_o cB cC cI cJ cZ oA rA σ_31, b_s cB cC cI cJ cZ oA rA σ_31, b_c cB cC cI cJ cZ oA rA σ_31, b_t cB cC cI cJ cZ oA rA σ_31, b_d cB cC cI cJ cZ oA rA σ_31]) (bs' := [b_e cB cC cI cJ cZ oA rA σ_31, b_k cB cC cI cJ cZ oA rA σ_31, b_p cB cC cI cJ cZ oA rA σ_31, b_o cB cC cI cJ cZ oA rA σ_31, b_s cB cC cI cJ cZ oA rA σ_31, b_c cB cC cI cJ cZ oA rA σ_31, b_t cB cC cI cJ cZ oA rA σ_31, b_d cB cC cI cJ cZ oA rA σ_31]) (ws' := (b_e cB cC cI cJ cZ oA rA σ_31 ++ b_k cB cC cI cJ cZ oA rA σ_31 ++ b_p cB cC cI cJ cZ oA rA σ_31 ++ b_o cB cC cI cJ cZ oA rA σ_31 ++ b_s cB cC cI cJ cZ oA rA σ_31 ++ b_c cB cC cI cJ cZ oA rA σ_31 ++ b_t cB cC cI cJ cZ oA rA σ_31 ++ b_d cB cC cI cJ cZ oA rA σ_31)) (hDD σ_31) fl_8 fl_8 [0, 1, 2, 3, 4, 5, 6, 7] (by decide +kernel) rfl
        have hFc := bx_F (bs := [b_e cB cC cI cJ cZ oA rA σ_31, b_k cB cC cI cJ cZ oA rA σ_31, b_p cB cC cI cJ cZ oA rA σ_31, b_o cB cC cI cJ cZ oA rA σ_31, b_s cB cC cI cJ cZ oA rA σ_31, b_c cB cC cI cJ cZ oA rA σ_31, b_t cB cC cI cJ cZ oA rA σ_31, b_d cB cC cI cJ cZ oA rA σ_31]) (bs' := [b_e cB cC cI cJ cZ oA rA σ_31, b_k cB cC cI cJ cZ oA rA σ_31, b_p cB cC cI cJ cZ oA rA σ_31, b_o cB cC cI cJ cZ oA rA σ_31, b_s cB cC cI cJ cZ oA rA σ_31, b_c cB cC cI cJ cZ oA rA σ_31, b_t cB cC cI cJ cZ oA rA σ_31, b_d cB cC cI cJ cZ oA rA σ_31]) (wc := (b_e cB cC cI cJ cZ oA rA σ_31 ++ b_k cB cC cI cJ cZ oA rA σ_31 ++ b_p cB cC cI cJ cZ oA rA σ_31 ++ b_o cB cC cI cJ cZ oA rA σ_31 ++ b_s cB cC cI cJ cZ oA rA σ_31 ++ b_c cB cC cI cJ cZ oA rA σ_31 ++ b_t cB cC cI cJ cZ oA rA σ_31 ++ b_d cB cC cI cJ cZ oA rA σ_31)) (hDD σ_31) hS hA fl_8 fl_8 [0, 1, 2, 3, 4, 5, 6, 7] rfl
        refine g_ofi (wc := (b_e cB cC cI cJ cZ oA rA σ_31 ++ b_k cB cC cI cJ cZ oA rA σ_31 ++ b_p cB cC cI cJ cZ oA rA σ_31 ++ b_o cB cC cI cJ cZ oA rA σ_31 ++ b_s cB cC cI cJ cZ oA rA σ_31 ++ b_c cB cC cI cJ cZ oA rA σ_31 ++ b_t cB cC cI cJ cZ oA rA σ_31 ++ b_d cB cC cI cJ cZ oA rA σ_31)) (wr := ([] : va_W)) hP (hDD σ_31) hS hFc (bx_ix [b_e cB cC cI cJ cZ oA rA σ_31, b_k cB cC cI cJ cZ oA rA σ_31, b_p cB cC cI cJ cZ oA rA σ_31, b_o cB cC cI cJ cZ oA rA σ_31, b_s cB cC cI cJ cZ oA rA σ_31, b_c cB cC cI cJ cZ oA rA σ_31, b_t cB cC cI cJ cZ oA rA σ_31, b_d cB cC cI cJ cZ oA rA σ_31] [0, 1, 2, 3, 4, 5, 6, 7]) (bx_ix [b_e cB cC cI cJ cZ oA rA σ_31, b_k cB cC cI cJ cZ oA rA σ_31, b_p cB cC cI cJ cZ oA rA σ_31, b_o cB cC cI cJ cZ oA rA σ_31, b_s cB cC cI cJ cZ oA rA σ_31, b_c cB cC cI cJ cZ oA rA σ_31, b_t cB cC cI cJ cZ oA rA σ_31, b_d cB cC cI cJ cZ oA rA σ_31] []) (bx_C (bs := [b_e cB cC cI cJ cZ oA rA σ_31, b_k cB cC cI cJ cZ oA rA σ_31, b_p cB cC cI cJ cZ oA rA σ_31, b_o cB cC cI cJ cZ oA rA σ_31, b_s cB cC cI cJ cZ oA rA σ_31, b_c cB cC cI cJ cZ oA rA σ_31, b_t cB cC cI cJ cZ oA rA σ_31, b_d cB cC cI cJ cZ oA rA σ_31]) (bs' := [b_e cB cC cI cJ cZ oA rA σ_31, b_k cB cC cI cJ cZ oA rA σ_31, b_p cB cC cI cJ cZ oA rA σ_31, b_o cB cC cI cJ cZ oA rA σ_31, b_s cB cC cI cJ cZ oA rA σ_31, b_c cB cC cI cJ cZ oA rA σ_31, b_t cB cC cI cJ cZ oA rA σ_31, b_d cB cC cI cJ cZ oA rA σ_31]) (is := [0, 1, 2, 3, 4, 5, 6, 7]) fl_8 fl_8 rfl) (bx_C (bs := [b_e cB cC cI cJ cZ oA rA σ_31, b_k cB cC cI cJ cZ oA rA σ_31, b_p cB cC cI cJ cZ oA rA σ_31, b_o cB cC cI cJ cZ oA rA σ_31, b_s cB cC cI cJ cZ oA rA σ_31, b_c cB cC cI cJ cZ oA rA σ_31, b_t cB cC cI cJ cZ oA rA σ_31, b_d cB cC cI cJ cZ oA rA σ_31]) (bs' := []) (is := []) fl_8 fl_0 rfl) (bx_n (by decide +kernel)) (bx_d (by decide +kernel)) (va_runV (As := [.int s_22.2.1, .int p0, .int p1]) (rest := []) ⟨hx, hb, hml, hown, hts⟩ (k_X8_isNamed l dC dI cB cC cI cJ cZ cP oA rA H.size  s_22.2.1 p0 p1 σ_31 _ hu_36) (cwV 3 hts (g_gV wq_1102 wq_1103 wq_2081 wq_12 wq_1104) rfl rfl rfl (by decide +kernel) ⟨Nat.le_of_ble_eq_true rfl, Nat.le_of_ble_eq_true rfl⟩) (g_preV g_bl0 hK hPc hDc hS hE hFc g_to0 (q0 := 0) (ci := 8) rfl rfl) rfl rfl hl.1 rfl (lv_room (Nat.le_of_ble_eq_true rfl)) dX8_nounOf_98 ⟨Nat.le_of_ble_eq_true rfl, Nat.le_of_ble_eq_true rfl⟩) (fun r9 u9 H locs hw9 hP' hD' hS => ?_)
        clear hPc hDc hFc
        subst hw9
        have hP : va_P (dC, dI) vwCl (b_e cB cC cI cJ cZ oA rA u_36.2 ++ b_k cB cC cI cJ cZ oA rA u_36.2 ++ b_p cB cC cI cJ cZ oA rA u_36.2 ++ b_o cB cC cI cJ cZ oA rA u_36.2 ++ b_s cB cC cI cJ cZ oA rA u_36.2 ++ b_c cB cC cI cJ cZ oA rA u_36.2 ++ b_t cB cC cI cJ cZ oA rA u_36.2 ++ b_d cB cC cI cJ cZ oA rA u_36.2) H := hP'
        clear hP' hD'
        obtain ⟨j_40, ej_40, hF_41⟩ := bnd_e hF_37
        clear hF_37
        have Jj_40 : ∀ (v4_38 : Int32) (σ_39 : HS), j_40 v4_38 σ_39 = some res → ∀ (H : Heap) (locs : List Loc), va_P (dC, dI) vwCl (b_e cB cC cI cJ cZ oA rA σ_39 ++ b_k cB cC cI cJ cZ oA rA σ_39 ++ b_p cB cC cI cJ cZ oA rA σ_39 ++ b_o cB cC cI cJ cZ oA rA σ_39 ++ b_s cB cC cI cJ cZ oA rA σ_39 ++ b_c cB cC cI cJ cZ oA rA σ_39 ++ b_t cB cC cI cJ cZ oA rA σ_39 ++ b_d cB cC cI cJ cZ oA rA σ_39) H → va_S A s.heap H locs → ∀ ls : Array Slot, lv_has ls 6 [(0, .ref (oA 11)), (1, .int p0), (2, .int p1), (3, .int u_1.1), (4, .int v4_38), (5, .int s_22.2.1)] → W p l e (headSpec (g_ws yX8_nounOf cX8_nounOf 6 (some .int)) { frames := 7, cells := 0, slots := 0, locals := 168 }).room s m ([.ref (oA 11), .int p0, .int p1] : List Value).toArray below meth c H locs 0 0 (MQ below (va_Qi (fun r (_ : Unit) => r = res.1) (g_Bo (dC, dI) A (fun (_ : Unit) => (b_e cB cC cI cJ cZ oA rA res.2 ++ b_k cB cC cI cJ cZ oA rA res.2 ++ b_p cB cC cI cJ cZ oA rA res.2 ++ b_o cB cC cI cJ cZ oA rA res.2 ++ b_s cB cC cI cJ cZ oA rA res.2 ++ b_c cB cC cI cJ cZ oA rA res.2 ++ b_t cB cC cI cJ cZ oA rA res.2 ++ b_d cB cC cI cJ cZ oA rA res.2))) A) ([.ref (oA 11), .int p0, .int p1] : List Value).toArray s 0 0 A) (F0 m 137 ls []) := by
          intro v4_38 σ_39 hF0 H locs hP hS ls hl
          subst ej_40
          have hF_42 := hF0
          clear hF0
          obtain ⟨x_43, ex_43, hF_44⟩ := bnd_e hF_42
          clear hF_42
          refine lv_iinc (v := x_43) (lv' := [(5, .int x_43), (0, .ref (oA 11)), (1, .int p0), (2, .int p1), (3, .int u_1.1), (4, .int v4_38)]) hx hb dX8_nounOf_137 hl (k := 5) rfl (by rw [ex_43]; rfl) (by decide) rfl (fun ls hl => ?_)
          refine lv_goto (tgt := 74) hx hb dX8_nounOf_140 (by decide) ?_
          exact ih_24 (v4_38, x_43, σ_39) hF_44 _ _ hP hS ls (lv_sub hl [1, 2, 3, 4, 5, 0] rfl)
        refine lv_if_eq (tgt := 137) hx hb dX8_nounOf_101 (by decide) (fun c_45 => ?_) (fun c_45 => ?_)
        · have hF_46 := ipos c_45 hF_41
          clear hF_41
          exact Jj_40 s_22.1 u_36.2 hF_46 _ _ hP hS ls (lv_sub hl [0, 1, 2, 3, 4, 5] rfl)
        · have hF_47 := ineg c_45 hF_41
          clear hF_41
          refine lv_aload_n hx hb dX8_nounOf_104 rfl (lv_at hl 0 rfl) ?_
          refine va_get (D := (dC, dI)) (ci := 8) (v := .ref (oA 9)) (C := RX8) (T := TX8) (N := 16) hx hb hts ii_X8 hown hK hP 0 rfl rfl 0 (by decide) (hts (.fieldLink RX8 22 "StoryHouse$Teller" "play" "LStoryHouse$Play;") wq_286) (fun _ h9 => h9) rfl dX8_nounOf_105 ?_
          refine lv_iload hx hb dX8_nounOf_108 (lv_at hl 5 rfl) ?_
          refine lv_iload_n hx hb dX8_nounOf_110 rfl (lv_at hl 3 rfl) ?_
          obtain ⟨u_48, hu_48, hF_49⟩ := Option.bind_eq_some_iff.mp hF_47
          clear hF_47
          have hPc := bx_P (bs := [b_e cB cC cI cJ cZ oA rA u_36.2, b_k cB cC cI cJ cZ oA rA u_36.2, b_p cB cC cI cJ cZ oA rA u_36.2, b_o cB cC cI cJ cZ oA rA u_36.2, b_s cB cC cI cJ cZ oA rA u_36.2, b_c cB cC cI cJ cZ oA rA u_36.2, b_t cB cC cI cJ cZ oA rA u_36.2, b_d cB cC cI cJ cZ oA rA u_36.2]) (bs' := [b_p cB cC cI cJ cZ oA rA u_36.2]) (ws' := (b_p cB cC cI cJ cZ oA rA u_36.2)) hP fl_8 fl_1 [2] rfl
          have hDc := bx_D (bs := [b_e cB cC cI cJ cZ oA rA u_36.2, b_k cB cC cI cJ cZ oA rA u_36.2, b_p cB cC cI cJ cZ oA rA u_36.2, b_o cB cC cI cJ cZ oA rA u_36.2, b_s cB cC cI cJ cZ oA rA u_36.2, b_c cB cC cI cJ cZ oA rA u_36.2, b_t cB cC cI cJ cZ oA rA u_36.2, b_d cB cC cI cJ cZ oA rA u_36.2]) (bs' := [b_p cB cC cI cJ cZ oA rA u_36.2]) (ws' := (b_p cB cC cI cJ cZ oA rA u_36.2)) (hDD u_36.2) fl_8 fl_1 [2] (by decide +kernel) rfl
          have hFc := bx_F (bs := [b_e cB cC cI cJ cZ oA rA u_36.2, b_k cB cC cI cJ cZ oA rA u_36.2, b_p cB cC cI cJ cZ oA rA u_36.2, b_o cB cC cI cJ cZ oA rA u_36.2, b_s cB cC cI cJ cZ oA rA u_36.2, b_c cB cC cI cJ cZ oA rA u_36.2, b_t cB cC cI cJ cZ oA rA u_36.2, b_d cB cC cI cJ cZ oA rA u_36.2]) (bs' := [b_p cB cC cI cJ cZ oA rA u_36.2]) (wc := (b_p cB cC cI cJ cZ oA rA u_36.2)) (hDD u_36.2) hS hA fl_8 fl_1 [2] rfl
          refine g_ofi (wc := (b_p cB cC cI cJ cZ oA rA u_36.2)) (wr := (b_e cB cC cI cJ cZ oA rA u_36.2 ++ b_k cB cC cI cJ cZ oA rA u_36.2 ++ b_o cB cC cI cJ cZ oA rA u_36.2 ++ b_s cB cC cI cJ cZ oA rA u_36.2 ++ b_c cB cC cI cJ cZ oA rA u_36.2 ++ b_t cB cC cI cJ cZ oA rA u_36.2 ++ b_d cB cC cI cJ cZ oA rA u_36.2)) hP (hDD u_36.2) hS hFc (bx_ix [b_e cB cC cI cJ cZ oA rA u_36.2, b_k cB cC cI cJ cZ oA rA u_36.2, b_p cB cC cI cJ cZ oA rA u_36.2, b_o cB cC cI cJ cZ oA rA u_36.2, b_s cB cC cI cJ cZ oA rA u_36.2, b_c cB cC cI cJ cZ oA rA u_36.2, b_t cB cC cI cJ cZ oA rA u_36.2, b_d cB cC cI cJ cZ oA rA u_36.2] [2]) (bx_ix [b_e cB cC cI cJ cZ oA rA u_36.2, b_k cB cC cI cJ cZ oA rA u_36.2, b_p cB cC cI cJ cZ oA rA u_36.2, b_o cB cC cI cJ cZ oA rA u_36.2, b_s cB cC cI cJ cZ oA rA u_36.2, b_c cB cC cI cJ cZ oA rA u_36.2, b_t cB cC cI cJ cZ oA rA u_36.2, b_d cB cC cI cJ cZ oA rA u_36.2] [0, 1, 3, 4, 5, 6, 7]) (bx_C (bs := [b_e cB cC cI cJ cZ oA rA u_36.2, b_k cB cC cI cJ cZ oA rA u_36.2, b_p cB cC cI cJ cZ oA rA u_36.2, b_o cB cC cI cJ cZ oA rA u_36.2, b_s cB cC cI cJ cZ oA rA u_36.2, b_c cB cC cI cJ cZ oA rA u_36.2, b_t cB cC cI cJ cZ oA rA u_36.2, b_d cB cC cI cJ cZ oA rA u_36.2]) (bs' := [b_p cB cC cI cJ cZ oA rA u_36.2]) (is := [2]) fl_8 fl_1 rfl) (bx_C (bs := [b_e cB cC cI cJ cZ oA rA u_36.2, b_k cB cC cI cJ cZ oA rA u_36.2, b_p cB cC cI cJ cZ oA rA u_36.2, b_o cB cC cI cJ cZ oA rA u_36.2, b_s cB cC cI cJ cZ oA rA u_36.2, b_c cB cC cI cJ cZ oA rA u_36.2, b_t cB cC cI cJ cZ oA rA u_36.2, b_d cB cC cI cJ cZ oA rA u_36.2]) (bs' := [b_e cB cC cI cJ cZ oA rA u_36.2, b_k cB cC cI cJ cZ oA rA u_36.2, b_o cB cC cI cJ cZ oA rA u_36.2, b_s cB cC cI cJ cZ oA rA u_36.2, b_c cB cC cI cJ cZ oA rA u_36.2, b_t cB cC cI cJ cZ oA rA u_36.2, b_d cB cC cI cJ cZ oA rA u_36.2]) (is := [0, 1, 3, 4, 5, 6, 7]) fl_8 fl_7 rfl) (bx_n (by decide +kernel)) (bx_d (by decide +kernel)) (va_runV (As := [.int s_22.2.1, .int u_1.1]) (rest := []) ⟨hx, hb, hml, hown, hts⟩ (k_X6_isInScope l dC dI cB cC cI cJ cZ cP oA rA H.size  s_22.2.1 u_1.1 u_36.2 _ hu_48) (cwV 2 hts (g_gV wq_1097 wq_1098 wq_1099 wq_10 wq_1100) rfl rfl rfl (by decide +kernel) ⟨Nat.le_of_ble_eq_true rfl, Nat.le_of_ble_eq_true rfl⟩) (g_preV g_bl0 hK hPc hDc hS hE hFc g_to0 (q0 := 0) (ci := 6) rfl rfl) rfl rfl hl.1 rfl (lv_room (Nat.le_of_ble_eq_true rfl)) dX8_nounOf_111 ⟨Nat.le_of_ble_eq_true rfl, Nat.le_of_ble_eq_true rfl⟩) (fun r9 u9 H locs hw9 hP' hD' hS => ?_)
          clear hPc hDc hFc
          subst hw9
          obtain ⟨σ_50, eσ_50, hF_51⟩ := bnd_e hF_49
          clear hF_49
          have hP : va_P (dC, dI) vwCl (b_e cB cC cI cJ cZ oA rA σ_50 ++ b_k cB cC cI cJ cZ oA rA σ_50 ++ b_p cB cC cI cJ cZ oA rA σ_50 ++ b_o cB cC cI cJ cZ oA rA σ_50 ++ b_s cB cC cI cJ cZ oA rA σ_50 ++ b_c cB cC cI cJ cZ oA rA σ_50 ++ b_t cB cC cI cJ cZ oA rA σ_50 ++ b_d cB cC cI cJ cZ oA rA σ_50) H := by rw [eσ_50]; exact bx_P (bs := [b_e cB cC cI cJ cZ oA rA u_36.2, b_k cB cC cI cJ cZ oA rA u_36.2, b_o cB cC cI cJ cZ oA rA u_36.2, b_s cB cC cI cJ cZ oA rA u_36.2, b_c cB cC cI cJ cZ oA rA u_36.2, b_t cB cC cI cJ cZ oA rA u_36.2, b_d cB cC cI cJ cZ oA rA u_36.2] ++ [b_p cB cC cI cJ cZ oA rA u_48.2]) (bs' := [b_e cB cC cI cJ cZ oA rA (mrg (fun j => j == 9) u_36.2 u_48.2), b_k cB cC cI cJ cZ oA rA (mrg (fun j => j == 9) u_36.2 u_48.2), b_p cB cC cI cJ cZ oA rA (mrg (fun j => j == 9) u_36.2 u_48.2), b_o cB cC cI cJ cZ oA rA (mrg (fun j => j == 9) u_36.2 u_48.2), b_s cB cC cI cJ cZ oA rA (mrg (fun j => j == 9) u_36.2 u_48.2), b_c cB cC cI cJ cZ oA rA (mrg (fun j => j == 9) u_36.2 u_48.2), b_t cB cC cI cJ cZ oA rA (mrg (fun j => j == 9) u_36.2 u_48.2), b_d cB cC cI cJ cZ oA rA (mrg (fun j => j == 9) u_36.2 u_48.2)]) hP' (fl_a fl_7 fl_1) fl_8 [0, 1, 7, 2, 3, 4, 5, 6] rfl
          clear hP' hD'
          refine lv_if_eq (tgt := 137) hx hb dX8_nounOf_114 (by decide) (fun c_52 => ?_) (fun c_52 => ?_)
          · have hF_53 := ipos c_52 hF_51
            clear hF_51
            exact Jj_40 s_22.1 σ_50 hF_53 _ _ hP hS ls (lv_sub hl [0, 1, 2, 3, 4, 5] rfl)
          · have hF_54 := ineg c_52 hF_51
            clear hF_51
            refine lv_iload hx hb dX8_nounOf_117 (lv_at hl 4 rfl) ?_
            refine lv_if_eq (tgt := 133) hx hb dX8_nounOf_119 (by decide) (fun c_55 => ?_) (fun c_55 => ?_)
            · have hF_56 := ipos c_55 hF_54
              clear hF_54
              refine lv_iload hx hb dX8_nounOf_133 (lv_at hl 5 rfl) ?_
              refine lv_istore (lv' := [(4, .int s_22.2.1), (0, .ref (oA 11)), (1, .int p0), (2, .int p1), (3, .int u_1.1), (5, .int s_22.2.1)]) hx hb dX8_nounOf_135 hl (by decide) rfl (fun ls hl => ?_)
              exact Jj_40 s_22.2.1 σ_50 hF_56 _ _ hP hS ls (lv_sub hl [1, 2, 3, 4, 0, 5] rfl)
            · have hF_57 := ineg c_55 hF_54
              clear hF_54
              refine lv_aload_n hx hb dX8_nounOf_122 rfl (lv_at hl 0 rfl) ?_
              refine va_get (D := (dC, dI)) (ci := 8) (v := .ref (oA 8)) (C := RX8) (T := TX8) (N := 16) hx hb hts ii_X8 hown hK hP 0 rfl rfl 1 (by decide) (hts (.fieldLink RX8 26 "StoryHouse$Teller" "told" "LStoryHouse$Out;") wq_287) (fun _ h9 => h9) rfl dX8_nounOf_123 ?_
              obtain ⟨q_58, vq_58, hRq_58, hSq_58⟩ := hE.2.2.2.2 _ (List.mem_of_getElem? (i := 43) rfl)
              refine va_ldcS (own := RX8) (tx := "Which one do you mean?") hx hb hown hRq_58 dX8_nounOf_126 ?_
              obtain ⟨u_59, hu_59, hF_60⟩ := Option.bind_eq_some_iff.mp hF_57
              clear hF_57
              have hPc := bx_P (bs := [b_e cB cC cI cJ cZ oA rA σ_50, b_k cB cC cI cJ cZ oA rA σ_50, b_p cB cC cI cJ cZ oA rA σ_50, b_o cB cC cI cJ cZ oA rA σ_50, b_s cB cC cI cJ cZ oA rA σ_50, b_c cB cC cI cJ cZ oA rA σ_50, b_t cB cC cI cJ cZ oA rA σ_50, b_d cB cC cI cJ cZ oA rA σ_50]) (bs' := [b_o cB cC cI cJ cZ oA rA σ_50]) (ws' := (b_o cB cC cI cJ cZ oA rA σ_50)) hP fl_8 fl_1 [3] rfl
              have hDc := bx_D (bs := [b_e cB cC cI cJ cZ oA rA σ_50, b_k cB cC cI cJ cZ oA rA σ_50, b_p cB cC cI cJ cZ oA rA σ_50, b_o cB cC cI cJ cZ oA rA σ_50, b_s cB cC cI cJ cZ oA rA σ_50, b_c cB cC cI cJ cZ oA rA σ_50, b_t cB cC cI cJ cZ oA rA σ_50, b_d cB cC cI cJ cZ oA rA σ_50]) (bs' := [b_o cB cC cI cJ cZ oA rA σ_50]) (ws' := (b_o cB cC cI cJ cZ oA rA σ_50)) (hDD σ_50) fl_8 fl_1 [3] (by decide +kernel) rfl
              have hFc := bx_F (bs := [b_e cB cC cI cJ cZ oA rA σ_50, b_k cB cC cI cJ cZ oA rA σ_50, b_p cB cC cI cJ cZ oA rA σ_50, b_o cB cC cI cJ cZ oA rA σ_50, b_s cB cC cI cJ cZ oA rA σ_50, b_c cB cC cI cJ cZ oA rA σ_50, b_t cB cC cI cJ cZ oA rA σ_50, b_d cB cC cI cJ cZ oA rA σ_50]) (bs' := [b_o cB cC cI cJ cZ oA rA σ_50]) (wc := (b_o cB cC cI cJ cZ oA rA σ_50)) (hDD σ_50) hS hA fl_8 fl_1 [3] rfl
              refine g_ofv (wc := (b_o cB cC cI cJ cZ oA rA σ_50)) (wr := (b_e cB cC cI cJ cZ oA rA σ_50 ++ b_k cB cC cI cJ cZ oA rA σ_50 ++ b_p cB cC cI cJ cZ oA rA σ_50 ++ b_s cB cC cI cJ cZ oA rA σ_50 ++ b_c cB cC cI cJ cZ oA rA σ_50 ++ b_t cB cC cI cJ cZ oA rA σ_50 ++ b_d cB cC cI cJ cZ oA rA σ_50)) hP (hDD σ_50) hS hFc (bx_ix [b_e cB cC cI cJ cZ oA rA σ_50, b_k cB cC cI cJ cZ oA rA σ_50, b_p cB cC cI cJ cZ oA rA σ_50, b_o cB cC cI cJ cZ oA rA σ_50, b_s cB cC cI cJ cZ oA rA σ_50, b_c cB cC cI cJ cZ oA rA σ_50, b_t cB cC cI cJ cZ oA rA σ_50, b_d cB cC cI cJ cZ oA rA σ_50] [3]) (bx_ix [b_e cB cC cI cJ cZ oA rA σ_50, b_k cB cC cI cJ cZ oA rA σ_50, b_p cB cC cI cJ cZ oA rA σ_50, b_o cB cC cI cJ cZ oA rA σ_50, b_s cB cC cI cJ cZ oA rA σ_50, b_c cB cC cI cJ cZ oA rA σ_50, b_t cB cC cI cJ cZ oA rA σ_50, b_d cB cC cI cJ cZ oA rA σ_50] [0, 1, 2, 4, 5, 6, 7]) (bx_C (bs := [b_e cB cC cI cJ cZ oA rA σ_50, b_k cB cC cI cJ cZ oA rA σ_50, b_p cB cC cI cJ cZ oA rA σ_50, b_o cB cC cI cJ cZ oA rA σ_50, b_s cB cC cI cJ cZ oA rA σ_50, b_c cB cC cI cJ cZ oA rA σ_50, b_t cB cC cI cJ cZ oA rA σ_50, b_d cB cC cI cJ cZ oA rA σ_50]) (bs' := [b_o cB cC cI cJ cZ oA rA σ_50]) (is := [3]) fl_8 fl_1 rfl) (bx_C (bs := [b_e cB cC cI cJ cZ oA rA σ_50, b_k cB cC cI cJ cZ oA rA σ_50, b_p cB cC cI cJ cZ oA rA σ_50, b_o cB cC cI cJ cZ oA rA σ_50, b_s cB cC cI cJ cZ oA rA σ_50, b_c cB cC cI cJ cZ oA rA σ_50, b_t cB cC cI cJ cZ oA rA σ_50, b_d cB cC cI cJ cZ oA rA σ_50]) (bs' := [b_e cB cC cI cJ cZ oA rA σ_50, b_k cB cC cI cJ cZ oA rA σ_50, b_p cB cC cI cJ cZ oA rA σ_50, b_s cB cC cI cJ cZ oA rA σ_50, b_c cB cC cI cJ cZ oA rA σ_50, b_t cB cC cI cJ cZ oA rA σ_50, b_d cB cC cI cJ cZ oA rA σ_50]) (is := [0, 1, 2, 4, 5, 6, 7]) fl_8 fl_7 rfl) (bx_n (by decide +kernel)) (bx_d (by decide +kernel)) (va_runV (As := [.ref q_58]) (rest := []) ⟨hx, hb, hml, hown, hts⟩ (k_X5_line l dC dI cB cC cI cJ cZ cP oA rA H.size q_58 _ ([87, 104, 105, 99, 104, 32, 111, 110, 101, 32, 100, 111, 32, 121, 111, 117, 32, 109, 101, 97, 110, 63] : List Int32) σ_50 _ hu_59) (cwV 1 hts (g_gV wq_998 wq_999 wq_1000 wq_9 wq_1001) rfl rfl rfl (by decide +kernel) ⟨Nat.le_of_ble_eq_true rfl, Nat.le_of_ble_eq_true rfl⟩) (g_preV g_blS hK hPc hDc hS hE hFc (g_toS hSq_58 hS hFc) (q0 := 0) (ci := 5) rfl rfl) rfl rfl hl.1 rfl (lv_room (Nat.le_of_ble_eq_true rfl)) dX8_nounOf_128 ⟨Nat.le_of_ble_eq_true rfl, Nat.le_of_ble_eq_true rfl⟩) (fun u9 H locs hw9 hP' hD' hS => ?_)
              clear hPc hDc hFc
              obtain ⟨σ_61, eσ_61, hF_62⟩ := bnd_e hF_60
              clear hF_60
              have hP : va_P (dC, dI) vwCl (b_e cB cC cI cJ cZ oA rA σ_61 ++ b_k cB cC cI cJ cZ oA rA σ_61 ++ b_p cB cC cI cJ cZ oA rA σ_61 ++ b_o cB cC cI cJ cZ oA rA σ_61 ++ b_s cB cC cI cJ cZ oA rA σ_61 ++ b_c cB cC cI cJ cZ oA rA σ_61 ++ b_t cB cC cI cJ cZ oA rA σ_61 ++ b_d cB cC cI cJ cZ oA rA σ_61) H := by rw [eσ_61]; exact bx_P (bs := [b_e cB cC cI cJ cZ oA rA σ_50, b_k cB cC cI cJ cZ oA rA σ_50, b_p cB cC cI cJ cZ oA rA σ_50, b_s cB cC cI cJ cZ oA rA σ_50, b_c cB cC cI cJ cZ oA rA σ_50, b_t cB cC cI cJ cZ oA rA σ_50, b_d cB cC cI cJ cZ oA rA σ_50] ++ [b_o cB cC cI cJ cZ oA rA u_59.2]) (bs' := [b_e cB cC cI cJ cZ oA rA (mrg (fun j => j == 8) σ_50 u_59.2), b_k cB cC cI cJ cZ oA rA (mrg (fun j => j == 8) σ_50 u_59.2), b_p cB cC cI cJ cZ oA rA (mrg (fun j => j == 8) σ_50 u_59.2), b_o cB cC cI cJ cZ oA rA (mrg (fun j => j == 8) σ_50 u_59.2), b_s cB cC cI cJ cZ oA rA (mrg (fun j => j == 8) σ_50 u_59.2), b_c cB cC cI cJ cZ oA rA (mrg (fun j => j == 8) σ_50 u_59.2), b_t cB cC cI cJ cZ oA rA (mrg (fun j => j == 8) σ_50 u_59.2), b_d cB cC cI cJ cZ oA rA (mrg (fun j => j == 8) σ_50 u_59.2)]) hP' (fl_a fl_7 fl_1) fl_8 [0, 1, 2, 7, 3, 4, 5, 6] rfl
              clear hP' hD'
              refine lv_iconst (v := 0) hx hb dX8_nounOf_131 (by decide +kernel) ?_
              have h9 := Option.some.inj hF_62
              subst h9
              exact W.iret (v := 0) hx hb hr (fun t ht hW => ⟨⟨0, (), rfl, rfl, m_end ht hP, hDD _⟩, hS.F ht⟩) hS.2.2 dX8_nounOf_132
  refine lv_icmp_ne (tgt := 71) hx hb dX8_nounOf_15 (by decide) (fun c_63 => ?_) (fun c_63 => ?_)
  · have hF_89 := ineg c_63 hF_20
    clear hF_20
    exact Jj_19  σ_3 hF_89 _ _ hP hS ls (lv_sub hl [2, 3, 4, 1, 0] rfl)
  · have hF_64 := ipos c_63 hF_20
    clear hF_20
    refine lv_aload_n hx hb dX8_nounOf_18 rfl (lv_at hl 2 rfl) ?_
    refine lv_iload_n hx hb dX8_nounOf_19 rfl (lv_at hl 3 rfl) ?_
    obtain ⟨u_65, hu_65, hF_66⟩ := Option.bind_eq_some_iff.mp hF_64
    clear hF_64
    have hPc := bx_P (bs := [b_e cB cC cI cJ cZ oA rA σ_3, b_k cB cC cI cJ cZ oA rA σ_3, b_p cB cC cI cJ cZ oA rA σ_3, b_o cB cC cI cJ cZ oA rA σ_3, b_s cB cC cI cJ cZ oA rA σ_3, b_c cB cC cI cJ cZ oA rA σ_3, b_t cB cC cI cJ cZ oA rA σ_3, b_d cB cC cI cJ cZ oA rA σ_3]) (bs' := [b_e cB cC cI cJ cZ oA rA σ_3, b_k cB cC cI cJ cZ oA rA σ_3, b_p cB cC cI cJ cZ oA rA σ_3, b_o cB cC cI cJ cZ oA rA σ_3, b_s cB cC cI cJ cZ oA rA σ_3, b_c cB cC cI cJ cZ oA rA σ_3, b_t cB cC cI cJ cZ oA rA σ_3, b_d cB cC cI cJ cZ oA rA σ_3]) (ws' := (b_e cB cC cI cJ cZ oA rA σ_3 ++ b_k cB cC cI cJ cZ oA rA σ_3 ++ b_p cB cC cI cJ cZ oA rA σ_3 ++ b_o cB cC cI cJ cZ oA rA σ_3 ++ b_s cB cC cI cJ cZ oA rA σ_3 ++ b_c cB cC cI cJ cZ oA rA σ_3 ++ b_t cB cC cI cJ cZ oA rA σ_3 ++ b_d cB cC cI cJ cZ oA rA σ_3)) hP fl_8 fl_8 [0, 1, 2, 3, 4, 5, 6, 7] rfl
    have hDc := bx_D (bs := [b_e cB cC cI cJ cZ oA rA σ_3, b_k cB cC cI cJ cZ oA rA σ_3, b_p cB cC cI cJ cZ oA rA σ_3, b_o cB cC cI cJ cZ oA rA σ_3, b_s cB cC cI cJ cZ oA rA σ_3, b_c cB cC cI cJ cZ oA rA σ_3, b_t cB cC cI cJ cZ oA rA σ_3, b_d cB cC cI cJ cZ oA rA σ_3]) (bs' := [b_e cB cC cI cJ cZ oA rA σ_3, b_k cB cC cI cJ cZ oA rA σ_3, b_p cB cC cI cJ cZ oA rA σ_3, b_o cB cC cI cJ cZ oA rA σ_3, b_s cB cC cI cJ cZ oA rA σ_3, b_c cB cC cI cJ cZ oA rA σ_3, b_t cB cC cI cJ cZ oA rA σ_3, b_d cB cC cI cJ cZ oA rA σ_3]) (ws' := (b_e cB cC cI cJ cZ oA rA σ_3 ++ b_k cB cC cI cJ cZ oA rA σ_3 ++ b_p cB cC cI cJ cZ oA rA σ_3 ++ b_o cB cC cI cJ cZ oA rA σ_3 ++ b_s cB cC cI cJ cZ oA rA σ_3 ++ b_c cB cC cI cJ cZ oA rA σ_3 ++ b_t cB cC cI cJ cZ oA rA σ_3 ++ b_d cB cC cI cJ cZ oA rA σ_3)) (hDD σ_3) fl_8 fl_8 [0, 1, 2, 3, 4, 5, 6, 7] (by decide +kernel) rfl
    have hFc := bx_F (bs := [b_e cB cC cI cJ cZ oA rA σ_3, b_k cB cC cI cJ cZ oA rA σ_3, b_p cB cC cI cJ cZ oA rA σ_3, b_o cB cC cI cJ cZ oA rA σ_3, b_s cB cC cI cJ cZ oA rA σ_3, b_c cB cC cI cJ cZ oA rA σ_3, b_t cB cC cI cJ cZ oA rA σ_3, b_d cB cC cI cJ cZ oA rA σ_3]) (bs' := [b_e cB cC cI cJ cZ oA rA σ_3, b_k cB cC cI cJ cZ oA rA σ_3, b_p cB cC cI cJ cZ oA rA σ_3, b_o cB cC cI cJ cZ oA rA σ_3, b_s cB cC cI cJ cZ oA rA σ_3, b_c cB cC cI cJ cZ oA rA σ_3, b_t cB cC cI cJ cZ oA rA σ_3, b_d cB cC cI cJ cZ oA rA σ_3]) (wc := (b_e cB cC cI cJ cZ oA rA σ_3 ++ b_k cB cC cI cJ cZ oA rA σ_3 ++ b_p cB cC cI cJ cZ oA rA σ_3 ++ b_o cB cC cI cJ cZ oA rA σ_3 ++ b_s cB cC cI cJ cZ oA rA σ_3 ++ b_c cB cC cI cJ cZ oA rA σ_3 ++ b_t cB cC cI cJ cZ oA rA σ_3 ++ b_d cB cC cI cJ cZ oA rA σ_3)) (hDD σ_3) hS hA fl_8 fl_8 [0, 1, 2, 3, 4, 5, 6, 7] rfl
    refine g_ofi (wc := (b_e cB cC cI cJ cZ oA rA σ_3 ++ b_k cB cC cI cJ cZ oA rA σ_3 ++ b_p cB cC cI cJ cZ oA rA σ_3 ++ b_o cB cC cI cJ cZ oA rA σ_3 ++ b_s cB cC cI cJ cZ oA rA σ_3 ++ b_c cB cC cI cJ cZ oA rA σ_3 ++ b_t cB cC cI cJ cZ oA rA σ_3 ++ b_d cB cC cI cJ cZ oA rA σ_3)) (wr := ([] : va_W)) hP (hDD σ_3) hS hFc (bx_ix [b_e cB cC cI cJ cZ oA rA σ_3, b_k cB cC cI cJ cZ oA rA σ_3, b_p cB cC cI cJ cZ oA rA σ_3, b_o cB cC cI cJ cZ oA rA σ_3, b_s cB cC cI cJ cZ oA rA σ_3, b_c cB cC cI cJ cZ oA rA σ_3, b_t cB cC cI cJ cZ oA rA σ_3, b_d cB cC cI cJ cZ oA rA σ_3] [0, 1, 2, 3, 4, 5, 6, 7]) (bx_ix [b_e cB cC cI cJ cZ oA rA σ_3, b_k cB cC cI cJ cZ oA rA σ_3, b_p cB cC cI cJ cZ oA rA σ_3, b_o cB cC cI cJ cZ oA rA σ_3, b_s cB cC cI cJ cZ oA rA σ_3, b_c cB cC cI cJ cZ oA rA σ_3, b_t cB cC cI cJ cZ oA rA σ_3, b_d cB cC cI cJ cZ oA rA σ_3] []) (bx_C (bs := [b_e cB cC cI cJ cZ oA rA σ_3, b_k cB cC cI cJ cZ oA rA σ_3, b_p cB cC cI cJ cZ oA rA σ_3, b_o cB cC cI cJ cZ oA rA σ_3, b_s cB cC cI cJ cZ oA rA σ_3, b_c cB cC cI cJ cZ oA rA σ_3, b_t cB cC cI cJ cZ oA rA σ_3, b_d cB cC cI cJ cZ oA rA σ_3]) (bs' := [b_e cB cC cI cJ cZ oA rA σ_3, b_k cB cC cI cJ cZ oA rA σ_3, b_p cB cC cI cJ cZ oA rA σ_3, b_o cB cC cI cJ cZ oA rA σ_3, b_s cB cC cI cJ cZ oA rA σ_3, b_c cB cC cI cJ cZ oA rA σ_3, b_t cB cC cI cJ cZ oA rA σ_3, b_d cB cC cI cJ cZ oA rA σ_3]) (is := [0, 1, 2, 3, 4, 5, 6, 7]) fl_8 fl_8 rfl) (bx_C (bs := [b_e cB cC cI cJ cZ oA rA σ_3, b_k cB cC cI cJ cZ oA rA σ_3, b_p cB cC cI cJ cZ oA rA σ_3, b_o cB cC cI cJ cZ oA rA σ_3, b_s cB cC cI cJ cZ oA rA σ_3, b_c cB cC cI cJ cZ oA rA σ_3, b_t cB cC cI cJ cZ oA rA σ_3, b_d cB cC cI cJ cZ oA rA σ_3]) (bs' := []) (is := []) fl_8 fl_0 rfl) (bx_n (by decide +kernel)) (bx_d (by decide +kernel)) (va_runV (As := [.int p0]) (rest := []) ⟨hx, hb, hml, hown, hts⟩ (k_X8_term l dC dI cB cC cI cJ cZ cP oA rA H.size  p0 σ_3 _ hu_65) (cwV 1 hts (g_gV wq_1065 wq_1066 wq_2074 wq_12 wq_1067) rfl rfl rfl (by decide +kernel) ⟨Nat.le_of_ble_eq_true rfl, Nat.le_of_ble_eq_true rfl⟩) (g_preV g_bl0 hK hPc hDc hS hE hFc g_to0 (q0 := 0) (ci := 8) rfl rfl) rfl rfl hl.1 rfl (lv_room (Nat.le_of_ble_eq_true rfl)) dX8_nounOf_20 ⟨Nat.le_of_ble_eq_true rfl, Nat.le_of_ble_eq_true rfl⟩) (fun r9 u9 H locs hw9 hP' hD' hS => ?_)
    clear hPc hDc hFc
    subst hw9
    have hP : va_P (dC, dI) vwCl (b_e cB cC cI cJ cZ oA rA u_65.2 ++ b_k cB cC cI cJ cZ oA rA u_65.2 ++ b_p cB cC cI cJ cZ oA rA u_65.2 ++ b_o cB cC cI cJ cZ oA rA u_65.2 ++ b_s cB cC cI cJ cZ oA rA u_65.2 ++ b_c cB cC cI cJ cZ oA rA u_65.2 ++ b_t cB cC cI cJ cZ oA rA u_65.2 ++ b_d cB cC cI cJ cZ oA rA u_65.2) H := hP'
    clear hP' hD'
    refine lv_iconst (v := 2) hx hb dX8_nounOf_23 (by decide +kernel) ?_
    refine lv_icmp_ne (tgt := 71) hx hb dX8_nounOf_24 (by decide) (fun c_67 => ?_) (fun c_67 => ?_)
    · have hF_88 := ineg c_67 hF_66
      clear hF_66
      exact Jj_19  u_65.2 hF_88 _ _ hP hS ls (lv_sub hl [2, 3, 4, 1, 0] rfl)
    · have hF_68 := ipos c_67 hF_66
      clear hF_66
      refine lv_aload_n hx hb dX8_nounOf_27 rfl (lv_at hl 2 rfl) ?_
      refine va_get (D := (dC, dI)) (ci := 8) (v := .ref (oA 9)) (C := RX8) (T := TX8) (N := 16) hx hb hts ii_X8 hown hK hP 0 rfl rfl 0 (by decide) (hts (.fieldLink RX8 22 "StoryHouse$Teller" "play" "LStoryHouse$Play;") wq_286) (fun _ h9 => h9) rfl dX8_nounOf_28 ?_
      refine va_get (D := (dC, dI)) (ci := 6) (v := .int ((u_65.2 9).1 11)) (C := RX6) (T := TX6) (N := 12) hx hb hts ii_X6 hown hK hP 9 rfl rfl 11 (by decide) (hts (.fieldLink RX8 174 "StoryHouse$Play" "it" "I") wq_251) (fun _ h9 => h9) rfl dX8_nounOf_31 ?_
      obtain ⟨j_71, ej_71, hF_72⟩ := bnd_e hF_68
      clear hF_68
      have Jj_71 : ∀ (t_69 : Int32) (σ_70 : HS), j_71 t_69 σ_70 = some res → ∀ (H : Heap) (locs : List Loc), va_P (dC, dI) vwCl (b_e cB cC cI cJ cZ oA rA σ_70 ++ b_k cB cC cI cJ cZ oA rA σ_70 ++ b_p cB cC cI cJ cZ oA rA σ_70 ++ b_o cB cC cI cJ cZ oA rA σ_70 ++ b_s cB cC cI cJ cZ oA rA σ_70 ++ b_c cB cC cI cJ cZ oA rA σ_70 ++ b_t cB cC cI cJ cZ oA rA σ_70 ++ b_d cB cC cI cJ cZ oA rA σ_70) H → va_S A s.heap H locs → ∀ ls : Array Slot, lv_has ls 6 [(0, .ref (oA 11))] → W p l e (headSpec (g_ws yX8_nounOf cX8_nounOf 6 (some .int)) { frames := 7, cells := 0, slots := 0, locals := 168 }).room s m ([.ref (oA 11), .int p0, .int p1] : List Value).toArray below meth c H locs 0 0 (MQ below (va_Qi (fun r (_ : Unit) => r = res.1) (g_Bo (dC, dI) A (fun (_ : Unit) => (b_e cB cC cI cJ cZ oA rA res.2 ++ b_k cB cC cI cJ cZ oA rA res.2 ++ b_p cB cC cI cJ cZ oA rA res.2 ++ b_o cB cC cI cJ cZ oA rA res.2 ++ b_s cB cC cI cJ cZ oA rA res.2 ++ b_c cB cC cI cJ cZ oA rA res.2 ++ b_t cB cC cI cJ cZ oA rA res.2 ++ b_d cB cC cI cJ cZ oA rA res.2))) A) ([.ref (oA 11), .int p0, .int p1] : List Value).toArray s 0 0 A) (F0 m 66 ls [.int t_69]) := by
        intro t_69 σ_70 hF0 H locs hP hS ls hl
        subst ej_71
        have hF_73 := hF0
        clear hF0
        refine lv_istore (lv' := [(4, .int t_69), (0, .ref (oA 11))]) hx hb dX8_nounOf_66 hl (by decide) rfl (fun ls hl => ?_)
        refine lv_goto (tgt := 143) hx hb dX8_nounOf_68 (by decide) ?_
        exact Jj_7 t_69 σ_70 hF_73 _ _ hP hS ls (lv_sub hl [1, 0] rfl)
      obtain ⟨j_75, ej_75, hF_76⟩ := bnd_e hF_72
      clear hF_72
      have Jj_75 : ∀  (σ_74 : HS), j_75  σ_74 = some res → ∀ (H : Heap) (locs : List Loc), va_P (dC, dI) vwCl (b_e cB cC cI cJ cZ oA rA σ_74 ++ b_k cB cC cI cJ cZ oA rA σ_74 ++ b_p cB cC cI cJ cZ oA rA σ_74 ++ b_o cB cC cI cJ cZ oA rA σ_74 ++ b_s cB cC cI cJ cZ oA rA σ_74 ++ b_c cB cC cI cJ cZ oA rA σ_74 ++ b_t cB cC cI cJ cZ oA rA σ_74 ++ b_d cB cC cI cJ cZ oA rA σ_74) H → va_S A s.heap H locs → ∀ ls : Array Slot, lv_has ls 6 [(0, .ref (oA 11))] → W p l e (headSpec (g_ws yX8_nounOf cX8_nounOf 6 (some .int)) { frames := 7, cells := 0, slots := 0, locals := 168 }).room s m ([.ref (oA 11), .int p0, .int p1] : List Value).toArray below meth c H locs 0 0 (MQ below (va_Qi (fun r (_ : Unit) => r = res.1) (g_Bo (dC, dI) A (fun (_ : Unit) => (b_e cB cC cI cJ cZ oA rA res.2 ++ b_k cB cC cI cJ cZ oA rA res.2 ++ b_p cB cC cI cJ cZ oA rA res.2 ++ b_o cB cC cI cJ cZ oA rA res.2 ++ b_s cB cC cI cJ cZ oA rA res.2 ++ b_c cB cC cI cJ cZ oA rA res.2 ++ b_t cB cC cI cJ cZ oA rA res.2 ++ b_d cB cC cI cJ cZ oA rA res.2))) A) ([.ref (oA 11), .int p0, .int p1] : List Value).toArray s 0 0 A) (F0 m 65 ls []) := by
        intro  σ_74 hF0 H locs hP hS ls hl
        subst ej_75
        have hF_77 := hF0
        clear hF0
        refine lv_iconst (v := 0) hx hb dX8_nounOf_65 (by decide +kernel) ?_
        exact Jj_71 0 σ_74 hF_77 _ _ hP hS ls (lv_sub hl [0] rfl)
      refine lv_if_eq (tgt := 65) hx hb dX8_nounOf_34 (by decide) (fun c_78 => ?_) (fun c_78 => ?_)
      · have hF_79 := ipos c_78 hF_76
        clear hF_76
        exact Jj_75  u_65.2 hF_79 _ _ hP hS ls (lv_sub hl [2] rfl)
      · have hF_80 := ineg c_78 hF_76
        clear hF_76
        refine lv_aload_n hx hb dX8_nounOf_37 rfl (lv_at hl 2 rfl) ?_
        refine va_get (D := (dC, dI)) (ci := 8) (v := .ref (oA 9)) (C := RX8) (T := TX8) (N := 16) hx hb hts ii_X8 hown hK hP 0 rfl rfl 0 (by decide) (hts (.fieldLink RX8 22 "StoryHouse$Teller" "play" "LStoryHouse$Play;") wq_286) (fun _ h9 => h9) rfl dX8_nounOf_38 ?_
        refine lv_aload_n hx hb dX8_nounOf_41 rfl (lv_at hl 2 rfl) ?_
        refine va_get (D := (dC, dI)) (ci := 8) (v := .ref (oA 9)) (C := RX8) (T := TX8) (N := 16) hx hb hts ii_X8 hown hK hP 0 rfl rfl 0 (by decide) (hts (.fieldLink RX8 22 "StoryHouse$Teller" "play" "LStoryHouse$Play;") wq_286) (fun _ h9 => h9) rfl dX8_nounOf_42 ?_
        refine va_get (D := (dC, dI)) (ci := 6) (v := .int ((u_65.2 9).1 11)) (C := RX6) (T := TX6) (N := 12) hx hb hts ii_X6 hown hK hP 9 rfl rfl 11 (by decide) (hts (.fieldLink RX8 174 "StoryHouse$Play" "it" "I") wq_251) (fun _ h9 => h9) rfl dX8_nounOf_45 ?_
        refine lv_iload_n hx hb dX8_nounOf_48 rfl (lv_at hl 1 rfl) ?_
        obtain ⟨u_81, hu_81, hF_82⟩ := Option.bind_eq_some_iff.mp hF_80
        clear hF_80
        have hPc := bx_P (bs := [b_e cB cC cI cJ cZ oA rA u_65.2, b_k cB cC cI cJ cZ oA rA u_65.2, b_p cB cC cI cJ cZ oA rA u_65.2, b_o cB cC cI cJ cZ oA rA u_65.2, b_s cB cC cI cJ cZ oA rA u_65.2, b_c cB cC cI cJ cZ oA rA u_65.2, b_t cB cC cI cJ cZ oA rA u_65.2, b_d cB cC cI cJ cZ oA rA u_65.2]) (bs' := [b_p cB cC cI cJ cZ oA rA u_65.2]) (ws' := (b_p cB cC cI cJ cZ oA rA u_65.2)) hP fl_8 fl_1 [2] rfl
        have hDc := bx_D (bs := [b_e cB cC cI cJ cZ oA rA u_65.2, b_k cB cC cI cJ cZ oA rA u_65.2, b_p cB cC cI cJ cZ oA rA u_65.2, b_o cB cC cI cJ cZ oA rA u_65.2, b_s cB cC cI cJ cZ oA rA u_65.2, b_c cB cC cI cJ cZ oA rA u_65.2, b_t cB cC cI cJ cZ oA rA u_65.2, b_d cB cC cI cJ cZ oA rA u_65.2]) (bs' := [b_p cB cC cI cJ cZ oA rA u_65.2]) (ws' := (b_p cB cC cI cJ cZ oA rA u_65.2)) (hDD u_65.2) fl_8 fl_1 [2] (by decide +kernel) rfl
        have hFc := bx_F (bs := [b_e cB cC cI cJ cZ oA rA u_65.2, b_k cB cC cI cJ cZ oA rA u_65.2, b_p cB cC cI cJ cZ oA rA u_65.2, b_o cB cC cI cJ cZ oA rA u_65.2, b_s cB cC cI cJ cZ oA rA u_65.2, b_c cB cC cI cJ cZ oA rA u_65.2, b_t cB cC cI cJ cZ oA rA u_65.2, b_d cB cC cI cJ cZ oA rA u_65.2]) (bs' := [b_p cB cC cI cJ cZ oA rA u_65.2]) (wc := (b_p cB cC cI cJ cZ oA rA u_65.2)) (hDD u_65.2) hS hA fl_8 fl_1 [2] rfl
        refine g_ofi (wc := (b_p cB cC cI cJ cZ oA rA u_65.2)) (wr := (b_e cB cC cI cJ cZ oA rA u_65.2 ++ b_k cB cC cI cJ cZ oA rA u_65.2 ++ b_o cB cC cI cJ cZ oA rA u_65.2 ++ b_s cB cC cI cJ cZ oA rA u_65.2 ++ b_c cB cC cI cJ cZ oA rA u_65.2 ++ b_t cB cC cI cJ cZ oA rA u_65.2 ++ b_d cB cC cI cJ cZ oA rA u_65.2)) hP (hDD u_65.2) hS hFc (bx_ix [b_e cB cC cI cJ cZ oA rA u_65.2, b_k cB cC cI cJ cZ oA rA u_65.2, b_p cB cC cI cJ cZ oA rA u_65.2, b_o cB cC cI cJ cZ oA rA u_65.2, b_s cB cC cI cJ cZ oA rA u_65.2, b_c cB cC cI cJ cZ oA rA u_65.2, b_t cB cC cI cJ cZ oA rA u_65.2, b_d cB cC cI cJ cZ oA rA u_65.2] [2]) (bx_ix [b_e cB cC cI cJ cZ oA rA u_65.2, b_k cB cC cI cJ cZ oA rA u_65.2, b_p cB cC cI cJ cZ oA rA u_65.2, b_o cB cC cI cJ cZ oA rA u_65.2, b_s cB cC cI cJ cZ oA rA u_65.2, b_c cB cC cI cJ cZ oA rA u_65.2, b_t cB cC cI cJ cZ oA rA u_65.2, b_d cB cC cI cJ cZ oA rA u_65.2] [0, 1, 3, 4, 5, 6, 7]) (bx_C (bs := [b_e cB cC cI cJ cZ oA rA u_65.2, b_k cB cC cI cJ cZ oA rA u_65.2, b_p cB cC cI cJ cZ oA rA u_65.2, b_o cB cC cI cJ cZ oA rA u_65.2, b_s cB cC cI cJ cZ oA rA u_65.2, b_c cB cC cI cJ cZ oA rA u_65.2, b_t cB cC cI cJ cZ oA rA u_65.2, b_d cB cC cI cJ cZ oA rA u_65.2]) (bs' := [b_p cB cC cI cJ cZ oA rA u_65.2]) (is := [2]) fl_8 fl_1 rfl) (bx_C (bs := [b_e cB cC cI cJ cZ oA rA u_65.2, b_k cB cC cI cJ cZ oA rA u_65.2, b_p cB cC cI cJ cZ oA rA u_65.2, b_o cB cC cI cJ cZ oA rA u_65.2, b_s cB cC cI cJ cZ oA rA u_65.2, b_c cB cC cI cJ cZ oA rA u_65.2, b_t cB cC cI cJ cZ oA rA u_65.2, b_d cB cC cI cJ cZ oA rA u_65.2]) (bs' := [b_e cB cC cI cJ cZ oA rA u_65.2, b_k cB cC cI cJ cZ oA rA u_65.2, b_o cB cC cI cJ cZ oA rA u_65.2, b_s cB cC cI cJ cZ oA rA u_65.2, b_c cB cC cI cJ cZ oA rA u_65.2, b_t cB cC cI cJ cZ oA rA u_65.2, b_d cB cC cI cJ cZ oA rA u_65.2]) (is := [0, 1, 3, 4, 5, 6, 7]) fl_8 fl_7 rfl) (bx_n (by decide +kernel)) (bx_d (by decide +kernel)) (va_runV (As := [.int ((u_65.2 9).1 11), .int u_1.1]) (rest := []) ⟨hx, hb, hml, hown, hts⟩ (k_X6_isInScope l dC dI cB cC cI cJ cZ cP oA rA H.size  ((u_65.2 9).1 11) u_1.1 u_65.2 _ hu_81) (cwV 2 hts (g_gV wq_1097 wq_1098 wq_1099 wq_10 wq_1100) rfl rfl rfl (by decide +kernel) ⟨Nat.le_of_ble_eq_true rfl, Nat.le_of_ble_eq_true rfl⟩) (g_preV g_bl0 hK hPc hDc hS hE hFc g_to0 (q0 := 0) (ci := 6) rfl rfl) rfl rfl hl.1 rfl (lv_room (Nat.le_of_ble_eq_true rfl)) dX8_nounOf_49 ⟨Nat.le_of_ble_eq_true rfl, Nat.le_of_ble_eq_true rfl⟩) (fun r9 u9 H locs hw9 hP' hD' hS => ?_)
        clear hPc hDc hFc
        subst hw9
        obtain ⟨σ_83, eσ_83, hF_84⟩ := bnd_e hF_82
        clear hF_82
        have hP : va_P (dC, dI) vwCl (b_e cB cC cI cJ cZ oA rA σ_83 ++ b_k cB cC cI cJ cZ oA rA σ_83 ++ b_p cB cC cI cJ cZ oA rA σ_83 ++ b_o cB cC cI cJ cZ oA rA σ_83 ++ b_s cB cC cI cJ cZ oA rA σ_83 ++ b_c cB cC cI cJ cZ oA rA σ_83 ++ b_t cB cC cI cJ cZ oA rA σ_83 ++ b_d cB cC cI cJ cZ oA rA σ_83) H := by rw [eσ_83]; exact bx_P (bs := [b_e cB cC cI cJ cZ oA rA u_65.2, b_k cB cC cI cJ cZ oA rA u_65.2, b_o cB cC cI cJ cZ oA rA u_65.2, b_s cB cC cI cJ cZ oA rA u_65.2, b_c cB cC cI cJ cZ oA rA u_65.2, b_t cB cC cI cJ cZ oA rA u_65.2, b_d cB cC cI cJ cZ oA rA u_65.2] ++ [b_p cB cC cI cJ cZ oA rA u_81.2]) (bs' := [b_e cB cC cI cJ cZ oA rA (mrg (fun j => j == 9) u_65.2 u_81.2), b_k cB cC cI cJ cZ oA rA (mrg (fun j => j == 9) u_65.2 u_81.2), b_p cB cC cI cJ cZ oA rA (mrg (fun j => j == 9) u_65.2 u_81.2), b_o cB cC cI cJ cZ oA rA (mrg (fun j => j == 9) u_65.2 u_81.2), b_s cB cC cI cJ cZ oA rA (mrg (fun j => j == 9) u_65.2 u_81.2), b_c cB cC cI cJ cZ oA rA (mrg (fun j => j == 9) u_65.2 u_81.2), b_t cB cC cI cJ cZ oA rA (mrg (fun j => j == 9) u_65.2 u_81.2), b_d cB cC cI cJ cZ oA rA (mrg (fun j => j == 9) u_65.2 u_81.2)]) hP' (fl_a fl_7 fl_1) fl_8 [0, 1, 7, 2, 3, 4, 5, 6] rfl
        clear hP' hD'
        refine lv_if_eq (tgt := 65) hx hb dX8_nounOf_52 (by decide) (fun c_85 => ?_) (fun c_85 => ?_)
        · have hF_86 := ipos c_85 hF_84
          clear hF_84
          exact Jj_75  σ_83 hF_86 _ _ hP hS ls (lv_sub hl [2] rfl)
        · have hF_87 := ineg c_85 hF_84
          clear hF_84
          refine lv_aload_n hx hb dX8_nounOf_55 rfl (lv_at hl 2 rfl) ?_
          refine va_get (D := (dC, dI)) (ci := 8) (v := .ref (oA 9)) (C := RX8) (T := TX8) (N := 16) hx hb hts ii_X8 hown hK hP 0 rfl rfl 0 (by decide) (hts (.fieldLink RX8 22 "StoryHouse$Teller" "play" "LStoryHouse$Play;") wq_286) (fun _ h9 => h9) rfl dX8_nounOf_56 ?_
          refine va_get (D := (dC, dI)) (ci := 6) (v := .int ((σ_83 9).1 11)) (C := RX6) (T := TX6) (N := 12) hx hb hts ii_X6 hown hK hP 9 rfl rfl 11 (by decide) (hts (.fieldLink RX8 174 "StoryHouse$Play" "it" "I") wq_251) (fun _ h9 => h9) rfl dX8_nounOf_59 ?_
          refine lv_goto (tgt := 66) hx hb dX8_nounOf_62 (by decide) ?_
          exact Jj_71 ((σ_83 9).1 11) σ_83 hF_87 _ _ hP hS ls (lv_sub hl [2] rfl)
