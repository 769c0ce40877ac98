/-! methods of the class: what each does is its function -/
theorem dX8_findNouns_0 : decode cX8_findNouns 0 = .ok (.aload_n 0, 1) := by decide +kernel
theorem dX8_findNouns_1 : decode cX8_findNouns 1 = .ok (.getfield 85, 3) := by decide +kernel
theorem dX8_findNouns_4 : decode cX8_findNouns 4 = .ok (.getfield 153, 3) := by decide +kernel
theorem dX8_findNouns_7 : decode cX8_findNouns 7 = .ok (.aload_n 0, 1) := by decide +kernel
theorem dX8_findNouns_8 : decode cX8_findNouns 8 = .ok (.getfield 127, 3) := by decide +kernel
theorem dX8_findNouns_11 : decode cX8_findNouns 11 = .ok (.invokestatic 70, 3) := by decide +kernel
theorem dX8_findNouns_14 : decode cX8_findNouns 14 = .ok (.istore_n 1, 1) := by decide +kernel
theorem dX8_findNouns_15 : decode cX8_findNouns 15 = .ok (.iload_n 1, 1) := by decide +kernel
theorem dX8_findNouns_16 : decode cX8_findNouns 16 = .ok (.ifCond .ne 5, 3) := by decide +kernel
theorem dX8_findNouns_19 : decode cX8_findNouns 19 = .ok (.iconst 1, 1) := by decide +kernel
theorem dX8_findNouns_20 : decode cX8_findNouns 20 = .ok (.ireturn, 1) := by decide +kernel
theorem dX8_findNouns_21 : decode cX8_findNouns 21 = .ok (.aload_n 0, 1) := by decide +kernel
theorem dX8_findNouns_22 : decode cX8_findNouns 22 = .ok (.iconst 1, 1) := by decide +kernel
theorem dX8_findNouns_23 : decode cX8_findNouns 23 = .ok (.aload_n 0, 1) := by decide +kernel
theorem dX8_findNouns_24 : decode cX8_findNouns 24 = .ok (.getfield 156, 3) := by decide +kernel
theorem dX8_findNouns_27 : decode cX8_findNouns 27 = .ok (.invokevirtual 162, 3) := by decide +kernel
theorem dX8_findNouns_30 : decode cX8_findNouns 30 = .ok (.istore_n 2, 1) := by decide +kernel
theorem dX8_findNouns_31 : decode cX8_findNouns 31 = .ok (.aload_n 0, 1) := by decide +kernel
theorem dX8_findNouns_32 : decode cX8_findNouns 32 = .ok (.iload_n 2, 1) := by decide +kernel
theorem dX8_findNouns_33 : decode cX8_findNouns 33 = .ok (.invokevirtual 55, 3) := by decide +kernel
theorem dX8_findNouns_36 : decode cX8_findNouns 36 = .ok (.iconst 3, 1) := by decide +kernel
theorem dX8_findNouns_37 : decode cX8_findNouns 37 = .ok (.if_icmp .ne 39, 3) := by decide +kernel
theorem dX8_findNouns_40 : decode cX8_findNouns 40 = .ok (.aload_n 0, 1) := by decide +kernel
theorem dX8_findNouns_41 : decode cX8_findNouns 41 = .ok (.getfield 156, 3) := by decide +kernel
theorem dX8_findNouns_44 : decode cX8_findNouns 44 = .ok (.iload_n 2, 1) := by decide +kernel
theorem dX8_findNouns_45 : decode cX8_findNouns 45 = .ok (.isub, 1) := by decide +kernel
theorem dX8_findNouns_46 : decode cX8_findNouns 46 = .ok (.iconst 1, 1) := by decide +kernel
theorem dX8_findNouns_47 : decode cX8_findNouns 47 = .ok (.if_icmp .ne 29, 3) := by decide +kernel
theorem dX8_findNouns_50 : decode cX8_findNouns 50 = .ok (.aload_n 0, 1) := by decide +kernel
theorem dX8_findNouns_51 : decode cX8_findNouns 51 = .ok (.getfield 127, 3) := by decide +kernel
theorem dX8_findNouns_54 : decode cX8_findNouns 54 = .ok (.iconst 4, 1) := by decide +kernel
theorem dX8_findNouns_55 : decode cX8_findNouns 55 = .ok (.if_icmp .eq 11, 3) := by decide +kernel
theorem dX8_findNouns_58 : decode cX8_findNouns 58 = .ok (.aload_n 0, 1) := by decide +kernel
theorem dX8_findNouns_59 : decode cX8_findNouns 59 = .ok (.getfield 127, 3) := by decide +kernel
theorem dX8_findNouns_62 : decode cX8_findNouns 62 = .ok (.iconst 5, 1) := by decide +kernel
theorem dX8_findNouns_63 : decode cX8_findNouns 63 = .ok (.if_icmp .ne 13, 3) := by decide +kernel
theorem dX8_findNouns_66 : decode cX8_findNouns 66 = .ok (.aload_n 0, 1) := by decide +kernel
theorem dX8_findNouns_67 : decode cX8_findNouns 67 = .ok (.iconst 1, 1) := by decide +kernel
theorem dX8_findNouns_68 : decode cX8_findNouns 68 = .ok (.putfield 120, 3) := by decide +kernel
theorem dX8_findNouns_71 : decode cX8_findNouns 71 = .ok (.aload_n 0, 1) := by decide +kernel
theorem dX8_findNouns_72 : decode cX8_findNouns 72 = .ok (.invokevirtual 165, 3) := by decide +kernel
theorem dX8_findNouns_75 : decode cX8_findNouns 75 = .ok (.ireturn, 1) := by decide +kernel
theorem dX8_findNouns_76 : decode cX8_findNouns 76 = .ok (.aload_n 0, 1) := by decide +kernel
theorem dX8_findNouns_77 : decode cX8_findNouns 77 = .ok (.aload_n 0, 1) := by decide +kernel
theorem dX8_findNouns_78 : decode cX8_findNouns 78 = .ok (.iload_n 2, 1) := by decide +kernel
theorem dX8_findNouns_79 : decode cX8_findNouns 79 = .ok (.aload_n 0, 1) := by decide +kernel
theorem dX8_findNouns_80 : decode cX8_findNouns 80 = .ok (.getfield 156, 3) := by decide +kernel
theorem dX8_findNouns_83 : decode cX8_findNouns 83 = .ok (.invokevirtual 168, 3) := by decide +kernel
theorem dX8_findNouns_86 : decode cX8_findNouns 86 = .ok (.putfield 114, 3) := by decide +kernel
theorem dX8_findNouns_89 : decode cX8_findNouns 89 = .ok (.aload_n 0, 1) := by decide +kernel
theorem dX8_findNouns_90 : decode cX8_findNouns 90 = .ok (.getfield 114, 3) := by decide +kernel
theorem dX8_findNouns_93 : decode cX8_findNouns 93 = .ok (.ifCond .eq 34, 3) := by decide +kernel
theorem dX8_findNouns_96 : decode cX8_findNouns 96 = .ok (.iload_n 1, 1) := by decide +kernel
theorem dX8_findNouns_97 : decode cX8_findNouns 97 = .ok (.iconst 2, 1) := by decide +kernel
theorem dX8_findNouns_98 : decode cX8_findNouns 98 = .ok (.if_icmp .ne 29, 3) := by decide +kernel
theorem dX8_findNouns_101 : decode cX8_findNouns 101 = .ok (.aload_n 0, 1) := by decide +kernel
theorem dX8_findNouns_102 : decode cX8_findNouns 102 = .ok (.aload_n 0, 1) := by decide +kernel
theorem dX8_findNouns_103 : decode cX8_findNouns 103 = .ok (.aload_n 0, 1) := by decide +kernel
theorem dX8_findNouns_104 : decode cX8_findNouns 104 = .ok (.aload_n 0, 1) := by decide +kernel
theorem dX8_findNouns_105 : decode cX8_findNouns 105 = .ok (.getfield 156, 3) := by decide +kernel
theorem dX8_findNouns_108 : decode cX8_findNouns 108 = .ok (.iconst 1, 1) := by decide +kernel
theorem dX8_findNouns_109 : decode cX8_findNouns 109 = .ok (.iadd, 1) := by decide +kernel
theorem dX8_findNouns_110 : decode cX8_findNouns 110 = .ok (.aload_n 0, 1) := by decide +kernel
theorem dX8_findNouns_111 : decode cX8_findNouns 111 = .ok (.getfield 50, 3) := by decide +kernel
theorem dX8_findNouns_114 : decode cX8_findNouns 114 = .ok (.invokevirtual 162, 3) := by decide +kernel
theorem dX8_findNouns_117 : decode cX8_findNouns 117 = .ok (.aload_n 0, 1) := by decide +kernel
theorem dX8_findNouns_118 : decode cX8_findNouns 118 = .ok (.getfield 50, 3) := by decide +kernel
theorem dX8_findNouns_121 : decode cX8_findNouns 121 = .ok (.invokevirtual 168, 3) := by decide +kernel
theorem dX8_findNouns_124 : decode cX8_findNouns 124 = .ok (.putfield 117, 3) := by decide +kernel
theorem dX8_findNouns_127 : decode cX8_findNouns 127 = .ok (.aload_n 0, 1) := by decide +kernel
theorem dX8_findNouns_128 : decode cX8_findNouns 128 = .ok (.getfield 114, 3) := by decide +kernel
theorem dX8_findNouns_131 : decode cX8_findNouns 131 = .ok (.ifCond .eq 19, 3) := by decide +kernel
theorem dX8_findNouns_134 : decode cX8_findNouns 134 = .ok (.iload_n 1, 1) := by decide +kernel
theorem dX8_findNouns_135 : decode cX8_findNouns 135 = .ok (.iconst 1, 1) := by decide +kernel
theorem dX8_findNouns_136 : decode cX8_findNouns 136 = .ok (.if_icmp .eq 10, 3) := by decide +kernel
theorem dX8_findNouns_139 : decode cX8_findNouns 139 = .ok (.aload_n 0, 1) := by decide +kernel
theorem dX8_findNouns_140 : decode cX8_findNouns 140 = .ok (.getfield 117, 3) := by decide +kernel
theorem dX8_findNouns_143 : decode cX8_findNouns 143 = .ok (.ifCond .eq 7, 3) := by decide +kernel
theorem dX8_findNouns_146 : decode cX8_findNouns 146 = .ok (.iconst 1, 1) := by decide +kernel
theorem dX8_findNouns_147 : decode cX8_findNouns 147 = .ok (.goto 4, 3) := by decide +kernel
theorem dX8_findNouns_150 : decode cX8_findNouns 150 = .ok (.iconst 0, 1) := by decide +kernel
theorem dX8_findNouns_151 : decode cX8_findNouns 151 = .ok (.ireturn, 1) := by decide +kernel
def F_X8_findNouns  (Γ : HS) : HR :=
  bnd (((Γ 11).1 8)) fun (x_1 : Int32) =>
  bnd ((g_at 61 ((Γ 4).2.1 7) x_1)) fun (x_3 : Int32) =>
  if x_3 = 0 then (
    some (1, Γ)
  ) else (
    (F_X8_behindArticle 1 ((Γ 11).1 9) Γ).bind fun u_8 =>
    (F_X8_term u_8.1 u_8.2).bind fun u_10 =>
    bnd (fun  (σ_12 : HS) => (
      (F_X8_nounOf u_8.1 ((σ_12 11).1 9) σ_12).bind fun u_16 =>
      bnd (cI' u_16.2 11 10 u_16.1) fun σ_18 =>
      bnd (fun  (σ_20 : HS) => (
        if ((σ_20 11).1 10) = 0 then (
          some (0, σ_20)
        ) else (
          if x_3 = 1 then (
            some (1, σ_20)
          ) else (
            if ((σ_20 11).1 11) = 0 then (
              some (0, σ_20)
            ) else (
              some (1, σ_20)
            )
          )
        )
      ) : HS → HR) fun j_21 =>
      if ((σ_18 11).1 10) = 0 then (
        j_21  σ_18
      ) else (
        if x_3 = 2 then (
          (F_X8_behindArticle (((σ_18 11).1 9) + 1) ((σ_18 11).1 7) σ_18).bind fun u_38 =>
          (F_X8_nounOf u_38.1 ((u_38.2 11).1 7) u_38.2).bind fun u_40 =>
          bnd (cI' u_40.2 11 11 u_40.1) fun σ_42 =>
          j_21  σ_42
        ) else (
          j_21  σ_18
        )
      )
    ) : HS → HR) fun j_13 =>
    if u_10.1 = 3 then (
      if (((u_10.2 11).1 9) - u_8.1) = 1 then (
        bnd (fun  (σ_49 : HS) => (
          bnd (cI' σ_49 11 12 1) fun σ_53 =>
          (F_X8_chooseAll σ_53).bind fun u_55 =>
          if ¬ (u_55.1 = 0 ∨ u_55.1 = 1) then none else
          some (u_55.1, u_55.2)
        ) : HS → HR) fun j_50 =>
        if ((u_10.2 11).1 8) = 4 then (
          j_50  u_10.2
        ) else (
          if ((u_10.2 11).1 8) = 5 then (
            j_50  u_10.2
          ) else (
            j_13  u_10.2
          )
        )
      ) else (
        j_13  u_10.2
      )
    ) else (
      j_13  u_10.2
    )
  )
set_option maxHeartbeats 4000000 in
set_option maxRecDepth 100000 in
theorem k_X8_findNouns (l : Launch) (dC : Nat → ClassId) (dI : Nat → Nat → Nat) (cB cC cI cJ cZ cP : ClassId) (oA : Nat → Nat) (rA : Nat → Nat → Nat) (sz : Nat)   (Γ : HS) (res : Int32 × HS) (hF : F_X8_findNouns  Γ = some res) : Met l yX8_findNouns (g_ws yX8_findNouns cX8_findNouns 3 (some .boolean)) ({ frames := 9, cells := 0, slots := 0, locals := 212 }) (va_Pc [.ref (oA 11)] (g_B (dC, dI) [(cB, .byte), (cC, .char), (cI, .int), (cJ, .long), (cZ, .boolean), (cP, .object "StoryHouse$Play")] sz (b_e cB cC cI cJ cZ oA rA Γ ++ b_k cB cC cI cJ cZ oA rA Γ ++ b_p cB cC cI cJ cZ oA rA Γ ++ b_o cB cC cI cJ cZ oA rA Γ ++ b_s cB cC cI cJ cZ oA rA Γ ++ b_c cB cC cI cJ cZ oA rA Γ ++ b_t cB cC cI cJ cZ oA rA Γ ++ b_d cB cC cI cJ cZ oA rA Γ) g_0)) (va_Qi (fun r (_ : Unit) => r = res.1) (g_Bo (dC, dI) (va_A (b_e cB cC cI cJ cZ oA rA Γ ++ b_k cB cC cI cJ cZ oA rA Γ ++ b_p cB cC cI cJ cZ oA rA Γ ++ b_o cB cC cI cJ cZ oA rA Γ ++ b_s cB cC cI cJ cZ oA rA Γ ++ b_c cB cC cI cJ cZ oA rA Γ ++ b_t cB cC cI cJ cZ oA rA Γ ++ b_d cB cC cI cJ cZ oA rA Γ) sz) (fun (_ : Unit) => (b_e cB cC cI cJ cZ oA rA res.2 ++ b_k cB cC cI cJ cZ oA rA res.2 ++ b_p cB cC cI cJ cZ oA rA res.2 ++ b_o cB cC cI cJ cZ oA rA res.2 ++ b_s cB cC cI cJ cZ oA rA res.2 ++ b_c cB cC cI cJ cZ oA rA res.2 ++ b_t cB cC cI cJ cZ oA rA res.2 ++ b_d cB cC cI cJ cZ oA rA res.2))) (va_A (b_e cB cC cI cJ cZ oA rA Γ ++ b_k cB cC cI cJ cZ oA rA Γ ++ b_p cB cC cI cJ cZ oA rA Γ ++ b_o cB cC cI cJ cZ oA rA Γ ++ b_s cB cC cI cJ cZ oA rA Γ ++ b_c cB cC cI cJ cZ oA rA Γ ++ b_t cB cC cI cJ cZ oA rA Γ ++ b_d cB cC cI cJ cZ oA rA Γ) sz)) 0 0 (va_A (b_e cB cC cI cJ cZ oA rA Γ ++ b_k cB cC cI cJ cZ oA rA Γ ++ b_p cB cC cI cJ cZ oA rA Γ ++ b_o cB cC cI cJ cZ oA rA Γ ++ b_s cB cC cI cJ cZ oA rA Γ ++ b_c cB cC cI cJ cZ oA rA Γ ++ b_t cB cC cI cJ cZ oA rA Γ ++ b_d cB cC cI cJ cZ oA rA Γ) sz) := by
  refine Met.ofW (cc := cX8_findNouns) (maxL := 3) (ret := (some .boolean)) (by decide) rfl ?_
  intro p e s m args below meth c s₁ B hml hv
  obtain ⟨rfl, hsz, hP, hK, hD0, hE, hX⟩ := hv
  have hx := B.exec
  have hb := B.bytes
  have hr := B.returns
  have hts0 := atoms_spec (ws := g_ws yX8_findNouns cX8_findNouns 3 (some .boolean)) B.pre
  have hts : ∀ w ∈ lw_good, w.before ([.ref (oA 11)] : List Value).toArray s = true := fun w z => hts0 w (List.mem_cons_of_mem _ z)
  have hown : s.vm.findClass RX8 = some m.cls := findClass_of_methodNamed B.named
  have hlocks := B.notSynchronized
  subst hsz
  have hD1 := hD0.self (sz := s.heap.size)
  generalize hAe : va_A (b_e cB cC cI cJ cZ oA rA Γ ++ b_k cB cC cI cJ cZ oA rA Γ ++ b_p cB cC cI cJ cZ oA rA Γ ++ b_o cB cC cI cJ cZ oA rA Γ ++ b_s cB cC cI cJ cZ oA rA Γ ++ b_c cB cC cI cJ cZ oA rA Γ ++ b_t cB cC cI cJ cZ oA rA Γ ++ b_d cB cC cI cJ cZ oA rA Γ) s.heap.size = A at hD1 hE hX ⊢
  have hA : ∀ q : Nat, s.heap.size ≤ q → A q := fun q z => by rw [← hAe]; exact Or.inr z
  have hDD : ∀ Γ : HS, va_D A (b_e cB cC cI cJ cZ oA rA Γ ++ b_k cB cC cI cJ cZ oA rA Γ ++ b_p cB cC cI cJ cZ oA rA Γ ++ b_o cB cC cI cJ cZ oA rA Γ ++ b_s cB cC cI cJ cZ oA rA Γ ++ b_c cB cC cI cJ cZ oA rA Γ ++ b_t cB cC cI cJ cZ oA rA Γ ++ b_d cB cC cI cJ cZ oA rA Γ) := fun Γ9 => va_D_fst (ws := (b_e cB cC cI cJ cZ oA rA Γ ++ b_k cB cC cI cJ cZ oA rA Γ ++ b_p cB cC cI cJ cZ oA rA Γ ++ b_o cB cC cI cJ cZ oA rA Γ ++ b_s cB cC cI cJ cZ oA rA Γ ++ b_c cB cC cI cJ cZ oA rA Γ ++ b_t cB cC cI cJ cZ oA rA Γ ++ b_d cB cC cI cJ cZ oA rA Γ)) (ws' := (b_e cB cC cI cJ cZ oA rA Γ9 ++ b_k cB cC cI cJ cZ oA rA Γ9 ++ b_p cB cC cI cJ cZ oA rA Γ9 ++ b_o cB cC cI cJ cZ oA rA Γ9 ++ b_s cB cC cI cJ cZ oA rA Γ9 ++ b_c cB cC cI cJ cZ oA rA Γ9 ++ b_t cB cC cI cJ cZ oA rA Γ9 ++ b_d cB cC cI cJ cZ oA rA Γ9)) rfl hD1
  have hN := hE.1
  have hS : va_S A s.heap s.heap [] := va_S.rf
  have hl := lv_entry ([.ref (oA 11)]) (n := 3) (Nat.le_of_ble_eq_true rfl)
  rw [lg_entry_eq]
  generalize (lg_sl ([.ref (oA 11)]) ++ List.replicate (3 - (lg_sl ([.ref (oA 11)])).length) Slot.unset).toArray = ls at hl ⊢
  have hl : lv_has ls 3 [(0, .ref (oA 11))] := hl
  unfold F_X8_findNouns at hF
  refine lv_aload_n hx hb dX8_findNouns_0 rfl (lv_at hl 0 rfl) ?_
  refine va_get (D := (dC, dI)) (ci := 8) (v := .ref (oA 4)) (C := RX8) (T := TX8) (N := 16) hx hb hts ii_X8 hown hK hP 0 rfl rfl 3 (by decide) (hts (.fieldLink RX8 85 "StoryHouse$Teller" "story" "LStoryHouse$Story;") wq_290) (fun _ h9 => h9) rfl dX8_findNouns_1 ?_
  refine va_get (D := (dC, dI)) (ci := 7) (v := .ref (rA 4 7)) (C := RX7) (T := TX7) (N := 19) hx hb hts ii_X7 hown hK hP 19 rfl rfl 7 (by decide) (hts (.fieldLink RX8 153 "StoryHouse$Story" "forms" "[I") wq_172) (fun _ h9 => h9) rfl dX8_findNouns_4 ?_
  refine lv_aload_n hx hb dX8_findNouns_7 rfl (lv_at hl 0 rfl) ?_
  refine va_get (D := (dC, dI)) (ci := 8) (v := .int ((Γ 11).1 8)) (C := RX8) (T := TX8) (N := 16) hx hb hts ii_X8 hown hK hP 0 rfl rfl 8 (by decide) (hts (.fieldLink RX8 127 "StoryHouse$Teller" "verb" "I") wq_295) (fun _ h9 => h9) rfl dX8_findNouns_8 ?_
  obtain ⟨x_1, ex_1, hF_2⟩ := bnd_e hF
  clear hF
  refine m_top ex_1 ?_
  have hPc := hP.sub (ws' := [(rA 4 7, .inl (cI, 61, .inl ((Γ 4).2.1 7)))]) [27] rfl
  have hDc := (hDD Γ).sub (ws' := [(rA 4 7, .inl (cI, 61, .inl ((Γ 4).2.1 7)))]) [27] (by decide +kernel) rfl
  have hFc := va_free (wc := [(rA 4 7, .inl (cI, 61, .inl ((Γ 4).2.1 7)))]) (hDD Γ) hS hA [27] rfl
  refine g_ofi (wc := [(rA 4 7, .inl (cI, 61, .inl ((Γ 4).2.1 7)))]) (wr := (((b_e cB cC cI cJ cZ oA rA Γ ++ b_k cB cC cI cJ cZ oA rA Γ ++ b_p cB cC cI cJ cZ oA rA Γ ++ b_o cB cC cI cJ cZ oA rA Γ ++ b_s cB cC cI cJ cZ oA rA Γ ++ b_c cB cC cI cJ cZ oA rA Γ ++ b_t cB cC cI cJ cZ oA rA Γ ++ b_d cB cC cI cJ cZ oA rA Γ)).eraseIdx 27)) hP (hDD Γ) hS hFc [27] [0, 1, 2, 3, 4, 5, 6, 7, 8, 9, 10, 11, 12, 13, 14, 15, 16, 17, 18, 19, 20, 21, 22, 23, 24, 25, 26, 28, 29, 30, 31, 32, 33, 34, 35, 36, 37, 38, 39, 40, 41, 42, 43, 44, 45, 46, 47, 48, 49] rfl rfl (by decide +kernel) (by decide +kernel) (va_runSN (As := [.ref (rA 4 7), .int x_1]) (rest := []) ⟨hx, hb, hml, hown, hts⟩ (c_X11_at l dC dI cB cC cI cJ cZ cP s.heap.size (rA 4 7) x_1 61 ((Γ 4).2.1 7) (by decide)) ⟨va_cnB 2 hts (g_gA wq_407) rfl rfl rfl (hN.at 31 rfl) (hts (.initialized RX11) wq_1) (by decide +kernel) ⟨Nat.le_of_ble_eq_true rfl, Nat.le_of_ble_eq_true rfl⟩, (hts (.static yX11_at) wq_406), trivial⟩ (g_preS g_bl0 hK hPc hDc hS hE hFc g_to0) rfl rfl hl.1 rfl (lv_room (Nat.le_of_ble_eq_true rfl)) dX8_findNouns_11 ⟨Nat.le_of_ble_eq_true rfl, Nat.le_of_ble_eq_true rfl⟩) (fun r9 u9 H locs hw9 hP' hD' hS => ?_)
  clear hPc hDc hFc hD'
  have hP : va_P (dC, dI) vwCl (b_e cB cC cI cJ cZ oA rA Γ ++ b_k cB cC cI cJ cZ oA rA Γ ++ b_p cB cC cI cJ cZ oA rA Γ ++ b_o cB cC cI cJ cZ oA rA Γ ++ b_s cB cC cI cJ cZ oA rA Γ ++ b_c cB cC cI cJ cZ oA rA Γ ++ b_t cB cC cI cJ cZ oA rA Γ ++ b_d cB cC cI cJ cZ oA rA Γ) H := hP'.sub [0, 1, 2, 3, 4, 5, 6, 7, 8, 9, 10, 11, 12, 13, 14, 15, 16, 17, 18, 19, 20, 21, 22, 23, 24, 25, 26, 49, 27, 28, 29, 30, 31, 32, 33, 34, 35, 36, 37, 38, 39, 40, 41, 42, 43, 44, 45, 46, 47, 48] rfl
  clear hP'
  subst hw9
  obtain ⟨x_3, ex_3, hF_4⟩ := bnd_e hF_2
  clear hF_2
  refine m_top ex_3 ?_
  refine lv_istore_n (lv' := [(1, .int x_3), (0, .ref (oA 11))]) hx hb dX8_findNouns_14 rfl hl (by decide) rfl (fun ls hl => ?_)
  refine lv_iload_n hx hb dX8_findNouns_15 rfl (lv_at hl 0 rfl) ?_
  refine lv_if_ne (tgt := 21) hx hb dX8_findNouns_16 (by decide) (fun c_5 => ?_) (fun c_5 => ?_)
  · have hF_7 := ineg c_5 hF_4
    clear hF_4
    refine lv_aload_n hx hb dX8_findNouns_21 rfl (lv_at hl 1 rfl) ?_
    refine lv_iconst (v := 1) hx hb dX8_findNouns_22 (by decide +kernel) ?_
    refine lv_aload_n hx hb dX8_findNouns_23 rfl (lv_at hl 1 rfl) ?_
    refine va_get (D := (dC, dI)) (ci := 8) (v := .int ((Γ 11).1 9)) (C := RX8) (T := TX8) (N := 16) hx hb hts ii_X8 hown hK hP 0 rfl rfl 9 (by decide) (hts (.fieldLink RX8 156 "StoryHouse$Teller" "joint" "I") wq_296) (fun _ h9 => h9) rfl dX8_findNouns_24 ?_
    obtain ⟨u_8, hu_8, hF_9⟩ := Option.bind_eq_some_iff.mp hF_7
    clear hF_7
    have hPc := hP.sub (ws' := (b_e cB cC cI cJ cZ oA rA Γ ++ b_k cB cC cI cJ cZ oA rA Γ ++ b_p cB cC cI cJ cZ oA rA Γ ++ b_o cB cC cI cJ cZ oA rA Γ ++ b_s cB cC cI cJ cZ oA rA Γ ++ b_c cB cC cI cJ cZ oA rA Γ ++ b_t cB cC cI cJ cZ oA rA Γ ++ b_d cB cC cI cJ cZ oA rA Γ)) [0, 1, 2, 3, 4, 5, 6, 7, 8, 9, 10, 11, 12, 13, 14, 15, 16, 17, 18, 19, 20, 21, 22, 23, 24, 25, 26, 27, 28, 29, 30, 31, 32, 33, 34, 35, 36, 37, 38, 39, 40, 41, 42, 43, 44, 45, 46, 47, 48, 49] rfl
    have hDc := (hDD Γ).sub (ws' := (b_e cB cC cI cJ cZ oA rA Γ ++ b_k cB cC cI cJ cZ oA rA Γ ++ b_p cB cC cI cJ cZ oA rA Γ ++ b_o cB cC cI cJ cZ oA rA Γ ++ b_s cB cC cI cJ cZ oA rA Γ ++ b_c cB cC cI cJ cZ oA rA Γ ++ b_t cB cC cI cJ cZ oA rA Γ ++ b_d cB cC cI cJ cZ oA rA Γ)) [0, 1, 2, 3, 4, 5, 6, 7, 8, 9, 10, 11, 12, 13, 14, 15, 16, 17, 18, 19, 20, 21, 22, 23, 24, 25, 26, 27, 28, 29, 30, 31, 32, 33, 34, 35, 36, 37, 38, 39, 40, 41, 42, 43, 44, 45, 46, 47, 48, 49] (by decide +kernel) rfl
    have hFc := va_free (wc := (b_e cB cC cI cJ cZ oA rA Γ ++ b_k cB cC cI cJ cZ oA rA Γ ++ b_p cB cC cI cJ cZ oA rA Γ ++ b_o cB cC cI cJ cZ oA rA Γ ++ b_s cB cC cI cJ cZ oA rA Γ ++ b_c cB cC cI cJ cZ oA rA Γ ++ b_t cB cC cI cJ cZ oA rA Γ ++ b_d cB cC cI cJ cZ oA rA Γ)) (hDD Γ) hS hA [0, 1, 2, 3, 4, 5, 6, 7, 8, 9, 10, 11, 12, 13, 14, 15, 16, 17, 18, 19, 20, 21, 22, 23, 24, 25, 26, 27, 28, 29, 30, 31, 32, 33, 34, 35, 36, 37, 38, 39, 40, 41, 42, 43, 44, 45, 46, 47, 48, 49] rfl
    refine g_ofi (wc := (b_e cB cC cI cJ cZ oA rA Γ ++ b_k cB cC cI cJ cZ oA rA Γ ++ b_p cB cC cI cJ cZ oA rA Γ ++ b_o cB cC cI cJ cZ oA rA Γ ++ b_s cB cC cI cJ cZ oA rA Γ ++ b_c cB cC cI cJ cZ oA rA Γ ++ b_t cB cC cI cJ cZ oA rA Γ ++ b_d cB cC cI cJ cZ oA rA Γ)) (wr := ([] : va_W)) hP (hDD Γ) hS hFc [0, 1, 2, 3, 4, 5, 6, 7, 8, 9, 10, 11, 12, 13, 14, 15, 16, 17, 18, 19, 20, 21, 22, 23, 24, 25, 26, 27, 28, 29, 30, 31, 32, 33, 34, 35, 36, 37, 38, 39, 40, 41, 42, 43, 44, 45, 46, 47, 48, 49] [] rfl rfl (by decide +kernel) (by decide +kernel) (va_runV (As := [.int 1, .int ((Γ 11).1 9)]) (rest := []) ⟨hx, hb, hml, hown, hts⟩ (k_X8_behindArticle l dC dI cB cC cI cJ cZ cP oA rA H.size  1 ((Γ 11).1 9) Γ _ hu_8) (cwV 2 hts (g_gV wq_1088 wq_1089 wq_2078 wq_12 wq_1090) rfl rfl rfl (by decide +kernel) ⟨Nat.le_of_ble_eq_true rfl, Nat.le_of_ble_eq_true rfl⟩) (g_preV g_bl0 hK hPc hDc hS hE hFc g_to0 (q0 := 0) (ci := 8) rfl rfl) rfl rfl hl.1 rfl (lv_room (Nat.le_of_ble_eq_true rfl)) dX8_findNouns_27 ⟨Nat.le_of_ble_eq_true rfl, Nat.le_of_ble_eq_true rfl⟩) (fun r9 u9 H locs hw9 hP' hD' hS => ?_)
    clear hPc hDc hFc
    subst hw9
    have hP : va_P (dC, dI) vwCl (b_e cB cC cI cJ cZ oA rA u_8.2 ++ b_k cB cC cI cJ cZ oA rA u_8.2 ++ b_p cB cC cI cJ cZ oA rA u_8.2 ++ b_o cB cC cI cJ cZ oA rA u_8.2 ++ b_s cB cC cI cJ cZ oA rA u_8.2 ++ b_c cB cC cI cJ cZ oA rA u_8.2 ++ b_t cB cC cI cJ cZ oA rA u_8.2 ++ b_d cB cC cI cJ cZ oA rA u_8.2) H := hP'
    clear hP' hD'
    refine lv_istore_n (lv' := [(2, .int u_8.1), (1, .int x_3), (0, .ref (oA 11))]) hx hb dX8_findNouns_30 rfl hl (by decide) rfl (fun ls hl => ?_)
    refine lv_aload_n hx hb dX8_findNouns_31 rfl (lv_at hl 2 rfl) ?_
    refine lv_iload_n hx hb dX8_findNouns_32 rfl (lv_at hl 0 rfl) ?_
    obtain ⟨u_10, hu_10, hF_11⟩ := Option.bind_eq_some_iff.mp hF_9
    clear hF_9
    have hPc := hP.sub (ws' := (b_e cB cC cI cJ cZ oA rA u_8.2 ++ b_k cB cC cI cJ cZ oA rA u_8.2 ++ b_p cB cC cI cJ cZ oA rA u_8.2 ++ b_o cB cC cI cJ cZ oA rA u_8.2 ++ b_s cB cC cI cJ cZ oA rA u_8.2 ++ b_c cB cC cI cJ cZ oA rA u_8.2 ++ b_t cB cC cI cJ cZ oA rA u_8.2 ++ b_d cB cC cI cJ cZ oA rA u_8.2)) [0, 1, 2, 3, 4, 5, 6, 7, 8, 9, 10, 11, 12, 13, 14, 15, 16, 17, 18, 19, 20, 21, 22, 23, 24, 25, 26, 27, 28, 29, 30, 31, 32, 33, 34, 35, 36, 37, 38, 39, 40, 41, 42, 43, 44, 45, 46, 47, 48, 49] rfl
    have hDc := (hDD u_8.2).sub (ws' := (b_e cB cC cI cJ cZ oA rA u_8.2 ++ b_k cB cC cI cJ cZ oA rA u_8.2 ++ b_p cB cC cI cJ cZ oA rA u_8.2 ++ b_o cB cC cI cJ cZ oA rA u_8.2 ++ b_s cB cC cI cJ cZ oA rA u_8.2 ++ b_c cB cC cI cJ cZ oA rA u_8.2 ++ b_t cB cC cI cJ cZ oA rA u_8.2 ++ b_d cB cC cI cJ cZ oA rA u_8.2)) [0, 1, 2, 3, 4, 5, 6, 7, 8, 9, 10, 11, 12, 13, 14, 15, 16, 17, 18, 19, 20, 21, 22, 23, 24, 25, 26, 27, 28, 29, 30, 31, 32, 33, 34, 35, 36, 37, 38, 39, 40, 41, 42, 43, 44, 45, 46, 47, 48, 49] (by decide +kernel) rfl
    have hFc := va_free (wc := (b_e cB cC cI cJ cZ oA rA u_8.2 ++ b_k cB cC cI cJ cZ oA rA u_8.2 ++ b_p cB cC cI cJ cZ oA rA u_8.2 ++ b_o cB cC cI cJ cZ oA rA u_8.2 ++ b_s cB cC cI cJ cZ oA rA u_8.2 ++ b_c cB cC cI cJ cZ oA rA u_8.2 ++ b_t cB cC cI cJ cZ oA rA u_8.2 ++ b_d cB cC cI cJ cZ oA rA u_8.2)) (hDD u_8.2) hS hA [0, 1, 2, 3, 4, 5, 6, 7, 8, 9, 10, 11, 12, 13, 14, 15, 16, 17, 18, 19, 20, 21, 22, 23, 24, 25, 26, 27, 28, 29, 30, 31, 32, 33, 34, 35, 36, 37, 38, 39, 40, 41, 42, 43, 44, 45, 46, 47, 48, 49] rfl
    refine g_ofi (wc := (b_e cB cC cI cJ cZ oA rA u_8.2 ++ b_k cB cC cI cJ cZ oA rA u_8.2 ++ b_p cB cC cI cJ cZ oA rA u_8.2 ++ b_o cB cC cI cJ cZ oA rA u_8.2 ++ b_s cB cC cI cJ cZ oA rA u_8.2 ++ b_c cB cC cI cJ cZ oA rA u_8.2 ++ b_t cB cC cI cJ cZ oA rA u_8.2 ++ b_d cB cC cI cJ cZ oA rA u_8.2)) (wr := ([] : va_W)) hP (hDD u_8.2) hS hFc [0, 1, 2, 3, 4, 5, 6, 7, 8, 9, 10, 11, 12, 13, 14, 15, 16, 17, 18, 19, 20, 21, 22, 23, 24, 25, 26, 27, 28, 29, 30, 31, 32, 33, 34, 35, 36, 37, 38, 39, 40, 41, 42, 43, 44, 45, 46, 47, 48, 49] [] rfl rfl (by decide +kernel) (by decide +kernel) (va_runV (As := [.int u_8.1]) (rest := []) ⟨hx, hb, hml, hown, hts⟩ (k_X8_term l dC dI cB cC cI cJ cZ cP oA rA H.size  u_8.1 u_8.2 _ hu_10) (cwV 1 hts (g_gV wq_1065 wq_1066 wq_2074 wq_12 wq_1067) rfl rfl rfl (by decide +kernel) ⟨Nat.le_of_ble_eq_true rfl, Nat.le_of_ble_eq_true rfl⟩) (g_preV g_bl0 hK hPc hDc hS hE hFc g_to0 (q0 := 0) (ci := 8) rfl rfl) rfl rfl hl.1 rfl (lv_room (Nat.le_of_ble_eq_true rfl)) dX8_findNouns_33 ⟨Nat.le_of_ble_eq_true rfl, Nat.le_of_ble_eq_true rfl⟩) (fun r9 u9 H locs hw9 hP' hD' hS => ?_)
    clear hPc hDc hFc
    subst hw9
    have hP : va_P (dC, dI) vwCl (b_e cB cC cI cJ cZ oA rA u_10.2 ++ b_k cB cC cI cJ cZ oA rA u_10.2 ++ b_p cB cC cI cJ cZ oA rA u_10.2 ++ b_o cB cC cI cJ cZ oA rA u_10.2 ++ b_s cB cC cI cJ cZ oA rA u_10.2 ++ b_c cB cC cI cJ cZ oA rA u_10.2 ++ b_t cB cC cI cJ cZ oA rA u_10.2 ++ b_d cB cC cI cJ cZ oA rA u_10.2) H := hP'
    clear hP' hD'
    refine lv_iconst (v := 3) hx hb dX8_findNouns_36 (by decide +kernel) ?_
    obtain ⟨j_13, ej_13, hF_14⟩ := bnd_e hF_11
    clear hF_11
    have Jj_13 : ∀  (σ_12 : HS), j_13  σ_12 = some res → ∀ (H : Heap) (locs : List Loc), va_P (dC, dI) vwCl (b_e cB cC cI cJ cZ oA rA σ_12 ++ b_k cB cC cI cJ cZ oA rA σ_12 ++ b_p cB cC cI cJ cZ oA rA σ_12 ++ b_o cB cC cI cJ cZ oA rA σ_12 ++ b_s cB cC cI cJ cZ oA rA σ_12 ++ b_c cB cC cI cJ cZ oA rA σ_12 ++ b_t cB cC cI cJ cZ oA rA σ_12 ++ b_d cB cC cI cJ cZ oA rA σ_12) H → va_S A s.heap H locs → ∀ ls : Array Slot, lv_has ls 3 [(0, .ref (oA 11)), (1, .int x_3), (2, .int u_8.1)] → W p l e (headSpec (g_ws yX8_findNouns cX8_findNouns 3 (some .boolean)) { frames := 9, cells := 0, slots := 0, locals := 212 }).room s m ([.ref (oA 11)] : List Value).toArray below meth c H locs 0 0 (MQ below (va_Qi (fun r (_ : Unit) => r = res.1) (g_Bo (dC, dI) A (fun (_ : Unit) => (b_e cB cC cI cJ cZ oA rA res.2 ++ b_k cB cC cI cJ cZ oA rA res.2 ++ b_p cB cC cI cJ cZ oA rA res.2 ++ b_o cB cC cI cJ cZ oA rA res.2 ++ b_s cB cC cI cJ cZ oA rA res.2 ++ b_c cB cC cI cJ cZ oA rA res.2 ++ b_t cB cC cI cJ cZ oA rA res.2 ++ b_d cB cC cI cJ cZ oA rA res.2))) A) ([.ref (oA 11)] : List Value).toArray s 0 0 A) (F0 m 76 ls []) := by
      intro  σ_12 hF0 H locs hP hS ls hl
      subst ej_13
      have hF_15 := hF0
      clear hF0
      refine lv_aload_n hx hb dX8_findNouns_76 rfl (lv_at hl 0 rfl) ?_
      refine lv_aload_n hx hb dX8_findNouns_77 rfl (lv_at hl 0 rfl) ?_
      refine lv_iload_n hx hb dX8_findNouns_78 rfl (lv_at hl 2 rfl) ?_
      refine lv_aload_n hx hb dX8_findNouns_79 rfl (lv_at hl 0 rfl) ?_
      refine va_get (D := (dC, dI)) (ci := 8) (v := .int ((σ_12 11).1 9)) (C := RX8) (T := TX8) (N := 16) hx hb hts ii_X8 hown hK hP 0 rfl rfl 9 (by decide) (hts (.fieldLink RX8 156 "StoryHouse$Teller" "joint" "I") wq_296) (fun _ h9 => h9) rfl dX8_findNouns_80 ?_
      obtain ⟨u_16, hu_16, hF_17⟩ := Option.bind_eq_some_iff.mp hF_15
      clear hF_15
      have hPc := hP.sub (ws' := (b_e cB cC cI cJ cZ oA rA σ_12 ++ b_k cB cC cI cJ cZ oA rA σ_12 ++ b_p cB cC cI cJ cZ oA rA σ_12 ++ b_o cB cC cI cJ cZ oA rA σ_12 ++ b_s cB cC cI cJ cZ oA rA σ_12 ++ b_c cB cC cI cJ cZ oA rA σ_12 ++ b_t cB cC cI cJ cZ oA rA σ_12 ++ b_d cB cC cI cJ cZ oA rA σ_12)) [0, 1, 2, 3, 4, 5, 6, 7, 8, 9, 10, 11, 12, 13, 14, 15, 16, 17, 18, 19, 20, 21, 22, 23, 24, 25, 26, 27, 28, 29, 30, 31, 32, 33, 34, 35, 36, 37, 38, 39, 40, 41, 42, 43, 44, 45, 46, 47, 48, 49] rfl
      have hDc := (hDD σ_12).sub (ws' := (b_e cB cC cI cJ cZ oA rA σ_12 ++ b_k cB cC cI cJ cZ oA rA σ_12 ++ b_p cB cC cI cJ cZ oA rA σ_12 ++ b_o cB cC cI cJ cZ oA rA σ_12 ++ b_s cB cC cI cJ cZ oA rA σ_12 ++ b_c cB cC cI cJ cZ oA rA σ_12 ++ b_t cB cC cI cJ cZ oA rA σ_12 ++ b_d cB cC cI cJ cZ oA rA σ_12)) [0, 1, 2, 3, 4, 5, 6, 7, 8, 9, 10, 11, 12, 13, 14, 15, 16, 17, 18, 19, 20, 21, 22, 23, 24, 25, 26, 27, 28, 29, 30, 31, 32, 33, 34, 35, 36, 37, 38, 39, 40, 41, 42, 43, 44, 45, 46, 47, 48, 49] (by decide +kernel) rfl
      have hFc := va_free (wc := (b_e cB cC cI cJ cZ oA rA σ_12 ++ b_k cB cC cI cJ cZ oA rA σ_12 ++ b_p cB cC cI cJ cZ oA rA σ_12 ++ b_o cB cC cI cJ cZ oA rA σ_12 ++ b_s cB cC cI cJ cZ oA rA σ_12 ++ b_c cB cC cI cJ cZ oA rA σ_12 ++ b_t cB cC cI cJ cZ oA rA σ_12 ++ b_d cB cC cI cJ cZ oA rA σ_12)) (hDD σ_12) hS hA [0, 1, 2, 3, 4, 5, 6, 7, 8, 9, 10, 11, 12, 13, 14, 15, 16, 17, 18, 19, 20, 21, 22, 23, 24, 25, 26, 27, 28, 29, 30, 31, 32, 33, 34, 35, 36, 37, 38, 39, 40, 41, 42, 43, 44, 45, 46, 47, 48, 49] rfl
      refine g_ofi (wc := (b_e cB cC cI cJ cZ oA rA σ_12 ++ b_k cB cC cI cJ cZ oA rA σ_12 ++ b_p cB cC cI cJ cZ oA rA σ_12 ++ b_o cB cC cI cJ cZ oA rA σ_12 ++ b_s cB cC cI cJ cZ oA rA σ_12 ++ b_c cB cC cI cJ cZ oA rA σ_12 ++ b_t cB cC cI cJ cZ oA rA σ_12 ++ b_d cB cC cI cJ cZ oA rA σ_12)) (wr := ([] : va_W)) hP (hDD σ_12) hS hFc [0, 1, 2, 3, 4, 5, 6, 7, 8, 9, 10, 11, 12, 13, 14, 15, 16, 17, 18, 19, 20, 21, 22, 23, 24, 25, 26, 27, 28, 29, 30, 31, 32, 33, 34, 35, 36, 37, 38, 39, 40, 41, 42, 43, 44, 45, 46, 47, 48, 49] [] rfl rfl (by decide +kernel) (by decide +kernel) (va_runV (As := [.int u_8.1, .int ((σ_12 11).1 9)]) (rest := [.ref (oA 11)]) ⟨hx, hb, hml, hown, hts⟩ (k_X8_nounOf l dC dI cB cC cI cJ cZ cP oA rA H.size  u_8.1 ((σ_12 11).1 9) σ_12 _ hu_16) (cwV 2 hts (g_gV wq_1094 wq_1095 wq_2080 wq_12 wq_1096) rfl rfl rfl (by decide +kernel) ⟨Nat.le_of_ble_eq_true rfl, Nat.le_of_ble_eq_true rfl⟩) (g_preV g_bl0 hK hPc hDc hS hE hFc g_to0 (q0 := 0) (ci := 8) rfl rfl) rfl rfl hl.1 rfl (lv_room (Nat.le_of_ble_eq_true rfl)) dX8_findNouns_83 ⟨Nat.le_of_ble_eq_true rfl, Nat.le_of_ble_eq_true rfl⟩) (fun r9 u9 H locs hw9 hP' hD' hS => ?_)
      clear hPc hDc hFc
      subst hw9
      have hP : va_P (dC, dI) vwCl (b_e cB cC cI cJ cZ oA rA u_16.2 ++ b_k cB cC cI cJ cZ oA rA u_16.2 ++ b_p cB cC cI cJ cZ oA rA u_16.2 ++ b_o cB cC cI cJ cZ oA rA u_16.2 ++ b_s cB cC cI cJ cZ oA rA u_16.2 ++ b_c cB cC cI cJ cZ oA rA u_16.2 ++ b_t cB cC cI cJ cZ oA rA u_16.2 ++ b_d cB cC cI cJ cZ oA rA u_16.2) H := hP'
      clear hP' hD'
      obtain ⟨σ_18, eσ_18, hF_19⟩ := bnd_e hF_17
      clear hF_17
      refine va_put (D := (dC, dI)) (ci := 8) (v := .int u_16.1) (ty := .int) (C := RX8) (T := TX8) (N := 16) hx hb hts ii_X8 tyX8 tyX8_ok nmX8 hown hK hP (hDD _) hS 0 rfl rfl 10 (by decide) (hts (.fieldLink RX8 114 "StoryHouse$Teller" "noun" "I") wq_297) (fun _ h9 => h9) rfl (by decide +kernel) rfl rfl (Nat.le_of_ble_eq_true rfl) dX8_findNouns_86 (fun H locs hP' _ hS => ?_)
      have hP : va_P (dC, dI) vwCl (b_e cB cC cI cJ cZ oA rA σ_18 ++ b_k cB cC cI cJ cZ oA rA σ_18 ++ b_p cB cC cI cJ cZ oA rA σ_18 ++ b_o cB cC cI cJ cZ oA rA σ_18 ++ b_s cB cC cI cJ cZ oA rA σ_18 ++ b_c cB cC cI cJ cZ oA rA σ_18 ++ b_t cB cC cI cJ cZ oA rA σ_18 ++ b_d cB cC cI cJ cZ oA rA σ_18) H := by rw [eσ_18]; exact cs_ekposctd_e_10 ▸ hP'
      clear hP'
      refine lv_aload_n hx hb dX8_findNouns_89 rfl (lv_at hl 0 rfl) ?_
      refine va_get (D := (dC, dI)) (ci := 8) (v := .int ((σ_18 11).1 10)) (C := RX8) (T := TX8) (N := 16) hx hb hts ii_X8 hown hK hP 0 rfl rfl 10 (by decide) (hts (.fieldLink RX8 114 "StoryHouse$Teller" "noun" "I") wq_297) (fun _ h9 => h9) rfl dX8_findNouns_90 ?_
      obtain ⟨j_21, ej_21, hF_22⟩ := bnd_e hF_19
      clear hF_19
      have Jj_21 : ∀  (σ_20 : HS), j_21  σ_20 = some res → ∀ (H : Heap) (locs : List Loc), va_P (dC, dI) vwCl (b_e cB cC cI cJ cZ oA rA σ_20 ++ b_k cB cC cI cJ cZ oA rA σ_20 ++ b_p cB cC cI cJ cZ oA rA σ_20 ++ b_o cB cC cI cJ cZ oA rA σ_20 ++ b_s cB cC cI cJ cZ oA rA σ_20 ++ b_c cB cC cI cJ cZ oA rA σ_20 ++ b_t cB cC cI cJ cZ oA rA σ_20 ++ b_d cB cC cI cJ cZ oA rA σ_20) H → va_S A s.heap H locs → ∀ ls : Array Slot, lv_has ls 3 [(0, .ref (oA 11)), (1, .int x_3)] → W p l e (headSpec (g_ws yX8_findNouns cX8_findNouns 3 (some .boolean)) { frames := 9, cells := 0, slots := 0, locals := 212 }).room s m ([.ref (oA 11)] : List Value).toArray below meth c H locs 0 0 (MQ below (va_Qi (fun r (_ : Unit) => r = res.1) (g_Bo (dC, dI) A (fun (_ : Unit) => (b_e cB cC cI cJ cZ oA rA res.2 ++ b_k cB cC cI cJ cZ oA rA res.2 ++ b_p cB cC cI cJ cZ oA rA res.2 ++ b_o cB cC cI cJ cZ oA rA res.2 ++ b_s cB cC cI cJ cZ oA rA res.2 ++ b_c cB cC cI cJ cZ oA rA res.2 ++ b_t cB cC cI cJ cZ oA rA res.2 ++ b_d cB cC cI cJ cZ oA rA res.2))) A) ([.ref (oA 11)] : List Value).toArray s 0 0 A) (F0 m 127 ls []) := by
        intro  σ_20 hF0 H locs hP hS ls hl
        subst ej_21
        have hF_23 := hF0
        clear hF0
        refine lv_aload_n hx hb dX8_findNouns_127 rfl (lv_at hl 0 rfl) ?_
        refine va_get (D := (dC, dI)) (ci := 8) (v := .int ((σ_20 11).1 10)) (C := RX8) (T := TX8) (N := 16) hx hb hts ii_X8 hown hK hP 0 rfl rfl 10 (by decide) (hts (.fieldLink RX8 114 "StoryHouse$Teller" "noun" "I") wq_297) (fun _ h9 => h9) rfl dX8_findNouns_128 ?_
        refine lv_if_eq (tgt := 150) hx hb dX8_findNouns_131 (by decide) (fun c_24 => ?_) (fun c_24 => ?_)
        · have hF_25 := ipos c_24 hF_23
          clear hF_23
          refine lv_iconst (v := 0) hx hb dX8_findNouns_150 (by decide +kernel) ?_
          have h9 := Option.some.inj hF_25
          subst h9
          exact W.zret (v := 0) hx hb hr (by decide +kernel) (fun t ht hW => ⟨⟨0, (), rfl, rfl, m_end ht hP, hDD _⟩, hS.F ht⟩) hS.2.2 dX8_findNouns_151
        · have hF_26 := ineg c_24 hF_23
          clear hF_23
          refine lv_iload_n hx hb dX8_findNouns_134 rfl (lv_at hl 1 rfl) ?_
          refine lv_iconst (v := 1) hx hb dX8_findNouns_135 (by decide +kernel) ?_
          refine lv_icmp_eq (tgt := 146) hx hb dX8_findNouns_136 (by decide) (fun c_27 => ?_) (fun c_27 => ?_)
          · have hF_28 := ipos c_27 hF_26
            clear hF_26
            refine lv_iconst (v := 1) hx hb dX8_findNouns_146 (by decide +kernel) ?_
            refine lv_goto (tgt := 151) hx hb dX8_findNouns_147 (by decide) ?_
            have h9 := Option.some.inj hF_28
            subst h9
            exact W.zret (v := 1) hx hb hr (by decide +kernel) (fun t ht hW => ⟨⟨1, (), rfl, rfl, m_end ht hP, hDD _⟩, hS.F ht⟩) hS.2.2 dX8_findNouns_151
          · have hF_29 := ineg c_27 hF_26
            clear hF_26
            refine lv_aload_n hx hb dX8_findNouns_139 rfl (lv_at hl 0 rfl) ?_
            refine va_get (D := (dC, dI)) (ci := 8) (v := .int ((σ_20 11).1 11)) (C := RX8) (T := TX8) (N := 16) hx hb hts ii_X8 hown hK hP 0 rfl rfl 11 (by decide) (hts (.fieldLink RX8 117 "StoryHouse$Teller" "second" "I") wq_298) (fun _ h9 => h9) rfl dX8_findNouns_140 ?_
            refine lv_if_eq (tgt := 150) hx hb dX8_findNouns_143 (by decide) (fun c_30 => ?_) (fun c_30 => ?_)
            · have hF_31 := ipos c_30 hF_29
              clear hF_29
              refine lv_iconst (v := 0) hx hb dX8_findNouns_150 (by decide +kernel) ?_
              have h9 := Option.some.inj hF_31
              subst h9
              exact W.zret (v := 0) hx hb hr (by decide +kernel) (fun t ht hW => ⟨⟨0, (), rfl, rfl, m_end ht hP, hDD _⟩, hS.F ht⟩) hS.2.2 dX8_findNouns_151
            · have hF_32 := ineg c_30 hF_29
              clear hF_29
              refine lv_iconst (v := 1) hx hb dX8_findNouns_146 (by decide +kernel) ?_
              refine lv_goto (tgt := 151) hx hb dX8_findNouns_147 (by decide) ?_
              have h9 := Option.some.inj hF_32
              subst h9
              exact W.zret (v := 1) hx hb hr (by decide +kernel) (fun t ht hW => ⟨⟨1, (), rfl, rfl, m_end ht hP, hDD _⟩, hS.F ht⟩) hS.2.2 dX8_findNouns_151
      refine lv_if_eq (tgt := 127) hx hb dX8_findNouns_93 (by decide) (fun c_33 => ?_) (fun c_33 => ?_)
      · have hF_34 := ipos c_33 hF_22
        clear hF_22
        exact Jj_21  σ_18 hF_34 _ _ hP hS ls (lv_sub hl [0, 1] rfl)
      · have hF_35 := ineg c_33 hF_22
        clear hF_22
        refine lv_iload_n hx hb dX8_findNouns_96 rfl (lv_at hl 1 rfl) ?_
        refine lv_iconst (v := 2) hx hb dX8_findNouns_97 (by decide +kernel) ?_
        refine lv_icmp_ne (tgt := 127) hx hb dX8_findNouns_98 (by decide) (fun c_36 => ?_) (fun c_36 => ?_)
        · have hF_44 := ineg c_36 hF_35
          clear hF_35
          exact Jj_21  σ_18 hF_44 _ _ hP hS ls (lv_sub hl [0, 1] rfl)
        · have hF_37 := ipos c_36 hF_35
          clear hF_35
          refine lv_aload_n hx hb dX8_findNouns_101 rfl (lv_at hl 0 rfl) ?_
          refine lv_aload_n hx hb dX8_findNouns_102 rfl (lv_at hl 0 rfl) ?_
          refine lv_aload_n hx hb dX8_findNouns_103 rfl (lv_at hl 0 rfl) ?_
          refine lv_aload_n hx hb dX8_findNouns_104 rfl (lv_at hl 0 rfl) ?_
          refine va_get (D := (dC, dI)) (ci := 8) (v := .int ((σ_18 11).1 9)) (C := RX8) (T := TX8) (N := 16) hx hb hts ii_X8 hown hK hP 0 rfl rfl 9 (by decide) (hts (.fieldLink RX8 156 "StoryHouse$Teller" "joint" "I") wq_296) (fun _ h9 => h9) rfl dX8_findNouns_105 ?_
          refine lv_iconst (v := 1) hx hb dX8_findNouns_108 (by decide +kernel) ?_
          refine lv_iadd hx hb dX8_findNouns_109 ?_
          refine lv_aload_n hx hb dX8_findNouns_110 rfl (lv_at hl 0 rfl) ?_
          refine va_get (D := (dC, dI)) (ci := 8) (v := .int ((σ_18 11).1 7)) (C := RX8) (T := TX8) (N := 16) hx hb hts ii_X8 hown hK hP 0 rfl rfl 7 (by decide) (hts (.fieldLink RX8 50 "StoryHouse$Teller" "termCount" "I") wq_294) (fun _ h9 => h9) rfl dX8_findNouns_111 ?_
          obtain ⟨u_38, hu_38, hF_39⟩ := Option.bind_eq_some_iff.mp hF_37
          clear hF_37
          have hPc := hP.sub (ws' := (b_e cB cC cI cJ cZ oA rA σ_18 ++ b_k cB cC cI cJ cZ oA rA σ_18 ++ b_p cB cC cI cJ cZ oA rA σ_18 ++ b_o cB cC cI cJ cZ oA rA σ_18 ++ b_s cB cC cI cJ cZ oA rA σ_18 ++ b_c cB cC cI cJ cZ oA rA σ_18 ++ b_t cB cC cI cJ cZ oA rA σ_18 ++ b_d cB cC cI cJ cZ oA rA σ_18)) [0, 1, 2, 3, 4, 5, 6, 7, 8, 9, 10, 11, 12, 13, 14, 15, 16, 17, 18, 19, 20, 21, 22, 23, 24, 25, 26, 27, 28, 29, 30, 31, 32, 33, 34, 35, 36, 37, 38, 39, 40, 41, 42, 43, 44, 45, 46, 47, 48, 49] rfl
          have hDc := (hDD σ_18).sub (ws' := (b_e cB cC cI cJ cZ oA rA σ_18 ++ b_k cB cC cI cJ cZ oA rA σ_18 ++ b_p cB cC cI cJ cZ oA rA σ_18 ++ b_o cB cC cI cJ cZ oA rA σ_18 ++ b_s cB cC cI cJ cZ oA rA σ_18 ++ b_c cB cC cI cJ cZ oA rA σ_18 ++ b_t cB cC cI cJ cZ oA rA σ_18 ++ b_d cB cC cI cJ cZ oA rA σ_18)) [0, 1, 2, 3, 4, 5, 6, 7, 8, 9, 10, 11, 12, 13, 14, 15, 16, 17, 18, 19, 20, 21, 22, 23, 24, 25, 26, 27, 28, 29, 30, 31, 32, 33, 34, 35, 36, 37, 38, 39, 40, 41, 42, 43, 44, 45, 46, 47, 48, 49] (by decide +kernel) rfl
          have hFc := va_free (wc := (b_e cB cC cI cJ cZ oA rA σ_18 ++ b_k cB cC cI cJ cZ oA rA σ_18 ++ b_p cB cC cI cJ cZ oA rA σ_18 ++ b_o cB cC cI cJ cZ oA rA σ_18 ++ b_s cB cC cI cJ cZ oA rA σ_18 ++ b_c cB cC cI cJ cZ oA rA σ_18 ++ b_t cB cC cI cJ cZ oA rA σ_18 ++ b_d cB cC cI cJ cZ oA rA σ_18)) (hDD σ_18) hS hA [0, 1, 2, 3, 4, 5, 6, 7, 8, 9, 10, 11, 12, 13, 14, 15, 16, 17, 18, 19, 20, 21, 22, 23, 24, 25, 26, 27, 28, 29, 30, 31, 32, 33, 34, 35, 36, 37, 38, 39, 40, 41, 42, 43, 44, 45, 46, 47, 48, 49] rfl
          refine g_ofi (wc := (b_e cB cC cI cJ cZ oA rA σ_18 ++ b_k cB cC cI cJ cZ oA rA σ_18 ++ b_p cB cC cI cJ cZ oA rA σ_18 ++ b_o cB cC cI cJ cZ oA rA σ_18 ++ b_s cB cC cI cJ cZ oA rA σ_18 ++ b_c cB cC cI cJ cZ oA rA σ_18 ++ b_t cB cC cI cJ cZ oA rA σ_18 ++ b_d cB cC cI cJ cZ oA rA σ_18)) (wr := ([] : va_W)) hP (hDD σ_18) hS hFc [0, 1, 2, 3, 4, 5, 6, 7, 8, 9, 10, 11, 12, 13, 14, 15, 16, 17, 18, 19, 20, 21, 22, 23, 24, 25, 26, 27, 28, 29, 30, 31, 32, 33, 34, 35, 36, 37, 38, 39, 40, 41, 42, 43, 44, 45, 46, 47, 48, 49] [] rfl rfl (by decide +kernel) (by decide +kernel) (va_runV (As := [.int (((σ_18 11).1 9) + 1), .int ((σ_18 11).1 7)]) (rest := [.ref (oA 11), .ref (oA 11)]) ⟨hx, hb, hml, hown, hts⟩ (k_X8_behindArticle l dC dI cB cC cI cJ cZ cP oA rA H.size  (((σ_18 11).1 9) + 1) ((σ_18 11).1 7) σ_18 _ hu_38) (cwV 2 hts (g_gV wq_1088 wq_1089 wq_2078 wq_12 wq_1090) rfl rfl rfl (by decide +kernel) ⟨Nat.le_of_ble_eq_true rfl, Nat.le_of_ble_eq_true rfl⟩) (g_preV g_bl0 hK hPc hDc hS hE hFc g_to0 (q0 := 0) (ci := 8) rfl rfl) rfl rfl hl.1 rfl (lv_room (Nat.le_of_ble_eq_true rfl)) dX8_findNouns_114 ⟨Nat.le_of_ble_eq_true rfl, Nat.le_of_ble_eq_true rfl⟩) (fun r9 u9 H locs hw9 hP' hD' hS => ?_)
          clear hPc hDc hFc
          subst hw9
          have hP : va_P (dC, dI) vwCl (b_e cB cC cI cJ cZ oA rA u_38.2 ++ b_k cB cC cI cJ cZ oA rA u_38.2 ++ b_p cB cC cI cJ cZ oA rA u_38.2 ++ b_o cB cC cI cJ cZ oA rA u_38.2 ++ b_s cB cC cI cJ cZ oA rA u_38.2 ++ b_c cB cC cI cJ cZ oA rA u_38.2 ++ b_t cB cC cI cJ cZ oA rA u_38.2 ++ b_d cB cC cI cJ cZ oA rA u_38.2) H := hP'
          clear hP' hD'
          refine lv_aload_n hx hb dX8_findNouns_117 rfl (lv_at hl 0 rfl) ?_
          refine va_get (D := (dC, dI)) (ci := 8) (v := .int ((u_38.2 11).1 7)) (C := RX8) (T := TX8) (N := 16) hx hb hts ii_X8 hown hK hP 0 rfl rfl 7 (by decide) (hts (.fieldLink RX8 50 "StoryHouse$Teller" "termCount" "I") wq_294) (fun _ h9 => h9) rfl dX8_findNouns_118 ?_
          obtain ⟨u_40, hu_40, hF_41⟩ := Option.bind_eq_some_iff.mp hF_39
          clear hF_39
          have hPc := hP.sub (ws' := (b_e cB cC cI cJ cZ oA rA u_38.2 ++ b_k cB cC cI cJ cZ oA rA u_38.2 ++ b_p cB cC cI cJ cZ oA rA u_38.2 ++ b_o cB cC cI cJ cZ oA rA u_38.2 ++ b_s cB cC cI cJ cZ oA rA u_38.2 ++ b_c cB cC cI cJ cZ oA rA u_38.2 ++ b_t cB cC cI cJ cZ oA rA u_38.2 ++ b_d cB cC cI cJ cZ oA rA u_38.2)) [0, 1, 2, 3, 4, 5, 6, 7, 8, 9, 10, 11, 12, 13, 14, 15, 16, 17, 18, 19, 20, 21, 22, 23, 24, 25, 26, 27, 28, 29, 30, 31, 32, 33, 34, 35, 36, 37, 38, 39, 40, 41, 42, 43, 44, 45, 46, 47, 48, 49] rfl
          have hDc := (hDD u_38.2).sub (ws' := (b_e cB cC cI cJ cZ oA rA u_38.2 ++ b_k cB cC cI cJ cZ oA rA u_38.2 ++ b_p cB cC cI cJ cZ oA rA u_38.2 ++ b_o cB cC cI cJ cZ oA rA u_38.2 ++ b_s cB cC cI cJ cZ oA rA u_38.2 ++ b_c cB cC cI cJ cZ oA rA u_38.2 ++ b_t cB cC cI cJ cZ oA rA u_38.2 ++ b_d cB cC cI cJ cZ oA rA u_38.2)) [0, 1, 2, 3, 4, 5, 6, 7, 8, 9, 10, 11, 12, 13, 14, 15, 16, 17, 18, 19, 20, 21, 22, 23, 24, 25, 26, 27, 28, 29, 30, 31, 32, 33, 34, 35, 36, 37, 38, 39, 40, 41, 42, 43, 44, 45, 46, 47, 48, 49] (by decide +kernel) rfl
          have hFc := va_free (wc := (b_e cB cC cI cJ cZ oA rA u_38.2 ++ b_k cB cC cI cJ cZ oA rA u_38.2 ++ b_p cB cC cI cJ cZ oA rA u_38.2 ++ b_o cB cC cI cJ cZ oA rA u_38.2 ++ b_s cB cC cI cJ cZ oA rA u_38.2 ++ b_c cB cC cI cJ cZ oA rA u_38.2 ++ b_t cB cC cI cJ cZ oA rA u_38.2 ++ b_d cB cC cI cJ cZ oA rA u_38.2)) (hDD u_38.2) hS hA [0, 1, 2, 3, 4, 5, 6, 7, 8, 9, 10, 11, 12, 13, 14, 15, 16, 17, 18, 19, 20, 21, 22, 23, 24, 25, 26, 27, 28, 29, 30, 31, 32, 33, 34, 35, 36, 37, 38, 39, 40, 41, 42, 43, 44, 45, 46, 47, 48, 49] rfl
          refine g_ofi (wc := (b_e cB cC cI cJ cZ oA rA u_38.2 ++ b_k cB cC cI cJ cZ oA rA u_38.2 ++ b_p cB cC cI cJ cZ oA rA u_38.2 ++ b_o cB cC cI cJ cZ oA rA u_38.2 ++ b_s cB cC cI cJ cZ oA rA u_38.2 ++ b_c cB cC cI cJ cZ oA rA u_38.2 ++ b_t cB cC cI cJ cZ oA rA u_38.2 ++ b_d cB cC cI cJ cZ oA rA u_38.2)) (wr := ([] : va_W)) hP (hDD u_38.2) hS hFc [0, 1, 2, 3, 4, 5, 6, 7, 8, 9, 10, 11, 12, 13, 14, 15, 16, 17, 18, 19, 20, 21, 22, 23, 24, 25, 26, 27, 28, 29, 30, 31, 32, 33, 34, 35, 36, 37, 38, 39, 40, 41, 42, 43, 44, 45, 46, 47, 48, 49] [] rfl rfl (by decide +kernel) (by decide +kernel) (va_runV (As := [.int u_38.1, .int ((u_38.2 11).1 7)]) (rest := [.ref (oA 11)]) ⟨hx, hb, hml, hown, hts⟩ (k_X8_nounOf l dC dI cB cC cI cJ cZ cP oA rA H.size  u_38.1 ((u_38.2 11).1 7) u_38.2 _ hu_40) (cwV 2 hts (g_gV wq_1094 wq_1095 wq_2080 wq_12 wq_1096) rfl rfl rfl (by decide +kernel) ⟨Nat.le_of_ble_eq_true rfl, Nat.le_of_ble_eq_true rfl⟩) (g_preV g_bl0 hK hPc hDc hS hE hFc g_to0 (q0 := 0) (ci := 8) rfl rfl) rfl rfl hl.1 rfl (lv_room (Nat.le_of_ble_eq_true rfl)) dX8_findNouns_121 ⟨Nat.le_of_ble_eq_true rfl, Nat.le_of_ble_eq_true rfl⟩) (fun r9 u9 H locs hw9 hP' hD' hS => ?_)
          clear hPc hDc hFc
          subst hw9
          have hP : va_P (dC, dI) vwCl (b_e cB cC cI cJ cZ oA rA u_40.2 ++ b_k cB cC cI cJ cZ oA rA u_40.2 ++ b_p cB cC cI cJ cZ oA rA u_40.2 ++ b_o cB cC cI cJ cZ oA rA u_40.2 ++ b_s cB cC cI cJ cZ oA rA u_40.2 ++ b_c cB cC cI cJ cZ oA rA u_40.2 ++ b_t cB cC cI cJ cZ oA rA u_40.2 ++ b_d cB cC cI cJ cZ oA rA u_40.2) H := hP'
          clear hP' hD'
          obtain ⟨σ_42, eσ_42, hF_43⟩ := bnd_e hF_41
          clear hF_41
          refine va_put (D := (dC, dI)) (ci := 8) (v := .int u_40.1) (ty := .int) (C := RX8) (T := TX8) (N := 16) hx hb hts ii_X8 tyX8 tyX8_ok nmX8 hown hK hP (hDD _) hS 0 rfl rfl 11 (by decide) (hts (.fieldLink RX8 117 "StoryHouse$Teller" "second" "I") wq_298) (fun _ h9 => h9) rfl (by decide +kernel) rfl rfl (Nat.le_of_ble_eq_true rfl) dX8_findNouns_124 (fun H locs hP' _ hS => ?_)
          have hP : va_P (dC, dI) vwCl (b_e cB cC cI cJ cZ oA rA σ_42 ++ b_k cB cC cI cJ cZ oA rA σ_42 ++ b_p cB cC cI cJ cZ oA rA σ_42 ++ b_o cB cC cI cJ cZ oA rA σ_42 ++ b_s cB cC cI cJ cZ oA rA σ_42 ++ b_c cB cC cI cJ cZ oA rA σ_42 ++ b_t cB cC cI cJ cZ oA rA σ_42 ++ b_d cB cC cI cJ cZ oA rA σ_42) H := by rw [eσ_42]; exact cs_ekposctd_e_11 ▸ hP'
          clear hP'
          exact Jj_21  σ_42 hF_43 _ _ hP hS ls (lv_sub hl [0, 1] rfl)
    refine lv_icmp_ne (tgt := 76) hx hb dX8_findNouns_37 (by decide) (fun c_45 => ?_) (fun c_45 => ?_)
    · have hF_66 := ineg c_45 hF_14
      clear hF_14
      exact Jj_13  u_10.2 hF_66 _ _ hP hS ls (lv_sub hl [2, 1, 0] rfl)
    · have hF_46 := ipos c_45 hF_14
      clear hF_14
      refine lv_aload_n hx hb dX8_findNouns_40 rfl (lv_at hl 2 rfl) ?_
      refine va_get (D := (dC, dI)) (ci := 8) (v := .int ((u_10.2 11).1 9)) (C := RX8) (T := TX8) (N := 16) hx hb hts ii_X8 hown hK hP 0 rfl rfl 9 (by decide) (hts (.fieldLink RX8 156 "StoryHouse$Teller" "joint" "I") wq_296) (fun _ h9 => h9) rfl dX8_findNouns_41 ?_
      refine lv_iload_n hx hb dX8_findNouns_44 rfl (lv_at hl 0 rfl) ?_
      refine lv_isub hx hb dX8_findNouns_45 ?_
      refine lv_iconst (v := 1) hx hb dX8_findNouns_46 (by decide +kernel) ?_
      refine lv_icmp_ne (tgt := 76) hx hb dX8_findNouns_47 (by decide) (fun c_47 => ?_) (fun c_47 => ?_)
      · have hF_65 := ineg c_47 hF_46
        clear hF_46
        exact Jj_13  u_10.2 hF_65 _ _ hP hS ls (lv_sub hl [2, 1, 0] rfl)
      · have hF_48 := ipos c_47 hF_46
        clear hF_46
        refine lv_aload_n hx hb dX8_findNouns_50 rfl (lv_at hl 2 rfl) ?_
        refine va_get (D := (dC, dI)) (ci := 8) (v := .int ((u_10.2 11).1 8)) (C := RX8) (T := TX8) (N := 16) hx hb hts ii_X8 hown hK hP 0 rfl rfl 8 (by decide) (hts (.fieldLink RX8 127 "StoryHouse$Teller" "verb" "I") wq_295) (fun _ h9 => h9) rfl dX8_findNouns_51 ?_
        refine lv_iconst (v := 4) hx hb dX8_findNouns_54 (by decide +kernel) ?_
        obtain ⟨j_50, ej_50, hF_51⟩ := bnd_e hF_48
        clear hF_48
        have Jj_50 : ∀  (σ_49 : HS), j_50  σ_49 = some res → ∀ (H : Heap) (locs : List Loc), va_P (dC, dI) vwCl (b_e cB cC cI cJ cZ oA rA σ_49 ++ b_k cB cC cI cJ cZ oA rA σ_49 ++ b_p cB cC cI cJ cZ oA rA σ_49 ++ b_o cB cC cI cJ cZ oA rA σ_49 ++ b_s cB cC cI cJ cZ oA rA σ_49 ++ b_c cB cC cI cJ cZ oA rA σ_49 ++ b_t cB cC cI cJ cZ oA rA σ_49 ++ b_d cB cC cI cJ cZ oA rA σ_49) H → va_S A s.heap H locs → ∀ ls : Array Slot, lv_has ls 3 [(0, .ref (oA 11))] → W p l e (headSpec (g_ws yX8_findNouns cX8_findNouns 3 (some .boolean)) { frames := 9, cells := 0, slots := 0, locals := 212 }).room s m ([.ref (oA 11)] : List Value).toArray below meth c H locs 0 0 (MQ below (va_Qi (fun r (_ : Unit) => r = res.1) (g_Bo (dC, dI) A (fun (_ : Unit) => (b_e cB cC cI cJ cZ oA rA res.2 ++ b_k cB cC cI cJ cZ oA rA res.2 ++ b_p cB cC cI cJ cZ oA rA res.2 ++ b_o cB cC cI cJ cZ oA rA res.2 ++ b_s cB cC cI cJ cZ oA rA res.2 ++ b_c cB cC cI cJ cZ oA rA res.2 ++ b_t cB cC cI cJ cZ oA rA res.2 ++ b_d cB cC cI cJ cZ oA rA res.2))) A) ([.ref (oA 11)] : List Value).toArray s 0 0 A) (F0 m 66 ls []) := by
          intro  σ_49 hF0 H locs hP hS ls hl
          subst ej_50
          have hF_52 := hF0
          clear hF0
          refine lv_aload_n hx hb dX8_findNouns_66 rfl (lv_at hl 0 rfl) ?_
          refine lv_iconst (v := 1) hx hb dX8_findNouns_67 (by decide +kernel) ?_
          obtain ⟨σ_53, eσ_53, hF_54⟩ := bnd_e hF_52
          clear hF_52
          refine va_put (D := (dC, dI)) (ci := 8) (v := .int 1) (ty := .boolean) (C := RX8) (T := TX8) (N := 16) hx hb hts ii_X8 tyX8 tyX8_ok nmX8 hown hK hP (hDD _) hS 0 rfl rfl 12 (by decide) (hts (.fieldLink RX8 120 "StoryHouse$Teller" "all" "Z") wq_299) (fun _ h9 => h9) rfl (by decide +kernel) (by decide +kernel) (by decide +kernel) (Nat.le_of_ble_eq_true rfl) dX8_findNouns_68 (fun H locs hP' _ hS => ?_)
          have hP : va_P (dC, dI) vwCl (b_e cB cC cI cJ cZ oA rA σ_53 ++ b_k cB cC cI cJ cZ oA rA σ_53 ++ b_p cB cC cI cJ cZ oA rA σ_53 ++ b_o cB cC cI cJ cZ oA rA σ_53 ++ b_s cB cC cI cJ cZ oA rA σ_53 ++ b_c cB cC cI cJ cZ oA rA σ_53 ++ b_t cB cC cI cJ cZ oA rA σ_53 ++ b_d cB cC cI cJ cZ oA rA σ_53) H := by rw [eσ_53]; exact cs_ekposctd_e_12 ▸ hP'
          clear hP'
          refine lv_aload_n hx hb dX8_findNouns_71 rfl (lv_at hl 0 rfl) ?_
          obtain ⟨u_55, hu_55, hF_56⟩ := Option.bind_eq_some_iff.mp hF_54
          clear hF_54
          have hPc := hP.sub (ws' := (b_e cB cC cI cJ cZ oA rA σ_53 ++ b_k cB cC cI cJ cZ oA rA σ_53 ++ b_p cB cC cI cJ cZ oA rA σ_53 ++ b_o cB cC cI cJ cZ oA rA σ_53 ++ b_s cB cC cI cJ cZ oA rA σ_53 ++ b_c cB cC cI cJ cZ oA rA σ_53 ++ b_t cB cC cI cJ cZ oA rA σ_53 ++ b_d cB cC cI cJ cZ oA rA σ_53)) [0, 1, 2, 3, 4, 5, 6, 7, 8, 9, 10, 11, 12, 13, 14, 15, 16, 17, 18, 19, 20, 21, 22, 23, 24, 25, 26, 27, 28, 29, 30, 31, 32, 33, 34, 35, 36, 37, 38, 39, 40, 41, 42, 43, 44, 45, 46, 47, 48, 49] rfl
          have hDc := (hDD σ_53).sub (ws' := (b_e cB cC cI cJ cZ oA rA σ_53 ++ b_k cB cC cI cJ cZ oA rA σ_53 ++ b_p cB cC cI cJ cZ oA rA σ_53 ++ b_o cB cC cI cJ cZ oA rA σ_53 ++ b_s cB cC cI cJ cZ oA rA σ_53 ++ b_c cB cC cI cJ cZ oA rA σ_53 ++ b_t cB cC cI cJ cZ oA rA σ_53 ++ b_d cB cC cI cJ cZ oA rA σ_53)) [0, 1, 2, 3, 4, 5, 6, 7, 8, 9, 10, 11, 12, 13, 14, 15, 16, 17, 18, 19, 20, 21, 22, 23, 24, 25, 26, 27, 28, 29, 30, 31, 32, 33, 34, 35, 36, 37, 38, 39, 40, 41, 42, 43, 44, 45, 46, 47, 48, 49] (by decide +kernel) rfl
          have hFc := va_free (wc := (b_e cB cC cI cJ cZ oA rA σ_53 ++ b_k cB cC cI cJ cZ oA rA σ_53 ++ b_p cB cC cI cJ cZ oA rA σ_53 ++ b_o cB cC cI cJ cZ oA rA σ_53 ++ b_s cB cC cI cJ cZ oA rA σ_53 ++ b_c cB cC cI cJ cZ oA rA σ_53 ++ b_t cB cC cI cJ cZ oA rA σ_53 ++ b_d cB cC cI cJ cZ oA rA σ_53)) (hDD σ_53) hS hA [0, 1, 2, 3, 4, 5, 6, 7, 8, 9, 10, 11, 12, 13, 14, 15, 16, 17, 18, 19, 20, 21, 22, 23, 24, 25, 26, 27, 28, 29, 30, 31, 32, 33, 34, 35, 36, 37, 38, 39, 40, 41, 42, 43, 44, 45, 46, 47, 48, 49] rfl
          refine g_ofi (wc := (b_e cB cC cI cJ cZ oA rA σ_53 ++ b_k cB cC cI cJ cZ oA rA σ_53 ++ b_p cB cC cI cJ cZ oA rA σ_53 ++ b_o cB cC cI cJ cZ oA rA σ_53 ++ b_s cB cC cI cJ cZ oA rA σ_53 ++ b_c cB cC cI cJ cZ oA rA σ_53 ++ b_t cB cC cI cJ cZ oA rA σ_53 ++ b_d cB cC cI cJ cZ oA rA σ_53)) (wr := ([] : va_W)) hP (hDD σ_53) hS hFc [0, 1, 2, 3, 4, 5, 6, 7, 8, 9, 10, 11, 12, 13, 14, 15, 16, 17, 18, 19, 20, 21, 22, 23, 24, 25, 26, 27, 28, 29, 30, 31, 32, 33, 34, 35, 36, 37, 38, 39, 40, 41, 42, 43, 44, 45, 46, 47, 48, 49] [] rfl rfl (by decide +kernel) (by decide +kernel) (va_runV (As := []) (rest := []) ⟨hx, hb, hml, hown, hts⟩ (k_X8_chooseAll l dC dI cB cC cI cJ cZ cP oA rA H.size  σ_53 _ hu_55) (cwV 0 hts (g_gV wq_1091 wq_1092 wq_2079 wq_12 wq_1093) rfl rfl rfl (by decide +kernel) ⟨Nat.le_of_ble_eq_true rfl, Nat.le_of_ble_eq_true rfl⟩) (g_preV g_bl0 hK hPc hDc hS hE hFc g_to0 (q0 := 0) (ci := 8) rfl rfl) rfl rfl hl.1 rfl (lv_room (Nat.le_of_ble_eq_true rfl)) dX8_findNouns_72 ⟨Nat.le_of_ble_eq_true rfl, Nat.le_of_ble_eq_true rfl⟩) (fun r9 u9 H locs hw9 hP' hD' hS => ?_)
          clear hPc hDc hFc
          subst hw9
          have hP : va_P (dC, dI) vwCl (b_e cB cC cI cJ cZ oA rA u_55.2 ++ b_k cB cC cI cJ cZ oA rA u_55.2 ++ b_p cB cC cI cJ cZ oA rA u_55.2 ++ b_o cB cC cI cJ cZ oA rA u_55.2 ++ b_s cB cC cI cJ cZ oA rA u_55.2 ++ b_c cB cC cI cJ cZ oA rA u_55.2 ++ b_t cB cC cI cJ cZ oA rA u_55.2 ++ b_d cB cC cI cJ cZ oA rA u_55.2) H := hP'
          clear hP' hD'
          obtain ⟨g_57, hF_58⟩ := nif_e hF_56
          clear hF_56
          have h9 := Option.some.inj hF_58
          subst h9
          exact W.zret (v := u_55.1) hx hb hr (m_bool (Classical.not_not.mp g_57)).1 (fun t ht hW => ⟨⟨u_55.1, (), rfl, rfl, m_end ht hP, hDD _⟩, hS.F ht⟩) hS.2.2 dX8_findNouns_75
        refine lv_icmp_eq (tgt := 66) hx hb dX8_findNouns_55 (by decide) (fun c_59 => ?_) (fun c_59 => ?_)
        · have hF_60 := ipos c_59 hF_51
          clear hF_51
          exact Jj_50  u_10.2 hF_60 _ _ hP hS ls (lv_sub hl [2] rfl)
        · have hF_61 := ineg c_59 hF_51
          clear hF_51
          refine lv_aload_n hx hb dX8_findNouns_58 rfl (lv_at hl 2 rfl) ?_
          refine va_get (D := (dC, dI)) (ci := 8) (v := .int ((u_10.2 11).1 8)) (C := RX8) (T := TX8) (N := 16) hx hb hts ii_X8 hown hK hP 0 rfl rfl 8 (by decide) (hts (.fieldLink RX8 127 "StoryHouse$Teller" "verb" "I") wq_295) (fun _ h9 => h9) rfl dX8_findNouns_59 ?_
          refine lv_iconst (v := 5) hx hb dX8_findNouns_62 (by decide +kernel) ?_
          refine lv_icmp_ne (tgt := 76) hx hb dX8_findNouns_63 (by decide) (fun c_62 => ?_) (fun c_62 => ?_)
          · have hF_64 := ineg c_62 hF_61
            clear hF_61
            exact Jj_13  u_10.2 hF_64 _ _ hP hS ls (lv_sub hl [2, 1, 0] rfl)
          · have hF_63 := ipos c_62 hF_61
            clear hF_61
            exact Jj_50  u_10.2 hF_63 _ _ hP hS ls (lv_sub hl [2] rfl)
  · have hF_6 := ipos c_5 hF_4
    clear hF_4
    refine lv_iconst (v := 1) hx hb dX8_findNouns_19 (by decide +kernel) ?_
    have h9 := Option.some.inj hF_6
    subst h9
    exact W.zret (v := 1) hx hb hr (by decide +kernel) (fun t ht hW => ⟨⟨1, (), rfl, rfl, m_end ht hP, hDD _⟩, hS.F ht⟩) hS.2.2 dX8_findNouns_20
theorem dX8_fits_0 : decode cX8_fits 0 = .ok (.aload_n 0, 1) := by decide +kernel
theorem dX8_fits_1 : decode cX8_fits 1 = .ok (.getfield 85, 3) := by decide +kernel
theorem dX8_fits_4 : decode cX8_fits 4 = .ok (.getfield 153, 3) := by decide +kernel
theorem dX8_fits_7 : decode cX8_fits 7 = .ok (.iload_n 1, 1) := by decide +kernel
theorem dX8_fits_8 : decode cX8_fits 8 = .ok (.invokestatic 70, 3) := by decide +kernel
theorem dX8_fits_11 : decode cX8_fits 11 = .ok (.istore_n 2, 1) := by decide +kernel
theorem dX8_fits_12 : decode cX8_fits 12 = .ok (.aload_n 0, 1) := by decide +kernel
theorem dX8_fits_13 : decode cX8_fits 13 = .ok (.aload_n 0, 1) := by decide +kernel
theorem dX8_fits_14 : decode cX8_fits 14 = .ok (.getfield 50, 3) := by decide +kernel
theorem dX8_fits_17 : decode cX8_fits 17 = .ok (.putfield 156, 3) := by decide +kernel
theorem dX8_fits_20 : decode cX8_fits 20 = .ok (.iload_n 2, 1) := by decide +kernel
theorem dX8_fits_21 : decode cX8_fits 21 = .ok (.iconst 2, 1) := by decide +kernel
theorem dX8_fits_22 : decode cX8_fits 22 = .ok (.if_icmp .eq 37, 3) := by decide +kernel
theorem dX8_fits_25 : decode cX8_fits 25 = .ok (.iload_n 2, 1) := by decide +kernel
theorem dX8_fits_26 : decode cX8_fits 26 = .ok (.ifCond .ne 19, 3) := by decide +kernel
theorem dX8_fits_29 : decode cX8_fits 29 = .ok (.aload_n 0, 1) := by decide +kernel
theorem dX8_fits_30 : decode cX8_fits 30 = .ok (.getfield 50, 3) := by decide +kernel
theorem dX8_fits_33 : decode cX8_fits 33 = .ok (.iconst 1, 1) := by decide +kernel
theorem dX8_fits_34 : decode cX8_fits 34 = .ok (.if_icmp .ne 7, 3) := by decide +kernel
theorem dX8_fits_37 : decode cX8_fits 37 = .ok (.iconst 1, 1) := by decide +kernel
theorem dX8_fits_38 : decode cX8_fits 38 = .ok (.goto 20, 3) := by decide +kernel
theorem dX8_fits_41 : decode cX8_fits 41 = .ok (.iconst 0, 1) := by decide +kernel
theorem dX8_fits_42 : decode cX8_fits 42 = .ok (.goto 16, 3) := by decide +kernel
theorem dX8_fits_45 : decode cX8_fits 45 = .ok (.aload_n 0, 1) := by decide +kernel
theorem dX8_fits_46 : decode cX8_fits 46 = .ok (.getfield 50, 3) := by decide +kernel
theorem dX8_fits_49 : decode cX8_fits 49 = .ok (.iconst 1, 1) := by decide +kernel
theorem dX8_fits_50 : decode cX8_fits 50 = .ok (.if_icmp .le 7, 3) := by decide +kernel
theorem dX8_fits_53 : decode cX8_fits 53 = .ok (.iconst 1, 1) := by decide +kernel
theorem dX8_fits_54 : decode cX8_fits 54 = .ok (.goto 4, 3) := by decide +kernel
theorem dX8_fits_57 : decode cX8_fits 57 = .ok (.iconst 0, 1) := by decide +kernel
theorem dX8_fits_58 : decode cX8_fits 58 = .ok (.ireturn, 1) := by decide +kernel
theorem dX8_fits_59 : decode cX8_fits 59 = .ok (.iconst 2, 1) := by decide +kernel
theorem dX8_fits_60 : decode cX8_fits 60 = .ok (.istore_n 3, 1) := by decide +kernel
theorem dX8_fits_61 : decode cX8_fits 61 = .ok (.iload_n 3, 1) := by decide +kernel
theorem dX8_fits_62 : decode cX8_fits 62 = .ok (.aload_n 0, 1) := by decide +kernel
theorem dX8_fits_63 : decode cX8_fits 63 = .ok (.getfield 50, 3) := by decide +kernel
theorem dX8_fits_66 : decode cX8_fits 66 = .ok (.iconst 1, 1) := by decide +kernel
theorem dX8_fits_67 : decode cX8_fits 67 = .ok (.isub, 1) := by decide +kernel
theorem dX8_fits_68 : decode cX8_fits 68 = .ok (.if_icmp .ge 35, 3) := by decide +kernel
theorem dX8_fits_71 : decode cX8_fits 71 = .ok (.aload_n 0, 1) := by decide +kernel
theorem dX8_fits_72 : decode cX8_fits 72 = .ok (.iload_n 3, 1) := by decide +kernel
theorem dX8_fits_73 : decode cX8_fits 73 = .ok (.invokevirtual 55, 3) := by decide +kernel
theorem dX8_fits_76 : decode cX8_fits 76 = .ok (.aload_n 0, 1) := by decide +kernel
theorem dX8_fits_77 : decode cX8_fits 77 = .ok (.getfield 85, 3) := by decide +kernel
theorem dX8_fits_80 : decode cX8_fits 80 = .ok (.getfield 159, 3) := by decide +kernel
theorem dX8_fits_83 : decode cX8_fits 83 = .ok (.iload_n 1, 1) := by decide +kernel
theorem dX8_fits_84 : decode cX8_fits 84 = .ok (.invokestatic 70, 3) := by decide +kernel
theorem dX8_fits_87 : decode cX8_fits 87 = .ok (.if_icmp .ne 10, 3) := by decide +kernel
theorem dX8_fits_90 : decode cX8_fits 90 = .ok (.aload_n 0, 1) := by decide +kernel
theorem dX8_fits_91 : decode cX8_fits 91 = .ok (.iload_n 3, 1) := by decide +kernel
theorem dX8_fits_92 : decode cX8_fits 92 = .ok (.putfield 156, 3) := by decide +kernel
theorem dX8_fits_95 : decode cX8_fits 95 = .ok (.iconst 1, 1) := by decide +kernel
theorem dX8_fits_96 : decode cX8_fits 96 = .ok (.ireturn, 1) := by decide +kernel
theorem dX8_fits_97 : decode cX8_fits 97 = .ok (.iinc 3 1, 3) := by decide +kernel
theorem dX8_fits_100 : decode cX8_fits 100 = .ok (.goto (-39), 3) := by decide +kernel
theorem dX8_fits_103 : decode cX8_fits 103 = .ok (.iconst 0, 1) := by decide +kernel
theorem dX8_fits_104 : decode cX8_fits 104 = .ok (.ireturn, 1) := by decide +kernel
def F_X8_fits (p0 : Int32) (Γ : HS) : HR :=
  bnd ((g_at 61 ((Γ 4).2.1 7) p0)) fun (x_1 : Int32) =>
  bnd (cI' Γ 11 9 ((Γ 11).1 7)) fun σ_3 =>
  if x_1 = 2 then (
    loopF (fun (again_8 : (Int32 × HS) → HR) (s_7 : Int32 × HS) => (
      if (((s_7.2 11).1 7) - 1) ≤ s_7.1 then (
        some (0, s_7.2)
      ) else (
        (F_X8_term s_7.1 s_7.2).bind fun u_14 =>
        bnd ((g_at 61 ((u_14.2 4).2.1 8) p0)) fun (x_16 : Int32) =>
        if u_14.1 = x_16 then (
          bnd (cI' u_14.2 11 9 s_7.1) fun σ_20 =>
          some (1, σ_20)
        ) else (
          bnd (s_7.1 + 1) fun (x_23 : Int32) =>
          again_8 (x_23, u_14.2)
        )
      )
    )) FU (2, σ_3)
  ) else (
    if x_1 = 0 then (
      if ((σ_3 11).1 7) = 1 then (
        some (1, σ_3)
      ) else (
        some (0, σ_3)
      )
    ) else (
      if ((σ_3 11).1 7) ≤ 1 then (
        some (0, σ_3)
      ) else (
        some (1, σ_3)
      )
    )
  )
set_option maxHeartbeats 4000000 in
set_option maxRecDepth 100000 in
theorem k_X8_fits (l : Launch) (dC : Nat → ClassId) (dI : Nat → Nat → Nat) (cB cC cI cJ cZ cP : ClassId) (oA : Nat → Nat) (rA : Nat → Nat → Nat) (sz : Nat)  (p0 : Int32) (Γ : HS) (res : Int32 × HS) (hF : F_X8_fits p0 Γ = some res) : Met l yX8_fits (g_ws yX8_fits cX8_fits 4 (some .boolean)) ({ frames := 4, cells := 0, slots := 0, locals := 102 }) (va_Pc [.ref (oA 11), .int p0] (g_B (dC, dI) [(cB, .byte), (cC, .char), (cI, .int), (cJ, .long), (cZ, .boolean), (cP, .object "StoryHouse$Play")] sz (b_e cB cC cI cJ cZ oA rA Γ ++ b_k cB cC cI cJ cZ oA rA Γ ++ b_p cB cC cI cJ cZ oA rA Γ ++ b_o cB cC cI cJ cZ oA rA Γ ++ b_s cB cC cI cJ cZ oA rA Γ ++ b_c cB cC cI cJ cZ oA rA Γ ++ b_t cB cC cI cJ cZ oA rA Γ ++ b_d cB cC cI cJ cZ oA rA Γ) g_0)) (va_Qi (fun r (_ : Unit) => r = res.1) (g_Bo (dC, dI) (va_A (b_e cB cC cI cJ cZ oA rA Γ ++ b_k cB cC cI cJ cZ oA rA Γ ++ b_p cB cC cI cJ cZ oA rA Γ ++ b_o cB cC cI cJ cZ oA rA Γ ++ b_s cB cC cI cJ cZ oA rA Γ ++ b_c cB cC cI cJ cZ oA rA Γ ++ b_t cB cC cI cJ cZ oA rA Γ ++ b_d cB cC cI cJ cZ oA rA Γ) sz) (fun (_ : Unit) => (b_e cB cC cI cJ cZ oA rA res.2 ++ b_k cB cC cI cJ cZ oA rA res.2 ++ b_p cB cC cI cJ cZ oA rA res.2 ++ b_o cB cC cI cJ cZ oA rA res.2 ++ b_s cB cC cI cJ cZ oA rA res.2 ++ b_c cB cC cI cJ cZ oA rA res.2 ++ b_t cB cC cI cJ cZ oA rA res.2 ++ b_d cB cC cI cJ cZ oA rA res.2))) (va_A (b_e cB cC cI cJ cZ oA rA Γ ++ b_k cB cC cI cJ cZ oA rA Γ ++ b_p cB cC cI cJ cZ oA rA Γ ++ b_o cB cC cI cJ cZ oA rA Γ ++ b_s cB cC cI cJ cZ oA rA Γ ++ b_c cB cC cI cJ cZ oA rA Γ ++ b_t cB cC cI cJ cZ oA rA Γ ++ b_d cB cC cI cJ cZ oA rA Γ) sz)) 0 0 (va_A (b_e cB cC cI cJ cZ oA rA Γ ++ b_k cB cC cI cJ cZ oA rA Γ ++ b_p cB cC cI cJ cZ oA rA Γ ++ b_o cB cC cI cJ cZ oA rA Γ ++ b_s cB cC cI cJ cZ oA rA Γ ++ b_c cB cC cI cJ cZ oA rA Γ ++ b_t cB cC cI cJ cZ oA rA Γ ++ b_d cB cC cI cJ cZ oA rA Γ) sz) := by
  refine Met.ofW (cc := cX8_fits) (maxL := 4) (ret := (some .boolean)) (by decide) rfl ?_
  intro p e s m args below meth c s₁ B hml hv
  obtain ⟨rfl, hsz, hP, hK, hD0, hE, hX⟩ := hv
  have hx := B.exec
  have hb := B.bytes
  have hr := B.returns
  have hts0 := atoms_spec (ws := g_ws yX8_fits cX8_fits 4 (some .boolean)) B.pre
  have hts : ∀ w ∈ lw_good, w.before ([.ref (oA 11), .int p0] : List Value).toArray s = true := fun w z => hts0 w (List.mem_cons_of_mem _ z)
  have hown : s.vm.findClass RX8 = some m.cls := findClass_of_methodNamed B.named
  have hlocks := B.notSynchronized
  subst hsz
  have hD1 := hD0.self (sz := s.heap.size)
  generalize hAe : va_A (b_e cB cC cI cJ cZ oA rA Γ ++ b_k cB cC cI cJ cZ oA rA Γ ++ b_p cB cC cI cJ cZ oA rA Γ ++ b_o cB cC cI cJ cZ oA rA Γ ++ b_s cB cC cI cJ cZ oA rA Γ ++ b_c cB cC cI cJ cZ oA rA Γ ++ b_t cB cC cI cJ cZ oA rA Γ ++ b_d cB cC cI cJ cZ oA rA Γ) s.heap.size = A at hD1 hE hX ⊢
  have hA : ∀ q : Nat, s.heap.size ≤ q → A q := fun q z => by rw [← hAe]; exact Or.inr z
  have hDD : ∀ Γ : HS, va_D A (b_e cB cC cI cJ cZ oA rA Γ ++ b_k cB cC cI cJ cZ oA rA Γ ++ b_p cB cC cI cJ cZ oA rA Γ ++ b_o cB cC cI cJ cZ oA rA Γ ++ b_s cB cC cI cJ cZ oA rA Γ ++ b_c cB cC cI cJ cZ oA rA Γ ++ b_t cB cC cI cJ cZ oA rA Γ ++ b_d cB cC cI cJ cZ oA rA Γ) := fun Γ9 => va_D_fst (ws := (b_e cB cC cI cJ cZ oA rA Γ ++ b_k cB cC cI cJ cZ oA rA Γ ++ b_p cB cC cI cJ cZ oA rA Γ ++ b_o cB cC cI cJ cZ oA rA Γ ++ b_s cB cC cI cJ cZ oA rA Γ ++ b_c cB cC cI cJ cZ oA rA Γ ++ b_t cB cC cI cJ cZ oA rA Γ ++ b_d cB cC cI cJ cZ oA rA Γ)) (ws' := (b_e cB cC cI cJ cZ oA rA Γ9 ++ b_k cB cC cI cJ cZ oA rA Γ9 ++ b_p cB cC cI cJ cZ oA rA Γ9 ++ b_o cB cC cI cJ cZ oA rA Γ9 ++ b_s cB cC cI cJ cZ oA rA Γ9 ++ b_c cB cC cI cJ cZ oA rA Γ9 ++ b_t cB cC cI cJ cZ oA rA Γ9 ++ b_d cB cC cI cJ cZ oA rA Γ9)) rfl hD1
  have hN := hE.1
  have hS : va_S A s.heap s.heap [] := va_S.rf
  have hl := lv_entry ([.ref (oA 11), .int p0]) (n := 4) (Nat.le_of_ble_eq_true rfl)
  rw [lg_entry_eq]
  generalize (lg_sl ([.ref (oA 11), .int p0]) ++ List.replicate (4 - (lg_sl ([.ref (oA 11), .int p0])).length) Slot.unset).toArray = ls at hl ⊢
  have hl : lv_has ls 4 [(0, .ref (oA 11)), (1, .int p0)] := hl
  unfold F_X8_fits at hF
  refine lv_aload_n hx hb dX8_fits_0 rfl (lv_at hl 0 rfl) ?_
  refine va_get (D := (dC, dI)) (ci := 8) (v := .ref (oA 4)) (C := RX8) (T := TX8) (N := 16) hx hb hts ii_X8 hown hK hP 0 rfl rfl 3 (by decide) (hts (.fieldLink RX8 85 "StoryHouse$Teller" "story" "LStoryHouse$Story;") wq_290) (fun _ h9 => h9) rfl dX8_fits_1 ?_
  refine va_get (D := (dC, dI)) (ci := 7) (v := .ref (rA 4 7)) (C := RX7) (T := TX7) (N := 19) hx hb hts ii_X7 hown hK hP 19 rfl rfl 7 (by decide) (hts (.fieldLink RX8 153 "StoryHouse$Story" "forms" "[I") wq_172) (fun _ h9 => h9) rfl dX8_fits_4 ?_
  refine lv_iload_n hx hb dX8_fits_7 rfl (lv_at hl 1 rfl) ?_
  have hPc := hP.sub (ws' := [(rA 4 7, .inl (cI, 61, .inl ((Γ 4).2.1 7)))]) [27] rfl
  have hDc := (hDD Γ).sub (ws' := [(rA 4 7, .inl (cI, 61, .inl ((Γ 4).2.1 7)))]) [27] (by decide +kernel) rfl
  have hFc := va_free (wc := [(rA 4 7, .inl (cI, 61, .inl ((Γ 4).2.1 7)))]) (hDD Γ) hS hA [27] rfl
  refine g_ofi (wc := [(rA 4 7, .inl (cI, 61, .inl ((Γ 4).2.1 7)))]) (wr := (((b_e cB cC cI cJ cZ oA rA Γ ++ b_k cB cC cI cJ cZ oA rA Γ ++ b_p cB cC cI cJ cZ oA rA Γ ++ b_o cB cC cI cJ cZ oA rA Γ ++ b_s cB cC cI cJ cZ oA rA Γ ++ b_c cB cC cI cJ cZ oA rA Γ ++ b_t cB cC cI cJ cZ oA rA Γ ++ b_d cB cC cI cJ cZ oA rA Γ)).eraseIdx 27)) hP (hDD Γ) hS hFc [27] [0, 1, 2, 3, 4, 5, 6, 7, 8, 9, 10, 11, 12, 13, 14, 15, 16, 17, 18, 19, 20, 21, 22, 23, 24, 25, 26, 28, 29, 30, 31, 32, 33, 34, 35, 36, 37, 38, 39, 40, 41, 42, 43, 44, 45, 46, 47, 48, 49] rfl rfl (by decide +kernel) (by decide +kernel) (va_runSN (As := [.ref (rA 4 7), .int p0]) (rest := []) ⟨hx, hb, hml, hown, hts⟩ (c_X11_at l dC dI cB cC cI cJ cZ cP s.heap.size (rA 4 7) p0 61 ((Γ 4).2.1 7) (by decide)) ⟨va_cnB 2 hts (g_gA wq_407) rfl rfl rfl (hN.at 31 rfl) (hts (.initialized RX11) wq_1) (by decide +kernel) ⟨Nat.le_of_ble_eq_true rfl, Nat.le_of_ble_eq_true rfl⟩, (hts (.static yX11_at) wq_406), trivial⟩ (g_preS g_bl0 hK hPc hDc hS hE hFc g_to0) rfl rfl hl.1 rfl (lv_room (Nat.le_of_ble_eq_true rfl)) dX8_fits_8 ⟨Nat.le_of_ble_eq_true rfl, Nat.le_of_ble_eq_true rfl⟩) (fun r9 u9 H locs hw9 hP' hD' hS => ?_)
  clear hPc hDc hFc hD'
  have hP : va_P (dC, dI) vwCl (b_e cB cC cI cJ cZ oA rA Γ ++ b_k cB cC cI cJ cZ oA rA Γ ++ b_p cB cC cI cJ cZ oA rA Γ ++ b_o cB cC cI cJ cZ oA rA Γ ++ b_s cB cC cI cJ cZ oA rA Γ ++ b_c cB cC cI cJ cZ oA rA Γ ++ b_t cB cC cI cJ cZ oA rA Γ ++ b_d cB cC cI cJ cZ oA rA Γ) H := hP'.sub [0, 1, 2, 3, 4, 5, 6, 7, 8, 9, 10, 11, 12, 13, 14, 15, 16, 17, 18, 19, 20, 21, 22, 23, 24, 25, 26, 49, 27, 28, 29, 30, 31, 32, 33, 34, 35, 36, 37, 38, 39, 40, 41, 42, 43, 44, 45, 46, 47, 48] rfl
  clear hP'
  subst hw9
  obtain ⟨x_1, ex_1, hF_2⟩ := bnd_e hF
  clear hF
  refine m_top ex_1 ?_
  refine lv_istore_n (lv' := [(2, .int x_1), (0, .ref (oA 11)), (1, .int p0)]) hx hb dX8_fits_11 rfl hl (by decide) rfl (fun ls hl => ?_)
  refine lv_aload_n hx hb dX8_fits_12 rfl (lv_at hl 1 rfl) ?_
  refine lv_aload_n hx hb dX8_fits_13 rfl (lv_at hl 1 rfl) ?_
  refine va_get (D := (dC, dI)) (ci := 8) (v := .int ((Γ 11).1 7)) (C := RX8) (T := TX8) (N := 16) hx hb hts ii_X8 hown hK hP 0 rfl rfl 7 (by decide) (hts (.fieldLink RX8 50 "StoryHouse$Teller" "termCount" "I") wq_294) (fun _ h9 => h9) rfl dX8_fits_14 ?_
  obtain ⟨σ_3, eσ_3, hF_4⟩ := bnd_e hF_2
  clear hF_2
  refine va_put (D := (dC, dI)) (ci := 8) (v := .int ((Γ 11).1 7)) (ty := .int) (C := RX8) (T := TX8) (N := 16) hx hb hts ii_X8 tyX8 tyX8_ok nmX8 hown hK hP (hDD _) hS 0 rfl rfl 9 (by decide) (hts (.fieldLink RX8 156 "StoryHouse$Teller" "joint" "I") wq_296) (fun _ h9 => h9) rfl (by decide +kernel) rfl rfl (Nat.le_of_ble_eq_true rfl) dX8_fits_17 (fun H locs hP' _ hS => ?_)
  have hP : va_P (dC, dI) vwCl (b_e cB cC cI cJ cZ oA rA σ_3 ++ b_k cB cC cI cJ cZ oA rA σ_3 ++ b_p cB cC cI cJ cZ oA rA σ_3 ++ b_o cB cC cI cJ cZ oA rA σ_3 ++ b_s cB cC cI cJ cZ oA rA σ_3 ++ b_c cB cC cI cJ cZ oA rA σ_3 ++ b_t cB cC cI cJ cZ oA rA σ_3 ++ b_d cB cC cI cJ cZ oA rA σ_3) H := by rw [eσ_3]; exact cs_ekposctd_e_9 ▸ hP'
  clear hP'
  refine lv_iload_n hx hb dX8_fits_20 rfl (lv_at hl 0 rfl) ?_
  refine lv_iconst (v := 2) hx hb dX8_fits_21 (by decide +kernel) ?_
  refine lv_icmp_eq (tgt := 59) hx hb dX8_fits_22 (by decide) (fun c_5 => ?_) (fun c_5 => ?_)
  · have hF_6 := ipos c_5 hF_4
    clear hF_4
    refine lv_iconst (v := 2) hx hb dX8_fits_59 (by decide +kernel) ?_
    refine lv_istore_n (lv' := [(3, .int 2), (2, .int x_1), (0, .ref (oA 11)), (1, .int p0)]) hx hb dX8_fits_60 rfl hl (by decide) rfl (fun ls hl => ?_)
    refine loopF_ind (P := fun (s_7 : Int32 × HS) => ∀ (H : Heap) (locs : List Loc), va_P (dC, dI) vwCl (b_e cB cC cI cJ cZ oA rA s_7.2 ++ b_k cB cC cI cJ cZ oA rA s_7.2 ++ b_p cB cC cI cJ cZ oA rA s_7.2 ++ b_o cB cC cI cJ cZ oA rA s_7.2 ++ b_s cB cC cI cJ cZ oA rA s_7.2 ++ b_c cB cC cI cJ cZ oA rA s_7.2 ++ b_t cB cC cI cJ cZ oA rA s_7.2 ++ b_d cB cC cI cJ cZ oA rA s_7.2) H → va_S A s.heap H locs → ∀ ls : Array Slot, lv_has ls 4 [(0, .ref (oA 11)), (1, .int p0), (3, .int s_7.1)] → W p l e (headSpec (g_ws yX8_fits cX8_fits 4 (some .boolean)) { frames := 4, cells := 0, slots := 0, locals := 102 }).room s m ([.ref (oA 11), .int p0] : List Value).toArray below meth c H locs 0 0 (MQ below (va_Qi (fun r (_ : Unit) => r = res.1) (g_Bo (dC, dI) A (fun (_ : Unit) => (b_e cB cC cI cJ cZ oA rA res.2 ++ b_k cB cC cI cJ cZ oA rA res.2 ++ b_p cB cC cI cJ cZ oA rA res.2 ++ b_o cB cC cI cJ cZ oA rA res.2 ++ b_s cB cC cI cJ cZ oA rA res.2 ++ b_c cB cC cI cJ cZ oA rA res.2 ++ b_t cB cC cI cJ cZ oA rA res.2 ++ b_d cB cC cI cJ cZ oA rA res.2))) A) ([.ref (oA 11), .int p0] : List Value).toArray s 0 0 A) (F0 m 61 ls [])) ?_ _ _ hF_6 _ _ hP hS ls (lv_sub hl [2, 3, 0] rfl)
    intro again_8 s_7 ih_9 hF_10
    intro H locs hP hS ls hl
    refine lv_iload_n hx hb dX8_fits_61 rfl (lv_at hl 2 rfl) ?_
    refine lv_aload_n hx hb dX8_fits_62 rfl (lv_at hl 0 rfl) ?_
    refine va_get (D := (dC, dI)) (ci := 8) (v := .int ((s_7.2 11).1 7)) (C := RX8) (T := TX8) (N := 16) hx hb hts ii_X8 hown hK hP 0 rfl rfl 7 (by decide) (hts (.fieldLink RX8 50 "StoryHouse$Teller" "termCount" "I") wq_294) (fun _ h9 => h9) rfl dX8_fits_63 ?_
    refine lv_iconst (v := 1) hx hb dX8_fits_66 (by decide +kernel) ?_
    refine lv_isub hx hb dX8_fits_67 ?_
    refine lv_icmp_ge (tgt := 103) hx hb dX8_fits_68 (by decide) (fun c_11 => ?_) (fun c_11 => ?_)
    · have hF_12 := ipos c_11 hF_10
      clear hF_10
      refine lv_iconst (v := 0) hx hb dX8_fits_103 (by decide +kernel) ?_
      have h9 := Option.some.inj hF_12
      subst h9
      exact W.zret (v := 0) hx hb hr (by decide +kernel) (fun t ht hW => ⟨⟨0, (), rfl, rfl, m_end ht hP, hDD _⟩, hS.F ht⟩) hS.2.2 dX8_fits_104
    · have hF_13 := ineg c_11 hF_10
      clear hF_10
      refine lv_aload_n hx hb dX8_fits_71 rfl (lv_at hl 0 rfl) ?_
      refine lv_iload_n hx hb dX8_fits_72 rfl (lv_at hl 2 rfl) ?_
      obtain ⟨u_14, hu_14, hF_15⟩ := Option.bind_eq_some_iff.mp hF_13
      clear hF_13
      have hPc := hP.sub (ws' := (b_e cB cC cI cJ cZ oA rA s_7.2 ++ b_k cB cC cI cJ cZ oA rA s_7.2 ++ b_p cB cC cI cJ cZ oA rA s_7.2 ++ b_o cB cC cI cJ cZ oA rA s_7.2 ++ b_s cB cC cI cJ cZ oA rA s_7.2 ++ b_c cB cC cI cJ cZ oA rA s_7.2 ++ b_t cB cC cI cJ cZ oA rA s_7.2 ++ b_d cB cC cI cJ cZ oA rA s_7.2)) [0, 1, 2, 3, 4, 5, 6, 7, 8, 9, 10, 11, 12, 13, 14, 15, 16, 17, 18, 19, 20, 21, 22, 23, 24, 25, 26, 27, 28, 29, 30, 31, 32, 33, 34, 35, 36, 37, 38, 39, 40, 41, 42, 43, 44, 45, 46, 47, 48, 49] rfl
      have hDc := (hDD s_7.2).sub (ws' := (b_e cB cC cI cJ cZ oA rA s_7.2 ++ b_k cB cC cI cJ cZ oA rA s_7.2 ++ b_p cB cC cI cJ cZ oA rA s_7.2 ++ b_o cB cC cI cJ cZ oA rA s_7.2 ++ b_s cB cC cI cJ cZ oA rA s_7.2 ++ b_c cB cC cI cJ cZ oA rA s_7.2 ++ b_t cB cC cI cJ cZ oA rA s_7.2 ++ b_d cB cC cI cJ cZ oA rA s_7.2)) [0, 1, 2, 3, 4, 5, 6, 7, 8, 9, 10, 11, 12, 13, 14, 15, 16, 17, 18, 19, 20, 21, 22, 23, 24, 25, 26, 27, 28, 29, 30, 31, 32, 33, 34, 35, 36, 37, 38, 39, 40, 41, 42, 43, 44, 45, 46, 47, 48, 49] (by decide +kernel) rfl
      have hFc := va_free (wc := (b_e cB cC cI cJ cZ oA rA s_7.2 ++ b_k cB cC cI cJ cZ oA rA s_7.2 ++ b_p cB cC cI cJ cZ oA rA s_7.2 ++ b_o cB cC cI cJ cZ oA rA s_7.2 ++ b_s cB cC cI cJ cZ oA rA s_7.2 ++ b_c cB cC cI cJ cZ oA rA s_7.2 ++ b_t cB cC cI cJ cZ oA rA s_7.2 ++ b_d cB cC cI cJ cZ oA rA s_7.2)) (hDD s_7.2) hS hA [0, 1, 2, 3, 4, 5, 6, 7, 8, 9, 10, 11, 12, 13, 14, 15, 16, 17, 18, 19, 20, 21, 22, 23, 24, 25, 26, 27, 28, 29, 30, 31, 32, 33, 34, 35, 36, 37, 38, 39, 40, 41, 42, 43, 44, 45, 46, 47, 48, 49] rfl
      refine g_ofi (wc := (b_e cB cC cI cJ cZ oA rA s_7.2 ++ b_k cB cC cI cJ cZ oA rA s_7.2 ++ b_p cB cC cI cJ cZ oA rA s_7.2 ++ b_o cB cC cI cJ cZ oA rA s_7.2 ++ b_s cB cC cI cJ cZ oA rA s_7.2 ++ b_c cB cC cI cJ cZ oA rA s_7.2 ++ b_t cB cC cI cJ cZ oA rA s_7.2 ++ b_d cB cC cI cJ cZ oA rA s_7.2)) (wr := ([] : va_W)) hP (hDD s_7.2) hS hFc [0, 1, 2, 3, 4, 5, 6, 7, 8, 9, 10, 11, 12, 13, 14, 15, 16, 17, 18, 19, 20, 21, 22, 23, 24, 25, 26, 27, 28, 29, 30, 31, 32, 33, 34, 35, 36, 37, 38, 39, 40, 41, 42, 43, 44, 45, 46, 47, 48, 49] [] rfl rfl (by decide +kernel) (by decide +kernel) (va_runV (As := [.int s_7.1]) (rest := []) ⟨hx, hb, hml, hown, hts⟩ (k_X8_term l dC dI cB cC cI cJ cZ cP oA rA H.size  s_7.1 s_7.2 _ hu_14) (cwV 1 hts (g_gV wq_1065 wq_1066 wq_2074 wq_12 wq_1067) rfl rfl rfl (by decide +kernel) ⟨Nat.le_of_ble_eq_true rfl, Nat.le_of_ble_eq_true rfl⟩) (g_preV g_bl0 hK hPc hDc hS hE hFc g_to0 (q0 := 0) (ci := 8) rfl rfl) rfl rfl hl.1 rfl (lv_room (Nat.le_of_ble_eq_true rfl)) dX8_fits_73 ⟨Nat.le_of_ble_eq_true rfl, Nat.le_of_ble_eq_true rfl⟩) (fun r9 u9 H locs hw9 hP' hD' hS => ?_)
      clear hPc hDc hFc
      subst hw9
      have hP : va_P (dC, dI) vwCl (b_e cB cC cI cJ cZ oA rA u_14.2 ++ b_k cB cC cI cJ cZ oA rA u_14.2 ++ b_p cB cC cI cJ cZ oA rA u_14.2 ++ b_o cB cC cI cJ cZ oA rA u_14.2 ++ b_s cB cC cI cJ cZ oA rA u_14.2 ++ b_c cB cC cI cJ cZ oA rA u_14.2 ++ b_t cB cC cI cJ cZ oA rA u_14.2 ++ b_d cB cC cI cJ cZ oA rA u_14.2) H := hP'
      clear hP' hD'
      refine lv_aload_n hx hb dX8_fits_76 rfl (lv_at hl 0 rfl) ?_
      refine va_get (D := (dC, dI)) (ci := 8) (v := .ref (oA 4)) (C := RX8) (T := TX8) (N := 16) hx hb hts ii_X8 hown hK hP 0 rfl rfl 3 (by decide) (hts (.fieldLink RX8 85 "StoryHouse$Teller" "story" "LStoryHouse$Story;") wq_290) (fun _ h9 => h9) rfl dX8_fits_77 ?_
      refine va_get (D := (dC, dI)) (ci := 7) (v := .ref (rA 4 8)) (C := RX7) (T := TX7) (N := 19) hx hb hts ii_X7 hown hK hP 19 rfl rfl 8 (by decide) (hts (.fieldLink RX8 159 "StoryHouse$Story" "joints" "[I") wq_174) (fun _ h9 => h9) rfl dX8_fits_80 ?_
      refine lv_iload_n hx hb dX8_fits_83 rfl (lv_at hl 1 rfl) ?_
      have hPc := hP.sub (ws' := [(rA 4 8, .inl (cI, 61, .inl ((u_14.2 4).2.1 8)))]) [28] rfl
      have hDc := (hDD u_14.2).sub (ws' := [(rA 4 8, .inl (cI, 61, .inl ((u_14.2 4).2.1 8)))]) [28] (by decide +kernel) rfl
      have hFc := va_free (wc := [(rA 4 8, .inl (cI, 61, .inl ((u_14.2 4).2.1 8)))]) (hDD u_14.2) hS hA [28] rfl
      refine g_ofi (wc := [(rA 4 8, .inl (cI, 61, .inl ((u_14.2 4).2.1 8)))]) (wr := (((b_e cB cC cI cJ cZ oA rA u_14.2 ++ b_k cB cC cI cJ cZ oA rA u_14.2 ++ b_p cB cC cI cJ cZ oA rA u_14.2 ++ b_o cB cC cI cJ cZ oA rA u_14.2 ++ b_s cB cC cI cJ cZ oA rA u_14.2 ++ b_c cB cC cI cJ cZ oA rA u_14.2 ++ b_t cB cC cI cJ cZ oA rA u_14.2 ++ b_d cB cC cI cJ cZ oA rA u_14.2)).eraseIdx 28)) hP (hDD u_14.2) hS hFc [28] [0, 1, 2, 3, 4, 5, 6, 7, 8, 9, 10, 11, 12, 13, 14, 15, 16, 17, 18, 19, 20, 21, 22, 23, 24, 25, 26, 27, 29, 30, 31, 32, 33, 34, 35, 36, 37, 38, 39, 40, 41, 42, 43, 44, 45, 46, 47, 48, 49] rfl rfl (by decide +kernel) (by decide +kernel) (va_runSN (As := [.ref (rA 4 8), .int p0]) (rest := [.int u_14.1]) ⟨hx, hb, hml, hown, hts⟩ (c_X11_at l dC dI cB cC cI cJ cZ cP H.size (rA 4 8) p0 61 ((u_14.2 4).2.1 8) (by decide)) ⟨va_cnB 2 hts (g_gA wq_407) rfl rfl rfl (hN.at 31 rfl) (hts (.initialized RX11) wq_1) (by decide +kernel) ⟨Nat.le_of_ble_eq_true rfl, Nat.le_of_ble_eq_true rfl⟩, (hts (.static yX11_at) wq_406), trivial⟩ (g_preS g_bl0 hK hPc hDc hS hE hFc g_to0) rfl rfl hl.1 rfl (lv_room (Nat.le_of_ble_eq_true rfl)) dX8_fits_84 ⟨Nat.le_of_ble_eq_true rfl, Nat.le_of_ble_eq_true rfl⟩) (fun r9 u9 H locs hw9 hP' hD' hS => ?_)
      clear hPc hDc hFc hD'
      have hP : va_P (dC, dI) vwCl (b_e cB cC cI cJ cZ oA rA u_14.2 ++ b_k cB cC cI cJ cZ oA rA u_14.2 ++ b_p cB cC cI cJ cZ oA rA u_14.2 ++ b_o cB cC cI cJ cZ oA rA u_14.2 ++ b_s cB cC cI cJ cZ oA rA u_14.2 ++ b_c cB cC cI cJ cZ oA rA u_14.2 ++ b_t cB cC cI cJ cZ oA rA u_14.2 ++ b_d cB cC cI cJ cZ oA rA u_14.2) H := hP'.sub [0, 1, 2, 3, 4, 5, 6, 7, 8, 9, 10, 11, 12, 13, 14, 15, 16, 17, 18, 19, 20, 21, 22, 23, 24, 25, 26, 27, 49, 28, 29, 30, 31, 32, 33, 34, 35, 36, 37, 38, 39, 40, 41, 42, 43, 44, 45, 46, 47, 48] rfl
      clear hP'
      subst hw9
      obtain ⟨x_16, ex_16, hF_17⟩ := bnd_e hF_15
      clear hF_15
      refine m_top ex_16 ?_
      refine lv_icmp_ne (tgt := 97) hx hb dX8_fits_87 (by decide) (fun c_18 => ?_) (fun c_18 => ?_)
      · have hF_22 := ineg c_18 hF_17
        clear hF_17
        obtain ⟨x_23, ex_23, hF_24⟩ := bnd_e hF_22
        clear hF_22
        refine lv_iinc (v := x_23) (lv' := [(3, .int x_23), (0, .ref (oA 11)), (1, .int p0)]) hx hb dX8_fits_97 hl (k := 2) rfl (by rw [ex_23]; rfl) (by decide) rfl (fun ls hl => ?_)
        refine lv_goto (tgt := 61) hx hb dX8_fits_100 (by decide) ?_
        exact ih_9 (x_23, u_14.2) hF_24 _ _ hP hS ls (lv_sub hl [1, 2, 0] rfl)
      · have hF_19 := ipos c_18 hF_17
        clear hF_17
        refine lv_aload_n hx hb dX8_fits_90 rfl (lv_at hl 0 rfl) ?_
        refine lv_iload_n hx hb dX8_fits_91 rfl (lv_at hl 2 rfl) ?_
        obtain ⟨σ_20, eσ_20, hF_21⟩ := bnd_e hF_19
        clear hF_19
        refine va_put (D := (dC, dI)) (ci := 8) (v := .int s_7.1) (ty := .int) (C := RX8) (T := TX8) (N := 16) hx hb hts ii_X8 tyX8 tyX8_ok nmX8 hown hK hP (hDD _) hS 0 rfl rfl 9 (by decide) (hts (.fieldLink RX8 156 "StoryHouse$Teller" "joint" "I") wq_296) (fun _ h9 => h9) rfl (by decide +kernel) rfl rfl (Nat.le_of_ble_eq_true rfl) dX8_fits_92 (fun H locs hP' _ hS => ?_)
        have hP : va_P (dC, dI) vwCl (b_e cB cC cI cJ cZ oA rA σ_20 ++ b_k cB cC cI cJ cZ oA rA σ_20 ++ b_p cB cC cI cJ cZ oA rA σ_20 ++ b_o cB cC cI cJ cZ oA rA σ_20 ++ b_s cB cC cI cJ cZ oA rA σ_20 ++ b_c cB cC cI cJ cZ oA rA σ_20 ++ b_t cB cC cI cJ cZ oA rA σ_20 ++ b_d cB cC cI cJ cZ oA rA σ_20) H := by rw [eσ_20]; exact cs_ekposctd_e_9 ▸ hP'
        clear hP'
        refine lv_iconst (v := 1) hx hb dX8_fits_95 (by decide +kernel) ?_
        have h9 := Option.some.inj hF_21
        subst h9
        exact W.zret (v := 1) hx hb hr (by decide +kernel) (fun t ht hW => ⟨⟨1, (), rfl, rfl, m_end ht hP, hDD _⟩, hS.F ht⟩) hS.2.2 dX8_fits_96
  · have hF_25 := ineg c_5 hF_4
    clear hF_4
    refine lv_iload_n hx hb dX8_fits_25 rfl (lv_at hl 0 rfl) ?_
    refine lv_if_ne (tgt := 45) hx hb dX8_fits_26 (by decide) (fun c_26 => ?_) (fun c_26 => ?_)
    · have hF_31 := ineg c_26 hF_25
      clear hF_25
      refine lv_aload_n hx hb dX8_fits_45 rfl (lv_at hl 1 rfl) ?_
      refine va_get (D := (dC, dI)) (ci := 8) (v := .int ((σ_3 11).1 7)) (C := RX8) (T := TX8) (N := 16) hx hb hts ii_X8 hown hK hP 0 rfl rfl 7 (by decide) (hts (.fieldLink RX8 50 "StoryHouse$Teller" "termCount" "I") wq_294) (fun _ h9 => h9) rfl dX8_fits_46 ?_
      refine lv_iconst (v := 1) hx hb dX8_fits_49 (by decide +kernel) ?_
      refine lv_icmp_le (tgt := 57) hx hb dX8_fits_50 (by decide) (fun c_32 => ?_) (fun c_32 => ?_)
      · have hF_33 := ipos c_32 hF_31
        clear hF_31
        refine lv_iconst (v := 0) hx hb dX8_fits_57 (by decide +kernel) ?_
        have h9 := Option.some.inj hF_33
        subst h9
        exact W.zret (v := 0) hx hb hr (by decide +kernel) (fun t ht hW => ⟨⟨0, (), rfl, rfl, m_end ht hP, hDD _⟩, hS.F ht⟩) hS.2.2 dX8_fits_58
      · have hF_34 := ineg c_32 hF_31
        clear hF_31
        refine lv_iconst (v := 1) hx hb dX8_fits_53 (by decide +kernel) ?_
        refine lv_goto (tgt := 58) hx hb dX8_fits_54 (by decide) ?_
        have h9 := Option.some.inj hF_34
        subst h9
        exact W.zret (v := 1) hx hb hr (by decide +kernel) (fun t ht hW => ⟨⟨1, (), rfl, rfl, m_end ht hP, hDD _⟩, hS.F ht⟩) hS.2.2 dX8_fits_58
    · have hF_27 := ipos c_26 hF_25
      clear hF_25
      refine lv_aload_n hx hb dX8_fits_29 rfl (lv_at hl 1 rfl) ?_
      refine va_get (D := (dC, dI)) (ci := 8) (v := .int ((σ_3 11).1 7)) (C := RX8) (T := TX8) (N := 16) hx hb hts ii_X8 hown hK hP 0 rfl rfl 7 (by decide) (hts (.fieldLink RX8 50 "StoryHouse$Teller" "termCount" "I") wq_294) (fun _ h9 => h9) rfl dX8_fits_30 ?_
      refine lv_iconst (v := 1) hx hb dX8_fits_33 (by decide +kernel) ?_
      refine lv_icmp_ne (tgt := 41) hx hb dX8_fits_34 (by decide) (fun c_28 => ?_) (fun c_28 => ?_)
      · have hF_30 := ineg c_28 hF_27
        clear hF_27
        refine lv_iconst (v := 0) hx hb dX8_fits_41 (by decide +kernel) ?_
        refine lv_goto (tgt := 58) hx hb dX8_fits_42 (by decide) ?_
        have h9 := Option.some.inj hF_30
        subst h9
        exact W.zret (v := 0) hx hb hr (by decide +kernel) (fun t ht hW => ⟨⟨0, (), rfl, rfl, m_end ht hP, hDD _⟩, hS.F ht⟩) hS.2.2 dX8_fits_58
      · have hF_29 := ipos c_28 hF_27
        clear hF_27
        refine lv_iconst (v := 1) hx hb dX8_fits_37 (by decide +kernel) ?_
        refine lv_goto (tgt := 58) hx hb dX8_fits_38 (by decide) ?_
        have h9 := Option.some.inj hF_29
        subst h9
        exact W.zret (v := 1) hx hb hr (by decide +kernel) (fun t ht hW => ⟨⟨1, (), rfl, rfl, m_end ht hP, hDD _⟩, hS.F ht⟩) hS.2.2 dX8_fits_58
theorem dX8_findVerb_0 : decode cX8_findVerb 0 = .ok (.iconst 0, 1) := by decide +kernel
theorem dX8_findVerb_1 : decode cX8_findVerb 1 = .ok (.istore_n 1, 1) := by decide +kernel
theorem dX8_findVerb_2 : decode cX8_findVerb 2 = .ok (.aload_n 0, 1) := by decide +kernel
theorem dX8_findVerb_3 : decode cX8_findVerb 3 = .ok (.getfield 85, 3) := by decide +kernel
theorem dX8_findVerb_6 : decode cX8_findVerb 6 = .ok (.getfield 139, 3) := by decide +kernel
theorem dX8_findVerb_9 : decode cX8_findVerb 9 = .ok (.iconst 1, 1) := by decide +kernel
theorem dX8_findVerb_10 : decode cX8_findVerb 10 = .ok (.invokestatic 70, 3) := by decide +kernel
theorem dX8_findVerb_13 : decode cX8_findVerb 13 = .ok (.istore_n 2, 1) := by decide +kernel
theorem dX8_findVerb_14 : decode cX8_findVerb 14 = .ok (.iconst 1, 1) := by decide +kernel
theorem dX8_findVerb_15 : decode cX8_findVerb 15 = .ok (.istore_n 3, 1) := by decide +kernel
theorem dX8_findVerb_16 : decode cX8_findVerb 16 = .ok (.iload_n 3, 1) := by decide +kernel
theorem dX8_findVerb_17 : decode cX8_findVerb 17 = .ok (.iload_n 2, 1) := by decide +kernel
theorem dX8_findVerb_18 : decode cX8_findVerb 18 = .ok (.if_icmp .gt 51, 3) := by decide +kernel
theorem dX8_findVerb_21 : decode cX8_findVerb 21 = .ok (.iload_n 3, 1) := by decide +kernel
theorem dX8_findVerb_22 : decode cX8_findVerb 22 = .ok (.bipush 60, 2) := by decide +kernel
theorem dX8_findVerb_24 : decode cX8_findVerb 24 = .ok (.if_icmp .gt 45, 3) := by decide +kernel
theorem dX8_findVerb_27 : decode cX8_findVerb 27 = .ok (.aload_n 0, 1) := by decide +kernel
theorem dX8_findVerb_28 : decode cX8_findVerb 28 = .ok (.getfield 85, 3) := by decide +kernel
theorem dX8_findVerb_31 : decode cX8_findVerb 31 = .ok (.bipush 120, 2) := by decide +kernel
theorem dX8_findVerb_33 : decode cX8_findVerb 33 = .ok (.iload_n 3, 1) := by decide +kernel
theorem dX8_findVerb_34 : decode cX8_findVerb 34 = .ok (.iadd, 1) := by decide +kernel
theorem dX8_findVerb_35 : decode cX8_findVerb 35 = .ok (.aload_n 0, 1) := by decide +kernel
theorem dX8_findVerb_36 : decode cX8_findVerb 36 = .ok (.iconst 0, 1) := by decide +kernel
theorem dX8_findVerb_37 : decode cX8_findVerb 37 = .ok (.invokevirtual 55, 3) := by decide +kernel
theorem dX8_findVerb_40 : decode cX8_findVerb 40 = .ok (.invokevirtual 142, 3) := by decide +kernel
theorem dX8_findVerb_43 : decode cX8_findVerb 43 = .ok (.ifCond .eq 20, 3) := by decide +kernel
theorem dX8_findVerb_46 : decode cX8_findVerb 46 = .ok (.iconst 1, 1) := by decide +kernel
theorem dX8_findVerb_47 : decode cX8_findVerb 47 = .ok (.istore_n 1, 1) := by decide +kernel
theorem dX8_findVerb_48 : decode cX8_findVerb 48 = .ok (.aload_n 0, 1) := by decide +kernel
theorem dX8_findVerb_49 : decode cX8_findVerb 49 = .ok (.iload_n 3, 1) := by decide +kernel
theorem dX8_findVerb_50 : decode cX8_findVerb 50 = .ok (.invokevirtual 146, 3) := by decide +kernel
theorem dX8_findVerb_53 : decode cX8_findVerb 53 = .ok (.ifCond .eq 10, 3) := by decide +kernel
theorem dX8_findVerb_56 : decode cX8_findVerb 56 = .ok (.aload_n 0, 1) := by decide +kernel
theorem dX8_findVerb_57 : decode cX8_findVerb 57 = .ok (.iload_n 3, 1) := by decide +kernel
theorem dX8_findVerb_58 : decode cX8_findVerb 58 = .ok (.putfield 127, 3) := by decide +kernel
theorem dX8_findVerb_61 : decode cX8_findVerb 61 = .ok (.iconst 1, 1) := by decide +kernel
theorem dX8_findVerb_62 : decode cX8_findVerb 62 = .ok (.ireturn, 1) := by decide +kernel
theorem dX8_findVerb_63 : decode cX8_findVerb 63 = .ok (.iinc 3 1, 3) := by decide +kernel
theorem dX8_findVerb_66 : decode cX8_findVerb 66 = .ok (.goto (-50), 3) := by decide +kernel
theorem dX8_findVerb_69 : decode cX8_findVerb 69 = .ok (.aload_n 0, 1) := by decide +kernel
theorem dX8_findVerb_70 : decode cX8_findVerb 70 = .ok (.iload_n 1, 1) := by decide +kernel
theorem dX8_findVerb_71 : decode cX8_findVerb 71 = .ok (.ifCond .eq 8, 3) := by decide +kernel
theorem dX8_findVerb_74 : decode cX8_findVerb 74 = .ok (.ldc 149, 2) := by decide +kernel
theorem dX8_findVerb_76 : decode cX8_findVerb 76 = .ok (.goto 5, 3) := by decide +kernel
theorem dX8_findVerb_79 : decode cX8_findVerb 79 = .ok (.ldc 151, 2) := by decide +kernel
theorem dX8_findVerb_81 : decode cX8_findVerb 81 = .ok (.invokevirtual 42, 3) := by decide +kernel
theorem dX8_findVerb_84 : decode cX8_findVerb 84 = .ok (.ireturn, 1) := by decide +kernel
def F_X8_findVerb  (Γ : HS) : HR :=
  bnd ((g_at 7 ((Γ 4).2.1 0) 1)) fun (x_1 : Int32) =>
  loopF (fun (again_4 : (Int32 × Int32 × HS) → HR) (s_3 : Int32 × Int32 × HS) => (
    bnd (fun  (σ_7 : HS) => (
      if s_3.1 = 0 then (
        (F_X8_refuse ([73, 32, 100, 111, 32, 110, 111, 116, 32, 107, 110, 111, 119, 32, 104, 111, 119, 32, 116, 111, 32, 100, 111, 32, 116, 104, 97, 116, 46] : List Int32) σ_7).bind fun u_14 =>
        if ¬ (u_14.1 = 0 ∨ u_14.1 = 1) then none else
        some (u_14.1, u_14.2)
      ) else (
        (F_X8_refuse ([73, 32, 100, 105, 100, 32, 110, 111, 116, 32, 103, 101, 116, 32, 116, 104, 97, 116, 46] : List Int32) σ_7).bind fun u_20 =>
        if ¬ (u_20.1 = 0 ∨ u_20.1 = 1) then none else
        some (u_20.1, u_20.2)
      )
    ) : HS → HR) fun j_8 =>
    if x_1 < s_3.2.1 then (
      j_8  s_3.2.2
    ) else (
      if 60 < s_3.2.1 then (
        j_8  s_3.2.2
      ) else (
        (F_X8_term 0 s_3.2.2).bind fun u_30 =>
        (F_X7_owns (120 + s_3.2.1) u_30.1 u_30.2).bind fun u_32 =>
        bnd (mrg (fun j => j == 4 || j == 5 || j == 6 || j == 7) u_30.2 u_32.2) fun σ_34 =>
        bnd (fun (v1_36 : Int32) (σ_37 : HS) => (
          bnd (s_3.2.1 + 1) fun (x_41 : Int32) =>
          again_4 (v1_36, x_41, σ_37)
        ) : Int32 → HS → HR) fun j_38 =>
        if u_32.1 = 0 then (
          j_38 s_3.1 σ_34
        ) else (
          (F_X8_fits s_3.2.1 σ_34).bind fun u_46 =>
          if u_46.1 = 0 then (
            j_38 1 u_46.2
          ) else (
            bnd (cI' u_46.2 11 8 s_3.2.1) fun σ_51 =>
            some (1, σ_51)
          )
        )
      )
    )
  )) FU (0, 1, Γ)
set_option maxHeartbeats 4000000 in
set_option maxRecDepth 100000 in
theorem k_X8_findVerb (l : Launch) (dC : Nat → ClassId) (dI : Nat → Nat → Nat) (cB cC cI cJ cZ cP : ClassId) (oA : Nat → Nat) (rA : Nat → Nat → Nat) (sz : Nat)   (Γ : HS) (res : Int32 × HS) (hF : F_X8_findVerb  Γ = some res) : Met l yX8_findVerb (g_ws yX8_findVerb cX8_findVerb 4 (some .boolean)) ({ frames := 8, cells := 0, slots := 0, locals := 189 }) (va_Pc [.ref (oA 11)] (g_B (dC, dI) [(cB, .byte), (cC, .char), (cI, .int), (cJ, .long), (cZ, .boolean), (cP, .object "StoryHouse$Play")] sz (b_e cB cC cI cJ cZ oA rA Γ ++ b_k cB cC cI cJ cZ oA rA Γ ++ b_p cB cC cI cJ cZ oA rA Γ ++ b_o cB cC cI cJ cZ oA rA Γ ++ b_s cB cC cI cJ cZ oA rA Γ ++ b_c cB cC cI cJ cZ oA rA Γ ++ b_t cB cC cI cJ cZ oA rA Γ ++ b_d cB cC cI cJ cZ oA rA Γ) g_0)) (va_Qi (fun r (_ : Unit) => r = res.1) (g_Bo (dC, dI) (va_A (b_e cB cC cI cJ cZ oA rA Γ ++ b_k cB cC cI cJ cZ oA rA Γ ++ b_p cB cC cI cJ cZ oA rA Γ ++ b_o cB cC cI cJ cZ oA rA Γ ++ b_s cB cC cI cJ cZ oA rA Γ ++ b_c cB cC cI cJ cZ oA rA Γ ++ b_t cB cC cI cJ cZ oA rA Γ ++ b_d cB cC cI cJ cZ oA rA Γ) sz) (fun (_ : Unit) => (b_e cB cC cI cJ cZ oA rA res.2 ++ b_k cB cC cI cJ cZ oA rA res.2 ++ b_p cB cC cI cJ cZ oA rA res.2 ++ b_o cB cC cI cJ cZ oA rA res.2 ++ b_s cB cC cI cJ cZ oA rA res.2 ++ b_c cB cC cI cJ cZ oA rA res.2 ++ b_t cB cC cI cJ cZ oA rA res.2 ++ b_d cB cC cI cJ cZ oA rA res.2))) (va_A (b_e cB cC cI cJ cZ oA rA Γ ++ b_k cB cC cI cJ cZ oA rA Γ ++ b_p cB cC cI cJ cZ oA rA Γ ++ b_o cB cC cI cJ cZ oA rA Γ ++ b_s cB cC cI cJ cZ oA rA Γ ++ b_c cB cC cI cJ cZ oA rA Γ ++ b_t cB cC cI cJ cZ oA rA Γ ++ b_d cB cC cI cJ cZ oA rA Γ) sz)) 0 0 (va_A (b_e cB cC cI cJ cZ oA rA Γ ++ b_k cB cC cI cJ cZ oA rA Γ ++ b_p cB cC cI cJ cZ oA rA Γ ++ b_o cB cC cI cJ cZ oA rA Γ ++ b_s cB cC cI cJ cZ oA rA Γ ++ b_c cB cC cI cJ cZ oA rA Γ ++ b_t cB cC cI cJ cZ oA rA Γ ++ b_d cB cC cI cJ cZ oA rA Γ) sz) := by
  refine Met.ofW (cc := cX8_findVerb) (maxL := 4) (ret := (some .boolean)) (by decide) rfl ?_
  intro p e s m args below meth c s₁ B hml hv
  obtain ⟨rfl, hsz, hP, hK, hD0, hE, hX⟩ := hv
  have hx := B.exec
  have hb := B.bytes
  have hr := B.returns
  have hts0 := atoms_spec (ws := g_ws yX8_findVerb cX8_findVerb 4 (some .boolean)) B.pre
  have hts : ∀ w ∈ lw_good, w.before ([.ref (oA 11)] : List Value).toArray s = true := fun w z => hts0 w (List.mem_cons_of_mem _ z)
  have hown : s.vm.findClass RX8 = some m.cls := findClass_of_methodNamed B.named
  have hlocks := B.notSynchronized
  subst hsz
  have hD1 := hD0.self (sz := s.heap.size)
  generalize hAe : va_A (b_e cB cC cI cJ cZ oA rA Γ ++ b_k cB cC cI cJ cZ oA rA Γ ++ b_p cB cC cI cJ cZ oA rA Γ ++ b_o cB cC cI cJ cZ oA rA Γ ++ b_s cB cC cI cJ cZ oA rA Γ ++ b_c cB cC cI cJ cZ oA rA Γ ++ b_t cB cC cI cJ cZ oA rA Γ ++ b_d cB cC cI cJ cZ oA rA Γ) s.heap.size = A at hD1 hE hX ⊢
  have hA : ∀ q : Nat, s.heap.size ≤ q → A q := fun q z => by rw [← hAe]; exact Or.inr z
  have hDD : ∀ Γ : HS, va_D A (b_e cB cC cI cJ cZ oA rA Γ ++ b_k cB cC cI cJ cZ oA rA Γ ++ b_p cB cC cI cJ cZ oA rA Γ ++ b_o cB cC cI cJ cZ oA rA Γ ++ b_s cB cC cI cJ cZ oA rA Γ ++ b_c cB cC cI cJ cZ oA rA Γ ++ b_t cB cC cI cJ cZ oA rA Γ ++ b_d cB cC cI cJ cZ oA rA Γ) := fun Γ9 => va_D_fst (ws := (b_e cB cC cI cJ cZ oA rA Γ ++ b_k cB cC cI cJ cZ oA rA Γ ++ b_p cB cC cI cJ cZ oA rA Γ ++ b_o cB cC cI cJ cZ oA rA Γ ++ b_s cB cC cI cJ cZ oA rA Γ ++ b_c cB cC cI cJ cZ oA rA Γ ++ b_t cB cC cI cJ cZ oA rA Γ ++ b_d cB cC cI cJ cZ oA rA Γ)) (ws' := (b_e cB cC cI cJ cZ oA rA Γ9 ++ b_k cB cC cI cJ cZ oA rA Γ9 ++ b_p cB cC cI cJ cZ oA rA Γ9 ++ b_o cB cC cI cJ cZ oA rA Γ9 ++ b_s cB cC cI cJ cZ oA rA Γ9 ++ b_c cB cC cI cJ cZ oA rA Γ9 ++ b_t cB cC cI cJ cZ oA rA Γ9 ++ b_d cB cC cI cJ cZ oA rA Γ9)) rfl hD1
  have hN := hE.1
  have hS : va_S A s.heap s.heap [] := va_S.rf
  have hl := lv_entry ([.ref (oA 11)]) (n := 4) (Nat.le_of_ble_eq_true rfl)
  rw [lg_entry_eq]
  generalize (lg_sl ([.ref (oA 11)]) ++ List.replicate (4 - (lg_sl ([.ref (oA 11)])).length) Slot.unset).toArray = ls at hl ⊢
  have hl : lv_has ls 4 [(0, .ref (oA 11))] := hl
  unfold F_X8_findVerb at hF
  refine lv_iconst (v := 0) hx hb dX8_findVerb_0 (by decide +kernel) ?_
  refine lv_istore_n (lv' := [(1, .int 0), (0, .ref (oA 11))]) hx hb dX8_findVerb_1 rfl hl (by decide) rfl (fun ls hl => ?_)
  refine lv_aload_n hx hb dX8_findVerb_2 rfl (lv_at hl 1 rfl) ?_
  refine va_get (D := (dC, dI)) (ci := 8) (v := .ref (oA 4)) (C := RX8) (T := TX8) (N := 16) hx hb hts ii_X8 hown hK hP 0 rfl rfl 3 (by decide) (hts (.fieldLink RX8 85 "StoryHouse$Teller" "story" "LStoryHouse$Story;") wq_290) (fun _ h9 => h9) rfl dX8_findVerb_3 ?_
  refine va_get (D := (dC, dI)) (ci := 7) (v := .ref (rA 4 0)) (C := RX7) (T := TX7) (N := 19) hx hb hts ii_X7 hown hK hP 19 rfl rfl 0 (by decide) (hts (.fieldLink RX8 139 "StoryHouse$Story" "counts" "[I") wq_155) (fun _ h9 => h9) rfl dX8_findVerb_6 ?_
  refine lv_iconst (v := 1) hx hb dX8_findVerb_9 (by decide +kernel) ?_
  have hPc := hP.sub (ws' := [(rA 4 0, .inl (cI, 7, .inl ((Γ 4).2.1 0)))]) [20] rfl
  have hDc := (hDD Γ).sub (ws' := [(rA 4 0, .inl (cI, 7, .inl ((Γ 4).2.1 0)))]) [20] (by decide +kernel) rfl
  have hFc := va_free (wc := [(rA 4 0, .inl (cI, 7, .inl ((Γ 4).2.1 0)))]) (hDD Γ) hS hA [20] rfl
  refine g_ofi (wc := [(rA 4 0, .inl (cI, 7, .inl ((Γ 4).2.1 0)))]) (wr := (((b_e cB cC cI cJ cZ oA rA Γ ++ b_k cB cC cI cJ cZ oA rA Γ ++ b_p cB cC cI cJ cZ oA rA Γ ++ b_o cB cC cI cJ cZ oA rA Γ ++ b_s cB cC cI cJ cZ oA rA Γ ++ b_c cB cC cI cJ cZ oA rA Γ ++ b_t cB cC cI cJ cZ oA rA Γ ++ b_d cB cC cI cJ cZ oA rA Γ)).eraseIdx 20)) hP (hDD Γ) hS hFc [20] [0, 1, 2, 3, 4, 5, 6, 7, 8, 9, 10, 11, 12, 13, 14, 15, 16, 17, 18, 19, 21, 22, 23, 24, 25, 26, 27, 28, 29, 30, 31, 32, 33, 34, 35, 36, 37, 38, 39, 40, 41, 42, 43, 44, 45, 46, 47, 48, 49] rfl rfl (by decide +kernel) (by decide +kernel) (va_runSN (As := [.ref (rA 4 0), .int 1]) (rest := []) ⟨hx, hb, hml, hown, hts⟩ (c_X11_at l dC dI cB cC cI cJ cZ cP s.heap.size (rA 4 0) 1 7 ((Γ 4).2.1 0) (by decide)) ⟨va_cnB 2 hts (g_gA wq_407) rfl rfl rfl (hN.at 31 rfl) (hts (.initialized RX11) wq_1) (by decide +kernel) ⟨Nat.le_of_ble_eq_true rfl, Nat.le_of_ble_eq_true rfl⟩, (hts (.static yX11_at) wq_406), trivial⟩ (g_preS g_bl0 hK hPc hDc hS hE hFc g_to0) rfl rfl hl.1 rfl (lv_room (Nat.le_of_ble_eq_true rfl)) dX8_findVerb_10 ⟨Nat.le_of_ble_eq_true rfl, Nat.le_of_ble_eq_true rfl⟩) (fun r9 u9 H locs hw9 hP' hD' hS => ?_)
  clear hPc hDc hFc hD'
  have hP : va_P (dC, dI) vwCl (b_e cB cC cI cJ cZ oA rA Γ ++ b_k cB cC cI cJ cZ oA rA Γ ++ b_p cB cC cI cJ cZ oA rA Γ ++ b_o cB cC cI cJ cZ oA rA Γ ++ b_s cB cC cI cJ cZ oA rA Γ ++ b_c cB cC cI cJ cZ oA rA Γ ++ b_t cB cC cI cJ cZ oA rA Γ ++ b_d cB cC cI cJ cZ oA rA Γ) H := hP'.sub [0, 1, 2, 3, 4, 5, 6, 7, 8, 9, 10, 11, 12, 13, 14, 15, 16, 17, 18, 19, 49, 20, 21, 22, 23, 24, 25, 26, 27, 28, 29, 30, 31, 32, 33, 34, 35, 36, 37, 38, 39, 40, 41, 42, 43, 44, 45, 46, 47, 48] rfl
  clear hP'
  subst hw9
  obtain ⟨x_1, ex_1, hF_2⟩ := bnd_e hF
  clear hF
  refine m_top ex_1 ?_
  refine lv_istore_n (lv' := [(2, .int x_1), (1, .int 0), (0, .ref (oA 11))]) hx hb dX8_findVerb_13 rfl hl (by decide) rfl (fun ls hl => ?_)
  refine lv_iconst (v := 1) hx hb dX8_findVerb_14 (by decide +kernel) ?_
  refine lv_istore_n (lv' := [(3, .int 1), (2, .int x_1), (1, .int 0), (0, .ref (oA 11))]) hx hb dX8_findVerb_15 rfl hl (by decide) rfl (fun ls hl => ?_)
  refine loopF_ind (P := fun (s_3 : Int32 × Int32 × HS) => ∀ (H : Heap) (locs : List Loc), va_P (dC, dI) vwCl (b_e cB cC cI cJ cZ oA rA s_3.2.2 ++ b_k cB cC cI cJ cZ oA rA s_3.2.2 ++ b_p cB cC cI cJ cZ oA rA s_3.2.2 ++ b_o cB cC cI cJ cZ oA rA s_3.2.2 ++ b_s cB cC cI cJ cZ oA rA s_3.2.2 ++ b_c cB cC cI cJ cZ oA rA s_3.2.2 ++ b_t cB cC cI cJ cZ oA rA s_3.2.2 ++ b_d cB cC cI cJ cZ oA rA s_3.2.2) H → va_S A s.heap H locs → ∀ ls : Array Slot, lv_has ls 4 [(0, .ref (oA 11)), (1, .int s_3.1), (2, .int x_1), (3, .int s_3.2.1)] → W p l e (headSpec (g_ws yX8_findVerb cX8_findVerb 4 (some .boolean)) { frames := 8, cells := 0, slots := 0, locals := 189 }).room s m ([.ref (oA 11)] : List Value).toArray below meth c H locs 0 0 (MQ below (va_Qi (fun r (_ : Unit) => r = res.1) (g_Bo (dC, dI) A (fun (_ : Unit) => (b_e cB cC cI cJ cZ oA rA res.2 ++ b_k cB cC cI cJ cZ oA rA res.2 ++ b_p cB cC cI cJ cZ oA rA res.2 ++ b_o cB cC cI cJ cZ oA rA res.2 ++ b_s cB cC cI cJ cZ oA rA res.2 ++ b_c cB cC cI cJ cZ oA rA res.2 ++ b_t cB cC cI cJ cZ oA rA res.2 ++ b_d cB cC cI cJ cZ oA rA res.2))) A) ([.ref (oA 11)] : List Value).toArray s 0 0 A) (F0 m 16 ls [])) ?_ _ _ hF_2 _ _ hP hS ls (lv_sub hl [3, 2, 1, 0] rfl)
  intro again_4 s_3 ih_5 hF_6
  intro H locs hP hS ls hl
  refine lv_iload_n hx hb dX8_findVerb_16 rfl (lv_at hl 3 rfl) ?_
  refine lv_iload_n hx hb dX8_findVerb_17 rfl (lv_at hl 2 rfl) ?_
  obtain ⟨j_8, ej_8, hF_9⟩ := bnd_e hF_6
  clear hF_6
  have Jj_8 : ∀  (σ_7 : HS), j_8  σ_7 = some res → ∀ (H : Heap) (locs : List Loc), va_P (dC, dI) vwCl (b_e cB cC cI cJ cZ oA rA σ_7 ++ b_k cB cC cI cJ cZ oA rA σ_7 ++ b_p cB cC cI cJ cZ oA rA σ_7 ++ b_o cB cC cI cJ cZ oA rA σ_7 ++ b_s cB cC cI cJ cZ oA rA σ_7 ++ b_c cB cC cI cJ cZ oA rA σ_7 ++ b_t cB cC cI cJ cZ oA rA σ_7 ++ b_d cB cC cI cJ cZ oA rA σ_7) H → va_S A s.heap H locs → ∀ ls : Array Slot, lv_has ls 4 [(0, .ref (oA 11)), (1, .int s_3.1)] → W p l e (headSpec (g_ws yX8_findVerb cX8_findVerb 4 (some .boolean)) { frames := 8, cells := 0, slots := 0, locals := 189 }).room s m ([.ref (oA 11)] : List Value).toArray below meth c H locs 0 0 (MQ below (va_Qi (fun r (_ : Unit) => r = res.1) (g_Bo (dC, dI) A (fun (_ : Unit) => (b_e cB cC cI cJ cZ oA rA res.2 ++ b_k cB cC cI cJ cZ oA rA res.2 ++ b_p cB cC cI cJ cZ oA rA res.2 ++ b_o cB cC cI cJ cZ oA rA res.2 ++ b_s cB cC cI cJ cZ oA rA res.2 ++ b_c cB cC cI cJ cZ oA rA res.2 ++ b_t cB cC cI cJ cZ oA rA res.2 ++ b_d cB cC cI cJ cZ oA rA res.2))) A) ([.ref (oA 11)] : List Value).toArray s 0 0 A) (F0 m 69 ls []) := by
    intro  σ_7 hF0 H locs hP hS ls hl
    subst ej_8
    have hF_10 := hF0
    clear hF0
    refine lv_aload_n hx hb dX8_findVerb_69 rfl (lv_at hl 0 rfl) ?_
    refine lv_iload_n hx hb dX8_findVerb_70 rfl (lv_at hl 1 rfl) ?_
    refine lv_if_eq (tgt := 79) hx hb dX8_findVerb_71 (by decide) (fun c_11 => ?_) (fun c_11 => ?_)
    · have hF_12 := ipos c_11 hF_10
      clear hF_10
      obtain ⟨q_13, vq_13, hRq_13, hSq_13⟩ := hE.2.2.2.2 _ (List.mem_of_getElem? (i := 41) rfl)
      refine va_ldcS (own := RX8) (tx := "I do not know how to do that.") hx hb hown hRq_13 dX8_findVerb_79 ?_
      obtain ⟨u_14, hu_14, hF_15⟩ := Option.bind_eq_some_iff.mp hF_12
      clear hF_12
      have hPc := hP.sub (ws' := (b_e cB cC cI cJ cZ oA rA σ_7 ++ b_k cB cC cI cJ cZ oA rA σ_7 ++ b_p cB cC cI cJ cZ oA rA σ_7 ++ b_o cB cC cI cJ cZ oA rA σ_7 ++ b_s cB cC cI cJ cZ oA rA σ_7 ++ b_c cB cC cI cJ cZ oA rA σ_7 ++ b_t cB cC cI cJ cZ oA rA σ_7 ++ b_d cB cC cI cJ cZ oA rA σ_7)) [0, 1, 2, 3, 4, 5, 6, 7, 8, 9, 10, 11, 12, 13, 14, 15, 16, 17, 18, 19, 20, 21, 22, 23, 24, 25, 26, 27, 28, 29, 30, 31, 32, 33, 34, 35, 36, 37, 38, 39, 40, 41, 42, 43, 44, 45, 46, 47, 48, 49] rfl
      have hDc := (hDD σ_7).sub (ws' := (b_e cB cC cI cJ cZ oA rA σ_7 ++ b_k cB cC cI cJ cZ oA rA σ_7 ++ b_p cB cC cI cJ cZ oA rA σ_7 ++ b_o cB cC cI cJ cZ oA rA σ_7 ++ b_s cB cC cI cJ cZ oA rA σ_7 ++ b_c cB cC cI cJ cZ oA rA σ_7 ++ b_t cB cC cI cJ cZ oA rA σ_7 ++ b_d cB cC cI cJ cZ oA rA σ_7)) [0, 1, 2, 3, 4, 5, 6, 7, 8, 9, 10, 11, 12, 13, 14, 15, 16, 17, 18, 19, 20, 21, 22, 23, 24, 25, 26, 27, 28, 29, 30, 31, 32, 33, 34, 35, 36, 37, 38, 39, 40, 41, 42, 43, 44, 45, 46, 47, 48, 49] (by decide +kernel) rfl
      have hFc := va_free (wc := (b_e cB cC cI cJ cZ oA rA σ_7 ++ b_k cB cC cI cJ cZ oA rA σ_7 ++ b_p cB cC cI cJ cZ oA rA σ_7 ++ b_o cB cC cI cJ cZ oA rA σ_7 ++ b_s cB cC cI cJ cZ oA rA σ_7 ++ b_c cB cC cI cJ cZ oA rA σ_7 ++ b_t cB cC cI cJ cZ oA rA σ_7 ++ b_d cB cC cI cJ cZ oA rA σ_7)) (hDD σ_7) hS hA [0, 1, 2, 3, 4, 5, 6, 7, 8, 9, 10, 11, 12, 13, 14, 15, 16, 17, 18, 19, 20, 21, 22, 23, 24, 25, 26, 27, 28, 29, 30, 31, 32, 33, 34, 35, 36, 37, 38, 39, 40, 41, 42, 43, 44, 45, 46, 47, 48, 49] rfl
      refine g_ofi (wc := (b_e cB cC cI cJ cZ oA rA σ_7 ++ b_k cB cC cI cJ cZ oA rA σ_7 ++ b_p cB cC cI cJ cZ oA rA σ_7 ++ b_o cB cC cI cJ cZ oA rA σ_7 ++ b_s cB cC cI cJ cZ oA rA σ_7 ++ b_c cB cC cI cJ cZ oA rA σ_7 ++ b_t cB cC cI cJ cZ oA rA σ_7 ++ b_d cB cC cI cJ cZ oA rA σ_7)) (wr := ([] : va_W)) hP (hDD σ_7) hS hFc [0, 1, 2, 3, 4, 5, 6, 7, 8, 9, 10, 11, 12, 13, 14, 15, 16, 17, 18, 19, 20, 21, 22, 23, 24, 25, 26, 27, 28, 29, 30, 31, 32, 33, 34, 35, 36, 37, 38, 39, 40, 41, 42, 43, 44, 45, 46, 47, 48, 49] [] rfl rfl (by decide +kernel) (by decide +kernel) (va_runV (As := [.ref q_13]) (rest := []) ⟨hx, hb, hml, hown, hts⟩ (k_X8_refuse l dC dI cB cC cI cJ cZ cP oA rA H.size q_13 _ ([73, 32, 100, 111, 32, 110, 111, 116, 32, 107, 110, 111, 119, 32, 104, 111, 119, 32, 116, 111, 32, 100, 111, 32, 116, 104, 97, 116, 46] : List Int32) σ_7 _ hu_14) (cwV 1 hts (g_gV wq_1050 wq_1051 wq_2071 wq_12 wq_1052) rfl rfl rfl (by decide +kernel) ⟨Nat.le_of_ble_eq_true rfl, Nat.le_of_ble_eq_true rfl⟩) (g_preV g_blS hK hPc hDc hS hE hFc (g_toS hSq_13 hS hFc) (q0 := 0) (ci := 8) rfl rfl) rfl rfl hl.1 rfl (lv_room (Nat.le_of_ble_eq_true rfl)) dX8_findVerb_81 ⟨Nat.le_of_ble_eq_true rfl, Nat.le_of_ble_eq_true rfl⟩) (fun r9 u9 H locs hw9 hP' hD' hS => ?_)
      clear hPc hDc hFc
      subst hw9
      have hP : va_P (dC, dI) vwCl (b_e cB cC cI cJ cZ oA rA u_14.2 ++ b_k cB cC cI cJ cZ oA rA u_14.2 ++ b_p cB cC cI cJ cZ oA rA u_14.2 ++ b_o cB cC cI cJ cZ oA rA u_14.2 ++ b_s cB cC cI cJ cZ oA rA u_14.2 ++ b_c cB cC cI cJ cZ oA rA u_14.2 ++ b_t cB cC cI cJ cZ oA rA u_14.2 ++ b_d cB cC cI cJ cZ oA rA u_14.2) H := hP'
      clear hP' hD'
      obtain ⟨g_16, hF_17⟩ := nif_e hF_15
      clear hF_15
      have h9 := Option.some.inj hF_17
      subst h9
      exact W.zret (v := u_14.1) hx hb hr (m_bool (Classical.not_not.mp g_16)).1 (fun t ht hW => ⟨⟨u_14.1, (), rfl, rfl, m_end ht hP, hDD _⟩, hS.F ht⟩) hS.2.2 dX8_findVerb_84
    · have hF_18 := ineg c_11 hF_10
      clear hF_10
      obtain ⟨q_19, vq_19, hRq_19, hSq_19⟩ := hE.2.2.2.2 _ (List.mem_of_getElem? (i := 40) rfl)
      refine va_ldcS (own := RX8) (tx := "I did not get that.") hx hb hown hRq_19 dX8_findVerb_74 ?_
      refine lv_goto (tgt := 81) hx hb dX8_findVerb_76 (by decide) ?_
      obtain ⟨u_20, hu_20, hF_21⟩ := Option.bind_eq_some_iff.mp hF_18
      clear hF_18
      have hPc := hP.sub (ws' := (b_e cB cC cI cJ cZ oA rA σ_7 ++ b_k cB cC cI cJ cZ oA rA σ_7 ++ b_p cB cC cI cJ cZ oA rA σ_7 ++ b_o cB cC cI cJ cZ oA rA σ_7 ++ b_s cB cC cI cJ cZ oA rA σ_7 ++ b_c cB cC cI cJ cZ oA rA σ_7 ++ b_t cB cC cI cJ cZ oA rA σ_7 ++ b_d cB cC cI cJ cZ oA rA σ_7)) [0, 1, 2, 3, 4, 5, 6, 7, 8, 9, 10, 11, 12, 13, 14, 15, 16, 17, 18, 19, 20, 21, 22, 23, 24, 25, 26, 27, 28, 29, 30, 31, 32, 33, 34, 35, 36, 37, 38, 39, 40, 41, 42, 43, 44, 45, 46, 47, 48, 49] rfl
      have hDc := (hDD σ_7).sub (ws' := (b_e cB cC cI cJ cZ oA rA σ_7 ++ b_k cB cC cI cJ cZ oA rA σ_7 ++ b_p cB cC cI cJ cZ oA rA σ_7 ++ b_o cB cC cI cJ cZ oA rA σ_7 ++ b_s cB cC cI cJ cZ oA rA σ_7 ++ b_c cB cC cI cJ cZ oA rA σ_7 ++ b_t cB cC cI cJ cZ oA rA σ_7 ++ b_d cB cC cI cJ cZ oA rA σ_7)) [0, 1, 2, 3, 4, 5, 6, 7, 8, 9, 10, 11, 12, 13, 14, 15, 16, 17, 18, 19, 20, 21, 22, 23, 24, 25, 26, 27, 28, 29, 30, 31, 32, 33, 34, 35, 36, 37, 38, 39, 40, 41, 42, 43, 44, 45, 46, 47, 48, 49] (by decide +kernel) rfl
      have hFc := va_free (wc := (b_e cB cC cI cJ cZ oA rA σ_7 ++ b_k cB cC cI cJ cZ oA rA σ_7 ++ b_p cB cC cI cJ cZ oA rA σ_7 ++ b_o cB cC cI cJ cZ oA rA σ_7 ++ b_s cB cC cI cJ cZ oA rA σ_7 ++ b_c cB cC cI cJ cZ oA rA σ_7 ++ b_t cB cC cI cJ cZ oA rA σ_7 ++ b_d cB cC cI cJ cZ oA rA σ_7)) (hDD σ_7) hS hA [0, 1, 2, 3, 4, 5, 6, 7, 8, 9, 10, 11, 12, 13, 14, 15, 16, 17, 18, 19, 20, 21, 22, 23, 24, 25, 26, 27, 28, 29, 30, 31, 32, 33, 34, 35, 36, 37, 38, 39, 40, 41, 42, 43, 44, 45, 46, 47, 48, 49] rfl
      refine g_ofi (wc := (b_e cB cC cI cJ cZ oA rA σ_7 ++ b_k cB cC cI cJ cZ oA rA σ_7 ++ b_p cB cC cI cJ cZ oA rA σ_7 ++ b_o cB cC cI cJ cZ oA rA σ_7 ++ b_s cB cC cI cJ cZ oA rA σ_7 ++ b_c cB cC cI cJ cZ oA rA σ_7 ++ b_t cB cC cI cJ cZ oA rA σ_7 ++ b_d cB cC cI cJ cZ oA rA σ_7)) (wr := ([] : va_W)) hP (hDD σ_7) hS hFc [0, 1, 2, 3, 4, 5, 6, 7, 8, 9, 10, 11, 12, 13, 14, 15, 16, 17, 18, 19, 20, 21, 22, 23, 24, 25, 26, 27, 28, 29, 30, 31, 32, 33, 34, 35, 36, 37, 38, 39, 40, 41, 42, 43, 44, 45, 46, 47, 48, 49] [] rfl rfl (by decide +kernel) (by decide +kernel) (va_runV (As := [.ref q_19]) (rest := []) ⟨hx, hb, hml, hown, hts⟩ (k_X8_refuse l dC dI cB cC cI cJ cZ cP oA rA H.size q_19 _ ([73, 32, 100, 105, 100, 32, 110, 111, 116, 32, 103, 101, 116, 32, 116, 104, 97, 116, 46] : List Int32) σ_7 _ hu_20) (cwV 1 hts (g_gV wq_1050 wq_1051 wq_2071 wq_12 wq_1052) rfl rfl rfl (by decide +kernel) ⟨Nat.le_of_ble_eq_true rfl, Nat.le_of_ble_eq_true rfl⟩) (g_preV g_blS hK hPc hDc hS hE hFc (g_toS hSq_19 hS hFc) (q0 := 0) (ci := 8) rfl rfl) rfl rfl hl.1 rfl (lv_room (Nat.le_of_ble_eq_true rfl)) dX8_findVerb_81 ⟨Nat.le_of_ble_eq_true rfl, Nat.le_of_ble_eq_true rfl⟩) (fun r9 u9 H locs hw9 hP' hD' hS => ?_)
      clear hPc hDc hFc
      subst hw9
      have hP : va_P (dC, dI) vwCl (b_e cB cC cI cJ cZ oA rA u_20.2 ++ b_k cB cC cI cJ cZ oA rA u_20.2 ++ b_p cB cC cI cJ cZ oA rA u_20.2 ++ b_o cB cC cI cJ cZ oA rA u_20.2 ++ b_s cB cC cI cJ cZ oA rA u_20.2 ++ b_c cB cC cI cJ cZ oA rA u_20.2 ++ b_t cB cC cI cJ cZ oA rA u_20.2 ++ b_d cB cC cI cJ cZ oA rA u_20.2) H := hP'
      clear hP' hD'
      obtain ⟨g_22, hF_23⟩ := nif_e hF_21
      clear hF_21
      have h9 := Option.some.inj hF_23
      subst h9
      exact W.zret (v := u_20.1) hx hb hr (m_bool (Classical.not_not.mp g_22)).1 (fun t ht hW => ⟨⟨u_20.1, (), rfl, rfl, m_end ht hP, hDD _⟩, hS.F ht⟩) hS.2.2 dX8_findVerb_84
  refine lv_icmp_gt (tgt := 69) hx hb dX8_findVerb_18 (by decide) (fun c_24 => ?_) (fun c_24 => ?_)
  · have hF_25 := ipos c_24 hF_9
    clear hF_9
    exact Jj_8  s_3.2.2 hF_25 _ _ hP hS ls (lv_sub hl [0, 1] rfl)
  · have hF_26 := ineg c_24 hF_9
    clear hF_9
    refine lv_iload_n hx hb dX8_findVerb_21 rfl (lv_at hl 3 rfl) ?_
    refine lv_bipush (v := 60) hx hb dX8_findVerb_22 (by decide +kernel) ?_
    refine lv_icmp_gt (tgt := 69) hx hb dX8_findVerb_24 (by decide) (fun c_27 => ?_) (fun c_27 => ?_)
    · have hF_28 := ipos c_27 hF_26
      clear hF_26
      exact Jj_8  s_3.2.2 hF_28 _ _ hP hS ls (lv_sub hl [0, 1] rfl)
    · have hF_29 := ineg c_27 hF_26
      clear hF_26
      refine lv_aload_n hx hb dX8_findVerb_27 rfl (lv_at hl 0 rfl) ?_
      refine va_get (D := (dC, dI)) (ci := 8) (v := .ref (oA 4)) (C := RX8) (T := TX8) (N := 16) hx hb hts ii_X8 hown hK hP 0 rfl rfl 3 (by decide) (hts (.fieldLink RX8 85 "StoryHouse$Teller" "story" "LStoryHouse$Story;") wq_290) (fun _ h9 => h9) rfl dX8_findVerb_28 ?_
      refine lv_bipush (v := 120) hx hb dX8_findVerb_31 (by decide +kernel) ?_
      refine lv_iload_n hx hb dX8_findVerb_33 rfl (lv_at hl 3 rfl) ?_
      refine lv_iadd hx hb dX8_findVerb_34 ?_
      refine lv_aload_n hx hb dX8_findVerb_35 rfl (lv_at hl 0 rfl) ?_
      refine lv_iconst (v := 0) hx hb dX8_findVerb_36 (by decide +kernel) ?_
      obtain ⟨u_30, hu_30, hF_31⟩ := Option.bind_eq_some_iff.mp hF_29
      clear hF_29
      have hPc := hP.sub (ws' := (b_e cB cC cI cJ cZ oA rA s_3.2.2 ++ b_k cB cC cI cJ cZ oA rA s_3.2.2 ++ b_p cB cC cI cJ cZ oA rA s_3.2.2 ++ b_o cB cC cI cJ cZ oA rA s_3.2.2 ++ b_s cB cC cI cJ cZ oA rA s_3.2.2 ++ b_c cB cC cI cJ cZ oA rA s_3.2.2 ++ b_t cB cC cI cJ cZ oA rA s_3.2.2 ++ b_d cB cC cI cJ cZ oA rA s_3.2.2)) [0, 1, 2, 3, 4, 5, 6, 7, 8, 9, 10, 11, 12, 13, 14, 15, 16, 17, 18, 19, 20, 21, 22, 23, 24, 25, 26, 27, 28, 29, 30, 31, 32, 33, 34, 35, 36, 37, 38, 39, 40, 41, 42, 43, 44, 45, 46, 47, 48, 49] rfl
      have hDc := (hDD s_3.2.2).sub (ws' := (b_e cB cC cI cJ cZ oA rA s_3.2.2 ++ b_k cB cC cI cJ cZ oA rA s_3.2.2 ++ b_p cB cC cI cJ cZ oA rA s_3.2.2 ++ b_o cB cC cI cJ cZ oA rA s_3.2.2 ++ b_s cB cC cI cJ cZ oA rA s_3.2.2 ++ b_c cB cC cI cJ cZ oA rA s_3.2.2 ++ b_t cB cC cI cJ cZ oA rA s_3.2.2 ++ b_d cB cC cI cJ cZ oA rA s_3.2.2)) [0, 1, 2, 3, 4, 5, 6, 7, 8, 9, 10, 11, 12, 13, 14, 15, 16, 17, 18, 19, 20, 21, 22, 23, 24, 25, 26, 27, 28, 29, 30, 31, 32, 33, 34, 35, 36, 37, 38, 39, 40, 41, 42, 43, 44, 45, 46, 47, 48, 49] (by decide +kernel) rfl
      have hFc := va_free (wc := (b_e cB cC cI cJ cZ oA rA s_3.2.2 ++ b_k cB cC cI cJ cZ oA rA s_3.2.2 ++ b_p cB cC cI cJ cZ oA rA s_3.2.2 ++ b_o cB cC cI cJ cZ oA rA s_3.2.2 ++ b_s cB cC cI cJ cZ oA rA s_3.2.2 ++ b_c cB cC cI cJ cZ oA rA s_3.2.2 ++ b_t cB cC cI cJ cZ oA rA s_3.2.2 ++ b_d cB cC cI cJ cZ oA rA s_3.2.2)) (hDD s_3.2.2) hS hA [0, 1, 2, 3, 4, 5, 6, 7, 8, 9, 10, 11, 12, 13, 14, 15, 16, 17, 18, 19, 20, 21, 22, 23, 24, 25, 26, 27, 28, 29, 30, 31, 32, 33, 34, 35, 36, 37, 38, 39, 40, 41, 42, 43, 44, 45, 46, 47, 48, 49] rfl
      refine g_ofi (wc := (b_e cB cC cI cJ cZ oA rA s_3.2.2 ++ b_k cB cC cI cJ cZ oA rA s_3.2.2 ++ b_p cB cC cI cJ cZ oA rA s_3.2.2 ++ b_o cB cC cI cJ cZ oA rA s_3.2.2 ++ b_s cB cC cI cJ cZ oA rA s_3.2.2 ++ b_c cB cC cI cJ cZ oA rA s_3.2.2 ++ b_t cB cC cI cJ cZ oA rA s_3.2.2 ++ b_d cB cC cI cJ cZ oA rA s_3.2.2)) (wr := ([] : va_W)) hP (hDD s_3.2.2) hS hFc [0, 1, 2, 3, 4, 5, 6, 7, 8, 9, 10, 11, 12, 13, 14, 15, 16, 17, 18, 19, 20, 21, 22, 23, 24, 25, 26, 27, 28, 29, 30, 31, 32, 33, 34, 35, 36, 37, 38, 39, 40, 41, 42, 43, 44, 45, 46, 47, 48, 49] [] rfl rfl (by decide +kernel) (by decide +kernel) (va_runV (As := [.int 0]) (rest := [.int (120 + s_3.2.1), .ref (oA 4)]) ⟨hx, hb, hml, hown, hts⟩ (k_X8_term l dC dI cB cC cI cJ cZ cP oA rA H.size  0 s_3.2.2 _ hu_30) (cwV 1 hts (g_gV wq_1065 wq_1066 wq_2074 wq_12 wq_1067) rfl rfl rfl (by decide +kernel) ⟨Nat.le_of_ble_eq_true rfl, Nat.le_of_ble_eq_true rfl⟩) (g_preV g_bl0 hK hPc hDc hS hE hFc g_to0 (q0 := 0) (ci := 8) rfl rfl) rfl rfl hl.1 rfl (lv_room (Nat.le_of_ble_eq_true rfl)) dX8_findVerb_37 ⟨Nat.le_of_ble_eq_true rfl, Nat.le_of_ble_eq_true rfl⟩) (fun r9 u9 H locs hw9 hP' hD' hS => ?_)
      clear hPc hDc hFc
      subst hw9
      have hP : va_P (dC, dI) vwCl (b_e cB cC cI cJ cZ oA rA u_30.2 ++ b_k cB cC cI cJ cZ oA rA u_30.2 ++ b_p cB cC cI cJ cZ oA rA u_30.2 ++ b_o cB cC cI cJ cZ oA rA u_30.2 ++ b_s cB cC cI cJ cZ oA rA u_30.2 ++ b_c cB cC cI cJ cZ oA rA u_30.2 ++ b_t cB cC cI cJ cZ oA rA u_30.2 ++ b_d cB cC cI cJ cZ oA rA u_30.2) H := hP'
      clear hP' hD'
      obtain ⟨u_32, hu_32, hF_33⟩ := Option.bind_eq_some_iff.mp hF_31
      clear hF_31
      have hPc := hP.sub (ws' := (b_s cB cC cI cJ cZ oA rA u_30.2 ++ b_c cB cC cI cJ cZ oA rA u_30.2 ++ b_t cB cC cI cJ cZ oA rA u_30.2 ++ b_d cB cC cI cJ cZ oA rA u_30.2)) [19, 20, 21, 22, 23, 24, 25, 26, 27, 28, 29, 30, 31, 32, 33, 34, 35, 36, 37, 38, 39, 40, 41, 42, 43, 44, 45, 46, 47, 48, 49] rfl
      have hDc := (hDD u_30.2).sub (ws' := (b_s cB cC cI cJ cZ oA rA u_30.2 ++ b_c cB cC cI cJ cZ oA rA u_30.2 ++ b_t cB cC cI cJ cZ oA rA u_30.2 ++ b_d cB cC cI cJ cZ oA rA u_30.2)) [19, 20, 21, 22, 23, 24, 25, 26, 27, 28, 29, 30, 31, 32, 33, 34, 35, 36, 37, 38, 39, 40, 41, 42, 43, 44, 45, 46, 47, 48, 49] (by decide +kernel) rfl
      have hFc := va_free (wc := (b_s cB cC cI cJ cZ oA rA u_30.2 ++ b_c cB cC cI cJ cZ oA rA u_30.2 ++ b_t cB cC cI cJ cZ oA rA u_30.2 ++ b_d cB cC cI cJ cZ oA rA u_30.2)) (hDD u_30.2) hS hA [19, 20, 21, 22, 23, 24, 25, 26, 27, 28, 29, 30, 31, 32, 33, 34, 35, 36, 37, 38, 39, 40, 41, 42, 43, 44, 45, 46, 47, 48, 49] rfl
      refine g_ofi (wc := (b_s cB cC cI cJ cZ oA rA u_30.2 ++ b_c cB cC cI cJ cZ oA rA u_30.2 ++ b_t cB cC cI cJ cZ oA rA u_30.2 ++ b_d cB cC cI cJ cZ oA rA u_30.2)) (wr := (b_e cB cC cI cJ cZ oA rA u_30.2 ++ b_k cB cC cI cJ cZ oA rA u_30.2 ++ b_p cB cC cI cJ cZ oA rA u_30.2 ++ b_o cB cC cI cJ cZ oA rA u_30.2)) hP (hDD u_30.2) hS hFc [19, 20, 21, 22, 23, 24, 25, 26, 27, 28, 29, 30, 31, 32, 33, 34, 35, 36, 37, 38, 39, 40, 41, 42, 43, 44, 45, 46, 47, 48, 49] [0, 1, 2, 3, 4, 5, 6, 7, 8, 9, 10, 11, 12, 13, 14, 15, 16, 17, 18] rfl rfl (by decide +kernel) (by decide +kernel) (va_runV (As := [.int (120 + s_3.2.1), .int u_30.1]) (rest := []) ⟨hx, hb, hml, hown, hts⟩ (k_X7_owns l dC dI cB cC cI cJ cZ cP oA rA H.size  (120 + s_3.2.1) u_30.1 u_30.2 _ hu_32) (cwV 2 hts (g_gV wq_1078 wq_1079 wq_1080 wq_5 wq_1081) rfl rfl rfl (by decide +kernel) ⟨Nat.le_of_ble_eq_true rfl, Nat.le_of_ble_eq_true rfl⟩) (g_preV g_bl0 hK hPc hDc hS hE hFc g_to0 (q0 := 0) (ci := 7) rfl rfl) rfl rfl hl.1 rfl (lv_room (Nat.le_of_ble_eq_true rfl)) dX8_findVerb_40 ⟨Nat.le_of_ble_eq_true rfl, Nat.le_of_ble_eq_true rfl⟩) (fun r9 u9 H locs hw9 hP' hD' hS => ?_)
      clear hPc hDc hFc
      subst hw9
      obtain ⟨σ_34, eσ_34, hF_35⟩ := bnd_e hF_33
      clear hF_33
      have hP : va_P (dC, dI) vwCl (b_e cB cC cI cJ cZ oA rA σ_34 ++ b_k cB cC cI cJ cZ oA rA σ_34 ++ b_p cB cC cI cJ cZ oA rA σ_34 ++ b_o cB cC cI cJ cZ oA rA σ_34 ++ b_s cB cC cI cJ cZ oA rA σ_34 ++ b_c cB cC cI cJ cZ oA rA σ_34 ++ b_t cB cC cI cJ cZ oA rA σ_34 ++ b_d cB cC cI cJ cZ oA rA σ_34) H := by rw [eσ_34]; exact hP'.sub [0, 1, 2, 3, 4, 5, 6, 7, 8, 9, 10, 11, 12, 13, 14, 15, 16, 17, 18, 19, 20, 21, 22, 23, 24, 25, 26, 27, 28, 29, 30, 31, 32, 33, 34, 35, 36, 37, 38, 39, 40, 41, 42, 43, 44, 45, 46, 47, 48, 49] rfl
      clear hP' hD'
      obtain ⟨j_38, ej_38, hF_39⟩ := bnd_e hF_35
      clear hF_35
      have Jj_38 : ∀ (v1_36 : Int32) (σ_37 : HS), j_38 v1_36 σ_37 = some res → ∀ (H : Heap) (locs : List Loc), va_P (dC, dI) vwCl (b_e cB cC cI cJ cZ oA rA σ_37 ++ b_k cB cC cI cJ cZ oA rA σ_37 ++ b_p cB cC cI cJ cZ oA rA σ_37 ++ b_o cB cC cI cJ cZ oA rA σ_37 ++ b_s cB cC cI cJ cZ oA rA σ_37 ++ b_c cB cC cI cJ cZ oA rA σ_37 ++ b_t cB cC cI cJ cZ oA rA σ_37 ++ b_d cB cC cI cJ cZ oA rA σ_37) H → va_S A s.heap H locs → ∀ ls : Array Slot, lv_has ls 4 [(0, .ref (oA 11)), (1, .int v1_36), (2, .int x_1), (3, .int s_3.2.1)] → W p l e (headSpec (g_ws yX8_findVerb cX8_findVerb 4 (some .boolean)) { frames := 8, cells := 0, slots := 0, locals := 189 }).room s m ([.ref (oA 11)] : List Value).toArray below meth c H locs 0 0 (MQ below (va_Qi (fun r (_ : Unit) => r = res.1) (g_Bo (dC, dI) A (fun (_ : Unit) => (b_e cB cC cI cJ cZ oA rA res.2 ++ b_k cB cC cI cJ cZ oA rA res.2 ++ b_p cB cC cI cJ cZ oA rA res.2 ++ b_o cB cC cI cJ cZ oA rA res.2 ++ b_s cB cC cI cJ cZ oA rA res.2 ++ b_c cB cC cI cJ cZ oA rA res.2 ++ b_t cB cC cI cJ cZ oA rA res.2 ++ b_d cB cC cI cJ cZ oA rA res.2))) A) ([.ref (oA 11)] : List Value).toArray s 0 0 A) (F0 m 63 ls []) := by
        intro v1_36 σ_37 hF0 H locs hP hS ls hl
        subst ej_38
        have hF_40 := hF0
        clear hF0
        obtain ⟨x_41, ex_41, hF_42⟩ := bnd_e hF_40
        clear hF_40
        refine lv_iinc (v := x_41) (lv' := [(3, .int x_41), (0, .ref (oA 11)), (1, .int v1_36), (2, .int x_1)]) hx hb dX8_findVerb_63 hl (k := 3) rfl (by rw [ex_41]; rfl) (by decide) rfl (fun ls hl => ?_)
        refine lv_goto (tgt := 16) hx hb dX8_findVerb_66 (by decide) ?_
        exact ih_5 (v1_36, x_41, σ_37) hF_42 _ _ hP hS ls (lv_sub hl [1, 2, 3, 0] rfl)
      refine lv_if_eq (tgt := 63) hx hb dX8_findVerb_43 (by decide) (fun c_43 => ?_) (fun c_43 => ?_)
      · have hF_44 := ipos c_43 hF_39
        clear hF_39
        exact Jj_38 s_3.1 σ_34 hF_44 _ _ hP hS ls (lv_sub hl [0, 1, 2, 3] rfl)
      · have hF_45 := ineg c_43 hF_39
        clear hF_39
        refine lv_iconst (v := 1) hx hb dX8_findVerb_46 (by decide +kernel) ?_
        refine lv_istore_n (lv' := [(1, .int 1), (0, .ref (oA 11)), (2, .int x_1), (3, .int s_3.2.1)]) hx hb dX8_findVerb_47 rfl hl (by decide) rfl (fun ls hl => ?_)
        refine lv_aload_n hx hb dX8_findVerb_48 rfl (lv_at hl 1 rfl) ?_
        refine lv_iload_n hx hb dX8_findVerb_49 rfl (lv_at hl 3 rfl) ?_
        obtain ⟨u_46, hu_46, hF_47⟩ := Option.bind_eq_some_iff.mp hF_45
        clear hF_45
        have hPc := hP.sub (ws' := (b_e cB cC cI cJ cZ oA rA σ_34 ++ b_k cB cC cI cJ cZ oA rA σ_34 ++ b_p cB cC cI cJ cZ oA rA σ_34 ++ b_o cB cC cI cJ cZ oA rA σ_34 ++ b_s cB cC cI cJ cZ oA rA σ_34 ++ b_c cB cC cI cJ cZ oA rA σ_34 ++ b_t cB cC cI cJ cZ oA rA σ_34 ++ b_d cB cC cI cJ cZ oA rA σ_34)) [0, 1, 2, 3, 4, 5, 6, 7, 8, 9, 10, 11, 12, 13, 14, 15, 16, 17, 18, 19, 20, 21, 22, 23, 24, 25, 26, 27, 28, 29, 30, 31, 32, 33, 34, 35, 36, 37, 38, 39, 40, 41, 42, 43, 44, 45, 46, 47, 48, 49] rfl
        have hDc := (hDD σ_34).sub (ws' := (b_e cB cC cI cJ cZ oA rA σ_34 ++ b_k cB cC cI cJ cZ oA rA σ_34 ++ b_p cB cC cI cJ cZ oA rA σ_34 ++ b_o cB cC cI cJ cZ oA rA σ_34 ++ b_s cB cC cI cJ cZ oA rA σ_34 ++ b_c cB cC cI cJ cZ oA rA σ_34 ++ b_t cB cC cI cJ cZ oA rA σ_34 ++ b_d cB cC cI cJ cZ oA rA σ_34)) [0, 1, 2, 3, 4, 5, 6, 7, 8, 9, 10, 11, 12, 13, 14, 15, 16, 17, 18, 19, 20, 21, 22, 23, 24, 25, 26, 27, 28, 29, 30, 31, 32, 33, 34, 35, 36, 37, 38, 39, 40, 41, 42, 43, 44, 45, 46, 47, 48, 49] (by decide +kernel) rfl
        have hFc := va_free (wc := (b_e cB cC cI cJ cZ oA rA σ_34 ++ b_k cB cC cI cJ cZ oA rA σ_34 ++ b_p cB cC cI cJ cZ oA rA σ_34 ++ b_o cB cC cI cJ cZ oA rA σ_34 ++ b_s cB cC cI cJ cZ oA rA σ_34 ++ b_c cB cC cI cJ cZ oA rA σ_34 ++ b_t cB cC cI cJ cZ oA rA σ_34 ++ b_d cB cC cI cJ cZ oA rA σ_34)) (hDD σ_34) hS hA [0, 1, 2, 3, 4, 5, 6, 7, 8, 9, 10, 11, 12, 13, 14, 15, 16, 17, 18, 19, 20, 21, 22, 23, 24, 25, 26, 27, 28, 29, 30, 31, 32, 33, 34, 35, 36, 37, 38, 39, 40, 41, 42, 43, 44, 45, 46, 47, 48, 49] rfl
        refine g_ofi (wc := (b_e cB cC cI cJ cZ oA rA σ_34 ++ b_k cB cC cI cJ cZ oA rA σ_34 ++ b_p cB cC cI cJ cZ oA rA σ_34 ++ b_o cB cC cI cJ cZ oA rA σ_34 ++ b_s cB cC cI cJ cZ oA rA σ_34 ++ b_c cB cC cI cJ cZ oA rA σ_34 ++ b_t cB cC cI cJ cZ oA rA σ_34 ++ b_d cB cC cI cJ cZ oA rA σ_34)) (wr := ([] : va_W)) hP (hDD σ_34) hS hFc [0, 1, 2, 3, 4, 5, 6, 7, 8, 9, 10, 11, 12, 13, 14, 15, 16, 17, 18, 19, 20, 21, 22, 23, 24, 25, 26, 27, 28, 29, 30, 31, 32, 33, 34, 35, 36, 37, 38, 39, 40, 41, 42, 43, 44, 45, 46, 47, 48, 49] [] rfl rfl (by decide +kernel) (by decide +kernel) (va_runV (As := [.int s_3.2.1]) (rest := []) ⟨hx, hb, hml, hown, hts⟩ (k_X8_fits l dC dI cB cC cI cJ cZ cP oA rA H.size  s_3.2.1 σ_34 _ hu_46) (cwV 1 hts (g_gV wq_1082 wq_1083 wq_2076 wq_12 wq_1084) rfl rfl rfl (by decide +kernel) ⟨Nat.le_of_ble_eq_true rfl, Nat.le_of_ble_eq_true rfl⟩) (g_preV g_bl0 hK hPc hDc hS hE hFc g_to0 (q0 := 0) (ci := 8) rfl rfl) rfl rfl hl.1 rfl (lv_room (Nat.le_of_ble_eq_true rfl)) dX8_findVerb_50 ⟨Nat.le_of_ble_eq_true rfl, Nat.le_of_ble_eq_true rfl⟩) (fun r9 u9 H locs hw9 hP' hD' hS => ?_)
        clear hPc hDc hFc
        subst hw9
        have hP : va_P (dC, dI) vwCl (b_e cB cC cI cJ cZ oA rA u_46.2 ++ b_k cB cC cI cJ cZ oA rA u_46.2 ++ b_p cB cC cI cJ cZ oA rA u_46.2 ++ b_o cB cC cI cJ cZ oA rA u_46.2 ++ b_s cB cC cI cJ cZ oA rA u_46.2 ++ b_c cB cC cI cJ cZ oA rA u_46.2 ++ b_t cB cC cI cJ cZ oA rA u_46.2 ++ b_d cB cC cI cJ cZ oA rA u_46.2) H := hP'
        clear hP' hD'
        refine lv_if_eq (tgt := 63) hx hb dX8_findVerb_53 (by decide) (fun c_48 => ?_) (fun c_48 => ?_)
        · have hF_49 := ipos c_48 hF_47
          clear hF_47
          exact Jj_38 1 u_46.2 hF_49 _ _ hP hS ls (lv_sub hl [1, 0, 2, 3] rfl)
        · have hF_50 := ineg c_48 hF_47
          clear hF_47
          refine lv_aload_n hx hb dX8_findVerb_56 rfl (lv_at hl 1 rfl) ?_
          refine lv_iload_n hx hb dX8_findVerb_57 rfl (lv_at hl 3 rfl) ?_
          obtain ⟨σ_51, eσ_51, hF_52⟩ := bnd_e hF_50
          clear hF_50
          refine va_put (D := (dC, dI)) (ci := 8) (v := .int s_3.2.1) (ty := .int) (C := RX8) (T := TX8) (N := 16) hx hb hts ii_X8 tyX8 tyX8_ok nmX8 hown hK hP (hDD _) hS 0 rfl rfl 8 (by decide) (hts (.fieldLink RX8 127 "StoryHouse$Teller" "verb" "I") wq_295) (fun _ h9 => h9) rfl (by decide +kernel) rfl rfl (Nat.le_of_ble_eq_true rfl) dX8_findVerb_58 (fun H locs hP' _ hS => ?_)
          have hP : va_P (dC, dI) vwCl (b_e cB cC cI cJ cZ oA rA σ_51 ++ b_k cB cC cI cJ cZ oA rA σ_51 ++ b_p cB cC cI cJ cZ oA rA σ_51 ++ b_o cB cC cI cJ cZ oA rA σ_51 ++ b_s cB cC cI cJ cZ oA rA σ_51 ++ b_c cB cC cI cJ cZ oA rA σ_51 ++ b_t cB cC cI cJ cZ oA rA σ_51 ++ b_d cB cC cI cJ cZ oA rA σ_51) H := by rw [eσ_51]; exact cs_ekposctd_e_8 ▸ hP'
          clear hP'
          refine lv_iconst (v := 1) hx hb dX8_findVerb_61 (by decide +kernel) ?_
          have h9 := Option.some.inj hF_52
          subst h9
          exact W.zret (v := 1) hx hb hr (by decide +kernel) (fun t ht hW => ⟨⟨1, (), rfl, rfl, m_end ht hP, hDD _⟩, hS.F ht⟩) hS.2.2 dX8_findVerb_62
