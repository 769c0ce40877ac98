/-! methods of the class: what each does is its function -/
theorem dX8_findNouns_0 : decode cX8_findNouns 0 = .ok (.aload_n 0, 1) := by decide +kernel
theorem dX8_findNouns_1 : decode cX8_findNouns 1 = .ok (.getfield 85, 3) := by decide +kernel
theorem dX8_findNouns_4 : decode cX8_findNouns 4 = .ok (.getfield 153, 3) := by decide +kernel
theorem dX8_findNouns_7 : decode cX8_findNouns 7 = .ok (.aload_n 0, 1) := by decide +kernel
theorem dX8_findNouns_8 : decode cX8_findNouns 8 = .ok (.getfield 127, 3) := by decide +kernel
theorem dX8_findNouns_11 : decode cX8_findNouns 11 = .ok (.invokestatic 70, 3) := by decide +kernel
theorem dX8_findNouns_14 : decode cX8_findNouns 14 = .ok (.istore_n 1, 1) := by decide +kernel
theorem dX8_findNouns_15 : decode cX8_findNouns 15 = .ok (.iload_n 1, 1) := by decide +kernel
theorem dX8_findNouns_16 : decode cX8_findNouns 16 = .ok (.ifCond .ne 5, 3) := by decide +kernel
theorem dX8_findNouns_19 : decode cX8_findNouns 19 = .ok (.iconst 1, 1) := by decide +kernel
theorem dX8_findNouns_20 : decode cX8_findNouns 20 = .ok (.ireturn, 1) := by decide +kernel
theorem dX8_findNouns_21 : decode cX8_findNouns 21 = .ok (.aload_n 0, 1) := by decide +kernel
theorem dX8_findNouns_22 : decode cX8_findNouns 22 = .ok (.iconst 1, 1) := by decide +kernel
theorem dX8_findNouns_23 : decode cX8_findNouns 23 = .ok (.aload_n 0, 1) := by decide +kernel
theorem dX8_findNouns_24 : decode cX8_findNouns 24 = .ok (.getfield 156, 3) := by decide +kernel
theorem dX8_findNouns_27 : decode cX8_findNouns 27 = .ok (.invokevirtual 162, 3) := by decide +kernel
theorem dX8_findNouns_30 : decode cX8_findNouns 30 = .ok (.istore_n 2, 1) := by decide +kernel
theorem dX8_findNouns_31 : decode cX8_findNouns 31 = .ok (.aload_n 0, 1) := by decide +kernel
theorem dX8_findNouns_32 : decode cX8_findNouns 32 = .ok (.iload_n 2, 1) := by decide +kernel
theorem dX8_findNouns_33 : decode cX8_findNouns 33 = .ok (.invokevirtual 55, 3) := by decide +kernel
theorem dX8_findNouns_36 : decode cX8_findNouns 36 = .ok (.iconst 3, 1) := by decide +kernel
theorem dX8_findNouns_37 : decode cX8_findNouns 37 = .ok (.if_icmp .ne 39, 3) := by decide +kernel
theorem dX8_findNouns_40 : decode cX8_findNouns 40 = .ok (.aload_n 0, 1) := by decide +kernel
theorem dX8_findNouns_41 : decode cX8_findNouns 41 = .ok (.getfield 156, 3) := by decide +kernel
theorem dX8_findNouns_44 : decode cX8_findNouns 44 = .ok (.iload_n 2, 1) := by decide +kernel
theorem dX8_findNouns_45 : decode cX8_findNouns 45 = .ok (.isub, 1) := by decide +kernel
theorem dX8_findNouns_46 : decode cX8_findNouns 46 = .ok (.iconst 1, 1) := by decide +kernel
theorem dX8_findNouns_47 : decode cX8_findNouns 47 = .ok (.if_icmp .ne 29, 3) := by decide +kernel
theorem dX8_findNouns_50 : decode cX8_findNouns 50 = .ok (.aload_n 0, 1) := by decide +kernel
theorem dX8_findNouns_51 : decode cX8_findNouns 51 = .ok (.getfield 127, 3) := by decide +kernel
theorem dX8_findNouns_54 : decode cX8_findNouns 54 = .ok (.iconst 4, 1) := by decide +kernel
theorem dX8_findNouns_55 : decode cX8_findNouns 55 = .ok (.if_icmp .eq 11, 3) := by decide +kernel
theorem dX8_findNouns_58 : decode cX8_findNouns 58 = .ok (.aload_n 0, 1) := by decide +kernel
theorem dX8_findNouns_59 : decode cX8_findNouns 59 = .ok (.getfield 127, 3) := by decide +kernel
theorem dX8_findNouns_62 : decode cX8_findNouns 62 = .ok (.iconst 5, 1) := by decide +kernel
theorem dX8_findNouns_63 : decode cX8_findNouns 63 = .ok (.if_icmp .ne 13, 3) := by decide +kernel
theorem dX8_findNouns_66 : decode cX8_findNouns 66 = .ok (.aload_n 0, 1) := by decide +kernel
theorem dX8_findNouns_67 : decode cX8_findNouns 67 = .ok (.iconst 1, 1) := by decide +kernel
theorem dX8_findNouns_68 : decode cX8_findNouns 68 = .ok (.putfield 120, 3) := by decide +kernel
theorem dX8_findNouns_71 : decode cX8_findNouns 71 = .ok (.aload_n 0, 1) := by decide +kernel
theorem dX8_findNouns_72 : decode cX8_findNouns 72 = .ok (.invokevirtual 165, 3) := by decide +kernel
theorem dX8_findNouns_75 : decode cX8_findNouns 75 = .ok (.ireturn, 1) := by decide +kernel
theorem dX8_findNouns_76 : decode cX8_findNouns 76 = .ok (.aload_n 0, 1) := by decide +kernel
theorem dX8_findNouns_77 : decode cX8_findNouns 77 = .ok (.aload_n 0, 1) := by decide +kernel
theorem dX8_findNouns_78 : decode cX8_findNouns 78 = .ok (.iload_n 2, 1) := by decide +kernel
theorem dX8_findNouns_79 : decode cX8_findNouns 79 = .ok (.aload_n 0, 1) := by decide +kernel
theorem dX8_findNouns_80 : decode cX8_findNouns 80 = .ok (.getfield 156, 3) := by decide +kernel
theorem dX8_findNouns_83 : decode cX8_findNouns 83 = .ok (.invokevirtual 168, 3) := by decide +kernel
theorem dX8_findNouns_86 : decode cX8_findNouns 86 = .ok (.putfield 114, 3) := by decide +kernel
theorem dX8_findNouns_89 : decode cX8_findNouns 89 = .ok (.aload_n 0, 1) := by decide +kernel
theorem dX8_findNouns_90 : decode cX8_findNouns 90 = .ok (.getfield 114, 3) := by decide +kernel
theorem dX8_findNouns_93 : decode cX8_findNouns 93 = .ok (.ifCond .eq 34, 3) := by decide +kernel
theorem dX8_findNouns_96 : decode cX8_findNouns 96 = .ok (.iload_n 1, 1) := by decide +kernel
theorem dX8_findNouns_97 : decode cX8_findNouns 97 = .ok (.iconst 2, 1) := by decide +kernel
theorem dX8_findNouns_98 : decode cX8_findNouns 98 = .ok (.if_icmp .ne 29, 3) := by decide +kernel
theorem dX8_findNouns_101 : decode cX8_findNouns 101 = .ok (.aload_n 0, 1) := by decide +kernel
theorem dX8_findNouns_102 : decode cX8_findNouns 102 = .ok (.aload_n 0, 1) := by decide +kernel
theorem dX8_findNouns_103 : decode cX8_findNouns 103 = .ok (.aload_n 0, 1) := by decide +kernel
theorem dX8_findNouns_104 : decode cX8_findNouns 104 = .ok (.aload_n 0, 1) := by decide +kernel
theorem dX8_findNouns_105 : decode cX8_findNouns 105 = .ok (.getfield 156, 3) := by decide +kernel
theorem dX8_findNouns_108 : decode cX8_findNouns 108 = .ok (.iconst 1, 1) := by decide +kernel
theorem dX8_findNouns_109 : decode cX8_findNouns 109 = .ok (.iadd, 1) := by decide +kernel
theorem dX8_findNouns_110 : decode cX8_findNouns 110 = .ok (.aload_n 0, 1) := by decide +kernel
theorem dX8_findNouns_111 : decode cX8_findNouns 111 = .ok (.getfield 50, 3) := by decide +kernel
theorem dX8_findNouns_114 : decode cX8_findNouns 114 = .ok (.invokevirtual 162, 3) := by decide +kernel
theorem dX8_findNouns_117 : decode cX8_findNouns 117 = .ok (.aload_n 0, 1) := by decide +kernel
theorem dX8_findNouns_118 : decode cX8_findNouns 118 = .ok (.getfield 50, 3) := by decide +kernel
theorem dX8_findNouns_121 : decode cX8_findNouns 121 = .ok (.invokevirtual 168, 3) := by decide +kernel
theorem dX8_findNouns_124 : decode cX8_findNouns 124 = .ok (.putfield 117, 3) := by decide +kernel
theorem dX8_findNouns_127 : decode cX8_findNouns 127 = .ok (.aload_n 0, 1) := by decide +kernel
theorem dX8_findNouns_128 : decode cX8_findNouns 128 = .ok (.getfield 114, 3) := by decide +kernel
theorem dX8_findNouns_131 : decode cX8_findNouns 131 = .ok (.ifCond .eq 19, 3) := by decide +kernel
theorem dX8_findNouns_134 : decode cX8_findNouns 134 = .ok (.iload_n 1, 1) := by decide +kernel
theorem dX8_findNouns_135 : decode cX8_findNouns 135 = .ok (.iconst 1, 1) := by decide +kernel
theorem dX8_findNouns_136 : decode cX8_findNouns 136 = .ok (.if_icmp .eq 10, 3) := by decide +kernel
theorem dX8_findNouns_139 : decode cX8_findNouns 139 = .ok (.aload_n 0, 1) := by decide +kernel
theorem dX8_findNouns_140 : decode cX8_findNouns 140 = .ok (.getfield 117, 3) := by decide +kernel
theorem dX8_findNouns_143 : decode cX8_findNouns 143 = .ok (.ifCond .eq 7, 3) := by decide +kernel
theorem dX8_findNouns_146 : decode cX8_findNouns 146 = .ok (.iconst 1, 1) := by decide +kernel
theorem dX8_findNouns_147 : decode cX8_findNouns 147 = .ok (.goto 4, 3) := by decide +kernel
theorem dX8_findNouns_150 : decode cX8_findNouns 150 = .ok (.iconst 0, 1) := by decide +kernel
theorem dX8_findNouns_151 : decode cX8_findNouns 151 = .ok (.ireturn, 1) := by decide +kernel
def F_X8_findNouns  (Γ : HS) : HR :=
  bnd (((Γ 11).1 8)) fun (x_1 : Int32) =>
  bnd ((g_at 61 ((Γ 4).2.1 7) x_1)) fun (x_3 : Int32) =>
  if x_3 = 0 then (
    some (1, Γ)
  ) else (
    (F_X8_behindArticle 1 ((Γ 11).1 9) Γ).bind fun u_8 =>
    (F_X8_term u_8.1 u_8.2).bind fun u_10 =>
    bnd (fun  (σ_12 : HS) => (
      (F_X8_nounOf u_8.1 ((σ_12 11).1 9) σ_12).bind fun u_16 =>
      bnd (cI' u_16.2 11 10 u_16.1) fun σ_18 =>
      bnd (fun  (σ_20 : HS) => (
        if ((σ_20 11).1 10) = 0 then (
          some (0, σ_20)
        ) else (
          if x_3 = 1 then (
            some (1, σ_20)
          ) else (
            if ((σ_20 11).1 11) = 0 then (
              some (0, σ_20)
            ) else (
              some (1, σ_20)
            )
          )
        )
      ) : HS → HR) fun j_21 =>
      if ((σ_18 11).1 10) = 0 then (
        j_21  σ_18
      ) else (
        if x_3 = 2 then (
          (F_X8_behindArticle (((σ_18 11).1 9) + 1) ((σ_18 11).1 7) σ_18).bind fun u_38 =>
          (F_X8_nounOf u_38.1 ((u_38.2 11).1 7) u_38.2).bind fun u_40 =>
          bnd (cI' u_40.2 11 11 u_40.1) fun σ_42 =>
          j_21  σ_42
        ) else (
          j_21  σ_18
        )
      )
    ) : HS → HR) fun j_13 =>
    if u_10.1 = 3 then (
      if (((u_10.2 11).1 9) - u_8.1) = 1 then (
        bnd (fun  (σ_49 : HS) => (
          bnd (cI' σ_49 11 12 1) fun σ_53 =>
          (F_X8_chooseAll σ_53).bind fun u_55 =>
          if ¬ (u_55.1 = 0 ∨ u_55.1 = 1) then none else
          some (u_55.1, u_55.2)
        ) : HS → HR) fun j_50 =>
        if ((u_10.2 11).1 8) = 4 then (
          j_50  u_10.2
        ) else (
          if ((u_10.2 11).1 8) = 5 then (
            j_50  u_10.2
          ) else (
            j_13  u_10.2
          )
        )
      ) else (
        j_13  u_10.2
      )
    ) else (
      j_13  u_10.2
    )
  )
set_option maxHeartbeats 4000000 in
set_option maxRecDepth 100000 in
theorem k_X8_findNouns (l : Launch) (dC : Nat → ClassId) (dI : Nat → Nat → Nat) (cB cC cI cJ cZ cP : ClassId) (oA : Nat → Nat) (rA : Nat → Nat → Nat) (sz : Nat)   (Γ : HS) (res : Int32 × HS) (hF : F_X8_findNouns  Γ = some res) : Met l yX8_findNouns (g_ws yX8_findNouns cX8_findNouns 3 (some .boolean)) ({ frames := 9, cells := 0, slots := 0, locals := 212 }) (va_Pc [.ref (oA 11)] (g_B (dC, dI) [(cB, .byte), (cC, .char), (cI, .int), (cJ, .long), (cZ, .boolean), (cP, .object "StoryHouse$Play")] sz (b_e cB cC cI cJ cZ oA rA Γ ++ b_k cB cC cI cJ cZ oA rA Γ ++ b_p cB cC cI cJ cZ oA rA Γ ++ b_o cB cC cI cJ cZ oA rA Γ ++ b_s cB cC cI cJ cZ oA rA Γ ++ b_c cB cC cI cJ cZ oA rA Γ ++ b_t cB cC cI cJ cZ oA rA Γ ++ b_d cB cC cI cJ cZ oA rA Γ) g_0)) (va_Qi (fun r (_ : Unit) => r = res.1) (g_Bo (dC, dI) (va_A (b_e cB cC cI cJ cZ oA rA Γ ++ b_k cB cC cI cJ cZ oA rA Γ ++ b_p cB cC cI cJ cZ oA rA Γ ++ b_o cB cC cI cJ cZ oA rA Γ ++ b_s cB cC cI cJ cZ oA rA Γ ++ b_c cB cC cI cJ cZ oA rA Γ ++ b_t cB cC cI cJ cZ oA rA Γ ++ b_d cB cC cI cJ cZ oA rA Γ) sz) (fun (_ : Unit) => (b_e cB cC cI cJ cZ oA rA res.2 ++ b_k cB cC cI cJ cZ oA rA res.2 ++ b_p cB cC cI cJ cZ oA rA res.2 ++ b_o cB cC cI cJ cZ oA rA res.2 ++ b_s cB cC cI cJ cZ oA rA res.2 ++ b_c cB cC cI cJ cZ oA rA res.2 ++ b_t cB cC cI cJ cZ oA rA res.2 ++ b_d cB cC cI cJ cZ oA rA res.2))) (va_A (b_e cB cC cI cJ cZ oA rA Γ ++ b_k cB cC cI cJ cZ oA rA Γ ++ b_p cB cC cI cJ cZ oA rA Γ ++ b_o cB cC cI cJ cZ oA rA Γ ++ b_s cB cC cI cJ cZ oA rA Γ ++ b_c cB cC cI cJ cZ oA rA Γ ++ b_t cB cC cI cJ cZ oA rA Γ ++ b_d cB cC cI cJ cZ oA rA Γ) sz)) 0 0 (va_A (b_e cB cC cI cJ cZ oA rA Γ ++ b_k cB cC cI cJ cZ oA rA Γ ++ b_p cB cC cI cJ cZ oA rA Γ ++ b_o cB cC cI cJ cZ oA rA Γ ++ b_s cB cC cI cJ cZ oA rA Γ ++ b_c cB cC cI cJ cZ oA rA Γ ++ b_t cB cC cI cJ cZ oA rA Γ ++ b_d cB cC cI cJ cZ oA rA Γ) sz) := by
  refine Met.ofW (cc := cX8_findNouns) (maxL := 3) (ret := (some .boolean)) (by decide) rfl ?_
  intro p e s m args below meth c s₁ B hml hv
  obtain ⟨rfl, hsz, hP, hK, hD0, hE, hX⟩ := hv
  have hx := B.exec
  have hb := B.bytes
  have hr := B.returns
  have hts0 := atoms_spec (ws := g_ws yX8_findNouns cX8_findNouns 3 (some .boolean)) B.pre
  have hts : ∀ w ∈ lw_good, w.before ([.ref (oA 11)] : List Value).toArray s = true := fun w z => hts0 w (List.mem_cons_of_mem _ z)
  have hown : s.vm.findClass RX8 = some m.cls := findClass_of_methodNamed B.named
  have hlocks := B.notSynchronized
  subst hsz
  have hD1 := hD0.self (sz := s.heap.size)
  generalize hAe : va_A (b_e cB cC cI cJ cZ oA rA Γ ++ b_k cB cC cI cJ cZ oA rA Γ ++ b_p cB cC cI cJ cZ oA rA Γ ++ b_o cB cC cI cJ cZ oA rA Γ ++ b_s cB cC cI cJ cZ oA rA Γ ++ b_c cB cC cI cJ cZ oA rA Γ ++ b_t cB cC cI cJ cZ oA rA Γ ++ b_d cB cC cI cJ cZ oA rA Γ) s.heap.size = A at hD1 hE hX ⊢
  have hA : ∀ q : Nat, s.heap.size ≤ q → A q := fun q z => by rw [← hAe]; exact Or.inr z
  have hDD : ∀ Γ : HS, va_D A (b_e cB cC cI cJ cZ oA rA Γ ++ b_k cB cC cI cJ cZ oA rA Γ ++ b_p cB cC cI cJ cZ oA rA Γ ++ b_o cB cC cI cJ cZ oA rA Γ ++ b_s cB cC cI cJ cZ oA rA Γ ++ b_c cB cC cI cJ cZ oA rA Γ ++ b_t cB cC cI cJ cZ oA rA Γ ++ b_d cB cC cI cJ cZ oA rA Γ) := fun Γ9 => va_D_fst (ws := (b_e cB cC cI cJ cZ oA rA Γ ++ b_k cB cC cI cJ cZ oA rA Γ ++ b_p cB cC cI cJ cZ oA rA Γ ++ b_o cB cC cI cJ cZ oA rA Γ ++ b_s cB cC cI cJ cZ oA rA Γ ++ b_c cB cC cI cJ cZ oA rA Γ ++ b_t cB cC cI cJ cZ oA rA Γ ++ b_d cB cC cI cJ cZ oA rA Γ)) (ws' := (b_e cB cC cI cJ cZ oA rA Γ9 ++ b_k cB cC cI cJ cZ oA rA Γ9 ++ b_p cB cC cI cJ cZ oA rA Γ9 ++ b_o cB cC cI cJ cZ oA rA Γ9 ++ b_s cB cC cI cJ cZ oA rA Γ9 ++ b_c cB cC cI cJ cZ oA rA Γ9 ++ b_t cB cC cI cJ cZ oA rA Γ9 ++ b_d cB cC cI cJ cZ oA rA Γ9)) rfl hD1
  have hN := hE.1
  have hS : va_S A s.heap s.heap [] := va_S.rf
  have hl := lv_entry ([.ref (oA 11)]) (n := 3) (Nat.le_of_ble_eq_true rfl)
  rw [lg_entry_eq]
  generalize (lg_sl ([.ref (oA 11)]) ++ List.replicate (3 - (lg_sl ([.ref (oA 11)])).length) Slot.unset).toArray = ls at hl ⊢
  have hl : lv_has ls 3 [(0, .ref (oA 11))] := hl
  unfold F_X8_findNouns at hF
  refine lv_aload_n hx hb dX8_findNouns_0 rfl (lv_at hl 0 rfl) ?_
  refine va_get (D := (dC, dI)) (ci := 8) (v := .ref (oA 4)) (C := RX8) (T := TX8) (N := 16) hx hb hts ii_X8 hown hK hP 0 rfl rfl 3 (by decide) (hts (.fieldLink RX8 85 "StoryHouse$Teller" "story" "LStoryHouse$Story;") wq_290) (fun _ h9 => h9) rfl dX8_findNouns_1 ?_
  refine va_get (D := (dC, dI)) (ci := 7) (v := .ref (rA 4 7)) (C := RX7) (T := TX7) (N := 19) hx hb hts ii_X7 hown hK hP 19 rfl rfl 7 (by decide) (hts (.fieldLink RX8 153 "StoryHouse$Story" "forms" "[I") wq_172) (fun _ h9 => h9) rfl dX8_findNouns_4 ?_
  refine lv_aload_n hx hb dX8_findNouns_7 rfl (lv_at hl 0 rfl) ?_
  refine va_get (D := (dC, dI)) (ci := 8) (v := .int ((Γ 11).1 8)) (C := RX8) (T := TX8) (N := 16) hx hb hts ii_X8 hown hK hP 0 rfl rfl 8 (by decide) (hts (.fieldLink RX8 127 "StoryHouse$Teller" "verb" "I") wq_295) (fun _ h9 => h9) rfl dX8_findNouns_8 ?_
  obtain ⟨x_1, ex_1, hF_2⟩ := bnd_e hF
  clear hF
  refine m_top ex_1 ?_
  have hq9 : ((b_e cB cC cI cJ cZ oA rA Γ ++ b_k cB cC cI cJ cZ oA rA Γ ++ b_p cB cC cI cJ cZ oA rA Γ ++ b_o cB cC cI cJ cZ oA rA Γ ++ b_s cB cC cI cJ cZ oA rA Γ ++ b_c cB cC cI cJ cZ oA rA Γ ++ b_t cB cC cI cJ cZ oA rA Γ ++ b_d cB cC cI cJ cZ oA rA Γ))[27]? = some (rA 4 7, .inl (cI, 61, .inl ((Γ 4).2.1 7))) := rfl
  have hPc := hP.sub (ws' := [(rA 4 7, .inl (cI, 61, .inl ((Γ 4).2.1 7)))]) [27] (pk_fm (er_C hq9))
  have hDc := (hDD Γ).sub (ws' := [(rA 4 7, .inl (cI, 61, .inl ((Γ 4).2.1 7)))]) [27] (by decide +kernel) (er_C hq9)
  have hFc := va_free (wc := [(rA 4 7, .inl (cI, 61, .inl ((Γ 4).2.1 7)))]) (hDD Γ) hS hA [27] (er_C hq9)
  refine g_ofi (wc := [(rA 4 7, .inl (cI, 61, .inl ((Γ 4).2.1 7)))]) (wr := (((b_e cB cC cI cJ cZ oA rA Γ ++ b_k cB cC cI cJ cZ oA rA Γ ++ b_p cB cC cI cJ cZ oA rA Γ ++ b_o cB cC cI cJ cZ oA rA Γ ++ b_s cB cC cI cJ cZ oA rA Γ ++ b_c cB cC cI cJ cZ oA rA Γ ++ b_t cB cC cI cJ cZ oA rA Γ ++ b_d cB cC cI cJ cZ oA rA Γ)).eraseIdx 27)) hP (hDD Γ) hS hFc [27] ((List.range ((b_e cB cC cI cJ cZ oA rA Γ ++ b_k cB cC cI cJ cZ oA rA Γ ++ b_p cB cC cI cJ cZ oA rA Γ ++ b_o cB cC cI cJ cZ oA rA Γ ++ b_s cB cC cI cJ cZ oA rA Γ ++ b_c cB cC cI cJ cZ oA rA Γ ++ b_t cB cC cI cJ cZ oA rA Γ ++ b_d cB cC cI cJ cZ oA rA Γ)).length).eraseIdx 27) (er_C hq9) er_R er_n er_d (va_runSN (As := [.ref (rA 4 7), .int x_1]) (rest := []) ⟨hx, hb, hml, hown, hts⟩ (c_X11_at l dC dI cB cC cI cJ cZ cP s.heap.size (rA 4 7) x_1 61 ((Γ 4).2.1 7) (by decide)) ⟨va_cnB 2 hts (g_gA wq_407) rfl rfl rfl (nw_31 hN) (hts (.initialized RX11) wq_1) (by decide +kernel) ⟨Nat.le_of_ble_eq_true rfl, Nat.le_of_ble_eq_true rfl⟩, (hts (.static yX11_at) wq_406), trivial⟩ (g_preS g_bl0 hK hPc hDc hS hE hFc g_to0) rfl rfl hl.1 rfl (lv_room (Nat.le_of_ble_eq_true rfl)) dX8_findNouns_11 ⟨Nat.le_of_ble_eq_true rfl, Nat.le_of_ble_eq_true rfl⟩) (fun r9 u9 H locs hw9 hP' hD' hS => ?_)
  clear hPc hDc hFc hD'
  have hP : va_P (dC, dI) vwCl (b_e cB cC cI cJ cZ oA rA Γ ++ b_k cB cC cI cJ cZ oA rA Γ ++ b_p cB cC cI cJ cZ oA rA Γ ++ b_o cB cC cI cJ cZ oA rA Γ ++ b_s cB cC cI cJ cZ oA rA Γ ++ b_c cB cC cI cJ cZ oA rA Γ ++ b_t cB cC cI cJ cZ oA rA Γ ++ b_d cB cC cI cJ cZ oA rA Γ) H := er_I hP' hq9
  clear hP' hq9
  subst hw9
  obtain ⟨x_3, ex_3, hF_4⟩ := bnd_e hF_2
  clear hF_2
  refine m_top ex_3 ?_
  refine lv_istore_n (lv' := [(1, .int x_3), (0, .ref (oA 11))]) hx hb dX8_findNouns_14 rfl hl (by decide) rfl (fun ls hl => ?_)
  refine lv_iload_n hx hb dX8_findNouns_15 rfl (lv_at hl 0 rfl) ?_
  refine lv_if_ne (tgt := 21) hx hb dX8_findNouns_16 (by decide) (fun c_5 => ?_) (fun c_5 => ?_)
  · have hF_7 := ineg c_5 hF_4
    clear hF_4
    refine lv_aload_n hx hb dX8_findNouns_21 rfl (lv_at hl 1 rfl) ?_
    refine lv_iconst (v := 1) hx hb dX8_findNouns_22 (by decide +kernel) ?_
    refine lv_aload_n hx hb dX8_findNouns_23 rfl (lv_at hl 1 rfl) ?_
    refine va_get (D := (dC, dI)) (ci := 8) (v := .int ((Γ 11).1 9)) (C := RX8) (T := TX8) (N := 16) hx hb hts ii_X8 hown hK hP 0 rfl rfl 9 (by decide) (hts (.fieldLink RX8 156 "StoryHouse$Teller" "joint" "I") wq_296) (fun _ h9 => h9) rfl dX8_findNouns_24 ?_
    obtain ⟨u_8, hu_8, hF_9⟩ := Option.bind_eq_some_iff.mp hF_7
    clear hF_7
    have hPc := bx_P (bs := [b_e cB cC cI cJ cZ oA rA Γ, b_k cB cC cI cJ cZ oA rA Γ, b_p cB cC cI cJ cZ oA rA Γ, b_o cB cC cI cJ cZ oA rA Γ, b_s cB cC cI cJ cZ oA rA Γ, b_c cB cC cI cJ cZ oA rA Γ, b_t cB cC cI cJ cZ oA rA Γ, b_d cB cC cI cJ cZ oA rA Γ]) (bs' := [b_e cB cC cI cJ cZ oA rA Γ, b_k cB cC cI cJ cZ oA rA Γ, b_p cB cC cI cJ cZ oA rA Γ, b_o cB cC cI cJ cZ oA rA Γ, b_s cB cC cI cJ cZ oA rA Γ, b_c cB cC cI cJ cZ oA rA Γ, b_t cB cC cI cJ cZ oA rA Γ, b_d cB cC cI cJ cZ oA rA Γ]) (ws' := (b_e cB cC cI cJ cZ oA rA Γ ++ b_k cB cC cI cJ cZ oA rA Γ ++ b_p cB cC cI cJ cZ oA rA Γ ++ b_o cB cC cI cJ cZ oA rA Γ ++ b_s cB cC cI cJ cZ oA rA Γ ++ b_c cB cC cI cJ cZ oA rA Γ ++ b_t cB cC cI cJ cZ oA rA Γ ++ b_d cB cC cI cJ cZ oA rA Γ)) hP fl_8 fl_8 [0, 1, 2, 3, 4, 5, 6, 7] rfl
    have hDc := bx_D (bs := [b_e cB cC cI cJ cZ oA rA Γ, b_k cB cC cI cJ cZ oA rA Γ, b_p cB cC cI cJ cZ oA rA Γ, b_o cB cC cI cJ cZ oA rA Γ, b_s cB cC cI cJ cZ oA rA Γ, b_c cB cC cI cJ cZ oA rA Γ, b_t cB cC cI cJ cZ oA rA Γ, b_d cB cC cI cJ cZ oA rA Γ]) (bs' := [b_e cB cC cI cJ cZ oA rA Γ, b_k cB cC cI cJ cZ oA rA Γ, b_p cB cC cI cJ cZ oA rA Γ, b_o cB cC cI cJ cZ oA rA Γ, b_s cB cC cI cJ cZ oA rA Γ, b_c cB cC cI cJ cZ oA rA Γ, b_t cB cC cI cJ cZ oA rA Γ, b_d cB cC cI cJ cZ oA rA Γ]) (ws' := (b_e cB cC cI cJ cZ oA rA Γ ++ b_k cB cC cI cJ cZ oA rA Γ ++ b_p cB cC cI cJ cZ oA rA Γ ++ b_o cB cC cI cJ cZ oA rA Γ ++ b_s cB cC cI cJ cZ oA rA Γ ++ b_c cB cC cI cJ cZ oA rA Γ ++ b_t cB cC cI cJ cZ oA rA Γ ++ b_d cB cC cI cJ cZ oA rA Γ)) (hDD Γ) fl_8 fl_8 [0, 1, 2, 3, 4, 5, 6, 7] (by decide +kernel) rfl
    have hFc := bx_F (bs := [b_e cB cC cI cJ cZ oA rA Γ, b_k cB cC cI cJ cZ oA rA Γ, b_p cB cC cI cJ cZ oA rA Γ, b_o cB cC cI cJ cZ oA rA Γ, b_s cB cC cI cJ cZ oA rA Γ, b_c cB cC cI cJ cZ oA rA Γ, b_t cB cC cI cJ cZ oA rA Γ, b_d cB cC cI cJ cZ oA rA Γ]) (bs' := [b_e cB cC cI cJ cZ oA rA Γ, b_k cB cC cI cJ cZ oA rA Γ, b_p cB cC cI cJ cZ oA rA Γ, b_o cB cC cI cJ cZ oA rA Γ, b_s cB cC cI cJ cZ oA rA Γ, b_c cB cC cI cJ cZ oA rA Γ, b_t cB cC cI cJ cZ oA rA Γ, b_d cB cC cI cJ cZ oA rA Γ]) (wc := (b_e cB cC cI cJ cZ oA rA Γ ++ b_k cB cC cI cJ cZ oA rA Γ ++ b_p cB cC cI cJ cZ oA rA Γ ++ b_o cB cC cI cJ cZ oA rA Γ ++ b_s cB cC cI cJ cZ oA rA Γ ++ b_c cB cC cI cJ cZ oA rA Γ ++ b_t cB cC cI cJ cZ oA rA Γ ++ b_d cB cC cI cJ cZ oA rA Γ)) (hDD Γ) hS hA fl_8 fl_8 [0, 1, 2, 3, 4, 5, 6, 7] rfl
    refine g_ofi (wc := (b_e cB cC cI cJ cZ oA rA Γ ++ b_k cB cC cI cJ cZ oA rA Γ ++ b_p cB cC cI cJ cZ oA rA Γ ++ b_o cB cC cI cJ cZ oA rA Γ ++ b_s cB cC cI cJ cZ oA rA Γ ++ b_c cB cC cI cJ cZ oA rA Γ ++ b_t cB cC cI cJ cZ oA rA Γ ++ b_d cB cC cI cJ cZ oA rA Γ)) (wr := ([] : va_W)) hP (hDD Γ) hS hFc (bx_ix [b_e cB cC cI cJ cZ oA rA Γ, b_k cB cC cI cJ cZ oA rA Γ, b_p cB cC cI cJ cZ oA rA Γ, b_o cB cC cI cJ cZ oA rA Γ, b_s cB cC cI cJ cZ oA rA Γ, b_c cB cC cI cJ cZ oA rA Γ, b_t cB cC cI cJ cZ oA rA Γ, b_d cB cC cI cJ cZ oA rA Γ] [0, 1, 2, 3, 4, 5, 6, 7]) (bx_ix [b_e cB cC cI cJ cZ oA rA Γ, b_k cB cC cI cJ cZ oA rA Γ, b_p cB cC cI cJ cZ oA rA Γ, b_o cB cC cI cJ cZ oA rA Γ, b_s cB cC cI cJ cZ oA rA Γ, b_c cB cC cI cJ cZ oA rA Γ, b_t cB cC cI cJ cZ oA rA Γ, b_d cB cC cI cJ cZ oA rA Γ] []) (bx_C (bs := [b_e cB cC cI cJ cZ oA rA Γ, b_k cB cC cI cJ cZ oA rA Γ, b_p cB cC cI cJ cZ oA rA Γ, b_o cB cC cI cJ cZ oA rA Γ, b_s cB cC cI cJ cZ oA rA Γ, b_c cB cC cI cJ cZ oA rA Γ, b_t cB cC cI cJ cZ oA rA Γ, b_d cB cC cI cJ cZ oA rA Γ]) (bs' := [b_e cB cC cI cJ cZ oA rA Γ, b_k cB cC cI cJ cZ oA rA Γ, b_p cB cC cI cJ cZ oA rA Γ, b_o cB cC cI cJ cZ oA rA Γ, b_s cB cC cI cJ cZ oA rA Γ, b_c cB cC cI cJ cZ oA rA Γ, b_t cB cC cI cJ cZ oA rA Γ, b_d cB cC cI cJ cZ oA rA Γ]) (is := [0, 1, 2, 3, 4, 5, 6, 7]) fl_8 fl_8 rfl) (bx_C (bs := [b_e cB cC cI cJ cZ oA rA Γ, b_k cB cC cI cJ cZ oA rA Γ, b_p cB cC cI cJ cZ oA rA Γ, b_o cB cC cI cJ cZ oA rA Γ, b_s cB cC cI cJ cZ oA rA Γ, b_c cB cC cI cJ cZ oA rA Γ, b_t cB cC cI cJ cZ oA rA Γ, b_d cB cC cI cJ cZ oA rA Γ]) (bs' := []) (is := []) fl_8 fl_0 rfl) (bx_n (by decide +kernel)) (bx_d (by decide +kernel)) (va_runV (As := [.int 1, .int ((Γ 11).1 9)]) (rest := []) ⟨hx, hb, hml, hown, hts⟩ (k_X8_behindArticle l dC dI cB cC cI cJ cZ cP oA rA H.size  1 ((Γ 11).1 9) Γ _ hu_8) (cwV 2 hts (g_gV wq_1088 wq_1089 wq_2078 wq_12 wq_1090) rfl rfl rfl (by decide +kernel) ⟨Nat.le_of_ble_eq_true rfl, Nat.le_of_ble_eq_true rfl⟩) (g_preV g_bl0 hK hPc hDc hS hE hFc g_to0 (q0 := 0) (ci := 8) rfl rfl) rfl rfl hl.1 rfl (lv_room (Nat.le_of_ble_eq_true rfl)) dX8_findNouns_27 ⟨Nat.le_of_ble_eq_true rfl, Nat.le_of_ble_eq_true rfl⟩) (fun r9 u9 H locs hw9 hP' hD' hS => ?_)
    clear hPc hDc hFc
    subst hw9
    have hP : va_P (dC, dI) vwCl (b_e cB cC cI cJ cZ oA rA u_8.2 ++ b_k cB cC cI cJ cZ oA rA u_8.2 ++ b_p cB cC cI cJ cZ oA rA u_8.2 ++ b_o cB cC cI cJ cZ oA rA u_8.2 ++ b_s cB cC cI cJ cZ oA rA u_8.2 ++ b_c cB cC cI cJ cZ oA rA u_8.2 ++ b_t cB cC cI cJ cZ oA rA u_8.2 ++ b_d cB cC cI cJ cZ oA rA u_8.2) H := hP'
    clear hP' hD'
    refine lv_istore_n (lv' := [(2, .int u_8.1), (1, .int x_3), (0, .ref (oA 11))]) hx hb dX8_findNouns_30 rfl hl (by decide) rfl (fun ls hl => ?_)
    refine lv_aload_n hx hb dX8_findNouns_31 rfl (lv_at hl 2 rfl) ?_
    refine lv_iload_n hx hb dX8_findNouns_32 rfl (lv_at hl 0 rfl) ?_
    obtain ⟨u_10, hu_10, hF_11⟩ := Option.bind_eq_some_iff.mp hF_9
    clear hF_9
    have hPc := bx_P (bs := [b_e cB cC cI cJ cZ oA rA u_8.2, b_k cB cC cI cJ cZ oA rA u_8.2, b_p cB cC cI cJ cZ oA rA u_8.2, b_o cB cC cI cJ cZ oA rA u_8.2, b_s cB cC cI cJ cZ oA rA u_8.2, b_c cB cC cI cJ cZ oA rA u_8.2, b_t cB cC cI cJ cZ oA rA u_8.2, b_d cB cC cI cJ cZ oA rA u_8.2]) (bs' := [b_e cB cC cI cJ cZ oA rA u_8.2, b_k cB cC cI cJ cZ oA rA u_8.2, b_p cB cC cI cJ cZ oA rA u_8.2, b_o cB cC cI cJ cZ oA rA u_8.2, b_s cB cC cI cJ cZ oA rA u_8.2, b_c cB cC cI cJ cZ oA rA u_8.2, b_t cB cC cI cJ cZ oA rA u_8.2, b_d cB cC cI cJ cZ oA rA u_8.2]) (ws' := (b_e cB cC cI cJ cZ oA rA u_8.2 ++ b_k cB cC cI cJ cZ oA rA u_8.2 ++ b_p cB cC cI cJ cZ oA rA u_8.2 ++ b_o cB cC cI cJ cZ oA rA u_8.2 ++ b_s cB cC cI cJ cZ oA rA u_8.2 ++ b_c cB cC cI cJ cZ oA rA u_8.2 ++ b_t cB cC cI cJ cZ oA rA u_8.2 ++ b_d cB cC cI cJ cZ oA rA u_8.2)) hP fl_8 fl_8 [0, 1, 2, 3, 4, 5, 6, 7] rfl
    have hDc := bx_D (bs := [b_e cB cC cI cJ cZ oA rA u_8.2, b_k cB cC cI cJ cZ oA rA u_8.2, b_p cB cC cI cJ cZ oA rA u_8.2, b_o cB cC cI cJ cZ oA rA u_8.2, b_s cB cC cI cJ cZ oA rA u_8.2, b_c cB cC cI cJ cZ oA rA u_8.2, b_t cB cC cI cJ cZ oA rA u_8.2, b_d cB cC cI cJ cZ oA rA u_8.2]) (bs' := [b_e cB cC cI cJ cZ oA rA u_8.2, b_k cB cC cI cJ cZ oA rA u_8.2, b_p cB cC cI cJ cZ oA rA u_8.2, b_o cB cC cI cJ cZ oA rA u_8.2, b_s cB cC cI cJ cZ oA rA u_8.2, b_c cB cC cI cJ cZ oA rA u_8.2, b_t cB cC cI cJ cZ oA rA u_8.2, b_d cB cC cI cJ cZ oA rA u_8.2]) (ws' := (b_e cB cC cI cJ cZ oA rA u_8.2 ++ b_k cB cC cI cJ cZ oA rA u_8.2 ++ b_p cB cC cI cJ cZ oA rA u_8.2 ++ b_o cB cC cI cJ cZ oA rA u_8.2 ++ b_s cB cC cI cJ cZ oA rA u_8.2 ++ b_c cB cC cI cJ cZ oA rA u_8.2 ++ b_t cB cC cI cJ cZ oA rA u_8.2 ++ b_d cB cC cI cJ cZ oA rA u_8.2)) (hDD u_8.2) fl_8 fl_8 [0, 1, 2, 3, 4, 5, 6, 7] (by decide +kernel) rfl
    have hFc := bx_F (bs := [b_e cB cC cI cJ cZ oA rA u_8.2, b_k cB cC cI cJ cZ oA rA u_8.2, b_p cB cC cI cJ cZ oA rA u_8.2, b_o cB cC cI cJ cZ oA rA u_8.2, b_s cB cC cI cJ cZ oA rA u_8.2, b_c cB cC cI cJ cZ oA rA u_8.2, b_t cB cC cI cJ cZ oA rA u_8.2, b_d cB cC cI cJ cZ oA rA u_8.2]) (bs' := [b_e cB cC cI cJ cZ oA rA u_8.2, b_k cB cC cI cJ cZ oA rA u_8.2, b_p cB cC cI cJ cZ oA rA u_8.2, b_o cB cC cI cJ cZ oA rA u_8.2, b_s cB cC cI cJ cZ oA rA u_8.2, b_c cB cC cI cJ cZ oA rA u_8.2, b_t cB cC cI cJ cZ oA rA u_8.2, b_d cB cC cI cJ cZ oA rA u_8.2]) (wc := (b_e cB cC cI cJ cZ oA rA u_8.2 ++ b_k cB cC cI cJ cZ oA rA u_8.2 ++ b_p cB cC cI cJ cZ oA rA u_8.2 ++ b_o cB cC cI cJ cZ oA rA u_8.2 ++ b_s cB cC cI cJ cZ oA rA u_8.2 ++ b_c cB cC cI cJ cZ oA rA u_8.2 ++ b_t cB cC cI cJ cZ oA rA u_8.2 ++ b_d cB cC cI cJ cZ oA rA u_8.2)) (hDD u_8.2) hS hA fl_8 fl_8 [0, 1, 2, 3, 4, 5, 6, 7] rfl
    refine g_ofi (wc := (b_e cB cC cI cJ cZ oA rA u_8.2 ++ b_k cB cC cI cJ cZ oA rA u_8.2 ++ b_p cB cC cI cJ cZ oA rA u_8.2 ++ b_o cB cC cI cJ cZ oA rA u_8.2 ++ b_s cB cC cI cJ cZ oA rA u_8.2 ++ b_c cB cC cI cJ cZ oA rA u_8.2 ++ b_t cB cC cI cJ cZ oA rA u_8.2 ++ b_d cB cC cI cJ cZ oA rA u_8.2)) (wr := ([] : va_W)) hP (hDD u_8.2) hS hFc (bx_ix [b_e cB cC cI cJ cZ oA rA u_8.2, b_k cB cC cI cJ cZ oA rA u_8.2, b_p cB cC cI cJ cZ oA rA u_8.2, b_o cB cC cI cJ cZ oA rA u_8.2, b_s cB cC cI cJ cZ oA rA u_8.2, b_c cB cC cI cJ cZ oA rA u_8.2, b_t cB cC cI cJ cZ oA rA u_8.2, b_d cB cC cI cJ cZ oA rA u_8.2] [0, 1, 2, 3, 4, 5, 6, 7]) (bx_ix [b_e cB cC cI cJ cZ oA rA u_8.2, b_k cB cC cI cJ cZ oA rA u_8.2, b_p cB cC cI cJ cZ oA rA u_8.2, b_o cB cC cI cJ cZ oA rA u_8.2, b_s cB cC cI cJ cZ oA rA u_8.2, b_c cB cC cI cJ cZ oA rA u_8.2, b_t cB cC cI cJ cZ oA rA u_8.2, b_d cB cC cI cJ cZ oA rA u_8.2] []) (bx_C (bs := [b_e cB cC cI cJ cZ oA rA u_8.2, b_k cB cC cI cJ cZ oA rA u_8.2, b_p cB cC cI cJ cZ oA rA u_8.2, b_o cB cC cI cJ cZ oA rA u_8.2, b_s cB cC cI cJ cZ oA rA u_8.2, b_c cB cC cI cJ cZ oA rA u_8.2, b_t cB cC cI cJ cZ oA rA u_8.2, b_d cB cC cI cJ cZ oA rA u_8.2]) (bs' := [b_e cB cC cI cJ cZ oA rA u_8.2, b_k cB cC cI cJ cZ oA rA u_8.2, b_p cB cC cI cJ cZ oA rA u_8.2, b_o cB cC cI cJ cZ oA rA u_8.2, b_s cB cC cI cJ cZ oA rA u_8.2, b_c cB cC cI cJ cZ oA rA u_8.2, b_t cB cC cI cJ cZ oA rA u_8.2, b_d cB cC cI cJ cZ oA rA u_8.2]) (is := [0, 1, 2, 3, 4, 5, 6, 7]) fl_8 fl_8 rfl) (bx_C (bs := [b_e cB cC cI cJ cZ oA rA u_8.2, b_k cB cC cI cJ cZ oA rA u_8.2, b_p cB cC cI cJ cZ oA rA u_8.2, b_o cB cC cI cJ cZ oA rA u_8.2, b_s cB cC cI cJ cZ oA rA u_8.2, b_c cB cC cI cJ cZ oA rA u_8.2, b_t cB cC cI cJ cZ oA rA u_8.2, b_d cB cC cI cJ cZ oA rA u_8.2]) (bs' := []) (is := []) fl_8 fl_0 rfl) (bx_n (by decide +kernel)) (bx_d (by decide +kernel)) (va_runV (As := [.int u_8.1]) (rest := []) ⟨hx, hb, hml, hown, hts⟩ (k_X8_term l dC dI cB cC cI cJ cZ cP oA rA H.size  u_8.1 u_8.2 _ hu_10) (cwV 1 hts (g_gV wq_1065 wq_1066 wq_2074 wq_12 wq_1067) rfl rfl rfl (by decide +kernel) ⟨Nat.le_of_ble_eq_true rfl, Nat.le_of_ble_eq_true rfl⟩) (g_preV g_bl0 hK hPc hDc hS hE hFc g_to0 (q0 := 0) (ci := 8) rfl rfl) rfl rfl hl.1 rfl (lv_room (Nat.le_of_ble_eq_true rfl)) dX8_findNouns_33 ⟨Nat.le_of_ble_eq_true rfl, Nat.le_of_ble_eq_true rfl⟩) (fun r9 u9 H locs hw9 hP' hD' hS => ?_)
    clear hPc hDc hFc
    subst hw9
    have hP : va_P (dC, dI) vwCl (b_e cB cC cI cJ cZ oA rA u_10.2 ++ b_k cB cC cI cJ cZ oA rA u_10.2 ++ b_p cB cC cI cJ cZ oA rA u_10.2 ++ b_o cB cC cI cJ cZ oA rA u_10.2 ++ b_s cB cC cI cJ cZ oA rA u_10.2 ++ b_c cB cC cI cJ cZ oA rA u_10.2 ++ b_t cB cC cI cJ cZ oA rA u_10.2 ++ b_d cB cC cI cJ cZ oA rA u_10.2) H := hP'
    clear hP' hD'
    refine lv_iconst (v := 3) hx hb dX8_findNouns_36 (by decide +kernel) ?_
    obtain ⟨j_13, ej_13, hF_14⟩ := bnd_e hF_11
    clear hF_11
    have Jj_13 : ∀  (σ_12 : HS), j_13  σ_12 = some res → ∀ (H : Heap) (locs : List Loc), va_P (dC, dI) vwCl (b_e cB cC cI cJ cZ oA rA σ_12 ++ b_k cB cC cI cJ cZ oA rA σ_12 ++ b_p cB cC cI cJ cZ oA rA σ_12 ++ b_o cB cC cI cJ cZ oA rA σ_12 ++ b_s cB cC cI cJ cZ oA rA σ_12 ++ b_c cB cC cI cJ cZ oA rA σ_12 ++ b_t cB cC cI cJ cZ oA rA σ_12 ++ b_d cB cC cI cJ cZ oA rA σ_12) H → va_S A s.heap H locs → ∀ ls : Array Slot, lv_has ls 3 [(0, .ref (oA 11)), (1, .int x_3), (2, .int u_8.1)] → W p l e (headSpec (g_ws yX8_findNouns cX8_findNouns 3 (some .boolean)) { frames := 9, cells := 0, slots := 0, locals := 212 }).room s m ([.ref (oA 11)] : List Value).toArray below meth c H locs 0 0 (MQ below (va_Qi (fun r (_ : Unit) => r = res.1) (g_Bo (dC, dI) A (fun (_ : Unit) => (b_e cB cC cI cJ cZ oA rA res.2 ++ b_k cB cC cI cJ cZ oA rA res.2 ++ b_p cB cC cI cJ cZ oA rA res.2 ++ b_o cB cC cI cJ cZ oA rA res.2 ++ b_s cB cC cI cJ cZ oA rA res.2 ++ b_c cB cC cI cJ cZ oA rA res.2 ++ b_t cB cC cI cJ cZ oA rA res.2 ++ b_d cB cC cI cJ cZ oA rA res.2))) A) ([.ref (oA 11)] : List Value).toArray s 0 0 A) (F0 m 76 ls []) := by
      intro  σ_12 hF0 H locs hP hS ls hl
      subst ej_13
      have hF_15 := hF0
      clear hF0
      refine lv_aload_n hx hb dX8_findNouns_76 rfl (lv_at hl 0 rfl) ?_
      refine lv_aload_n hx hb dX8_findNouns_77 rfl (lv_at hl 0 rfl) ?_
      refine lv_iload_n hx hb dX8_findNouns_78 rfl (lv_at hl 2 rfl) ?_
      refine lv_aload_n hx hb dX8_findNouns_79 rfl (lv_at hl 0 rfl) ?_
      refine va_get (D := (dC, dI)) (ci := 8) (v := .int ((σ_12 11).1 9)) (C := RX8) (T := TX8) (N := 16) hx hb hts ii_X8 hown hK hP 0 rfl rfl 9 (by decide) (hts (.fieldLink RX8 156 "StoryHouse$Teller" "joint" "I") wq_296) (fun _ h9 => h9) rfl dX8_findNouns_80 ?_
      obtain ⟨u_16, hu_16, hF_17⟩ := Option.bind_eq_some_iff.mp hF_15
      clear hF_15
      have hPc := bx_P (bs := [b_e cB cC cI cJ cZ oA rA σ_12, b_k cB cC cI cJ cZ oA rA σ_12, b_p cB cC cI cJ cZ oA rA σ_12, b_o cB cC cI cJ cZ oA rA σ_12, b_s cB cC cI cJ cZ oA rA σ_12, b_c cB cC cI cJ cZ oA rA σ_12, b_t cB cC cI cJ cZ oA rA σ_12, b_d cB cC cI cJ cZ oA rA σ_12]) (bs' := [b_e cB cC cI cJ cZ oA rA σ_12, b_k cB cC cI cJ cZ oA rA σ_12, b_p cB cC cI cJ cZ oA rA σ_12, b_o cB cC cI cJ cZ oA rA σ_12, b_s cB cC cI cJ cZ oA rA σ_12, b_c cB cC cI cJ cZ oA rA σ_12, b_t cB cC cI cJ cZ oA rA σ_12, b_d cB cC cI cJ cZ oA rA σ_12]) (ws' := (b_e cB cC cI cJ cZ oA rA σ_12 ++ b_k cB cC cI cJ cZ oA rA σ_12 ++ b_p cB cC cI cJ cZ oA rA σ_12 ++ b_o cB cC cI cJ cZ oA rA σ_12 ++ b_s cB cC cI cJ cZ oA rA σ_12 ++ b_c cB cC cI cJ cZ oA rA σ_12 ++ b_t cB cC cI cJ cZ oA rA σ_12 ++ b_d cB cC cI cJ cZ oA rA σ_12)) hP fl_8 fl_8 [0, 1, 2, 3, 4, 5, 6, 7] rfl
      have hDc := bx_D (bs := [b_e cB cC cI cJ cZ oA rA σ_12, b_k cB cC cI cJ cZ oA rA σ_12, b_p cB cC cI cJ cZ oA rA σ_12, b_o cB cC cI cJ cZ oA rA σ_12, b_s cB cC cI cJ cZ oA rA σ_12, b_c cB cC cI cJ cZ oA rA σ_12, b_t cB cC cI cJ cZ oA rA σ_12, b_d cB cC cI cJ cZ oA rA σ_12]) (bs' := [b_e cB cC cI cJ cZ oA rA σ_12, b_k cB cC cI cJ cZ oA rA σ_12, b_p cB cC cI cJ cZ oA rA σ_12, b_o cB cC cI cJ cZ oA rA σ_12, b_s cB cC cI cJ cZ oA rA σ_12, b_c cB cC cI cJ cZ oA rA σ_12, b_t cB cC cI cJ cZ oA rA σ_12, b_d cB cC cI cJ cZ oA rA σ_12]) (ws' := (b_e cB cC cI cJ cZ oA rA σ_12 ++ b_k cB cC cI cJ cZ oA rA σ_12 ++ b_p cB cC cI cJ cZ oA rA σ_12 ++ b_o cB cC cI cJ cZ oA rA σ_12 ++ b_s cB cC cI cJ cZ oA rA σ_12 ++ b_c cB cC cI cJ cZ oA rA σ_12 ++ b_t cB cC cI cJ cZ oA rA σ_12 ++ b_d cB cC cI cJ cZ oA rA σ_12)) (hDD σ_12) fl_8 fl_8 [0, 1, 2, 3, 4, 5, 6, 7] (by decide +kernel) rfl
      have hFc := bx_F (bs := [b_e cB cC cI cJ cZ oA rA σ_12, b_k cB cC cI cJ cZ oA rA σ_12, b_p cB cC cI cJ cZ oA rA σ_12, b_o cB cC cI cJ cZ oA rA σ_12, b_s cB cC cI cJ cZ oA rA σ_12, b_c cB cC cI cJ cZ oA rA σ_12, b_t cB cC cI cJ cZ oA rA σ_12, b_d cB cC cI cJ cZ oA rA σ_12]) (bs' := [b_e cB cC cI cJ cZ oA rA σ_12, b_k cB cC cI cJ cZ oA rA σ_12, b_p cB cC cI cJ cZ oA rA σ_12, b_o cB cC cI cJ cZ oA rA σ_12, b_s cB cC cI cJ cZ oA rA σ_12, b_c cB cC cI cJ cZ oA rA σ_12, b_t cB cC cI cJ cZ oA rA σ_12, b_d cB cC cI cJ cZ oA rA σ_12]) (wc := (b_e cB cC cI cJ cZ oA rA σ_12 ++ b_k cB cC cI cJ cZ oA rA σ_12 ++ b_p cB cC cI cJ cZ oA rA σ_12 ++ b_o cB cC cI cJ cZ oA rA σ_12 ++ b_s cB cC cI cJ cZ oA rA σ_12 ++ b_c cB cC cI cJ cZ oA rA σ_12 ++ b_t cB cC cI cJ cZ oA rA σ_12 ++ b_d cB cC cI cJ cZ oA rA σ_12)) (hDD σ_12) hS hA fl_8 fl_8 [0, 1, 2, 3, 4, 5, 6, 7] rfl
      refine g_ofi (wc := (b_e cB cC cI cJ cZ oA rA σ_12 ++ b_k cB cC cI cJ cZ oA rA σ_12 ++ b_p cB cC cI cJ cZ oA rA σ_12 ++ b_o cB cC cI cJ cZ oA rA σ_12 ++ b_s cB cC cI cJ cZ oA rA σ_12 ++ b_c cB cC cI cJ cZ oA rA σ_12 ++ b_t cB cC cI cJ cZ oA rA σ_12 ++ b_d cB cC cI cJ cZ oA rA σ_12)) (wr := ([] : va_W)) hP (hDD σ_12) hS hFc (bx_ix [b_e cB cC cI cJ cZ oA rA σ_12, b_k cB cC cI cJ cZ oA rA σ_12, b_p cB cC cI cJ cZ oA rA σ_12, b_o cB cC cI cJ cZ oA rA σ_12, b_s cB cC cI cJ cZ oA rA σ_12, b_c cB cC cI cJ cZ oA rA σ_12, b_t cB cC cI cJ cZ oA rA σ_12, b_d cB cC cI cJ cZ oA rA σ_12] [0, 1, 2, 3, 4, 5, 6, 7]) (bx_ix [b_e cB cC cI cJ cZ oA rA σ_12, b_k cB cC cI cJ cZ oA rA σ_12, b_p cB cC cI cJ cZ oA rA σ_12, b_o cB cC cI cJ cZ oA rA σ_12, b_s cB cC cI cJ cZ oA rA σ_12, b_c cB cC cI cJ cZ oA rA σ_12, b_t cB cC cI cJ cZ oA rA σ_12, b_d cB cC cI cJ cZ oA rA σ_12] []) (bx_C (bs := [b_e cB cC cI cJ cZ oA rA σ_12, b_k cB cC cI cJ cZ oA rA σ_12, b_p cB cC cI cJ cZ oA rA σ_12, b_o cB cC cI cJ cZ oA rA σ_12, b_s cB cC cI cJ cZ oA rA σ_12, b_c cB cC cI cJ cZ oA rA σ_12, b_t cB cC cI cJ cZ oA rA σ_12, b_d cB cC cI cJ cZ oA rA σ_12]) (bs' := [b_e cB cC cI cJ cZ oA rA σ_12, b_k cB cC cI cJ cZ oA rA σ_12, b_p cB cC cI cJ cZ oA rA σ_12, b_o cB cC cI cJ cZ oA rA σ_12, b_s cB cC cI cJ cZ oA rA σ_12, b_c cB cC cI cJ cZ oA rA σ_12, b_t cB cC cI cJ cZ oA rA σ_12, b_d cB cC cI cJ cZ oA rA σ_12]) (is := [0, 1, 2, 3, 4, 5, 6, 7]) fl_8 fl_8 rfl) (bx_C (bs := [b_e cB cC cI cJ cZ oA rA σ_12, b_k cB cC cI cJ cZ oA rA σ_12, b_p cB cC cI cJ cZ oA rA σ_12, b_o cB cC cI cJ cZ oA rA σ_12, b_s cB cC cI cJ cZ oA rA σ_12, b_c cB cC cI cJ cZ oA rA σ_12, b_t cB cC cI cJ cZ oA rA σ_12, b_d cB cC cI cJ cZ oA rA σ_12]) (bs' := []) (is := []) fl_8 fl_0 rfl) (bx_n (by decide +kernel)) (bx_d (by decide +kernel)) (va_runV (As := [.int u_8.1, .int ((σ_12 11).1 9)]) (rest := [.ref (oA 11)]) ⟨hx, hb, hml, hown, hts⟩ (k_X8_nounOf l dC dI cB cC cI cJ cZ cP oA rA H.size  u_8.1 ((σ_12 11).1 9) σ_12 _ hu_16) (cwV 2 hts (g_gV wq_1094 wq_1095 wq_2080 wq_12 wq_1096) rfl rfl rfl (by decide +kernel) ⟨Nat.le_of_ble_eq_true rfl, Nat.le_of_ble_eq_true rfl⟩) (g_preV g_bl0 hK hPc hDc hS hE hFc g_to0 (q0 := 0) (ci := 8) rfl rfl) rfl rfl hl.1 rfl (lv_room (Nat.le_of_ble_eq_true rfl)) dX8_findNouns_83 ⟨Nat.le_of_ble_eq_true rfl, Nat.le_of_ble_eq_true rfl⟩) (fun r9 u9 H locs hw9 hP' hD' hS => ?_)
      clear hPc hDc hFc
      subst hw9
      have hP : va_P (dC, dI) vwCl (b_e cB cC cI cJ cZ oA rA u_16.2 ++ b_k cB cC cI cJ cZ oA rA u_16.2 ++ b_p cB cC cI cJ cZ oA rA u_16.2 ++ b_o cB cC cI cJ cZ oA rA u_16.2 ++ b_s cB cC cI cJ cZ oA rA u_16.2 ++ b_c cB cC cI cJ cZ oA rA u_16.2 ++ b_t cB cC cI cJ cZ oA rA u_16.2 ++ b_d cB cC cI cJ cZ oA rA u_16.2) H := hP'
      clear hP' hD'
      obtain ⟨σ_18, eσ_18, hF_19⟩ := bnd_e hF_17
      clear hF_17
      refine va_put (D := (dC, dI)) (ci := 8) (v := .int u_16.1) (ty := .int) (C := RX8) (T := TX8) (N := 16) hx hb hts ii_X8 tyX8 tyX8_ok nmX8 hown hK hP (hDD _) hS 0 rfl rfl 10 (by decide) (hts (.fieldLink RX8 114 "StoryHouse$Teller" "noun" "I") wq_297) (fun _ h9 => h9) rfl (by decide +kernel) rfl rfl (Nat.le_of_ble_eq_true rfl) dX8_findNouns_86 (fun H locs hP' _ hS => ?_)
      have hP : va_P (dC, dI) vwCl (b_e cB cC cI cJ cZ oA rA σ_18 ++ b_k cB cC cI cJ cZ oA rA σ_18 ++ b_p cB cC cI cJ cZ oA rA σ_18 ++ b_o cB cC cI cJ cZ oA rA σ_18 ++ b_s cB cC cI cJ cZ oA rA σ_18 ++ b_c cB cC cI cJ cZ oA rA σ_18 ++ b_t cB cC cI cJ cZ oA rA σ_18 ++ b_d cB cC cI cJ cZ oA rA σ_18) H := by rw [eσ_18]; exact cs_ekposctd_e_10 ▸ hP'
      clear hP'
      refine lv_aload_n hx hb dX8_findNouns_89 rfl (lv_at hl 0 rfl) ?_
      refine va_get (D := (dC, dI)) (ci := 8) (v := .int ((σ_18 11).1 10)) (C := RX8) (T := TX8) (N := 16) hx hb hts ii_X8 hown hK hP 0 rfl rfl 10 (by decide) (hts (.fieldLink RX8 114 "StoryHouse$Teller" "noun" "I") wq_297) (fun _ h9 => h9) rfl dX8_findNouns_90 ?_
      obtain ⟨j_21, ej_21, hF_22⟩ := bnd_e hF_19
      clear hF_19
      have Jj_21 : ∀  (σ_20 : HS), j_21  σ_20 = some res → ∀ (H : Heap) (locs : List Loc), va_P (dC, dI) vwCl (b_e cB cC cI cJ cZ oA rA σ_20 ++ b_k cB cC cI cJ cZ oA rA σ_20 ++ b_p cB cC cI cJ cZ oA rA σ_20 ++ b_o cB cC cI cJ cZ oA rA σ_20 ++ b_s cB cC cI cJ cZ oA rA σ_20 ++ b_c cB cC cI cJ cZ oA rA σ_20 ++ b_t cB cC cI cJ cZ oA rA σ_20 ++ b_d cB cC cI cJ cZ oA rA σ_20) H → va_S A s.heap H locs → ∀ ls : Array Slot, lv_has ls 3 [(0, .ref (oA 11)), (1, .int x_3)] → W p l e (headSpec (g_ws yX8_findNouns cX8_findNouns 3 (some .boolean)) { frames := 9, cells := 0, slots := 0, locals := 212 }).room s m ([.ref (oA 11)] : List Value).toArray below meth c H locs 0 0 (MQ below (va_Qi (fun r (_ : Unit) => r = res.1) (g_Bo (dC, dI) A (fun (_ : Unit) => (b_e cB cC cI cJ cZ oA rA res.2 ++ b_k cB cC cI cJ cZ oA rA res.2 ++ b_p cB cC cI cJ cZ oA rA res.2 ++ b_o cB cC cI cJ cZ oA rA res.2 ++ b_s cB cC cI cJ cZ oA rA res.2 ++ b_c cB cC cI cJ cZ oA rA res.2 ++ b_t cB cC cI cJ cZ oA rA res.2 ++ b_d cB cC cI cJ cZ oA rA res.2))) A) ([.ref (oA 11)] : List Value).toArray s 0 0 A) (F0 m 127 ls []) := by
        intro  σ_20 hF0 H locs hP hS ls hl
        subst ej_21
        have hF_23 := hF0
        clear hF0
        refine lv_aload_n hx hb dX8_findNouns_127 rfl (lv_at hl 0 rfl) ?_
        refine va_get (D := (dC, dI)) (ci := 8) (v := .int ((σ_20 11).1 10)) (C := RX8) (T := TX8) (N := 16) hx hb hts ii_X8 hown hK hP 0 rfl rfl 10 (by decide) (hts (.fieldLink RX8 114 "StoryHouse$Teller" "noun" "I") wq_297) (fun _ h9 => h9) rfl dX8_findNouns_128 ?_
        refine lv_if_eq (tgt := 150) hx hb dX8_findNouns_131 (by decide) (fun c_24 => ?_) (fun c_24 => ?_)
        · have hF_25 := ipos c_24 hF_23
          clear hF_23
          refine lv_iconst (v := 0) hx hb dX8_findNouns_150 (by decide +kernel) ?_
          have h9 := Option.some.inj hF_25
          subst h9
          exact W.zret (v := 0) hx hb hr (by decide +kernel) (fun t ht hW => ⟨⟨0, (), rfl, rfl, m_end ht hP, hDD _⟩, hS.F ht⟩) hS.2.2 dX8_findNouns_151
        · have hF_26 := ineg c_24 hF_23
          clear hF_23
          refine lv_iload_n hx hb dX8_findNouns_134 rfl (lv_at hl 1 rfl) ?_
          refine lv_iconst (v := 1) hx hb dX8_findNouns_135 (by decide +kernel) ?_
          refine lv_icmp_eq (tgt := 146) hx hb dX8_findNouns_136 (by decide) (fun c_27 => ?_) (fun c_27 => ?_)
          · have hF_28 := ipos c_27 hF_26
            clear hF_26
            refine lv_iconst (v := 1) hx hb dX8_findNouns_146 (by decide +kernel) ?_
            refine lv_goto (tgt := 151) hx hb dX8_findNouns_147 (by decide) ?_
            have h9 := Option.some.inj hF_28
            subst h9
            exact W.zret (v := 1) hx hb hr (by decide +kernel) (fun t ht hW => ⟨⟨1, (), rfl, rfl, m_end ht hP, hDD _⟩, hS.F ht⟩) hS.2.2 dX8_findNouns_151
          · have hF_29 := ineg c_27 hF_26
            clear hF_26
            refine lv_aload_n hx hb dX8_findNouns_139 rfl (lv_at hl 0 rfl) ?_
            refine va_get (D := (dC, dI)) (ci := 8) (v := .int ((σ_20 11).1 11)) (C := RX8) (T := TX8) (N := 16) hx hb hts ii_X8 hown hK hP 0 rfl rfl 11 (by decide) (hts (.fieldLink RX8 117 "StoryHouse$Teller" "second" "I") wq_298) (fun _ h9 => h9) rfl dX8_findNouns_140 ?_
            refine lv_if_eq (tgt := 150) hx hb dX8_findNouns_143 (by decide) (fun c_30 => ?_) (fun c_30 => ?_)
            · have hF_31 := ipos c_30 hF_29
              clear hF_29
              refine lv_iconst (v := 0) hx hb dX8_findNouns_150 (by decide +kernel) ?_
              have h9 := Option.some.inj hF_31
              subst h9
              exact W.zret (v := 0) hx hb hr (by decide +kernel) (fun t ht hW => ⟨⟨0, (), rfl, rfl, m_end ht hP, hDD _⟩, hS.F ht⟩) hS.2.2 dX8_findNouns_151
            · have hF_32 := ineg c_30 hF_29
              clear hF_29
              refine lv_iconst (v := 1) hx hb dX8_findNouns_146 (by decide +kernel) ?_
              refine lv_goto (tgt := 151) hx hb dX8_findNouns_147 (by decide) ?_
              have h9 := Option.some.inj hF_32
              subst h9
              exact W.zret (v := 1) hx hb hr (by decide +kernel) (fun t ht hW => ⟨⟨1, (), rfl, rfl, m_end ht hP, hDD _⟩, hS.F ht⟩) hS.2.2 dX8_findNouns_151
      refine lv_if_eq (tgt := 127) hx hb dX8_findNouns_93 (by decide) (fun c_33 => ?_) (fun c_33 => ?_)
      · have hF_34 := ipos c_33 hF_22
        clear hF_22
        exact Jj_21  σ_18 hF_34 _ _ hP hS ls (lv_sub hl [0, 1] rfl)
      · have hF_35 := ineg c_33 hF_22
        clear hF_22
        refine lv_iload_n hx hb dX8_findNouns_96 rfl (lv_at hl 1 rfl) ?_
        refine lv_iconst (v := 2) hx hb dX8_findNouns_97 (by decide +kernel) ?_
        refine lv_icmp_ne (tgt := 127) hx hb dX8_findNouns_98 (by decide) (fun c_36 => ?_) (fun c_36 => ?_)
        · have hF_44 := ineg c_36 hF_35
          clear hF_35
          exact Jj_21  σ_18 hF_44 _ _ hP hS ls (lv_sub hl [0, 1] rfl)
        · have hF_37 := ipos c_36 hF_35
          clear hF_35
          refine lv_aload_n hx hb dX8_findNouns_101 rfl (lv_at hl 0 rfl) ?_
          refine lv_aload_n hx hb dX8_findNouns_102 rfl (lv_at hl 0 rfl) ?_
          refine lv_aload_n hx hb dX8_findNouns_103 rfl (lv_at hl 0 rfl) ?_
          refine lv_aload_n hx hb dX8_findNouns_104 rfl (lv_at hl 0 rfl) ?_
          refine va_get (D := (dC, dI)) (ci := 8) (v := .int ((σ_18 11).1 9)) (C := RX8) (T := TX8) (N := 16) hx hb hts ii_X8 hown hK hP 0 rfl rfl 9 (by decide) (hts (.fieldLink RX8 156 "StoryHouse$Teller" "joint" "I") wq_296) (fun _ h9 => h9) rfl dX8_findNouns_105 ?_
          refine lv_iconst (v := 1) hx hb dX8_findNouns_108 (by decide +kernel) ?_
          refine lv_iadd hx hb dX8_findNouns_109 ?_
          refine lv_aload_n hx hb dX8_findNouns_110 rfl (lv_at hl 0 rfl) ?_
          refine va_get (D := (dC, dI)) (ci := 8) (v := .int ((σ_18 11).1 7)) (C := RX8) (T := TX8) (N := 16) hx hb hts ii_X8 hown hK hP 0 rfl rfl 7 (by decide) (hts (.fieldLink RX8 50 "StoryHouse$Teller" "termCount" "I") wq_294) (fun _ h9 => h9) rfl dX8_findNouns_111 ?_
          obtain ⟨u_38, hu_38, hF_39⟩ := Option.bind_eq_some_iff.mp hF_37
          clear hF_37
          have hPc := bx_P (bs := [b_e cB cC cI cJ cZ oA rA σ_18, b_k cB cC cI cJ cZ oA rA σ_18, b_p cB cC cI cJ cZ oA rA σ_18, b_o cB cC cI cJ cZ oA rA σ_18, b_s cB cC cI cJ cZ oA rA σ_18, b_c cB cC cI cJ cZ oA rA σ_18, b_t cB cC cI cJ cZ oA rA σ_18, b_d cB cC cI cJ cZ oA rA σ_18]) (bs' := [b_e cB cC cI cJ cZ oA rA σ_18, b_k cB cC cI cJ cZ oA rA σ_18, b_p cB cC cI cJ cZ oA rA σ_18, b_o cB cC cI cJ cZ oA rA σ_18, b_s cB cC cI cJ cZ oA rA σ_18, b_c cB cC cI cJ cZ oA rA σ_18, b_t cB cC cI cJ cZ oA rA σ_18, b_d cB cC cI cJ cZ oA rA σ_18]) (ws' := (b_e cB cC cI cJ cZ oA rA σ_18 ++ b_k cB cC cI cJ cZ oA rA σ_18 ++ b_p cB cC cI cJ cZ oA rA σ_18 ++ b_o cB cC cI cJ cZ oA rA σ_18 ++ b_s cB cC cI cJ cZ oA rA σ_18 ++ b_c cB cC cI cJ cZ oA rA σ_18 ++ b_t cB cC cI cJ cZ oA rA σ_18 ++ b_d cB cC cI cJ cZ oA rA σ_18)) hP fl_8 fl_8 [0, 1, 2, 3, 4, 5, 6, 7] rfl
          have hDc := bx_D (bs := [b_e cB cC cI cJ cZ oA rA σ_18, b_k cB cC cI cJ cZ oA rA σ_18, b_p cB cC cI cJ cZ oA rA σ_18, b_o cB cC cI cJ cZ oA rA σ_18, b_s cB cC cI cJ cZ oA rA σ_18, b_c cB cC cI cJ cZ oA rA σ_18, b_t cB cC cI cJ cZ oA rA σ_18, b_d cB cC cI cJ cZ oA rA σ_18]) (bs' := [b_e cB cC cI cJ cZ oA rA σ_18, b_k cB cC cI cJ cZ oA rA σ_18, b_p cB cC cI cJ cZ oA rA σ_18, b_o cB cC cI cJ cZ oA rA σ_18, b_s cB cC cI cJ cZ oA rA σ_18, b_c cB cC cI cJ cZ oA rA σ_18, b_t cB cC cI cJ cZ oA rA σ_18, b_d cB cC cI cJ cZ oA rA σ_18]) (ws' := (b_e cB cC cI cJ cZ oA rA σ_18 ++ b_k cB cC cI cJ cZ oA rA σ_18 ++ b_p cB cC cI cJ cZ oA rA σ_18 ++ b_o cB cC cI cJ cZ oA rA σ_18 ++ b_s cB cC cI cJ cZ oA rA σ_18 ++ b_c cB cC cI cJ cZ oA rA σ_18 ++ b_t cB cC cI cJ cZ oA rA σ_18 ++ b_d cB cC cI cJ cZ oA rA σ_18)) (hDD σ_18) fl_8 fl_8 [0, 1, 2, 3, 4, 5, 6, 7] (by decide +kernel) rfl
          have hFc := bx_F (bs := [b_e cB cC cI cJ cZ oA rA σ_18, b_k cB cC cI cJ cZ oA rA σ_18, b_p cB cC cI cJ cZ oA rA σ_18, b_o cB cC cI cJ cZ oA rA σ_18, b_s cB cC cI cJ cZ oA rA σ_18, b_c cB cC cI cJ cZ oA rA σ_18, b_t cB cC cI cJ cZ oA rA σ_18, b_d cB cC cI cJ cZ oA rA σ_18]) (bs' := [b_e cB cC cI cJ cZ oA rA σ_18, b_k cB cC cI cJ cZ oA rA σ_18, b_p cB cC cI cJ cZ oA rA σ_18, b_o cB cC cI cJ cZ oA rA σ_18, b_s cB cC cI cJ cZ oA rA σ_18, b_c cB cC cI cJ cZ oA rA σ_18, b_t cB cC cI cJ cZ oA rA σ_18, b_d cB cC cI cJ cZ oA rA σ_18]) (wc := (b_e cB cC cI cJ cZ oA rA σ_18 ++ b_k cB cC cI cJ cZ oA rA σ_18 ++ b_p cB cC cI cJ cZ oA rA σ_18 ++ b_o cB cC cI cJ cZ oA rA σ_18 ++ b_s cB cC cI cJ cZ oA rA σ_18 ++ b_c cB cC cI cJ cZ oA rA σ_18 ++ b_t cB cC cI cJ cZ oA rA σ_18 ++ b_d cB cC cI cJ cZ oA rA σ_18)) (hDD σ_18) hS hA fl_8 fl_8 [0, 1, 2, 3, 4, 5, 6, 7] rfl
          refine g_ofi (wc := (b_e cB cC cI cJ cZ oA rA σ_18 ++ b_k cB cC cI cJ cZ oA rA σ_18 ++ b_p cB cC cI cJ cZ oA rA σ_18 ++ b_o cB cC cI cJ cZ oA rA σ_18 ++ b_s cB cC cI cJ cZ oA rA σ_18 ++ b_c cB cC cI cJ cZ oA rA σ_18 ++ b_t cB cC cI cJ cZ oA rA σ_18 ++ b_d cB cC cI cJ cZ oA rA σ_18)) (wr := ([] : va_W)) hP (hDD σ_18) hS hFc (bx_ix [b_e cB cC cI cJ cZ oA rA σ_18, b_k cB cC cI cJ cZ oA rA σ_18, b_p cB cC cI cJ cZ oA rA σ_18, b_o cB cC cI cJ cZ oA rA σ_18, b_s cB cC cI cJ cZ oA rA σ_18, b_c cB cC cI cJ cZ oA rA σ_18, b_t cB cC cI cJ cZ oA rA σ_18, b_d cB cC cI cJ cZ oA rA σ_18] [0, 1, 2, 3, 4, 5, 6, 7]) (bx_ix [b_e cB cC cI cJ cZ oA rA σ_18, b_k cB cC cI cJ cZ oA rA σ_18, b_p cB cC cI cJ cZ oA rA σ_18, b_o cB cC cI cJ cZ oA rA σ_18, b_s cB cC cI cJ cZ oA rA σ_18, b_c cB cC cI cJ cZ oA rA σ_18, b_t cB cC cI cJ cZ oA rA σ_18, b_d cB cC cI cJ cZ oA rA σ_18] []) (bx_C (bs := [b_e cB cC cI cJ cZ oA rA σ_18, b_k cB cC cI cJ cZ oA rA σ_18, b_p cB cC cI cJ cZ oA rA σ_18, b_o cB cC cI cJ cZ oA rA σ_18, b_s cB cC cI cJ cZ oA rA σ_18, b_c cB cC cI cJ cZ oA rA σ_18, b_t cB cC cI cJ cZ oA rA σ_18, b_d cB cC cI cJ cZ oA rA σ_18]) (bs' := [b_e cB cC cI cJ cZ oA rA σ_18, b_k cB cC cI cJ cZ oA rA σ_18, b_p cB cC cI cJ cZ oA rA σ_18, b_o cB cC cI cJ cZ oA rA σ_18, b_s cB cC cI cJ cZ oA rA σ_18, b_c cB cC cI cJ cZ oA rA σ_18, b_t cB cC cI cJ cZ oA rA σ_18, b_d cB cC cI cJ cZ oA rA σ_18]) (is := [0, 1, 2, 3, 4, 5, 6, 7]) fl_8 fl_8 rfl) (bx_C (bs := [b_e cB cC cI cJ cZ oA rA σ_18, b_k cB cC cI cJ cZ oA rA σ_18, b_p cB cC cI cJ cZ oA rA σ_18, b_o cB cC cI cJ cZ oA rA σ_18, b_s cB cC cI cJ cZ oA rA σ_18, b_c cB cC cI cJ cZ oA rA σ_18, b_t cB cC cI cJ cZ oA rA σ_18, b_d cB cC cI cJ cZ oA rA σ_18]) (bs' := []) (is := []) fl_8 fl_0 rfl) (bx_n (by decide +kernel)) (bx_d (by decide +kernel)) (va_runV (As := [.int (((σ_18 11).1 9) + 1), .int ((σ_18 11).1 7)]) (rest := [.ref (oA 11), .ref (oA 11)]) ⟨hx, hb, hml, hown, hts⟩ (k_X8_behindArticle l dC dI cB cC cI cJ cZ cP oA rA H.size  (((σ_18 11).1 9) + 1) ((σ_18 11).1 7) σ_18 _ hu_38) (cwV 2 hts (g_gV wq_1088 wq_1089 wq_2078 wq_12 wq_1090) rfl rfl rfl (by decide +kernel) ⟨Nat.le_of_ble_eq_true rfl, Nat.le_of_ble_eq_true rfl⟩) (g_preV g_bl0 hK hPc hDc hS hE hFc g_to0 (q0 := 0) (ci := 8) rfl rfl) rfl rfl hl.1 rfl (lv_room (Nat.le_of_ble_eq_true rfl)) dX8_findNouns_114 ⟨Nat.le_of_ble_eq_true rfl, Nat.le_of_ble_eq_true rfl⟩) (fun r9 u9 H locs hw9 hP' hD' hS => ?_)
          clear hPc hDc hFc
          subst hw9
          have hP : va_P (dC, dI) vwCl (b_e cB cC cI cJ cZ oA rA u_38.2 ++ b_k cB cC cI cJ cZ oA rA u_38.2 ++ b_p cB cC cI cJ cZ oA rA u_38.2 ++ b_o cB cC cI cJ cZ oA rA u_38.2 ++ b_s cB cC cI cJ cZ oA rA u_38.2 ++ b_c cB cC cI cJ cZ oA rA u_38.2 ++ b_t cB cC cI cJ cZ oA rA u_38.2 ++ b_d cB cC cI cJ cZ oA rA u_38.2) H := hP'
          clear hP' hD'
          refine lv_aload_n hx hb dX8_findNouns_117 rfl (lv_at hl 0 rfl) ?_
          refine va_get (D := (dC, dI)) (ci := 8) (v := .int ((u_38.2 11).1 7)) (C := RX8) (T := TX8) (N := 16) hx hb hts ii_X8 hown hK hP 0 rfl rfl 7 (by decide) (hts (.fieldLink RX8 50 "StoryHouse$Teller" "termCount" "I") wq_294) (fun _ h9 => h9) rfl dX8_findNouns_118 ?_
          obtain ⟨u_40, hu_40, hF_41⟩ := Option.bind_eq_some_iff.mp hF_39
          clear hF_39
          have hPc := bx_P (bs := [b_e cB cC cI cJ cZ oA rA u_38.2, b_k cB cC cI cJ cZ oA rA u_38.2, b_p cB cC cI cJ cZ oA rA u_38.2, b_o cB cC cI cJ cZ oA rA u_38.2, b_s cB cC cI cJ cZ oA rA u_38.2, b_c cB cC cI cJ cZ oA rA u_38.2, b_t cB cC cI cJ cZ oA rA u_38.2, b_d cB cC cI cJ cZ oA rA u_38.2]) (bs' := [b_e cB cC cI cJ cZ oA rA u_38.2, b_k cB cC cI cJ cZ oA rA u_38.2, b_p cB cC cI cJ cZ oA rA u_38.2, b_o cB cC cI cJ cZ oA rA u_38.2, b_s cB cC cI cJ cZ oA rA u_38.2, b_c cB cC cI cJ cZ oA rA u_38.2, b_t cB cC cI cJ cZ oA rA u_38.2, b_d cB cC cI cJ cZ oA rA u_38.2]) (ws' := (b_e cB cC cI cJ cZ oA rA u_38.2 ++ b_k cB cC cI cJ cZ oA rA u_38.2 ++ b_p cB cC cI cJ cZ oA rA u_38.2 ++ b_o cB cC cI cJ cZ oA rA u_38.2 ++ b_s cB cC cI cJ cZ oA rA u_38.2 ++ b_c cB cC cI cJ cZ oA rA u_38.2 ++ b_t cB cC cI cJ cZ oA rA u_38.2 ++ b_d cB cC cI cJ cZ oA rA u_38.2)) hP fl_8 fl_8 [0, 1, 2, 3, 4, 5, 6, 7] rfl
          have hDc := bx_D (bs := [b_e cB cC cI cJ cZ oA rA u_38.2, b_k cB cC cI cJ cZ oA rA u_38.2, b_p cB cC cI cJ cZ oA rA u_38.2, b_o cB cC cI cJ cZ oA rA u_38.2, b_s cB cC cI cJ cZ oA rA u_38.2, b_c cB cC cI cJ cZ oA rA u_38.2, b_t cB cC cI cJ cZ oA rA u_38.2, b_d cB cC cI cJ cZ oA rA u_38.2]) (bs' := [b_e cB cC cI cJ cZ oA rA u_38.2, b_k cB cC cI cJ cZ oA rA u_38.2, b_p cB cC cI cJ cZ oA rA u_38.2, b_o cB cC cI cJ cZ oA rA u_38.2, b_s cB cC cI cJ cZ oA rA u_38.2, b_c cB cC cI cJ cZ oA rA u_38.2, b_t cB cC cI cJ cZ oA rA u_38.2, b_d cB cC cI cJ cZ oA rA u_38.2]) (ws' := (b_e cB cC cI cJ cZ oA rA u_38.2 ++ b_k cB cC cI cJ cZ oA rA u_38.2 ++ b_p cB cC cI cJ cZ oA rA u_38.2 ++ b_o cB cC cI cJ cZ oA rA u_38.2 ++ b_s cB cC cI cJ cZ oA rA u_38.2 ++ b_c cB cC cI cJ cZ oA rA u_38.2 ++ b_t cB cC cI cJ cZ oA rA u_38.2 ++ b_d cB cC cI cJ cZ oA rA u_38.2)) (hDD u_38.2) fl_8 fl_8 [0, 1, 2, 3, 4, 5, 6, 7] (by decide +kernel) rfl
          have hFc := bx_F (bs := [b_e cB cC cI cJ cZ oA rA u_38.2, b_k cB cC cI cJ cZ oA rA u_38.2, b_p cB cC cI cJ cZ oA rA u_38.2, b_o cB cC cI cJ cZ oA rA u_38.2, b_s cB cC cI cJ cZ oA rA u_38.2, b_c cB cC cI cJ cZ oA rA u_38.2, b_t cB cC cI cJ cZ oA rA u_38.2, b_d cB cC cI cJ cZ oA rA u_38.2]) (bs' := [b_e cB cC cI cJ cZ oA rA u_38.2, b_k cB cC cI cJ cZ oA rA u_38.2, b_p cB cC cI cJ cZ oA rA u_38.2, b_o cB cC cI cJ cZ oA rA u_38.2, b_s cB cC cI cJ cZ oA rA u_38.2, b_c cB cC cI cJ cZ oA rA u_38.2, b_t cB cC cI cJ cZ oA rA u_38.2, b_d cB cC cI cJ cZ oA rA u_38.2]) (wc := (b_e cB cC cI cJ cZ oA rA u_38.2 ++ b_k cB cC cI cJ cZ oA rA u_38.2 ++ b_p cB cC cI cJ cZ oA rA u_38.2 ++ b_o cB cC cI cJ cZ oA rA u_38.2 ++ b_s cB cC cI cJ cZ oA rA u_38.2 ++ b_c cB cC cI cJ cZ oA rA u_38.2 ++ b_t cB cC cI cJ cZ oA rA u_38.2 ++ b_d cB cC cI cJ cZ oA rA u_38.2)) (hDD u_38.2) hS hA fl_8 fl_8 [0, 1, 2, 3, 4, 5, 6, 7] rfl
          refine g_ofi (wc := (b_e cB cC cI cJ cZ oA rA u_38.2 ++ b_k cB cC cI cJ cZ oA rA u_38.2 ++ b_p cB cC cI cJ cZ oA rA u_38.2 ++ b_o cB cC cI cJ cZ oA rA u_38.2 ++ b_s cB cC cI cJ cZ oA rA u_38.2 ++ b_c cB cC cI cJ cZ oA rA u_38.2 ++ b_t cB cC cI cJ cZ oA rA u_38.2 ++ b_d cB cC cI cJ cZ oA rA u_38.2)) (wr := ([] : va_W)) hP (hDD u_38.2) hS hFc (bx_ix [b_e cB cC cI cJ cZ oA rA u_38.2, b_k cB cC cI cJ cZ oA rA u_38.2, b_p cB cC cI cJ cZ oA rA u_38.2, b_o cB cC cI cJ cZ oA rA u_38.2, b_s cB cC cI cJ cZ oA rA u_38.2, b_c cB cC cI cJ cZ oA rA u_38.2, b_t cB cC cI cJ cZ oA rA u_38.2, b_d cB cC cI cJ cZ oA rA u_38.2] [0, 1, 2, 3, 4, 5, 6, 7]) (bx_ix [b_e cB cC cI cJ cZ oA rA u_38.2, b_k cB cC cI cJ cZ oA rA u_38.2, b_p cB cC cI cJ cZ oA rA u_38.2, b_o cB cC cI cJ cZ oA rA u_38.2, b_s cB cC cI cJ cZ oA rA u_38.2, b_c cB cC cI cJ cZ oA rA u_38.2, b_t cB cC cI cJ cZ oA rA u_38.2, b_d cB cC cI cJ cZ oA rA u_38.2] []) (bx_C (bs := [b_e cB cC cI cJ cZ oA rA u_38.2, b_k cB cC cI cJ cZ oA rA u_38.2, b_p cB cC cI cJ cZ oA rA u_38.2, b_o cB cC cI cJ cZ oA rA u_38.2, b_s cB cC cI cJ cZ oA rA u_38.2, b_c cB cC cI cJ cZ oA rA u_38.2, b_t cB cC cI cJ cZ oA rA u_38.2, b_d cB cC cI cJ cZ oA rA u_38.2]) (bs' := [b_e cB cC cI cJ cZ oA rA u_38.2, b_k cB cC cI cJ cZ oA rA u_38.2, b_p cB cC cI cJ cZ oA rA u_38.2, b_o cB cC cI cJ cZ oA rA u_38.2, b_s cB cC cI cJ cZ oA rA u_38.2, b_c cB cC cI cJ cZ oA rA u_38.2, b_t cB cC cI cJ cZ oA rA u_38.2, b_d cB cC cI cJ cZ oA rA u_38.2]) (is := [0, 1, 2, 3, 4, 5, 6, 7]) fl_8 fl_8 rfl) (bx_C (bs := [b_e cB cC cI cJ cZ oA rA u_38.2, b_k cB cC cI cJ cZ oA rA u_38.2, b_p cB cC cI cJ cZ oA rA u_38.2, b_o cB cC cI cJ cZ oA rA u_38.2, b_s cB cC cI cJ cZ oA rA u_38.2, b_c cB cC cI cJ cZ oA rA u_38.2, b_t cB cC cI cJ cZ oA rA u_38.2, b_d cB cC cI cJ cZ oA rA u_38.2]) (bs' := []) (is := []) fl_8 fl_0 rfl) (bx_n (by decide +kernel)) (bx_d (by decide +kernel)) (va_runV (As := [.int u_38.1, .int ((u_38.2 11).1 7)]) (rest := [.ref (oA 11)]) ⟨hx, hb, hml, hown, hts⟩ (k_X8_nounOf l dC dI cB cC cI cJ cZ cP oA rA H.size  u_38.1 ((u_38.2 11).1 7) u_38.2 _ hu_40) (cwV 2 hts (g_gV wq_1094 wq_1095 wq_2080 wq_12 wq_1096) rfl rfl rfl (by decide +kernel) ⟨Nat.le_of_ble_eq_true rfl, Nat.le_of_ble_eq_true rfl⟩) (g_preV g_bl0 hK hPc hDc hS hE hFc g_to0 (q0 := 0) (ci := 8) rfl rfl) rfl rfl hl.1 rfl (lv_room (Nat.le_of_ble_eq_true rfl)) dX8_findNouns_121 ⟨Nat.le_of_ble_eq_true rfl, Nat.le_of_ble_eq_true rfl⟩) (fun r9 u9 H locs hw9 hP' hD' hS => ?_)
          clear hPc hDc hFc
          subst hw9
          have hP : va_P (dC, dI) vwCl (b_e cB cC cI cJ cZ oA rA u_40.2 ++ b_k cB cC cI cJ cZ oA rA u_40.2 ++ b_p cB cC cI cJ cZ oA rA u_40.2 ++ b_o cB cC cI cJ cZ oA rA u_40.2 ++ b_s cB cC cI cJ cZ oA rA u_40.2 ++ b_c cB cC cI cJ cZ oA rA u_40.2 ++ b_t cB cC cI cJ cZ oA rA u_40.2 ++ b_d cB cC cI cJ cZ oA rA u_40.2) H := hP'
          clear hP' hD'
          obtain ⟨σ_42, eσ_42, hF_43⟩ := bnd_e hF_41
          clear hF_41
          refine va_put (D := (dC, dI)) (ci := 8) (v := .int u_40.1) (ty := .int) (C := RX8) (T := TX8) (N := 16) hx hb hts ii_X8 tyX8 tyX8_ok nmX8 hown hK hP (hDD _) hS 0 rfl rfl 11 (by decide) (hts (.fieldLink RX8 117 "StoryHouse$Teller" "second" "I") wq_298) (fun _ h9 => h9) rfl (by decide +kernel) rfl rfl (Nat.le_of_ble_eq_true rfl) dX8_findNouns_124 (fun H locs hP' _ hS => ?_)
          have hP : va_P (dC, dI) vwCl (b_e cB cC cI cJ cZ oA rA σ_42 ++ b_k cB cC cI cJ cZ oA rA σ_42 ++ b_p cB cC cI cJ cZ oA rA σ_42 ++ b_o cB cC cI cJ cZ oA rA σ_42 ++ b_s cB cC cI cJ cZ oA rA σ_42 ++ b_c cB cC cI cJ cZ oA rA σ_42 ++ b_t cB cC cI cJ cZ oA rA σ_42 ++ b_d cB cC cI cJ cZ oA rA σ_42) H := by rw [eσ_42]; exact cs_ekposctd_e_11 ▸ hP'
          clear hP'
          exact Jj_21  σ_42 hF_43 _ _ hP hS ls (lv_sub hl [0, 1] rfl)
    refine lv_icmp_ne (tgt := 76) hx hb dX8_findNouns_37 (by decide) (fun c_45 => ?_) (fun c_45 => ?_)
    · have hF_66 := ineg c_45 hF_14
      clear hF_14
      exact Jj_13  u_10.2 hF_66 _ _ hP hS ls (lv_sub hl [2, 1, 0] rfl)
    · have hF_46 := ipos c_45 hF_14
      clear hF_14
      refine lv_aload_n hx hb dX8_findNouns_40 rfl (lv_at hl 2 rfl) ?_
      refine va_get (D := (dC, dI)) (ci := 8) (v := .int ((u_10.2 11).1 9)) (C := RX8) (T := TX8) (N := 16) hx hb hts ii_X8 hown hK hP 0 rfl rfl 9 (by decide) (hts (.fieldLink RX8 156 "StoryHouse$Teller" "joint" "I") wq_296) (fun _ h9 => h9) rfl dX8_findNouns_41 ?_
      refine lv_iload_n hx hb dX8_findNouns_44 rfl (lv_at hl 0 rfl) ?_
      refine lv_isub hx hb dX8_findNouns_45 ?_
      refine lv_iconst (v := 1) hx hb dX8_findNouns_46 (by decide +kernel) ?_
      refine lv_icmp_ne (tgt := 76) hx hb dX8_findNouns_47 (by decide) (fun c_47 => ?_) (fun c_47 => ?_)
      · have hF_65 := ineg c_47 hF_46
        clear hF_46
        exact Jj_13  u_10.2 hF_65 _ _ hP hS ls (lv_sub hl [2, 1, 0] rfl)
      · have hF_48 := ipos c_47 hF_46
        clear hF_46
        refine lv_aload_n hx hb dX8_findNouns_50 rfl (lv_at hl 2 rfl) ?_
        refine va_get (D := (dC, dI)) (ci := 8) (v := .int ((u_10.2 11).1 8)) (C := RX8) (T := TX8) (N := 16) hx hb hts ii_X8 hown hK hP 0 rfl rfl 8 (by decide) (hts (.fieldLink RX8 127 "StoryHouse$Teller" "verb" "I") wq_295) (fun _ h9 => h9) rfl dX8_findNouns_51 ?_
        refine lv_iconst (v := 4) hx hb dX8_findNouns_54 (by decide +kernel) ?_
        obtain ⟨j_50, ej_50, hF_51⟩ := bnd_e hF_48
        clear hF_48
        have Jj_50 : ∀  (σ_49 : HS), j_50  σ_49 = some res → ∀ (H : Heap) (locs : List Loc), va_P (dC, dI) vwCl (b_e cB cC cI cJ cZ oA rA σ_49 ++ b_k cB cC cI cJ cZ oA rA σ_49 ++ b_p cB cC cI cJ cZ oA rA σ_49 ++ b_o cB cC cI cJ cZ oA rA σ_49 ++ b_s cB cC cI cJ cZ oA rA σ_49 ++ b_c cB cC cI cJ cZ oA rA σ_49 ++ b_t cB cC cI cJ cZ oA rA σ_49 ++ b_d cB cC cI cJ cZ oA rA σ_49) H → va_S A s.heap H locs → ∀ ls : Array Slot, lv_has ls 3 [(0, .ref (oA 11))] → W p l e (headSpec (g_ws yX8_findNouns cX8_findNouns 3 (some .boolean)) { frames := 9, cells := 0, slots := 0, locals := 212 }).room s m ([.ref (oA 11)] : List Value).toArray below meth c H locs 0 0 (MQ below (va_Qi (fun r (_ : Unit) => r = res.1) (g_Bo (dC, dI) A (fun (_ : Unit) => (b_e cB cC cI cJ cZ oA rA res.2 ++ b_k cB cC cI cJ cZ oA rA res.2 ++ b_p cB cC cI cJ cZ oA rA res.2 ++ b_o cB cC cI cJ cZ oA rA res.2 ++ b_s cB cC cI cJ cZ oA rA res.2 ++ b_c cB cC cI cJ cZ oA rA res.2 ++ b_t cB cC cI cJ cZ oA rA res.2 ++ b_d cB cC cI cJ cZ oA rA res.2))) A) ([.ref (oA 11)] : List Value).toArray s 0 0 A) (F0 m 66 ls []) := by
          intro  σ_49 hF0 H locs hP hS ls hl
          subst ej_50
          have hF_52 := hF0
          clear hF0
          refine lv_aload_n hx hb dX8_findNouns_66 rfl (lv_at hl 0 rfl) ?_
          refine lv_iconst (v := 1) hx hb dX8_findNouns_67 (by decide +kernel) ?_
          obtain ⟨σ_53, eσ_53, hF_54⟩ := bnd_e hF_52
          clear hF_52
          refine va_put (D := (dC, dI)) (ci := 8) (v := .int 1) (ty := .boolean) (C := RX8) (T := TX8) (N := 16) hx hb hts ii_X8 tyX8 tyX8_ok nmX8 hown hK hP (hDD _) hS 0 rfl rfl 12 (by decide) (hts (.fieldLink RX8 120 "StoryHouse$Teller" "all" "Z") wq_299) (fun _ h9 => h9) rfl (by decide +kernel) (by decide +kernel) (by decide +kernel) (Nat.le_of_ble_eq_true rfl) dX8_findNouns_68 (fun H locs hP' _ hS => ?_)
          have hP : va_P (dC, dI) vwCl (b_e cB cC cI cJ cZ oA rA σ_53 ++ b_k cB cC cI cJ cZ oA rA σ_53 ++ b_p cB cC cI cJ cZ oA rA σ_53 ++ b_o cB cC cI cJ cZ oA rA σ_53 ++ b_s cB cC cI cJ cZ oA rA σ_53 ++ b_c cB cC cI cJ cZ oA rA σ_53 ++ b_t cB cC cI cJ cZ oA rA σ_53 ++ b_d cB cC cI cJ cZ oA rA σ_53) H := by rw [eσ_53]; exact cs_ekposctd_e_12 ▸ hP'
          clear hP'
          refine lv_aload_n hx hb dX8_findNouns_71 rfl (lv_at hl 0 rfl) ?_
          obtain ⟨u_55, hu_55, hF_56⟩ := Option.bind_eq_some_iff.mp hF_54
          clear hF_54
          have hPc := bx_P (bs := [b_e cB cC cI cJ cZ oA rA σ_53, b_k cB cC cI cJ cZ oA rA σ_53, b_p cB cC cI cJ cZ oA rA σ_53, b_o cB cC cI cJ cZ oA rA σ_53, b_s cB cC cI cJ cZ oA rA σ_53, b_c cB cC cI cJ cZ oA rA σ_53, b_t cB cC cI cJ cZ oA rA σ_53, b_d cB cC cI cJ cZ oA rA σ_53]) (bs' := [b_e cB cC cI cJ cZ oA rA σ_53, b_k cB cC cI cJ cZ oA rA σ_53, b_p cB cC cI cJ cZ oA rA σ_53, b_o cB cC cI cJ cZ oA rA σ_53, b_s cB cC cI cJ cZ oA rA σ_53, b_c cB cC cI cJ cZ oA rA σ_53, b_t cB cC cI cJ cZ oA rA σ_53, b_d cB cC cI cJ cZ oA rA σ_53]) (ws' := (b_e cB cC cI cJ cZ oA rA σ_53 ++ b_k cB cC cI cJ cZ oA rA σ_53 ++ b_p cB cC cI cJ cZ oA rA σ_53 ++ b_o cB cC cI cJ cZ oA rA σ_53 ++ b_s cB cC cI cJ cZ oA rA σ_53 ++ b_c cB cC cI cJ cZ oA rA σ_53 ++ b_t cB cC cI cJ cZ oA rA σ_53 ++ b_d cB cC cI cJ cZ oA rA σ_53)) hP fl_8 fl_8 [0, 1, 2, 3, 4, 5, 6, 7] rfl
          have hDc := bx_D (bs := [b_e cB cC cI cJ cZ oA rA σ_53, b_k cB cC cI cJ cZ oA rA σ_53, b_p cB cC cI cJ cZ oA rA σ_53, b_o cB cC cI cJ cZ oA rA σ_53, b_s cB cC cI cJ cZ oA rA σ_53, b_c cB cC cI cJ cZ oA rA σ_53, b_t cB cC cI cJ cZ oA rA σ_53, b_d cB cC cI cJ cZ oA rA σ_53]) (bs' := [b_e cB cC cI cJ cZ oA rA σ_53, b_k cB cC cI cJ cZ oA rA σ_53, b_p cB cC cI cJ cZ oA rA σ_53, b_o cB cC cI cJ cZ oA rA σ_53, b_s cB cC cI cJ cZ oA rA σ_53, b_c cB cC cI cJ cZ oA rA σ_53, b_t cB cC cI cJ cZ oA rA σ_53, b_d cB cC cI cJ cZ oA rA σ_53]) (ws' := (b_e cB cC cI cJ cZ oA rA σ_53 ++ b_k cB cC cI cJ cZ oA rA σ_53 ++ b_p cB cC cI cJ cZ oA rA σ_53 ++ b_o cB cC cI cJ cZ oA rA σ_53 ++ b_s cB cC cI cJ cZ oA rA σ_53 ++ b_c cB cC cI cJ cZ oA rA σ_53 ++ b_t cB cC cI cJ cZ oA rA σ_53 ++ b_d cB cC cI cJ cZ oA rA σ_53)) (hDD σ_53) fl_8 fl_8 [0, 1, 2, 3, 4, 5, 6, 7] (by decide +kernel) rfl
          have hFc := bx_F (bs := [b_e cB cC cI cJ cZ oA rA σ_53, b_k cB cC cI cJ cZ oA rA σ_53, b_p cB cC cI cJ cZ oA rA σ_53, b_o cB cC cI cJ cZ oA rA σ_53, b_s cB cC cI cJ cZ oA rA σ_53, b_c cB cC cI cJ cZ oA rA σ_53, b_t cB cC cI cJ cZ oA rA σ_53, b_d cB cC cI cJ cZ oA rA σ_53]) (bs' := [b_e cB cC cI cJ cZ oA rA σ_53, b_k cB cC cI cJ cZ oA rA σ_53, b_p cB cC cI cJ cZ oA rA σ_53, b_o cB cC cI cJ cZ oA rA σ_53, b_s cB cC cI cJ cZ oA rA σ_53, b_c cB cC cI cJ cZ oA rA σ_53, b_t cB cC cI cJ cZ oA rA σ_53, b_d cB cC cI cJ cZ oA rA σ_53]) (wc := (b_e cB cC cI cJ cZ oA rA σ_53 ++ b_k cB cC cI cJ cZ oA rA σ_53 ++ b_p cB cC cI cJ cZ oA rA σ_53 ++ b_o cB cC cI cJ cZ oA rA σ_53 ++ b_s cB cC cI cJ cZ oA rA σ_53 ++ b_c cB cC cI cJ cZ oA rA σ_53 ++ b_t cB cC cI cJ cZ oA rA σ_53 ++ b_d cB cC cI cJ cZ oA rA σ_53)) (hDD σ_53) hS hA fl_8 fl_8 [0, 1, 2, 3, 4, 5, 6, 7] rfl
          refine g_ofi (wc := (b_e cB cC cI cJ cZ oA rA σ_53 ++ b_k cB cC cI cJ cZ oA rA σ_53 ++ b_p cB cC cI cJ cZ oA rA σ_53 ++ b_o cB cC cI cJ cZ oA rA σ_53 ++ b_s cB cC cI cJ cZ oA rA σ_53 ++ b_c cB cC cI cJ cZ oA rA σ_53 ++ b_t cB cC cI cJ cZ oA rA σ_53 ++ b_d cB cC cI cJ cZ oA rA σ_53)) (wr := ([] : va_W)) hP (hDD σ_53) hS hFc (bx_ix [b_e cB cC cI cJ cZ oA rA σ_53, b_k cB cC cI cJ cZ oA rA σ_53, b_p cB cC cI cJ cZ oA rA σ_53, b_o cB cC cI cJ cZ oA rA σ_53, b_s cB cC cI cJ cZ oA rA σ_53, b_c cB cC cI cJ cZ oA rA σ_53, b_t cB cC cI cJ cZ oA rA σ_53, b_d cB cC cI cJ cZ oA rA σ_53] [0, 1, 2, 3, 4, 5, 6, 7]) (bx_ix [b_e cB cC cI cJ cZ oA rA σ_53, b_k cB cC cI cJ cZ oA rA σ_53, b_p cB cC cI cJ cZ oA rA σ_53, b_o cB cC cI cJ cZ oA rA σ_53, b_s cB cC cI cJ cZ oA rA σ_53, b_c cB cC cI cJ cZ oA rA σ_53, b_t cB cC cI cJ cZ oA rA σ_53, b_d cB cC cI cJ cZ oA rA σ_53] []) (bx_C (bs := [b_e cB cC cI cJ cZ oA rA σ_53, b_k cB cC cI cJ cZ oA rA σ_53, b_p cB cC cI cJ cZ oA rA σ_53, b_o cB cC cI cJ cZ oA rA σ_53, b_s cB cC cI cJ cZ oA rA σ_53, b_c cB cC cI cJ cZ oA rA σ_53, b_t cB cC cI cJ cZ oA rA σ_53, b_d cB cC cI cJ cZ oA rA σ_53]) (bs' := [b_e cB cC cI cJ cZ oA rA σ_53, b_k cB cC cI cJ cZ oA rA σ_53, b_p cB cC cI cJ cZ oA rA σ_53, b_o cB cC cI cJ cZ oA rA σ_53, b_s cB cC cI cJ cZ oA rA σ_53, b_c cB cC cI cJ cZ oA rA σ_53, b_t cB cC cI cJ cZ oA rA σ_53, b_d cB cC cI cJ cZ oA rA σ_53]) (is := [0, 1, 2, 3, 4, 5, 6, 7]) fl_8 fl_8 rfl) (bx_C (bs := [b_e cB cC cI cJ cZ oA rA σ_53, b_k cB cC cI cJ cZ oA rA σ_53, b_p cB cC cI cJ cZ oA rA σ_53, b_o cB cC cI cJ cZ oA rA σ_53, b_s cB cC cI cJ cZ oA rA σ_53, b_c cB cC cI cJ cZ oA rA σ_53, b_t cB cC cI cJ cZ oA rA σ_53, b_d cB cC cI cJ cZ oA rA σ_53]) (bs' := []) (is := []) fl_8 fl_0 rfl) (bx_n (by decide +kernel)) (bx_d (by decide +kernel)) (va_runV (As := []) (rest := []) ⟨hx, hb, hml, hown, hts⟩ (k_X8_chooseAll l dC dI cB cC cI cJ cZ cP oA rA H.size  σ_53 _ hu_55) (cwV 0 hts (g_gV wq_1091 wq_1092 wq_2079 wq_12 wq_1093) rfl rfl rfl (by decide +kernel) ⟨Nat.le_of_ble_eq_true rfl, Nat.le_of_ble_eq_true rfl⟩) (g_preV g_bl0 hK hPc hDc hS hE hFc g_to0 (q0 := 0) (ci := 8) rfl rfl) rfl rfl hl.1 rfl (lv_room (Nat.le_of_ble_eq_true rfl)) dX8_findNouns_72 ⟨Nat.le_of_ble_eq_true rfl, Nat.le_of_ble_eq_true rfl⟩) (fun r9 u9 H locs hw9 hP' hD' hS => ?_)
          clear hPc hDc hFc
          subst hw9
          have hP : va_P (dC, dI) vwCl (b_e cB cC cI cJ cZ oA rA u_55.2 ++ b_k cB cC cI cJ cZ oA rA u_55.2 ++ b_p cB cC cI cJ cZ oA rA u_55.2 ++ b_o cB cC cI cJ cZ oA rA u_55.2 ++ b_s cB cC cI cJ cZ oA rA u_55.2 ++ b_c cB cC cI cJ cZ oA rA u_55.2 ++ b_t cB cC cI cJ cZ oA rA u_55.2 ++ b_d cB cC cI cJ cZ oA rA u_55.2) H := hP'
          clear hP' hD'
          obtain ⟨g_57, hF_58⟩ := nif_e hF_56
          clear hF_56
          have h9 := Option.some.inj hF_58
          subst h9
          exact W.zret (v := u_55.1) hx hb hr (m_bool (Classical.not_not.mp g_57)).1 (fun t ht hW => ⟨⟨u_55.1, (), rfl, rfl, m_end ht hP, hDD _⟩, hS.F ht⟩) hS.2.2 dX8_findNouns_75
        refine lv_icmp_eq (tgt := 66) hx hb dX8_findNouns_55 (by decide) (fun c_59 => ?_) (fun c_59 => ?_)
        · have hF_60 := ipos c_59 hF_51
          clear hF_51
          exact Jj_50  u_10.2 hF_60 _ _ hP hS ls (lv_sub hl [2] rfl)
        · have hF_61 := ineg c_59 hF_51
          clear hF_51
          refine lv_aload_n hx hb dX8_findNouns_58 rfl (lv_at hl 2 rfl) ?_
          refine va_get (D := (dC, dI)) (ci := 8) (v := .int ((u_10.2 11).1 8)) (C := RX8) (T := TX8) (N := 16) hx hb hts ii_X8 hown hK hP 0 rfl rfl 8 (by decide) (hts (.fieldLink RX8 127 "StoryHouse$Teller" "verb" "I") wq_295) (fun _ h9 => h9) rfl dX8_findNouns_59 ?_
          refine lv_iconst (v := 5) hx hb dX8_findNouns_62 (by decide +kernel) ?_
          refine lv_icmp_ne (tgt := 76) hx hb dX8_findNouns_63 (by decide) (fun c_62 => ?_) (fun c_62 => ?_)
          · have hF_64 := ineg c_62 hF_61
            clear hF_61
            exact Jj_13  u_10.2 hF_64 _ _ hP hS ls (lv_sub hl [2, 1, 0] rfl)
          · have hF_63 := ipos c_62 hF_61
            clear hF_61
            exact Jj_50  u_10.2 hF_63 _ _ hP hS ls (lv_sub hl [2] rfl)
  · have hF_6 := ipos c_5 hF_4
    clear hF_4
    refine lv_iconst (v := 1) hx hb dX8_findNouns_19 (by decide +kernel) ?_
    have h9 := Option.some.inj hF_6
    subst h9
    exact W.zret (v := 1) hx hb hr (by decide +kernel) (fun t ht hW => ⟨⟨1, (), rfl, rfl, m_end ht hP, hDD _⟩, hS.F ht⟩) hS.2.2 dX8_findNouns_20
theorem dX8_fits_0 : decode cX8_fits 0 = .ok (.aload_n 0, 1) := by decide +kernel
theorem dX8_fits_1 : decode cX8_fits 1 = .ok (.getfield 85, 3) := by decide +kernel
theorem dX8_fits_4 : decode cX8_fits 4 = .ok (.getfield 153, 3) := by decide +kernel
theorem dX8_fits_7 : decode cX8_fits 7 = .ok (.iload_n 1, 1) := by decide +kernel
theorem dX8_fits_8 : decode cX8_fits 8 = .ok (.invokestatic 70, 3) := by decide +kernel
theorem dX8_fits_11 : decode cX8_fits 11 = .ok (.istore_n 2, 1) := by decide +kernel
theorem dX8_fits_12 : decode cX8_fits 12 = .ok (.aload_n 0, 1) := by decide +kernel
theorem dX8_fits_13 : decode cX8_fits 13 = .ok (.aload_n 0, 1) := by decide +kernel
theorem dX8_fits_14 : decode cX8_fits 14 = .ok (.getfield 50, 3) := by decide +kernel
theorem dX8_fits_17 : decode cX8_fits 17 = .ok (.putfield 156, 3) := by decide +kernel
theorem dX8_fits_20 : decode cX8_fits 20 = .ok (.iload_n 2, 1) := by decide +kernel
theorem dX8_fits_21 : decode cX8_fits 21 = .ok (.iconst 2, 1) := by decide +kernel
theorem dX8_fits_22 : decode cX8_fits 22 = .ok (.if_icmp .eq 37, 3) := by decide +kernel
theorem dX8_fits_25 : decode cX8_fits 25 = .ok (.iload_n 2, 1) := by decide +kernel
theorem dX8_fits_26 : decode cX8_fits 26 = .ok (.ifCond .ne 19, 3) := by decide +kernel
theorem dX8_fits_29 : decode cX8_fits 29 = .ok (.aload_n 0, 1) := by decide +kernel
theorem dX8_fits_30 : decode cX8_fits 30 = .ok (.getfield 50, 3) := by decide +kernel
theorem dX8_fits_33 : decode cX8_fits 33 = .ok (.iconst 1, 1) := by decide +kernel
theorem dX8_fits_34 : decode cX8_fits 34 = .ok (.if_icmp .ne 7, 3) := by decide +kernel
theorem dX8_fits_37 : decode cX8_fits 37 = .ok (.iconst 1, 1) := by decide +kernel
theorem dX8_fits_38 : decode cX8_fits 38 = .ok (.goto 20, 3) := by decide +kernel
theorem dX8_fits_41 : decode cX8_fits 41 = .ok (.iconst 0, 1) := by decide +kernel
theorem dX8_fits_42 : decode cX8_fits 42 = .ok (.goto 16, 3) := by decide +kernel
theorem dX8_fits_45 : decode cX8_fits 45 = .ok (.aload_n 0, 1) := by decide +kernel
theorem dX8_fits_46 : decode cX8_fits 46 = .ok (.getfield 50, 3) := by decide +kernel
theorem dX8_fits_49 : decode cX8_fits 49 = .ok (.iconst 1, 1) := by decide +kernel
theorem dX8_fits_50 : decode cX8_fits 50 = .ok (.if_icmp .le 7, 3) := by decide +kernel
theorem dX8_fits_53 : decode cX8_fits 53 = .ok (.iconst 1, 1) := by decide +kernel
theorem dX8_fits_54 : decode cX8_fits 54 = .ok (.goto 4, 3) := by decide +kernel
theorem dX8_fits_57 : decode cX8_fits 57 = .ok (.iconst 0, 1) := by decide +kernel
theorem dX8_fits_58 : decode cX8_fits 58 = .ok (.ireturn, 1) := by decide +kernel
theorem dX8_fits_59 : decode cX8_fits 59 = .ok (.iconst 2, 1) := by decide +kernel
theorem dX8_fits_60 : decode cX8_fits 60 = .ok (.istore_n 3, 1) := by decide +kernel
theorem dX8_fits_61 : decode cX8_fits 61 = .ok (.iload_n 3, 1) := by decide +kernel
theorem dX8_fits_62 : decode cX8_fits 62 = .ok (.aload_n 0, 1) := by decide +kernel
theorem dX8_fits_63 : decode cX8_fits 63 = .ok (.getfield 50, 3) := by decide +kernel
theorem dX8_fits_66 : decode cX8_fits 66 = .ok (.iconst 1, 1) := by decide +kernel
theorem dX8_fits_67 : decode cX8_fits 67 = .ok (.isub, 1) := by decide +kernel
theorem dX8_fits_68 : decode cX8_fits 68 = .ok (.if_icmp .ge 35, 3) := by decide +kernel
theorem dX8_fits_71 : decode cX8_fits 71 = .ok (.aload_n 0, 1) := by decide +kernel
theorem dX8_fits_72 : decode cX8_fits 72 = .ok (.iload_n 3, 1) := by decide +kernel
theorem dX8_fits_73 : decode cX8_fits 73 = .ok (.invokevirtual 55, 3) := by decide +kernel
theorem dX8_fits_76 : decode cX8_fits 76 = .ok (.aload_n 0, 1) := by decide +kernel
theorem dX8_fits_77 : decode cX8_fits 77 = .ok (.getfield 85, 3) := by decide +kernel
theorem dX8_fits_80 : decode cX8_fits 80 = .ok (.getfield 159, 3) := by decide +kernel
theorem dX8_fits_83 : decode cX8_fits 83 = .ok (.iload_n 1, 1) := by decide +kernel
theorem dX8_fits_84 : decode cX8_fits 84 = .ok (.invokestatic 70, 3) := by decide +kernel
theorem dX8_fits_87 : decode cX8_fits 87 = .ok (.if_icmp .ne 10, 3) := by decide +kernel
theorem dX8_fits_90 : decode cX8_fits 90 = .ok (.aload_n 0, 1) := by decide +kernel
theorem dX8_fits_91 : decode cX8_fits 91 = .ok (.iload_n 3, 1) := by decide +kernel
theorem dX8_fits_92 : decode cX8_fits 92 = .ok (.putfield 156, 3) := by decide +kernel
theorem dX8_fits_95 : decode cX8_fits 95 = .ok (.iconst 1, 1) := by decide +kernel
theorem dX8_fits_96 : decode cX8_fits 96 = .ok (.ireturn, 1) := by decide +kernel
theorem dX8_fits_97 : decode cX8_fits 97 = .ok (.iinc 3 1, 3) := by decide +kernel
theorem dX8_fits_100 : decode cX8_fits 100 = .ok (.goto (-39), 3) := by decide +kernel
theorem dX8_fits_103 : decode cX8_fits 103 = .ok (.iconst 0, 1) := by decide +kernel
theorem dX8_fits_104 : decode cX8_fits 104 = .ok (.ireturn, 1) := by decide +kernel
def F_X8_fits (p0 : Int32) (Γ : HS) : HR :=
  bnd ((g_at 61 ((Γ 4).2.1 7) p0)) fun (x_1 : Int32) =>
  bnd (cI' Γ 11 9 ((Γ 11).1 7)) fun σ_3 =>
  if x_1 = 2 then (
    loopF (fun (again_8 : (Int32 × HS) → HR) (s_7 : Int32 × HS) => (
      if (((s_7.2 11).1 7) - 1) ≤ s_7.1 then (
        some (0, s_7.2)
      ) else (
        (F_X8_term s_7.1 s_7.2).bind fun u_14 =>
        bnd ((g_at 61 ((u_14.2 4).2.1 8) p0)) fun (x_16 : Int32) =>
        if u_14.1 = x_16 then (
          bnd (cI' u_14.2 11 9 s_7.1) fun σ_20 =>
          some (1, σ_20)
        ) else (
          bnd (s_7.1 + 1) fun (x_23 : Int32) =>
          again_8 (x_23, u_14.2)
        )
      )
    )) FU (2, σ_3)
  ) else (
    if x_1 = 0 then (
      if ((σ_3 11).1 7) = 1 then (
        some (1, σ_3)
      ) else (
        some (0, σ_3)
      )
    ) else (
      if ((σ_3 11).1 7) ≤ 1 then (
        some (0, σ_3)
      ) else (
        some (1, σ_3)
      )
    )
  )
set_option maxHeartbeats 4000000 in
set_option maxRecDepth 100000 in
theorem k_X8_fits (l : Launch) (dC : Nat → ClassId) (dI : Nat → Nat → Nat) (cB cC cI cJ cZ cP : ClassId) (oA : Nat → Nat) (rA : Nat → Nat → Nat) (sz : Nat)  (p0 : Int32) (Γ : HS) (res : Int32 × HS) (hF : F_X8_fits p0 Γ = some res) : Met l yX8_fits (g_ws yX8_fits cX8_fits 4 (some .boolean)) ({ frames := 4, cells := 0, slots := 0, locals := 102 }) (va_Pc [.ref (oA 11), .int p0] (g_B (dC, dI) [(cB, .byte), (cC, .char), (cI, .int), (cJ, .long), (cZ, .boolean), (cP, .object "StoryHouse$Play")] sz (b_e cB cC cI cJ cZ oA rA Γ ++ b_k cB cC cI cJ cZ oA rA Γ ++ b_p cB cC cI cJ cZ oA rA Γ ++ b_o cB cC cI cJ cZ oA rA Γ ++ b_s cB cC cI cJ cZ oA rA Γ ++ b_c cB cC cI cJ cZ oA rA Γ ++ b_t cB cC cI cJ cZ oA rA Γ ++ b_d cB cC cI cJ cZ oA rA Γ) g_0)) (va_Qi (fun r (_ : Unit) => r = res.1) (g_Bo (dC, dI) (va_A (b_e cB cC cI cJ cZ oA rA Γ ++ b_k cB cC cI cJ cZ oA rA Γ ++ b_p cB cC cI cJ cZ oA rA Γ ++ b_o cB cC cI cJ cZ oA rA Γ ++ b_s cB cC cI cJ cZ oA rA Γ ++ b_c cB cC cI cJ cZ oA rA Γ ++ b_t cB cC cI cJ cZ oA rA Γ ++ b_d cB cC cI cJ cZ oA rA Γ) sz) (fun (_ : Unit) => (b_e cB cC cI cJ cZ oA rA res.2 ++ b_k cB cC cI cJ cZ oA rA res.2 ++ b_p cB cC cI cJ cZ oA rA res.2 ++ b_o cB cC cI cJ cZ oA rA res.2 ++ b_s cB cC cI cJ cZ oA rA res.2 ++ b_c cB cC cI cJ cZ oA rA res.2 ++ b_t cB cC cI cJ cZ oA rA res.2 ++ b_d cB cC cI cJ cZ oA rA res.2))) (va_A (b_e cB cC cI cJ cZ oA rA Γ ++ b_k cB cC cI cJ cZ oA rA Γ ++ b_p cB cC cI cJ cZ oA rA Γ ++ b_o cB cC cI cJ cZ oA rA Γ ++ b_s cB cC cI cJ cZ oA rA Γ ++ b_c cB cC cI cJ cZ oA rA Γ ++ b_t cB cC cI cJ cZ oA rA Γ ++ b_d cB cC cI cJ cZ oA rA Γ) sz)) 0 0 (va_A (b_e cB cC cI cJ cZ oA rA Γ ++ b_k cB cC cI cJ cZ oA rA Γ ++ b_p cB cC cI cJ cZ oA rA Γ ++ b_o cB cC cI cJ cZ oA rA Γ ++ b_s cB cC cI cJ cZ oA rA Γ ++ b_c cB cC cI cJ cZ oA rA Γ ++ b_t cB cC cI cJ cZ oA rA Γ ++ b_d cB cC cI cJ cZ oA rA Γ) sz) := by
  refine Met.ofW (cc := cX8_fits) (maxL := 4) (ret := (some .boolean)) (by decide) rfl ?_
  intro p e s m args below meth c s₁ B hml hv
  obtain ⟨rfl, hsz, hP, hK, hD0, hE, hX⟩ := hv
  have hx := B.exec
  have hb := B.bytes
  have hr := B.returns
  have hts0 := atoms_spec (ws := g_ws yX8_fits cX8_fits 4 (some .boolean)) B.pre
  have hts : ∀ w ∈ lw_good, w.before ([.ref (oA 11), .int p0] : List Value).toArray s = true := fun w z => hts0 w (List.mem_cons_of_mem _ z)
  have hown : s.vm.findClass RX8 = some m.cls := findClass_of_methodNamed B.named
  have hlocks := B.notSynchronized
  subst hsz
  have hD1 := hD0.self (sz := s.heap.size)
  generalize hAe : va_A (b_e cB cC cI cJ cZ oA rA Γ ++ b_k cB cC cI cJ cZ oA rA Γ ++ b_p cB cC cI cJ cZ oA rA Γ ++ b_o cB cC cI cJ cZ oA rA Γ ++ b_s cB cC cI cJ cZ oA rA Γ ++ b_c cB cC cI cJ cZ oA rA Γ ++ b_t cB cC cI cJ cZ oA rA Γ ++ b_d cB cC cI cJ cZ oA rA Γ) s.heap.size = A at hD1 hE hX ⊢
  have hA : ∀ q : Nat, s.heap.size ≤ q → A q := fun q z => by rw [← hAe]; exact Or.inr z
  have hDD : ∀ Γ : HS, va_D A (b_e cB cC cI cJ cZ oA rA Γ ++ b_k cB cC cI cJ cZ oA rA Γ ++ b_p cB cC cI cJ cZ oA rA Γ ++ b_o cB cC cI cJ cZ oA rA Γ ++ b_s cB cC cI cJ cZ oA rA Γ ++ b_c cB cC cI cJ cZ oA rA Γ ++ b_t cB cC cI cJ cZ oA rA Γ ++ b_d cB cC cI cJ cZ oA rA Γ) := fun Γ9 => va_D_fst (ws := (b_e cB cC cI cJ cZ oA rA Γ ++ b_k cB cC cI cJ cZ oA rA Γ ++ b_p cB cC cI cJ cZ oA rA Γ ++ b_o cB cC cI cJ cZ oA rA Γ ++ b_s cB cC cI cJ cZ oA rA Γ ++ b_c cB cC cI cJ cZ oA rA Γ ++ b_t cB cC cI cJ cZ oA rA Γ ++ b_d cB cC cI cJ cZ oA rA Γ)) (ws' := (b_e cB cC cI cJ cZ oA rA Γ9 ++ b_k cB cC cI cJ cZ oA rA Γ9 ++ b_p cB cC cI cJ cZ oA rA Γ9 ++ b_o cB cC cI cJ cZ oA rA Γ9 ++ b_s cB cC cI cJ cZ oA rA Γ9 ++ b_c cB cC cI cJ cZ oA rA Γ9 ++ b_t cB cC cI cJ cZ oA rA Γ9 ++ b_d cB cC cI cJ cZ oA rA Γ9)) rfl hD1
  have hN := hE.1
  have hS : va_S A s.heap s.heap [] := va_S.rf
  have hl := lv_entry ([.ref (oA 11), .int p0]) (n := 4) (Nat.le_of_ble_eq_true rfl)
  rw [lg_entry_eq]
  generalize (lg_sl ([.ref (oA 11), .int p0]) ++ List.replicate (4 - (lg_sl ([.ref (oA 11), .int p0])).length) Slot.unset).toArray = ls at hl ⊢
  have hl : lv_has ls 4 [(0, .ref (oA 11)), (1, .int p0)] := hl
  unfold F_X8_fits at hF
  refine lv_aload_n hx hb dX8_fits_0 rfl (lv_at hl 0 rfl) ?_
  refine va_get (D := (dC, dI)) (ci := 8) (v := .ref (oA 4)) (C := RX8) (T := TX8) (N := 16) hx hb hts ii_X8 hown hK hP 0 rfl rfl 3 (by decide) (hts (.fieldLink RX8 85 "StoryHouse$Teller" "story" "LStoryHouse$Story;") wq_290) (fun _ h9 => h9) rfl dX8_fits_1 ?_
  refine va_get (D := (dC, dI)) (ci := 7) (v := .ref (rA 4 7)) (C := RX7) (T := TX7) (N := 19) hx hb hts ii_X7 hown hK hP 19 rfl rfl 7 (by decide) (hts (.fieldLink RX8 153 "StoryHouse$Story" "forms" "[I") wq_172) (fun _ h9 => h9) rfl dX8_fits_4 ?_
  refine lv_iload_n hx hb dX8_fits_7 rfl (lv_at hl 1 rfl) ?_
  have hq9 : ((b_e cB cC cI cJ cZ oA rA Γ ++ b_k cB cC cI cJ cZ oA rA Γ ++ b_p cB cC cI cJ cZ oA rA Γ ++ b_o cB cC cI cJ cZ oA rA Γ ++ b_s cB cC cI cJ cZ oA rA Γ ++ b_c cB cC cI cJ cZ oA rA Γ ++ b_t cB cC cI cJ cZ oA rA Γ ++ b_d cB cC cI cJ cZ oA rA Γ))[27]? = some (rA 4 7, .inl (cI, 61, .inl ((Γ 4).2.1 7))) := rfl
  have hPc := hP.sub (ws' := [(rA 4 7, .inl (cI, 61, .inl ((Γ 4).2.1 7)))]) [27] (pk_fm (er_C hq9))
  have hDc := (hDD Γ).sub (ws' := [(rA 4 7, .inl (cI, 61, .inl ((Γ 4).2.1 7)))]) [27] (by decide +kernel) (er_C hq9)
  have hFc := va_free (wc := [(rA 4 7, .inl (cI, 61, .inl ((Γ 4).2.1 7)))]) (hDD Γ) hS hA [27] (er_C hq9)
  refine g_ofi (wc := [(rA 4 7, .inl (cI, 61, .inl ((Γ 4).2.1 7)))]) (wr := (((b_e cB cC cI cJ cZ oA rA Γ ++ b_k cB cC cI cJ cZ oA rA Γ ++ b_p cB cC cI cJ cZ oA rA Γ ++ b_o cB cC cI cJ cZ oA rA Γ ++ b_s cB cC cI cJ cZ oA rA Γ ++ b_c cB cC cI cJ cZ oA rA Γ ++ b_t cB cC cI cJ cZ oA rA Γ ++ b_d cB cC cI cJ cZ oA rA Γ)).eraseIdx 27)) hP (hDD Γ) hS hFc [27] ((List.range ((b_e cB cC cI cJ cZ oA rA Γ ++ b_k cB cC cI cJ cZ oA rA Γ ++ b_p cB cC cI cJ cZ oA rA Γ ++ b_o cB cC cI cJ cZ oA rA Γ ++ b_s cB cC cI cJ cZ oA rA Γ ++ b_c cB cC cI cJ cZ oA rA Γ ++ b_t cB cC cI cJ cZ oA rA Γ ++ b_d cB cC cI cJ cZ oA rA Γ)).length).eraseIdx 27) (er_C hq9) er_R er_n er_d (va_runSN (As := [.ref (rA 4 7), .int p0]) (rest := []) ⟨hx, hb, hml, hown, hts⟩ (c_X11_at l dC dI cB cC cI cJ cZ cP s.heap.size (rA 4 7) p0 61 ((Γ 4).2.1 7) (by decide)) ⟨va_cnB 2 hts (g_gA wq_407) rfl rfl rfl (nw_31 hN) (hts (.initialized RX11) wq_1) (by decide +kernel) ⟨Nat.le_of_ble_eq_true rfl, Nat.le_of_ble_eq_true rfl⟩, (hts (.static yX11_at) wq_406), trivial⟩ (g_preS g_bl0 hK hPc hDc hS hE hFc g_to0) rfl rfl hl.1 rfl (lv_room (Nat.le_of_ble_eq_true rfl)) dX8_fits_8 ⟨Nat.le_of_ble_eq_true rfl, Nat.le_of_ble_eq_true rfl⟩) (fun r9 u9 H locs hw9 hP' hD' hS => ?_)
  clear hPc hDc hFc hD'
  have hP : va_P (dC, dI) vwCl (b_e cB cC cI cJ cZ oA rA Γ ++ b_k cB cC cI cJ cZ oA rA Γ ++ b_p cB cC cI cJ cZ oA rA Γ ++ b_o cB cC cI cJ cZ oA rA Γ ++ b_s cB cC cI cJ cZ oA rA Γ ++ b_c cB cC cI cJ cZ oA rA Γ ++ b_t cB cC cI cJ cZ oA rA Γ ++ b_d cB cC cI cJ cZ oA rA Γ) H := er_I hP' hq9
  clear hP' hq9
  subst hw9
  obtain ⟨x_1, ex_1, hF_2⟩ := bnd_e hF
  clear hF
  refine m_top ex_1 ?_
  refine lv_istore_n (lv' := [(2, .int x_1), (0, .ref (oA 11)), (1, .int p0)]) hx hb dX8_fits_11 rfl hl (by decide) rfl (fun ls hl => ?_)
  refine lv_aload_n hx hb dX8_fits_12 rfl (lv_at hl 1 rfl) ?_
  refine lv_aload_n hx hb dX8_fits_13 rfl (lv_at hl 1 rfl) ?_
  refine va_get (D := (dC, dI)) (ci := 8) (v := .int ((Γ 11).1 7)) (C := RX8) (T := TX8) (N := 16) hx hb hts ii_X8 hown hK hP 0 rfl rfl 7 (by decide) (hts (.fieldLink RX8 50 "StoryHouse$Teller" "termCount" "I") wq_294) (fun _ h9 => h9) rfl dX8_fits_14 ?_
  obtain ⟨σ_3, eσ_3, hF_4⟩ := bnd_e hF_2
  clear hF_2
  refine va_put (D := (dC, dI)) (ci := 8) (v := .int ((Γ 11).1 7)) (ty := .int) (C := RX8) (T := TX8) (N := 16) hx hb hts ii_X8 tyX8 tyX8_ok nmX8 hown hK hP (hDD _) hS 0 rfl rfl 9 (by decide) (hts (.fieldLink RX8 156 "StoryHouse$Teller" "joint" "I") wq_296) (fun _ h9 => h9) rfl (by decide +kernel) rfl rfl (Nat.le_of_ble_eq_true rfl) dX8_fits_17 (fun H locs hP' _ hS => ?_)
  have hP : va_P (dC, dI) vwCl (b_e cB cC cI cJ cZ oA rA σ_3 ++ b_k cB cC cI cJ cZ oA rA σ_3 ++ b_p cB cC cI cJ cZ oA rA σ_3 ++ b_o cB cC cI cJ cZ oA rA σ_3 ++ b_s cB cC cI cJ cZ oA rA σ_3 ++ b_c cB cC cI cJ cZ oA rA σ_3 ++ b_t cB cC cI cJ cZ oA rA σ_3 ++ b_d cB cC cI cJ cZ oA rA σ_3) H := by rw [eσ_3]; exact cs_ekposctd_e_9 ▸ hP'
  clear hP'
  refine lv_iload_n hx hb dX8_fits_20 rfl (lv_at hl 0 rfl) ?_
  refine lv_iconst (v := 2) hx hb dX8_fits_21 (by decide +kernel) ?_
  refine lv_icmp_eq (tgt := 59) hx hb dX8_fits_22 (by decide) (fun c_5 => ?_) (fun c_5 => ?_)
  · have hF_6 := ipos c_5 hF_4
    clear hF_4
    refine lv_iconst (v := 2) hx hb dX8_fits_59 (by decide +kernel) ?_
    refine lv_istore_n (lv' := [(3, .int 2), (2, .int x_1), (0, .ref (oA 11)), (1, .int p0)]) hx hb dX8_fits_60 rfl hl (by decide) rfl (fun ls hl => ?_)
    refine loopF_ind (P := fun (s_7 : Int32 × HS) => ∀ (H : Heap) (locs : List Loc), va_P (dC, dI) vwCl (b_e cB cC cI cJ cZ oA rA s_7.2 ++ b_k cB cC cI cJ cZ oA rA s_7.2 ++ b_p cB cC cI cJ cZ oA rA s_7.2 ++ b_o cB cC cI cJ cZ oA rA s_7.2 ++ b_s cB cC cI cJ cZ oA rA s_7.2 ++ b_c cB cC cI cJ cZ oA rA s_7.2 ++ b_t cB cC cI cJ cZ oA rA s_7.2 ++ b_d cB cC cI cJ cZ oA rA s_7.2) H → va_S A s.heap H locs → ∀ ls : Array Slot, lv_has ls 4 [(0, .ref (oA 11)), (1, .int p0), (3, .int s_7.1)] → W p l e (headSpec (g_ws yX8_fits cX8_fits 4 (some .boolean)) { frames := 4, cells := 0, slots := 0, locals := 102 }).room s m ([.ref (oA 11), .int p0] : List Value).toArray below meth c H locs 0 0 (MQ below (va_Qi (fun r (_ : Unit) => r = res.1) (g_Bo (dC, dI) A (fun (_ : Unit) => (b_e cB cC cI cJ cZ oA rA res.2 ++ b_k cB cC cI cJ cZ oA rA res.2 ++ b_p cB cC cI cJ cZ oA rA res.2 ++ b_o cB cC cI cJ cZ oA rA res.2 ++ b_s cB cC cI cJ cZ oA rA res.2 ++ b_c cB cC cI cJ cZ oA rA res.2 ++ b_t cB cC cI cJ cZ oA rA res.2 ++ b_d cB cC cI cJ cZ oA rA res.2))) A) ([.ref (oA 11), .int p0] : List Value).toArray s 0 0 A) (F0 m 61 ls [])) ?_ _ _ hF_6 _ _ hP hS ls (lv_sub hl [2, 3, 0] rfl)
    intro again_8 s_7 ih_9 hF_10
    intro H locs hP hS ls hl
    refine lv_iload_n hx hb dX8_fits_61 rfl (lv_at hl 2 rfl) ?_
    refine lv_aload_n hx hb dX8_fits_62 rfl (lv_at hl 0 rfl) ?_
    refine va_get (D := (dC, dI)) (ci := 8) (v := .int ((s_7.2 11).1 7)) (C := RX8) (T := TX8) (N := 16) hx hb hts ii_X8 hown hK hP 0 rfl rfl 7 (by decide) (hts (.fieldLink RX8 50 "StoryHouse$Teller" "termCount" "I") wq_294) (fun _ h9 => h9) rfl dX8_fits_63 ?_
    refine lv_iconst (v := 1) hx hb dX8_fits_66 (by decide +kernel) ?_
    refine lv_isub hx hb dX8_fits_67 ?_
    refine lv_icmp_ge (tgt := 103) hx hb dX8_fits_68 (by decide) (fun c_11 => ?_) (fun c_11 => ?_)
    · have hF_12 := ipos c_11 hF_10
      clear hF_10
      refine lv_iconst (v := 0) hx hb dX8_fits_103 (by decide +kernel) ?_
      have h9 := Option.some.inj hF_12
      subst h9
      exact W.zret (v := 0) hx hb hr (by decide +kernel) (fun t ht hW => ⟨⟨0, (), rfl, rfl, m_end ht hP, hDD _⟩, hS.F ht⟩) hS.2.2 dX8_fits_104
    · have hF_13 := ineg c_11 hF_10
      clear hF_10
      refine lv_aload_n hx hb dX8_fits_71 rfl (lv_at hl 0 rfl) ?_
      refine lv_iload_n hx hb dX8_fits_72 rfl (lv_at hl 2 rfl) ?_
      obtain ⟨u_14, hu_14, hF_15⟩ := Option.bind_eq_some_iff.mp hF_13
      clear hF_13
      have hPc := bx_P (bs := [b_e cB cC cI cJ cZ oA rA s_7.2, b_k cB cC cI cJ cZ oA rA s_7.2, b_p cB cC cI cJ cZ oA rA s_7.2, b_o cB cC cI cJ cZ oA rA s_7.2, b_s cB cC cI cJ cZ oA rA s_7.2, b_c cB cC cI cJ cZ oA rA s_7.2, b_t cB cC cI cJ cZ oA rA s_7.2, b_d cB cC cI cJ cZ oA rA s_7.2]) (bs' := [b_e cB cC cI cJ cZ oA rA s_7.2, b_k cB cC cI cJ cZ oA rA s_7.2, b_p cB cC cI cJ cZ oA rA s_7.2, b_o cB cC cI cJ cZ oA rA s_7.2, b_s cB cC cI cJ cZ oA rA s_7.2, b_c cB cC cI cJ cZ oA rA s_7.2, b_t cB cC cI cJ cZ oA rA s_7.2, b_d cB cC cI cJ cZ oA rA s_7.2]) (ws' := (b_e cB cC cI cJ cZ oA rA s_7.2 ++ b_k cB cC cI cJ cZ oA rA s_7.2 ++ b_p cB cC cI cJ cZ oA rA s_7.2 ++ b_o cB cC cI cJ cZ oA rA s_7.2 ++ b_s cB cC cI cJ cZ oA rA s_7.2 ++ b_c cB cC cI cJ cZ oA rA s_7.2 ++ b_t cB cC cI cJ cZ oA rA s_7.2 ++ b_d cB cC cI cJ cZ oA rA s_7.2)) hP fl_8 fl_8 [0, 1, 2, 3, 4, 5, 6, 7] rfl
      have hDc := bx_D (bs := [b_e cB cC cI cJ cZ oA rA s_7.2, b_k cB cC cI cJ cZ oA rA s_7.2, b_p cB cC cI cJ cZ oA rA s_7.2, b_o cB cC cI cJ cZ oA rA s_7.2, b_s cB cC cI cJ cZ oA rA s_7.2, b_c cB cC cI cJ cZ oA rA s_7.2, b_t cB cC cI cJ cZ oA rA s_7.2, b_d cB cC cI cJ cZ oA rA s_7.2]) (bs' := [b_e cB cC cI cJ cZ oA rA s_7.2, b_k cB cC cI cJ cZ oA rA s_7.2, b_p cB cC cI cJ cZ oA rA s_7.2, b_o cB cC cI cJ cZ oA rA s_7.2, b_s cB cC cI cJ cZ oA rA s_7.2, b_c cB cC cI cJ cZ oA rA s_7.2, b_t cB cC cI cJ cZ oA rA s_7.2, b_d cB cC cI cJ cZ oA rA s_7.2]) (ws' := (b_e cB cC cI cJ cZ oA rA s_7.2 ++ b_k cB cC cI cJ cZ oA rA s_7.2 ++ b_p cB cC cI cJ cZ oA rA s_7.2 ++ b_o cB cC cI cJ cZ oA rA s_7.2 ++ b_s cB cC cI cJ cZ oA rA s_7.2 ++ b_c cB cC cI cJ cZ oA rA s_7.2 ++ b_t cB cC cI cJ cZ oA rA s_7.2 ++ b_d cB cC cI cJ cZ oA rA s_7.2)) (hDD s_7.2) fl_8 fl_8 [0, 1, 2, 3, 4, 5, 6, 7] (by decide +kernel) rfl
      have hFc := bx_F (bs := [b_e cB cC cI cJ cZ oA rA s_7.2, b_k cB cC cI cJ cZ oA rA s_7.2, b_p cB cC cI cJ cZ oA rA s_7.2, b_o cB cC cI cJ cZ oA rA s_7.2, b_s cB cC cI cJ cZ oA rA s_7.2, b_c cB cC cI cJ cZ oA rA s_7.2, b_t cB cC cI cJ cZ oA rA s_7.2, b_d cB cC cI cJ cZ oA rA s_7.2]) (bs' := [b_e cB cC cI cJ cZ oA rA s_7.2, b_k cB cC cI cJ cZ oA rA s_7.2, b_p cB cC cI cJ cZ oA rA s_7.2, b_o cB cC cI cJ cZ oA rA s_7.2, b_s cB cC cI cJ cZ oA rA s_7.2, b_c cB cC cI cJ cZ oA rA s_7.2, b_t cB cC cI cJ cZ oA rA s_7.2, b_d cB cC cI cJ cZ oA rA s_7.2]) (wc := (b_e cB cC cI cJ cZ oA rA s_7.2 ++ b_k cB cC cI cJ cZ oA rA s_7.2 ++ b_p cB cC cI cJ cZ oA rA s_7.2 ++ b_o cB cC cI cJ cZ oA rA s_7.2 ++ b_s cB cC cI cJ cZ oA rA s_7.2 ++ b_c cB cC cI cJ cZ oA rA s_7.2 ++ b_t cB cC cI cJ cZ oA rA s_7.2 ++ b_d cB cC cI cJ cZ oA rA s_7.2)) (hDD s_7.2) hS hA fl_8 fl_8 [0, 1, 2, 3, 4, 5, 6, 7] rfl
      refine g_ofi (wc := (b_e cB cC cI cJ cZ oA rA s_7.2 ++ b_k cB cC cI cJ cZ oA rA s_7.2 ++ b_p cB cC cI cJ cZ oA rA s_7.2 ++ b_o cB cC cI cJ cZ oA rA s_7.2 ++ b_s cB cC cI cJ cZ oA rA s_7.2 ++ b_c cB cC cI cJ cZ oA rA s_7.2 ++ b_t cB cC cI cJ cZ oA rA s_7.2 ++ b_d cB cC cI cJ cZ oA rA s_7.2)) (wr := ([] : va_W)) hP (hDD s_7.2) hS hFc (bx_ix [b_e cB cC cI cJ cZ oA rA s_7.2, b_k cB cC cI cJ cZ oA rA s_7.2, b_p cB cC cI cJ cZ oA rA s_7.2, b_o cB cC cI cJ cZ oA rA s_7.2, b_s cB cC cI cJ cZ oA rA s_7.2, b_c cB cC cI cJ cZ oA rA s_7.2, b_t cB cC cI cJ cZ oA rA s_7.2, b_d cB cC cI cJ cZ oA rA s_7.2] [0, 1, 2, 3, 4, 5, 6, 7]) (bx_ix [b_e cB cC cI cJ cZ oA rA s_7.2, b_k cB cC cI cJ cZ oA rA s_7.2, b_p cB cC cI cJ cZ oA rA s_7.2, b_o cB cC cI cJ cZ oA rA s_7.2, b_s cB cC cI cJ cZ oA rA s_7.2, b_c cB cC cI cJ cZ oA rA s_7.2, b_t cB cC cI cJ cZ oA rA s_7.2, b_d cB cC cI cJ cZ oA rA s_7.2] []) (bx_C (bs := [b_e cB cC cI cJ cZ oA rA s_7.2, b_k cB cC cI cJ cZ oA rA s_7.2, b_p cB cC cI cJ cZ oA rA s_7.2, b_o cB cC cI cJ cZ oA rA s_7.2, b_s cB cC cI cJ cZ oA rA s_7.2, b_c cB cC cI cJ cZ oA rA s_7.2, b_t cB cC cI cJ cZ oA rA s_7.2, b_d cB cC cI cJ cZ oA rA s_7.2]) (bs' := [b_e cB cC cI cJ cZ oA rA s_7.2, b_k cB cC cI cJ cZ oA rA s_7.2, b_p cB cC cI cJ cZ oA rA s_7.2, b_o cB cC cI cJ cZ oA rA s_7.2, b_s cB cC cI cJ cZ oA rA s_7.2, b_c cB cC cI cJ cZ oA rA s_7.2, b_t cB cC cI cJ cZ oA rA s_7.2, b_d cB cC cI cJ cZ oA rA s_7.2]) (is := [0, 1, 2, 3, 4, 5, 6, 7]) fl_8 fl_8 rfl) (bx_C (bs := [b_e cB cC cI cJ cZ oA rA s_7.2, b_k cB cC cI cJ cZ oA rA s_7.2, b_p cB cC cI cJ cZ oA rA s_7.2, b_o cB cC cI cJ cZ oA rA s_7.2, b_s cB cC cI cJ cZ oA rA s_7.2, b_c cB cC cI cJ cZ oA rA s_7.2, b_t cB cC cI cJ cZ oA rA s_7.2, b_d cB cC cI cJ cZ oA rA s_7.2]) (bs' := []) (is := []) fl_8 fl_0 rfl) (bx_n (by decide +kernel)) (bx_d (by decide +kernel)) (va_runV (As := [.int s_7.1]) (rest := []) ⟨hx, hb, hml, hown, hts⟩ (k_X8_term l dC dI cB cC cI cJ cZ cP oA rA H.size  s_7.1 s_7.2 _ hu_14) (cwV 1 hts (g_gV wq_1065 wq_1066 wq_2074 wq_12 wq_1067) rfl rfl rfl (by decide +kernel) ⟨Nat.le_of_ble_eq_true rfl, Nat.le_of_ble_eq_true rfl⟩) (g_preV g_bl0 hK hPc hDc hS hE hFc g_to0 (q0 := 0) (ci := 8) rfl rfl) rfl rfl hl.1 rfl (lv_room (Nat.le_of_ble_eq_true rfl)) dX8_fits_73 ⟨Nat.le_of_ble_eq_true rfl, Nat.le_of_ble_eq_true rfl⟩) (fun r9 u9 H locs hw9 hP' hD' hS => ?_)
      clear hPc hDc hFc
      subst hw9
      have hP : va_P (dC, dI) vwCl (b_e cB cC cI cJ cZ oA rA u_14.2 ++ b_k cB cC cI cJ cZ oA rA u_14.2 ++ b_p cB cC cI cJ cZ oA rA u_14.2 ++ b_o cB cC cI cJ cZ oA rA u_14.2 ++ b_s cB cC cI cJ cZ oA rA u_14.2 ++ b_c cB cC cI cJ cZ oA rA u_14.2 ++ b_t cB cC cI cJ cZ oA rA u_14.2 ++ b_d cB cC cI cJ cZ oA rA u_14.2) H := hP'
      clear hP' hD'
      refine lv_aload_n hx hb dX8_fits_76 rfl (lv_at hl 0 rfl) ?_
      refine va_get (D := (dC, dI)) (ci := 8) (v := .ref (oA 4)) (C := RX8) (T := TX8) (N := 16) hx hb hts ii_X8 hown hK hP 0 rfl rfl 3 (by decide) (hts (.fieldLink RX8 85 "StoryHouse$Teller" "story" "LStoryHouse$Story;") wq_290) (fun _ h9 => h9) rfl dX8_fits_77 ?_
      refine va_get (D := (dC, dI)) (ci := 7) (v := .ref (rA 4 8)) (C := RX7) (T := TX7) (N := 19) hx hb hts ii_X7 hown hK hP 19 rfl rfl 8 (by decide) (hts (.fieldLink RX8 159 "StoryHouse$Story" "joints" "[I") wq_174) (fun _ h9 => h9) rfl dX8_fits_80 ?_
      refine lv_iload_n hx hb dX8_fits_83 rfl (lv_at hl 1 rfl) ?_
      have hq9 : ((b_e cB cC cI cJ cZ oA rA u_14.2 ++ b_k cB cC cI cJ cZ oA rA u_14.2 ++ b_p cB cC cI cJ cZ oA rA u_14.2 ++ b_o cB cC cI cJ cZ oA rA u_14.2 ++ b_s cB cC cI cJ cZ oA rA u_14.2 ++ b_c cB cC cI cJ cZ oA rA u_14.2 ++ b_t cB cC cI cJ cZ oA rA u_14.2 ++ b_d cB cC cI cJ cZ oA rA u_14.2))[28]? = some (rA 4 8, .inl (cI, 61, .inl ((u_14.2 4).2.1 8))) := rfl
      have hPc := hP.sub (ws' := [(rA 4 8, .inl (cI, 61, .inl ((u_14.2 4).2.1 8)))]) [28] (pk_fm (er_C hq9))
      have hDc := (hDD u_14.2).sub (ws' := [(rA 4 8, .inl (cI, 61, .inl ((u_14.2 4).2.1 8)))]) [28] (by decide +kernel) (er_C hq9)
      have hFc := va_free (wc := [(rA 4 8, .inl (cI, 61, .inl ((u_14.2 4).2.1 8)))]) (hDD u_14.2) hS hA [28] (er_C hq9)
      refine g_ofi (wc := [(rA 4 8, .inl (cI, 61, .inl ((u_14.2 4).2.1 8)))]) (wr := (((b_e cB cC cI cJ cZ oA rA u_14.2 ++ b_k cB cC cI cJ cZ oA rA u_14.2 ++ b_p cB cC cI cJ cZ oA rA u_14.2 ++ b_o cB cC cI cJ cZ oA rA u_14.2 ++ b_s cB cC cI cJ cZ oA rA u_14.2 ++ b_c cB cC cI cJ cZ oA rA u_14.2 ++ b_t cB cC cI cJ cZ oA rA u_14.2 ++ b_d cB cC cI cJ cZ oA rA u_14.2)).eraseIdx 28)) hP (hDD u_14.2) hS hFc [28] ((List.range ((b_e cB cC cI cJ cZ oA rA u_14.2 ++ b_k cB cC cI cJ cZ oA rA u_14.2 ++ b_p cB cC cI cJ cZ oA rA u_14.2 ++ b_o cB cC cI cJ cZ oA rA u_14.2 ++ b_s cB cC cI cJ cZ oA rA u_14.2 ++ b_c cB cC cI cJ cZ oA rA u_14.2 ++ b_t cB cC cI cJ cZ oA rA u_14.2 ++ b_d cB cC cI cJ cZ oA rA u_14.2)).length).eraseIdx 28) (er_C hq9) er_R er_n er_d (va_runSN (As := [.ref (rA 4 8), .int p0]) (rest := [.int u_14.1]) ⟨hx, hb, hml, hown, hts⟩ (c_X11_at l dC dI cB cC cI cJ cZ cP H.size (rA 4 8) p0 61 ((u_14.2 4).2.1 8) (by decide)) ⟨va_cnB 2 hts (g_gA wq_407) rfl rfl rfl (nw_31 hN) (hts (.initialized RX11) wq_1) (by decide +kernel) ⟨Nat.le_of_ble_eq_true rfl, Nat.le_of_ble_eq_true rfl⟩, (hts (.static yX11_at) wq_406), trivial⟩ (g_preS g_bl0 hK hPc hDc hS hE hFc g_to0) rfl rfl hl.1 rfl (lv_room (Nat.le_of_ble_eq_true rfl)) dX8_fits_84 ⟨Nat.le_of_ble_eq_true rfl, Nat.le_of_ble_eq_true rfl⟩) (fun r9 u9 H locs hw9 hP' hD' hS => ?_)
      clear hPc hDc hFc hD'
      have hP : va_P (dC, dI) vwCl (b_e cB cC cI cJ cZ oA rA u_14.2 ++ b_k cB cC cI cJ cZ oA rA u_14.2 ++ b_p cB cC cI cJ cZ oA rA u_14.2 ++ b_o cB cC cI cJ cZ oA rA u_14.2 ++ b_s cB cC cI cJ cZ oA rA u_14.2 ++ b_c cB cC cI cJ cZ oA rA u_14.2 ++ b_t cB cC cI cJ cZ oA rA u_14.2 ++ b_d cB cC cI cJ cZ oA rA u_14.2) H := er_I hP' hq9
      clear hP' hq9
      subst hw9
      obtain ⟨x_16, ex_16, hF_17⟩ := bnd_e hF_15
      clear hF_15
      refine m_top ex_16 ?_
      refine lv_icmp_ne (tgt := 97) hx hb dX8_fits_87 (by decide) (fun c_18 => ?_) (fun c_18 => ?_)
      · have hF_22 := ineg c_18 hF_17
        clear hF_17
        obtain ⟨x_23, ex_23, hF_24⟩ := bnd_e hF_22
        clear hF_22
        refine lv_iinc (v := x_23) (lv' := [(3, .int x_23), (0, .ref (oA 11)), (1, .int p0)]) hx hb dX8_fits_97 hl (k := 2) rfl (by rw [ex_23]; rfl) (by decide) rfl (fun ls hl => ?_)
        refine lv_goto (tgt := 61) hx hb dX8_fits_100 (by decide) ?_
        exact ih_9 (x_23, u_14.2) hF_24 _ _ hP hS ls (lv_sub hl [1, 2, 0] rfl)
      · have hF_19 := ipos c_18 hF_17
        clear hF_17
        refine lv_aload_n hx hb dX8_fits_90 rfl (lv_at hl 0 rfl) ?_
        refine lv_iload_n hx hb dX8_fits_91 rfl (lv_at hl 2 rfl) ?_
        obtain ⟨σ_20, eσ_20, hF_21⟩ := bnd_e hF_19
        clear hF_19
        refine va_put (D := (dC, dI)) (ci := 8) (v := .int s_7.1) (ty := .int) (C := RX8) (T := TX8) (N := 16) hx hb hts ii_X8 tyX8 tyX8_ok nmX8 hown hK hP (hDD _) hS 0 rfl rfl 9 (by decide) (hts (.fieldLink RX8 156 "StoryHouse$Teller" "joint" "I") wq_296) (fun _ h9 => h9) rfl (by decide +kernel) rfl rfl (Nat.le_of_ble_eq_true rfl) dX8_fits_92 (fun H locs hP' _ hS => ?_)
        have hP : va_P (dC, dI) vwCl (b_e cB cC cI cJ cZ oA rA σ_20 ++ b_k cB cC cI cJ cZ oA rA σ_20 ++ b_p cB cC cI cJ cZ oA rA σ_20 ++ b_o cB cC cI cJ cZ oA rA σ_20 ++ b_s cB cC cI cJ cZ oA rA σ_20 ++ b_c cB cC cI cJ cZ oA rA σ_20 ++ b_t cB cC cI cJ cZ oA rA σ_20 ++ b_d cB cC cI cJ cZ oA rA σ_20) H := by rw [eσ_20]; exact cs_ekposctd_e_9 ▸ hP'
        clear hP'
        refine lv_iconst (v := 1) hx hb dX8_fits_95 (by decide +kernel) ?_
        have h9 := Option.some.inj hF_21
        subst h9
        exact W.zret (v := 1) hx hb hr (by decide +kernel) (fun t ht hW => ⟨⟨1, (), rfl, rfl, m_end ht hP, hDD _⟩, hS.F ht⟩) hS.2.2 dX8_fits_96
  · have hF_25 := ineg c_5 hF_4
    clear hF_4
    refine lv_iload_n hx hb dX8_fits_25 rfl (lv_at hl 0 rfl) ?_
    refine lv_if_ne (tgt := 45) hx hb dX8_fits_26 (by decide) (fun c_26 => ?_) (fun c_26 => ?_)
    · have hF_31 := ineg c_26 hF_25
      clear hF_25
      refine lv_aload_n hx hb dX8_fits_45 rfl (lv_at hl 1 rfl) ?_
      refine va_get (D := (dC, dI)) (ci := 8) (v := .int ((σ_3 11).1 7)) (C := RX8) (T := TX8) (N := 16) hx hb hts ii_X8 hown hK hP 0 rfl rfl 7 (by decide) (hts (.fieldLink RX8 50 "StoryHouse$Teller" "termCount" "I") wq_294) (fun _ h9 => h9) rfl dX8_fits_46 ?_
      refine lv_iconst (v := 1) hx hb dX8_fits_49 (by decide +kernel) ?_
      refine lv_icmp_le (tgt := 57) hx hb dX8_fits_50 (by decide) (fun c_32 => ?_) (fun c_32 => ?_)
      · have hF_33 := ipos c_32 hF_31
        clear hF_31
        refine lv_iconst (v := 0) hx hb dX8_fits_57 (by decide +kernel) ?_
        have h9 := Option.some.inj hF_33
        subst h9
        exact W.zret (v := 0) hx hb hr (by decide +kernel) (fun t ht hW => ⟨⟨0, (), rfl, rfl, m_end ht hP, hDD _⟩, hS.F ht⟩) hS.2.2 dX8_fits_58
      · have hF_34 := ineg c_32 hF_31
        clear hF_31
        refine lv_iconst (v := 1) hx hb dX8_fits_53 (by decide +kernel) ?_
        refine lv_goto (tgt := 58) hx hb dX8_fits_54 (by decide) ?_
        have h9 := Option.some.inj hF_34
        subst h9
        exact W.zret (v := 1) hx hb hr (by decide +kernel) (fun t ht hW => ⟨⟨1, (), rfl, rfl, m_end ht hP, hDD _⟩, hS.F ht⟩) hS.2.2 dX8_fits_58
    · have hF_27 := ipos c_26 hF_25
      clear hF_25
      refine lv_aload_n hx hb dX8_fits_29 rfl (lv_at hl 1 rfl) ?_
      refine va_get (D := (dC, dI)) (ci := 8) (v := .int ((σ_3 11).1 7)) (C := RX8) (T := TX8) (N := 16) hx hb hts ii_X8 hown hK hP 0 rfl rfl 7 (by decide) (hts (.fieldLink RX8 50 "StoryHouse$Teller" "termCount" "I") wq_294) (fun _ h9 => h9) rfl dX8_fits_30 ?_
      refine lv_iconst (v := 1) hx hb dX8_fits_33 (by decide +kernel) ?_
      refine lv_icmp_ne (tgt := 41) hx hb dX8_fits_34 (by decide) (fun c_28 => ?_) (fun c_28 => ?_)
      · have hF_30 := ineg c_28 hF_27
        clear hF_27
        refine lv_iconst (v := 0) hx hb dX8_fits_41 (by decide +kernel) ?_
        refine lv_goto (tgt := 58) hx hb dX8_fits_42 (by decide) ?_
        have h9 := Option.some.inj hF_30
        subst h9
        exact W.zret (v := 0) hx hb hr (by decide +kernel) (fun t ht hW => ⟨⟨0, (), rfl, rfl, m_end ht hP, hDD _⟩, hS.F ht⟩) hS.2.2 dX8_fits_58
      · have hF_29 := ipos c_28 hF_27
        clear hF_27
        refine lv_iconst (v := 1) hx hb dX8_fits_37 (by decide +kernel) ?_
        refine lv_goto (tgt := 58) hx hb dX8_fits_38 (by decide) ?_
        have h9 := Option.some.inj hF_29
        subst h9
        exact W.zret (v := 1) hx hb hr (by decide +kernel) (fun t ht hW => ⟨⟨1, (), rfl, rfl, m_end ht hP, hDD _⟩, hS.F ht⟩) hS.2.2 dX8_fits_58
