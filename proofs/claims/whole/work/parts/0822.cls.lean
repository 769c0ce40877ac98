/-! methods of the class: what each does is its function -/
theorem dX3_run_0 : decode cX3_run 0 = .ok (.aload_n 0, 1) := by decide +kernel
theorem dX3_run_1 : decode cX3_run 1 = .ok (.aload_n 0, 1) := by decide +kernel
theorem dX3_run_2 : decode cX3_run 2 = .ok (.getfield 52, 3) := by decide +kernel
theorem dX3_run_5 : decode cX3_run 5 = .ok (.getfield 56, 3) := by decide +kernel
theorem dX3_run_8 : decode cX3_run 8 = .ok (.iload_n 1, 1) := by decide +kernel
theorem dX3_run_9 : decode cX3_run 9 = .ok (.invokevirtual 62, 3) := by decide +kernel
theorem dX3_run_12 : decode cX3_run 12 = .ok (.putfield 68, 3) := by decide +kernel
theorem dX3_run_15 : decode cX3_run 15 = .ok (.aload_n 0, 1) := by decide +kernel
theorem dX3_run_16 : decode cX3_run 16 = .ok (.iconst 0, 1) := by decide +kernel
theorem dX3_run_17 : decode cX3_run 17 = .ok (.putfield 46, 3) := by decide +kernel
theorem dX3_run_20 : decode cX3_run 20 = .ok (.aload_n 0, 1) := by decide +kernel
theorem dX3_run_21 : decode cX3_run 21 = .ok (.bipush 14, 2) := by decide +kernel
theorem dX3_run_23 : decode cX3_run 23 = .ok (.putfield 49, 3) := by decide +kernel
theorem dX3_run_26 : decode cX3_run 26 = .ok (.aload_n 0, 1) := by decide +kernel
theorem dX3_run_27 : decode cX3_run 27 = .ok (.iconst 0, 1) := by decide +kernel
theorem dX3_run_28 : decode cX3_run 28 = .ok (.putfield 43, 3) := by decide +kernel
theorem dX3_run_31 : decode cX3_run 31 = .ok (.aload_n 0, 1) := by decide +kernel
theorem dX3_run_32 : decode cX3_run 32 = .ok (.iconst 0, 1) := by decide +kernel
theorem dX3_run_33 : decode cX3_run 33 = .ok (.putfield 21, 3) := by decide +kernel
theorem dX3_run_36 : decode cX3_run 36 = .ok (.iconst 0, 1) := by decide +kernel
theorem dX3_run_37 : decode cX3_run 37 = .ok (.istore_n 2, 1) := by decide +kernel
theorem dX3_run_38 : decode cX3_run 38 = .ok (.iload_n 2, 1) := by decide +kernel
theorem dX3_run_39 : decode cX3_run 39 = .ok (.ldc 71, 2) := by decide +kernel
theorem dX3_run_41 : decode cX3_run 41 = .ok (.if_icmp .ge 143, 3) := by decide +kernel
theorem dX3_run_44 : decode cX3_run 44 = .ok (.aload_n 0, 1) := by decide +kernel
theorem dX3_run_45 : decode cX3_run 45 = .ok (.getfield 21, 3) := by decide +kernel
theorem dX3_run_48 : decode cX3_run 48 = .ok (.ifCond .ne 136, 3) := by decide +kernel
theorem dX3_run_51 : decode cX3_run 51 = .ok (.aload_n 0, 1) := by decide +kernel
theorem dX3_run_52 : decode cX3_run 52 = .ok (.getfield 52, 3) := by decide +kernel
theorem dX3_run_55 : decode cX3_run 55 = .ok (.getfield 56, 3) := by decide +kernel
theorem dX3_run_58 : decode cX3_run 58 = .ok (.aload_n 0, 1) := by decide +kernel
theorem dX3_run_59 : decode cX3_run 59 = .ok (.getfield 68, 3) := by decide +kernel
theorem dX3_run_62 : decode cX3_run 62 = .ok (.invokevirtual 72, 3) := by decide +kernel
theorem dX3_run_65 : decode cX3_run 65 = .ok (.istore_n 3, 1) := by decide +kernel
theorem dX3_run_66 : decode cX3_run 66 = .ok (.aload_n 0, 1) := by decide +kernel
theorem dX3_run_67 : decode cX3_run 67 = .ok (.dup, 1) := by decide +kernel
theorem dX3_run_68 : decode cX3_run 68 = .ok (.getfield 68, 3) := by decide +kernel
theorem dX3_run_71 : decode cX3_run 71 = .ok (.iconst 1, 1) := by decide +kernel
theorem dX3_run_72 : decode cX3_run 72 = .ok (.iadd, 1) := by decide +kernel
theorem dX3_run_73 : decode cX3_run 73 = .ok (.putfield 68, 3) := by decide +kernel
theorem dX3_run_76 : decode cX3_run 76 = .ok (.iload_n 3, 1) := by decide +kernel
theorem dX3_run_77 : decode cX3_run 77 = .ok (.bipush 33, 2) := by decide +kernel
theorem dX3_run_79 : decode cX3_run 79 = .ok (.if_icmp .lt 39, 3) := by decide +kernel
theorem dX3_run_82 : decode cX3_run 82 = .ok (.aload_n 0, 1) := by decide +kernel
theorem dX3_run_83 : decode cX3_run 83 = .ok (.getfield 52, 3) := by decide +kernel
theorem dX3_run_86 : decode cX3_run 86 = .ok (.getfield 56, 3) := by decide +kernel
theorem dX3_run_89 : decode cX3_run 89 = .ok (.aload_n 0, 1) := by decide +kernel
theorem dX3_run_90 : decode cX3_run 90 = .ok (.getfield 68, 3) := by decide +kernel
theorem dX3_run_93 : decode cX3_run 93 = .ok (.invokevirtual 75, 3) := by decide +kernel
theorem dX3_run_96 : decode cX3_run 96 = .ok (.istore 4, 2) := by decide +kernel
theorem dX3_run_98 : decode cX3_run 98 = .ok (.aload_n 0, 1) := by decide +kernel
theorem dX3_run_99 : decode cX3_run 99 = .ok (.dup, 1) := by decide +kernel
theorem dX3_run_100 : decode cX3_run 100 = .ok (.getfield 68, 3) := by decide +kernel
theorem dX3_run_103 : decode cX3_run 103 = .ok (.iconst 2, 1) := by decide +kernel
theorem dX3_run_104 : decode cX3_run 104 = .ok (.iadd, 1) := by decide +kernel
theorem dX3_run_105 : decode cX3_run 105 = .ok (.putfield 68, 3) := by decide +kernel
theorem dX3_run_108 : decode cX3_run 108 = .ok (.aload_n 0, 1) := by decide +kernel
theorem dX3_run_109 : decode cX3_run 109 = .ok (.iload_n 3, 1) := by decide +kernel
theorem dX3_run_110 : decode cX3_run 110 = .ok (.iload 4, 2) := by decide +kernel
theorem dX3_run_112 : decode cX3_run 112 = .ok (.invokevirtual 78, 3) := by decide +kernel
theorem dX3_run_115 : decode cX3_run 115 = .ok (.goto 63, 3) := by decide +kernel
theorem dX3_run_118 : decode cX3_run 118 = .ok (.iload_n 3, 1) := by decide +kernel
theorem dX3_run_119 : decode cX3_run 119 = .ok (.bipush 32, 2) := by decide +kernel
theorem dX3_run_121 : decode cX3_run 121 = .ok (.if_icmp .ne 10, 3) := by decide +kernel
theorem dX3_run_124 : decode cX3_run 124 = .ok (.aload_n 0, 1) := by decide +kernel
theorem dX3_run_125 : decode cX3_run 125 = .ok (.invokevirtual 82, 3) := by decide +kernel
theorem dX3_run_128 : decode cX3_run 128 = .ok (.goto 50, 3) := by decide +kernel
theorem dX3_run_131 : decode cX3_run 131 = .ok (.iload_n 3, 1) := by decide +kernel
theorem dX3_run_132 : decode cX3_run 132 = .ok (.bipush 27, 2) := by decide +kernel
theorem dX3_run_134 : decode cX3_run 134 = .ok (.if_icmp .lt 11, 3) := by decide +kernel
theorem dX3_run_137 : decode cX3_run 137 = .ok (.aload_n 0, 1) := by decide +kernel
theorem dX3_run_138 : decode cX3_run 138 = .ok (.iload_n 3, 1) := by decide +kernel
theorem dX3_run_139 : decode cX3_run 139 = .ok (.invokevirtual 85, 3) := by decide +kernel
theorem dX3_run_142 : decode cX3_run 142 = .ok (.goto 36, 3) := by decide +kernel
theorem dX3_run_145 : decode cX3_run 145 = .ok (.iload_n 3, 1) := by decide +kernel
theorem dX3_run_146 : decode cX3_run 146 = .ok (.bipush 21, 2) := by decide +kernel
theorem dX3_run_148 : decode cX3_run 148 = .ok (.if_icmp .lt 11, 3) := by decide +kernel
theorem dX3_run_151 : decode cX3_run 151 = .ok (.aload_n 0, 1) := by decide +kernel
theorem dX3_run_152 : decode cX3_run 152 = .ok (.iload_n 3, 1) := by decide +kernel
theorem dX3_run_153 : decode cX3_run 153 = .ok (.invokevirtual 89, 3) := by decide +kernel
theorem dX3_run_156 : decode cX3_run 156 = .ok (.goto 22, 3) := by decide +kernel
theorem dX3_run_159 : decode cX3_run 159 = .ok (.iload_n 3, 1) := by decide +kernel
theorem dX3_run_160 : decode cX3_run 160 = .ok (.bipush 10, 2) := by decide +kernel
theorem dX3_run_162 : decode cX3_run 162 = .ok (.if_icmp .lt 11, 3) := by decide +kernel
theorem dX3_run_165 : decode cX3_run 165 = .ok (.aload_n 0, 1) := by decide +kernel
theorem dX3_run_166 : decode cX3_run 166 = .ok (.iload_n 3, 1) := by decide +kernel
theorem dX3_run_167 : decode cX3_run 167 = .ok (.invokevirtual 92, 3) := by decide +kernel
theorem dX3_run_170 : decode cX3_run 170 = .ok (.goto 8, 3) := by decide +kernel
theorem dX3_run_173 : decode cX3_run 173 = .ok (.aload_n 0, 1) := by decide +kernel
theorem dX3_run_174 : decode cX3_run 174 = .ok (.iload_n 3, 1) := by decide +kernel
theorem dX3_run_175 : decode cX3_run 175 = .ok (.invokevirtual 95, 3) := by decide +kernel
theorem dX3_run_178 : decode cX3_run 178 = .ok (.iinc 2 1, 3) := by decide +kernel
theorem dX3_run_181 : decode cX3_run 181 = .ok (.goto (-143), 3) := by decide +kernel
theorem dX3_run_184 : decode cX3_run 184 = .ok (.aload_n 0, 1) := by decide +kernel
theorem dX3_run_185 : decode cX3_run 185 = .ok (.iconst 0, 1) := by decide +kernel
theorem dX3_run_186 : decode cX3_run 186 = .ok (.putfield 46, 3) := by decide +kernel
theorem dX3_run_189 : decode cX3_run 189 = .ok (.aload_n 0, 1) := by decide +kernel
theorem dX3_run_190 : decode cX3_run 190 = .ok (.iconst 0, 1) := by decide +kernel
theorem dX3_run_191 : decode cX3_run 191 = .ok (.putfield 49, 3) := by decide +kernel
theorem dX3_run_194 : decode cX3_run 194 = .ok (.aload_n 0, 1) := by decide +kernel
theorem dX3_run_195 : decode cX3_run 195 = .ok (.iconst 0, 1) := by decide +kernel
theorem dX3_run_196 : decode cX3_run 196 = .ok (.putfield 43, 3) := by decide +kernel
theorem dX3_run_199 : decode cX3_run 199 = .ok (.aload_n 0, 1) := by decide +kernel
theorem dX3_run_200 : decode cX3_run 200 = .ok (.getfield 21, 3) := by decide +kernel
theorem dX3_run_203 : decode cX3_run 203 = .ok (.ireturn, 1) := by decide +kernel
def F_X3_run (p0 : Int32) (Γ : HS) : HR :=
  (F_X0_beginOf p0 Γ).bind fun u_1 =>
  bnd (mrg (fun j => j == 5) Γ u_1.2) fun σ_3 =>
  bnd (cI' σ_3 10 9 u_1.1) fun σ_5 =>
  bnd (cI' σ_5 10 8 0) fun σ_7 =>
  bnd (cI' σ_7 10 7 14) fun σ_9 =>
  bnd (cI' σ_9 10 12 0) fun σ_11 =>
  bnd (cI' σ_11 10 14 0) fun σ_13 =>
  loopF (fun (again_16 : (Int32 × HS) → HR) (s_15 : Int32 × HS) => (
    bnd (fun  (σ_19 : HS) => (
      bnd (cI' σ_19 10 8 0) fun σ_23 =>
      bnd (cI' σ_23 10 7 0) fun σ_25 =>
      bnd (cI' σ_25 10 12 0) fun σ_27 =>
      some (((σ_27 10).1 14), σ_27)
    ) : HS → HR) fun j_20 =>
    if 1000000000 ≤ s_15.1 then (
      j_20  s_15.2
    ) else (
      if ((s_15.2 10).1 14) = 0 then (
        (F_X0_byteAt ((s_15.2 10).1 9) s_15.2).bind fun u_34 =>
        bnd (mrg (fun j => j == 5) s_15.2 u_34.2) fun σ_36 =>
        bnd (cI' σ_36 10 9 (((σ_36 10).1 9) + 1)) fun σ_38 =>
        bnd (fun  (σ_40 : HS) => (
          bnd (s_15.1 + 1) fun (x_44 : Int32) =>
          again_16 (x_44, σ_40)
        ) : HS → HR) fun j_41 =>
        if u_34.1 < 33 then (
          if u_34.1 = 32 then (
            (F_X3_moveOp σ_38).bind fun u_50 =>
            j_41  u_50.2
          ) else (
            if u_34.1 < 27 then (
              if u_34.1 < 21 then (
                if u_34.1 < 10 then (
                  (F_X3_flowOp u_34.1 σ_38).bind fun u_59 =>
                  j_41  u_59.2
                ) else (
                  (F_X3_numberOp u_34.1 σ_38).bind fun u_62 =>
                  j_41  u_62.2
                )
              ) else (
                (F_X3_objectOp u_34.1 σ_38).bind fun u_65 =>
                j_41  u_65.2
              )
            ) else (
              (F_X3_worldOp u_34.1 σ_38).bind fun u_68 =>
              j_41  u_68.2
            )
          )
        ) else (
          (F_X0_pairAt ((σ_38 10).1 9) σ_38).bind fun u_71 =>
          bnd (mrg (fun j => j == 5) σ_38 u_71.2) fun σ_73 =>
          bnd (cI' σ_73 10 9 (((σ_73 10).1 9) + 2)) fun σ_75 =>
          (F_X3_wideOp u_34.1 u_71.1 σ_75).bind fun u_77 =>
          j_41  u_77.2
        )
      ) else (
        j_20  s_15.2
      )
    )
  )) FU (0, σ_13)
set_option maxHeartbeats 4000000 in
set_option maxRecDepth 100000 in
theorem k_X3_run (l : Launch) (dC : Nat → ClassId) (dI : Nat → Nat → Nat) (cB cC cI cJ cZ cP : ClassId) (oA : Nat → Nat) (rA : Nat → Nat → Nat) (sz : Nat)  (p0 : Int32) (Γ : HS) (res : Int32 × HS) (hF : F_X3_run p0 Γ = some res) : Met l yX3_run (g_ws yX3_run cX3_run 5 (some .int)) ({ frames := 9, cells := 0, slots := 0, locals := 221 }) (va_Pc [.ref (oA 10), .int p0] (g_B (dC, dI) [(cB, .byte), (cC, .char), (cI, .int), (cJ, .long), (cZ, .boolean), (cP, .object "StoryHouse$Play")] sz (b_k cB cC cI cJ cZ oA rA Γ ++ b_p cB cC cI cJ cZ oA rA Γ ++ b_o cB cC cI cJ cZ oA rA Γ ++ b_s cB cC cI cJ cZ oA rA Γ ++ b_c cB cC cI cJ cZ oA rA Γ ++ b_t cB cC cI cJ cZ oA rA Γ ++ b_d cB cC cI cJ cZ oA rA Γ) g_0)) (va_Qi (fun r (_ : Unit) => r = res.1) (g_Bo (dC, dI) (va_A (b_k cB cC cI cJ cZ oA rA Γ ++ b_p cB cC cI cJ cZ oA rA Γ ++ b_o cB cC cI cJ cZ oA rA Γ ++ b_s cB cC cI cJ cZ oA rA Γ ++ b_c cB cC cI cJ cZ oA rA Γ ++ b_t cB cC cI cJ cZ oA rA Γ ++ b_d cB cC cI cJ cZ oA rA Γ) sz) (fun (_ : Unit) => (b_k cB cC cI cJ cZ oA rA res.2 ++ b_p cB cC cI cJ cZ oA rA res.2 ++ b_o cB cC cI cJ cZ oA rA res.2 ++ b_s cB cC cI cJ cZ oA rA res.2 ++ b_c cB cC cI cJ cZ oA rA res.2 ++ b_t cB cC cI cJ cZ oA rA res.2 ++ b_d cB cC cI cJ cZ oA rA res.2))) (va_A (b_k cB cC cI cJ cZ oA rA Γ ++ b_p cB cC cI cJ cZ oA rA Γ ++ b_o cB cC cI cJ cZ oA rA Γ ++ b_s cB cC cI cJ cZ oA rA Γ ++ b_c cB cC cI cJ cZ oA rA Γ ++ b_t cB cC cI cJ cZ oA rA Γ ++ b_d cB cC cI cJ cZ oA rA Γ) sz)) 0 0 (va_A (b_k cB cC cI cJ cZ oA rA Γ ++ b_p cB cC cI cJ cZ oA rA Γ ++ b_o cB cC cI cJ cZ oA rA Γ ++ b_s cB cC cI cJ cZ oA rA Γ ++ b_c cB cC cI cJ cZ oA rA Γ ++ b_t cB cC cI cJ cZ oA rA Γ ++ b_d cB cC cI cJ cZ oA rA Γ) sz) := by
  refine Met.ofW (cc := cX3_run) (maxL := 5) (ret := (some .int)) (by decide) rfl ?_
  intro p e s m args below meth c s₁ B hml hv
  obtain ⟨rfl, hsz, hP, hK, hD0, hE, hX⟩ := hv
  have hx := B.exec
  have hb := B.bytes
  have hr := B.returns
  have hts0 := atoms_spec (ws := g_ws yX3_run cX3_run 5 (some .int)) B.pre
  have hts : ∀ w ∈ lw_good, w.before ([.ref (oA 10), .int p0] : List Value).toArray s = true := fun w z => hts0 w (List.mem_cons_of_mem _ z)
  have hown : s.vm.findClass RX3 = some m.cls := findClass_of_methodNamed B.named
  have hlocks := B.notSynchronized
  subst hsz
  have hD1 := hD0.self (sz := s.heap.size)
  generalize hAe : va_A (b_k cB cC cI cJ cZ oA rA Γ ++ b_p cB cC cI cJ cZ oA rA Γ ++ b_o cB cC cI cJ cZ oA rA Γ ++ b_s cB cC cI cJ cZ oA rA Γ ++ b_c cB cC cI cJ cZ oA rA Γ ++ b_t cB cC cI cJ cZ oA rA Γ ++ b_d cB cC cI cJ cZ oA rA Γ) s.heap.size = A at hD1 hE hX ⊢
  have hA : ∀ q : Nat, s.heap.size ≤ q → A q := fun q z => by rw [← hAe]; exact Or.inr z
  have hDD : ∀ Γ : HS, va_D A (b_k cB cC cI cJ cZ oA rA Γ ++ b_p cB cC cI cJ cZ oA rA Γ ++ b_o cB cC cI cJ cZ oA rA Γ ++ b_s cB cC cI cJ cZ oA rA Γ ++ b_c cB cC cI cJ cZ oA rA Γ ++ b_t cB cC cI cJ cZ oA rA Γ ++ b_d cB cC cI cJ cZ oA rA Γ) := fun Γ9 => va_D_fst (ws := (b_k cB cC cI cJ cZ oA rA Γ ++ b_p cB cC cI cJ cZ oA rA Γ ++ b_o cB cC cI cJ cZ oA rA Γ ++ b_s cB cC cI cJ cZ oA rA Γ ++ b_c cB cC cI cJ cZ oA rA Γ ++ b_t cB cC cI cJ cZ oA rA Γ ++ b_d cB cC cI cJ cZ oA rA Γ)) (ws' := (b_k cB cC cI cJ cZ oA rA Γ9 ++ b_p cB cC cI cJ cZ oA rA Γ9 ++ b_o cB cC cI cJ cZ oA rA Γ9 ++ b_s cB cC cI cJ cZ oA rA Γ9 ++ b_c cB cC cI cJ cZ oA rA Γ9 ++ b_t cB cC cI cJ cZ oA rA Γ9 ++ b_d cB cC cI cJ cZ oA rA Γ9)) rfl hD1
  have hN := hE.1
  have hS : va_S A s.heap s.heap [] := va_S.rf
  have hl := lv_entry ([.ref (oA 10), .int p0]) (n := 5) (Nat.le_of_ble_eq_true rfl)
  rw [lg_entry_eq]
  generalize (lg_sl ([.ref (oA 10), .int p0]) ++ List.replicate (5 - (lg_sl ([.ref (oA 10), .int p0])).length) Slot.unset).toArray = ls at hl ⊢
  have hl : lv_has ls 5 [(0, .ref (oA 10)), (1, .int p0)] := hl
  unfold F_X3_run at hF
  refine lv_aload_n hx hb dX3_run_0 rfl (lv_at hl 0 rfl) ?_
  refine lv_aload_n hx hb dX3_run_1 rfl (lv_at hl 0 rfl) ?_
  refine va_get (D := (dC, dI)) (ci := 3) (v := .ref (oA 4)) (C := RX3) (T := TX3) (N := 16) hx hb hts ii_X3 hown hK hP 0 rfl rfl 2 (by decide) (hts (.fieldLink RX3 52 "StoryHouse$Machine" "story" "LStoryHouse$Story;") wq_262) (fun _ h9 => h9) rfl dX3_run_2 ?_
  refine va_get (D := (dC, dI)) (ci := 7) (v := .ref (oA 5)) (C := RX7) (T := TX7) (N := 19) hx hb hts ii_X7 hown hK hP 15 rfl rfl 16 (by decide) (hts (.fieldLink RX3 56 "StoryHouse$Story" "code" "LStoryHouse$Code;") wq_194) (fun _ h9 => h9) rfl dX3_run_5 ?_
  refine lv_iload_n hx hb dX3_run_8 rfl (lv_at hl 1 rfl) ?_
  obtain ⟨u_1, hu_1, hF_2⟩ := Option.bind_eq_some_iff.mp hF
  clear hF
  have hPc := bx_P (bs := [b_k cB cC cI cJ cZ oA rA Γ, b_p cB cC cI cJ cZ oA rA Γ, b_o cB cC cI cJ cZ oA rA Γ, b_s cB cC cI cJ cZ oA rA Γ, b_c cB cC cI cJ cZ oA rA Γ, b_t cB cC cI cJ cZ oA rA Γ, b_d cB cC cI cJ cZ oA rA Γ]) (bs' := [b_c cB cC cI cJ cZ oA rA Γ]) (ws' := (b_c cB cC cI cJ cZ oA rA Γ)) hP fl_7 fl_1 [4] rfl
  have hDc := bx_D (bs := [b_k cB cC cI cJ cZ oA rA Γ, b_p cB cC cI cJ cZ oA rA Γ, b_o cB cC cI cJ cZ oA rA Γ, b_s cB cC cI cJ cZ oA rA Γ, b_c cB cC cI cJ cZ oA rA Γ, b_t cB cC cI cJ cZ oA rA Γ, b_d cB cC cI cJ cZ oA rA Γ]) (bs' := [b_c cB cC cI cJ cZ oA rA Γ]) (ws' := (b_c cB cC cI cJ cZ oA rA Γ)) (hDD Γ) fl_7 fl_1 [4] (by decide +kernel) rfl
  have hFc := bx_F (bs := [b_k cB cC cI cJ cZ oA rA Γ, b_p cB cC cI cJ cZ oA rA Γ, b_o cB cC cI cJ cZ oA rA Γ, b_s cB cC cI cJ cZ oA rA Γ, b_c cB cC cI cJ cZ oA rA Γ, b_t cB cC cI cJ cZ oA rA Γ, b_d cB cC cI cJ cZ oA rA Γ]) (bs' := [b_c cB cC cI cJ cZ oA rA Γ]) (wc := (b_c cB cC cI cJ cZ oA rA Γ)) (hDD Γ) hS hA fl_7 fl_1 [4] rfl
  refine g_ofi (wc := (b_c cB cC cI cJ cZ oA rA Γ)) (wr := (b_k cB cC cI cJ cZ oA rA Γ ++ b_p cB cC cI cJ cZ oA rA Γ ++ b_o cB cC cI cJ cZ oA rA Γ ++ b_s cB cC cI cJ cZ oA rA Γ ++ b_t cB cC cI cJ cZ oA rA Γ ++ b_d cB cC cI cJ cZ oA rA Γ)) hP (hDD Γ) hS hFc (bx_ix [b_k cB cC cI cJ cZ oA rA Γ, b_p cB cC cI cJ cZ oA rA Γ, b_o cB cC cI cJ cZ oA rA Γ, b_s cB cC cI cJ cZ oA rA Γ, b_c cB cC cI cJ cZ oA rA Γ, b_t cB cC cI cJ cZ oA rA Γ, b_d cB cC cI cJ cZ oA rA Γ] [4]) (bx_ix [b_k cB cC cI cJ cZ oA rA Γ, b_p cB cC cI cJ cZ oA rA Γ, b_o cB cC cI cJ cZ oA rA Γ, b_s cB cC cI cJ cZ oA rA Γ, b_c cB cC cI cJ cZ oA rA Γ, b_t cB cC cI cJ cZ oA rA Γ, b_d cB cC cI cJ cZ oA rA Γ] [0, 1, 2, 3, 5, 6]) (bx_C (bs := [b_k cB cC cI cJ cZ oA rA Γ, b_p cB cC cI cJ cZ oA rA Γ, b_o cB cC cI cJ cZ oA rA Γ, b_s cB cC cI cJ cZ oA rA Γ, b_c cB cC cI cJ cZ oA rA Γ, b_t cB cC cI cJ cZ oA rA Γ, b_d cB cC cI cJ cZ oA rA Γ]) (bs' := [b_c cB cC cI cJ cZ oA rA Γ]) (is := [4]) fl_7 fl_1 rfl) (bx_C (bs := [b_k cB cC cI cJ cZ oA rA Γ, b_p cB cC cI cJ cZ oA rA Γ, b_o cB cC cI cJ cZ oA rA Γ, b_s cB cC cI cJ cZ oA rA Γ, b_c cB cC cI cJ cZ oA rA Γ, b_t cB cC cI cJ cZ oA rA Γ, b_d cB cC cI cJ cZ oA rA Γ]) (bs' := [b_k cB cC cI cJ cZ oA rA Γ, b_p cB cC cI cJ cZ oA rA Γ, b_o cB cC cI cJ cZ oA rA Γ, b_s cB cC cI cJ cZ oA rA Γ, b_t cB cC cI cJ cZ oA rA Γ, b_d cB cC cI cJ cZ oA rA Γ]) (is := [0, 1, 2, 3, 5, 6]) fl_7 fl_6 rfl) (bx_n (by decide +kernel)) (bx_d (by decide +kernel)) (va_runV (As := [.int p0]) (rest := [.ref (oA 10)]) ⟨hx, hb, hml, hown, hts⟩ (k_X0_beginOf l dC dI cB cC cI cJ cZ cP oA rA s.heap.size  p0 Γ _ hu_1) (cwV 1 hts (g_gV wq_1131 wq_1132 wq_1133 wq_6 wq_1134) rfl rfl rfl (by decide +kernel) ⟨Nat.le_of_ble_eq_true rfl, Nat.le_of_ble_eq_true rfl⟩) (g_preV g_bl0 hK hPc hDc hS hE hFc g_to0 (q0 := 0) (ci := 0) rfl rfl) rfl rfl hl.1 rfl (lv_room (Nat.le_of_ble_eq_true rfl)) dX3_run_9 ⟨Nat.le_of_ble_eq_true rfl, Nat.le_of_ble_eq_true rfl⟩) (fun r9 u9 H locs hw9 hP' hD' hS => ?_)
  clear hPc hDc hFc
  subst hw9
  obtain ⟨σ_3, eσ_3, hF_4⟩ := bnd_e hF_2
  clear hF_2
  have hP : va_P (dC, dI) vwCl (b_k cB cC cI cJ cZ oA rA σ_3 ++ b_p cB cC cI cJ cZ oA rA σ_3 ++ b_o cB cC cI cJ cZ oA rA σ_3 ++ b_s cB cC cI cJ cZ oA rA σ_3 ++ b_c cB cC cI cJ cZ oA rA σ_3 ++ b_t cB cC cI cJ cZ oA rA σ_3 ++ b_d cB cC cI cJ cZ oA rA σ_3) H := by rw [eσ_3]; exact bx_P (bs := [b_k cB cC cI cJ cZ oA rA Γ, b_p cB cC cI cJ cZ oA rA Γ, b_o cB cC cI cJ cZ oA rA Γ, b_s cB cC cI cJ cZ oA rA Γ, b_t cB cC cI cJ cZ oA rA Γ, b_d cB cC cI cJ cZ oA rA Γ] ++ [b_c cB cC cI cJ cZ oA rA u_1.2]) (bs' := [b_k cB cC cI cJ cZ oA rA (mrg (fun j => j == 5) Γ u_1.2), b_p cB cC cI cJ cZ oA rA (mrg (fun j => j == 5) Γ u_1.2), b_o cB cC cI cJ cZ oA rA (mrg (fun j => j == 5) Γ u_1.2), b_s cB cC cI cJ cZ oA rA (mrg (fun j => j == 5) Γ u_1.2), b_c cB cC cI cJ cZ oA rA (mrg (fun j => j == 5) Γ u_1.2), b_t cB cC cI cJ cZ oA rA (mrg (fun j => j == 5) Γ u_1.2), b_d cB cC cI cJ cZ oA rA (mrg (fun j => j == 5) Γ u_1.2)]) hP' (fl_a fl_6 fl_1) fl_7 [0, 1, 2, 3, 6, 4, 5] rfl
  clear hP' hD'
  obtain ⟨σ_5, eσ_5, hF_6⟩ := bnd_e hF_4
  clear hF_4
  refine va_put (D := (dC, dI)) (ci := 3) (v := .int u_1.1) (ty := .int) (C := RX3) (T := TX3) (N := 16) hx hb hts ii_X3 tyX3 tyX3_ok nmX3 hown hK hP (hDD _) hS 0 rfl rfl 9 (by decide) (hts (.fieldLink RX3 68 "StoryHouse$Machine" "pc" "I") wq_273) (fun _ h9 => h9) rfl (by decide +kernel) rfl rfl (Nat.le_of_ble_eq_true rfl) dX3_run_12 (fun H locs hP' _ hS => ?_)
  have hP : va_P (dC, dI) vwCl (b_k cB cC cI cJ cZ oA rA σ_5 ++ b_p cB cC cI cJ cZ oA rA σ_5 ++ b_o cB cC cI cJ cZ oA rA σ_5 ++ b_s cB cC cI cJ cZ oA rA σ_5 ++ b_c cB cC cI cJ cZ oA rA σ_5 ++ b_t cB cC cI cJ cZ oA rA σ_5 ++ b_d cB cC cI cJ cZ oA rA σ_5) H := by rw [eσ_5]; exact cs_kposctd_k_9 ▸ hP'
  clear hP'
  refine lv_aload_n hx hb dX3_run_15 rfl (lv_at hl 0 rfl) ?_
  refine lv_iconst (v := 0) hx hb dX3_run_16 (by decide +kernel) ?_
  obtain ⟨σ_7, eσ_7, hF_8⟩ := bnd_e hF_6
  clear hF_6
  refine va_put (D := (dC, dI)) (ci := 3) (v := .int 0) (ty := .int) (C := RX3) (T := TX3) (N := 16) hx hb hts ii_X3 tyX3 tyX3_ok nmX3 hown hK hP (hDD _) hS 0 rfl rfl 8 (by decide) (hts (.fieldLink RX3 46 "StoryHouse$Machine" "base" "I") wq_272) (fun _ h9 => h9) rfl (by decide +kernel) rfl rfl (Nat.le_of_ble_eq_true rfl) dX3_run_17 (fun H locs hP' _ hS => ?_)
  have hP : va_P (dC, dI) vwCl (b_k cB cC cI cJ cZ oA rA σ_7 ++ b_p cB cC cI cJ cZ oA rA σ_7 ++ b_o cB cC cI cJ cZ oA rA σ_7 ++ b_s cB cC cI cJ cZ oA rA σ_7 ++ b_c cB cC cI cJ cZ oA rA σ_7 ++ b_t cB cC cI cJ cZ oA rA σ_7 ++ b_d cB cC cI cJ cZ oA rA σ_7) H := by rw [eσ_7]; exact cs_kposctd_k_8 ▸ hP'
  clear hP'
  refine lv_aload_n hx hb dX3_run_20 rfl (lv_at hl 0 rfl) ?_
  refine lv_bipush (v := 14) hx hb dX3_run_21 (by decide +kernel) ?_
  obtain ⟨σ_9, eσ_9, hF_10⟩ := bnd_e hF_8
  clear hF_8
  refine va_put (D := (dC, dI)) (ci := 3) (v := .int 14) (ty := .int) (C := RX3) (T := TX3) (N := 16) hx hb hts ii_X3 tyX3 tyX3_ok nmX3 hown hK hP (hDD _) hS 0 rfl rfl 7 (by decide) (hts (.fieldLink RX3 49 "StoryHouse$Machine" "top" "I") wq_271) (fun _ h9 => h9) rfl (by decide +kernel) rfl rfl (Nat.le_of_ble_eq_true rfl) dX3_run_23 (fun H locs hP' _ hS => ?_)
  have hP : va_P (dC, dI) vwCl (b_k cB cC cI cJ cZ oA rA σ_9 ++ b_p cB cC cI cJ cZ oA rA σ_9 ++ b_o cB cC cI cJ cZ oA rA σ_9 ++ b_s cB cC cI cJ cZ oA rA σ_9 ++ b_c cB cC cI cJ cZ oA rA σ_9 ++ b_t cB cC cI cJ cZ oA rA σ_9 ++ b_d cB cC cI cJ cZ oA rA σ_9) H := by rw [eσ_9]; exact cs_kposctd_k_7 ▸ hP'
  clear hP'
  refine lv_aload_n hx hb dX3_run_26 rfl (lv_at hl 0 rfl) ?_
  refine lv_iconst (v := 0) hx hb dX3_run_27 (by decide +kernel) ?_
  obtain ⟨σ_11, eσ_11, hF_12⟩ := bnd_e hF_10
  clear hF_10
  refine va_put (D := (dC, dI)) (ci := 3) (v := .int 0) (ty := .int) (C := RX3) (T := TX3) (N := 16) hx hb hts ii_X3 tyX3 tyX3_ok nmX3 hown hK hP (hDD _) hS 0 rfl rfl 12 (by decide) (hts (.fieldLink RX3 43 "StoryHouse$Machine" "depth" "I") wq_276) (fun _ h9 => h9) rfl (by decide +kernel) rfl rfl (Nat.le_of_ble_eq_true rfl) dX3_run_28 (fun H locs hP' _ hS => ?_)
  have hP : va_P (dC, dI) vwCl (b_k cB cC cI cJ cZ oA rA σ_11 ++ b_p cB cC cI cJ cZ oA rA σ_11 ++ b_o cB cC cI cJ cZ oA rA σ_11 ++ b_s cB cC cI cJ cZ oA rA σ_11 ++ b_c cB cC cI cJ cZ oA rA σ_11 ++ b_t cB cC cI cJ cZ oA rA σ_11 ++ b_d cB cC cI cJ cZ oA rA σ_11) H := by rw [eσ_11]; exact cs_kposctd_k_12 ▸ hP'
  clear hP'
  refine lv_aload_n hx hb dX3_run_31 rfl (lv_at hl 0 rfl) ?_
  refine lv_iconst (v := 0) hx hb dX3_run_32 (by decide +kernel) ?_
  obtain ⟨σ_13, eσ_13, hF_14⟩ := bnd_e hF_12
  clear hF_12
  refine va_put (D := (dC, dI)) (ci := 3) (v := .int 0) (ty := .int) (C := RX3) (T := TX3) (N := 16) hx hb hts ii_X3 tyX3 tyX3_ok nmX3 hown hK hP (hDD _) hS 0 rfl rfl 14 (by decide) (hts (.fieldLink RX3 21 "StoryHouse$Machine" "how" "I") wq_278) (fun _ h9 => h9) rfl (by decide +kernel) rfl rfl (Nat.le_of_ble_eq_true rfl) dX3_run_33 (fun H locs hP' _ hS => ?_)
  have hP : va_P (dC, dI) vwCl (b_k cB cC cI cJ cZ oA rA σ_13 ++ b_p cB cC cI cJ cZ oA rA σ_13 ++ b_o cB cC cI cJ cZ oA rA σ_13 ++ b_s cB cC cI cJ cZ oA rA σ_13 ++ b_c cB cC cI cJ cZ oA rA σ_13 ++ b_t cB cC cI cJ cZ oA rA σ_13 ++ b_d cB cC cI cJ cZ oA rA σ_13) H := by rw [eσ_13]; exact cs_kposctd_k_14 ▸ hP'
  clear hP'
  refine lv_iconst (v := 0) hx hb dX3_run_36 (by decide +kernel) ?_
  refine lv_istore_n (lv' := [(2, .int 0), (0, .ref (oA 10)), (1, .int p0)]) hx hb dX3_run_37 rfl hl (by decide) rfl (fun ls hl => ?_)
  refine loopF_ind (P := fun (s_15 : Int32 × HS) => ∀ (H : Heap) (locs : List Loc), va_P (dC, dI) vwCl (b_k cB cC cI cJ cZ oA rA s_15.2 ++ b_p cB cC cI cJ cZ oA rA s_15.2 ++ b_o cB cC cI cJ cZ oA rA s_15.2 ++ b_s cB cC cI cJ cZ oA rA s_15.2 ++ b_c cB cC cI cJ cZ oA rA s_15.2 ++ b_t cB cC cI cJ cZ oA rA s_15.2 ++ b_d cB cC cI cJ cZ oA rA s_15.2) H → va_S A s.heap H locs → ∀ ls : Array Slot, lv_has ls 5 [(0, .ref (oA 10)), (2, .int s_15.1)] → W p l e (headSpec (g_ws yX3_run cX3_run 5 (some .int)) { frames := 9, cells := 0, slots := 0, locals := 221 }).room s m ([.ref (oA 10), .int p0] : List Value).toArray below meth c H locs 0 0 (MQ below (va_Qi (fun r (_ : Unit) => r = res.1) (g_Bo (dC, dI) A (fun (_ : Unit) => (b_k cB cC cI cJ cZ oA rA res.2 ++ b_p cB cC cI cJ cZ oA rA res.2 ++ b_o cB cC cI cJ cZ oA rA res.2 ++ b_s cB cC cI cJ cZ oA rA res.2 ++ b_c cB cC cI cJ cZ oA rA res.2 ++ b_t cB cC cI cJ cZ oA rA res.2 ++ b_d cB cC cI cJ cZ oA rA res.2))) A) ([.ref (oA 10), .int p0] : List Value).toArray s 0 0 A) (F0 m 38 ls [])) ?_ _ _ hF_14 _ _ hP hS ls (lv_sub hl [1, 0] rfl)
  intro again_16 s_15 ih_17 hF_18
  intro H locs hP hS ls hl
  refine lv_iload_n hx hb dX3_run_38 rfl (lv_at hl 1 rfl) ?_
  refine lv_ldc (v := 1000000000) hx hb hown (hts (.constant RX3 71 (1000000000)) wq_1135) dX3_run_39 ?_
  obtain ⟨j_20, ej_20, hF_21⟩ := bnd_e hF_18
  clear hF_18
  have Jj_20 : ∀  (σ_19 : HS), j_20  σ_19 = some res → ∀ (H : Heap) (locs : List Loc), va_P (dC, dI) vwCl (b_k cB cC cI cJ cZ oA rA σ_19 ++ b_p cB cC cI cJ cZ oA rA σ_19 ++ b_o cB cC cI cJ cZ oA rA σ_19 ++ b_s cB cC cI cJ cZ oA rA σ_19 ++ b_c cB cC cI cJ cZ oA rA σ_19 ++ b_t cB cC cI cJ cZ oA rA σ_19 ++ b_d cB cC cI cJ cZ oA rA σ_19) H → va_S A s.heap H locs → ∀ ls : Array Slot, lv_has ls 5 [(0, .ref (oA 10))] → W p l e (headSpec (g_ws yX3_run cX3_run 5 (some .int)) { frames := 9, cells := 0, slots := 0, locals := 221 }).room s m ([.ref (oA 10), .int p0] : List Value).toArray below meth c H locs 0 0 (MQ below (va_Qi (fun r (_ : Unit) => r = res.1) (g_Bo (dC, dI) A (fun (_ : Unit) => (b_k cB cC cI cJ cZ oA rA res.2 ++ b_p cB cC cI cJ cZ oA rA res.2 ++ b_o cB cC cI cJ cZ oA rA res.2 ++ b_s cB cC cI cJ cZ oA rA res.2 ++ b_c cB cC cI cJ cZ oA rA res.2 ++ b_t cB cC cI cJ cZ oA rA res.2 ++ b_d cB cC cI cJ cZ oA rA res.2))) A) ([.ref (oA 10), .int p0] : List Value).toArray s 0 0 A) (F0 m 184 ls []) := by
    intro  σ_19 hF0 H locs hP hS ls hl
    subst ej_20
    have hF_22 := hF0
    clear hF0
    refine lv_aload_n hx hb dX3_run_184 rfl (lv_at hl 0 rfl) ?_
    refine lv_iconst (v := 0) hx hb dX3_run_185 (by decide +kernel) ?_
    obtain ⟨σ_23, eσ_23, hF_24⟩ := bnd_e hF_22
    clear hF_22
    refine va_put (D := (dC, dI)) (ci := 3) (v := .int 0) (ty := .int) (C := RX3) (T := TX3) (N := 16) hx hb hts ii_X3 tyX3 tyX3_ok nmX3 hown hK hP (hDD _) hS 0 rfl rfl 8 (by decide) (hts (.fieldLink RX3 46 "StoryHouse$Machine" "base" "I") wq_272) (fun _ h9 => h9) rfl (by decide +kernel) rfl rfl (Nat.le_of_ble_eq_true rfl) dX3_run_186 (fun H locs hP' _ hS => ?_)
    have hP : va_P (dC, dI) vwCl (b_k cB cC cI cJ cZ oA rA σ_23 ++ b_p cB cC cI cJ cZ oA rA σ_23 ++ b_o cB cC cI cJ cZ oA rA σ_23 ++ b_s cB cC cI cJ cZ oA rA σ_23 ++ b_c cB cC cI cJ cZ oA rA σ_23 ++ b_t cB cC cI cJ cZ oA rA σ_23 ++ b_d cB cC cI cJ cZ oA rA σ_23) H := by rw [eσ_23]; exact cs_kposctd_k_8 ▸ hP'
    clear hP'
    refine lv_aload_n hx hb dX3_run_189 rfl (lv_at hl 0 rfl) ?_
    refine lv_iconst (v := 0) hx hb dX3_run_190 (by decide +kernel) ?_
    obtain ⟨σ_25, eσ_25, hF_26⟩ := bnd_e hF_24
    clear hF_24
    refine va_put (D := (dC, dI)) (ci := 3) (v := .int 0) (ty := .int) (C := RX3) (T := TX3) (N := 16) hx hb hts ii_X3 tyX3 tyX3_ok nmX3 hown hK hP (hDD _) hS 0 rfl rfl 7 (by decide) (hts (.fieldLink RX3 49 "StoryHouse$Machine" "top" "I") wq_271) (fun _ h9 => h9) rfl (by decide +kernel) rfl rfl (Nat.le_of_ble_eq_true rfl) dX3_run_191 (fun H locs hP' _ hS => ?_)
    have hP : va_P (dC, dI) vwCl (b_k cB cC cI cJ cZ oA rA σ_25 ++ b_p cB cC cI cJ cZ oA rA σ_25 ++ b_o cB cC cI cJ cZ oA rA σ_25 ++ b_s cB cC cI cJ cZ oA rA σ_25 ++ b_c cB cC cI cJ cZ oA rA σ_25 ++ b_t cB cC cI cJ cZ oA rA σ_25 ++ b_d cB cC cI cJ cZ oA rA σ_25) H := by rw [eσ_25]; exact cs_kposctd_k_7 ▸ hP'
    clear hP'
    refine lv_aload_n hx hb dX3_run_194 rfl (lv_at hl 0 rfl) ?_
    refine lv_iconst (v := 0) hx hb dX3_run_195 (by decide +kernel) ?_
    obtain ⟨σ_27, eσ_27, hF_28⟩ := bnd_e hF_26
    clear hF_26
    refine va_put (D := (dC, dI)) (ci := 3) (v := .int 0) (ty := .int) (C := RX3) (T := TX3) (N := 16) hx hb hts ii_X3 tyX3 tyX3_ok nmX3 hown hK hP (hDD _) hS 0 rfl rfl 12 (by decide) (hts (.fieldLink RX3 43 "StoryHouse$Machine" "depth" "I") wq_276) (fun _ h9 => h9) rfl (by decide +kernel) rfl rfl (Nat.le_of_ble_eq_true rfl) dX3_run_196 (fun H locs hP' _ hS => ?_)
    have hP : va_P (dC, dI) vwCl (b_k cB cC cI cJ cZ oA rA σ_27 ++ b_p cB cC cI cJ cZ oA rA σ_27 ++ b_o cB cC cI cJ cZ oA rA σ_27 ++ b_s cB cC cI cJ cZ oA rA σ_27 ++ b_c cB cC cI cJ cZ oA rA σ_27 ++ b_t cB cC cI cJ cZ oA rA σ_27 ++ b_d cB cC cI cJ cZ oA rA σ_27) H := by rw [eσ_27]; exact cs_kposctd_k_12 ▸ hP'
    clear hP'
    refine lv_aload_n hx hb dX3_run_199 rfl (lv_at hl 0 rfl) ?_
    refine va_get (D := (dC, dI)) (ci := 3) (v := .int ((σ_27 10).1 14)) (C := RX3) (T := TX3) (N := 16) hx hb hts ii_X3 hown hK hP 0 rfl rfl 14 (by decide) (hts (.fieldLink RX3 21 "StoryHouse$Machine" "how" "I") wq_278) (fun _ h9 => h9) rfl dX3_run_200 ?_
    have h9 := Option.some.inj hF_28
    subst h9
    exact W.iret (v := ((σ_27 10).1 14)) hx hb hr (fun t ht hW => ⟨⟨((σ_27 10).1 14), (), rfl, rfl, m_end ht hP, hDD _⟩, hS.F ht⟩) hS.2.2 dX3_run_203
  refine lv_icmp_ge (tgt := 184) hx hb dX3_run_41 (by decide) (fun c_29 => ?_) (fun c_29 => ?_)
  · have hF_30 := ipos c_29 hF_21
    clear hF_21
    exact Jj_20  s_15.2 hF_30 _ _ hP hS ls (lv_sub hl [0] rfl)
  · have hF_31 := ineg c_29 hF_21
    clear hF_21
    refine lv_aload_n hx hb dX3_run_44 rfl (lv_at hl 0 rfl) ?_
    refine va_get (D := (dC, dI)) (ci := 3) (v := .int ((s_15.2 10).1 14)) (C := RX3) (T := TX3) (N := 16) hx hb hts ii_X3 hown hK hP 0 rfl rfl 14 (by decide) (hts (.fieldLink RX3 21 "StoryHouse$Machine" "how" "I") wq_278) (fun _ h9 => h9) rfl dX3_run_45 ?_
    refine lv_if_ne (tgt := 184) hx hb dX3_run_48 (by decide) (fun c_32 => ?_) (fun c_32 => ?_)
    · have hF_79 := ineg c_32 hF_31
      clear hF_31
      exact Jj_20  s_15.2 hF_79 _ _ hP hS ls (lv_sub hl [0] rfl)
    · have hF_33 := ipos c_32 hF_31
      clear hF_31
      refine lv_aload_n hx hb dX3_run_51 rfl (lv_at hl 0 rfl) ?_
      refine va_get (D := (dC, dI)) (ci := 3) (v := .ref (oA 4)) (C := RX3) (T := TX3) (N := 16) hx hb hts ii_X3 hown hK hP 0 rfl rfl 2 (by decide) (hts (.fieldLink RX3 52 "StoryHouse$Machine" "story" "LStoryHouse$Story;") wq_262) (fun _ h9 => h9) rfl dX3_run_52 ?_
      refine va_get (D := (dC, dI)) (ci := 7) (v := .ref (oA 5)) (C := RX7) (T := TX7) (N := 19) hx hb hts ii_X7 hown hK hP 15 rfl rfl 16 (by decide) (hts (.fieldLink RX3 56 "StoryHouse$Story" "code" "LStoryHouse$Code;") wq_194) (fun _ h9 => h9) rfl dX3_run_55 ?_
      refine lv_aload_n hx hb dX3_run_58 rfl (lv_at hl 0 rfl) ?_
      refine va_get (D := (dC, dI)) (ci := 3) (v := .int ((s_15.2 10).1 9)) (C := RX3) (T := TX3) (N := 16) hx hb hts ii_X3 hown hK hP 0 rfl rfl 9 (by decide) (hts (.fieldLink RX3 68 "StoryHouse$Machine" "pc" "I") wq_273) (fun _ h9 => h9) rfl dX3_run_59 ?_
      obtain ⟨u_34, hu_34, hF_35⟩ := Option.bind_eq_some_iff.mp hF_33
      clear hF_33
      have hPc := bx_P (bs := [b_k cB cC cI cJ cZ oA rA s_15.2, b_p cB cC cI cJ cZ oA rA s_15.2, b_o cB cC cI cJ cZ oA rA s_15.2, b_s cB cC cI cJ cZ oA rA s_15.2, b_c cB cC cI cJ cZ oA rA s_15.2, b_t cB cC cI cJ cZ oA rA s_15.2, b_d cB cC cI cJ cZ oA rA s_15.2]) (bs' := [b_c cB cC cI cJ cZ oA rA s_15.2]) (ws' := (b_c cB cC cI cJ cZ oA rA s_15.2)) hP fl_7 fl_1 [4] rfl
      have hDc := bx_D (bs := [b_k cB cC cI cJ cZ oA rA s_15.2, b_p cB cC cI cJ cZ oA rA s_15.2, b_o cB cC cI cJ cZ oA rA s_15.2, b_s cB cC cI cJ cZ oA rA s_15.2, b_c cB cC cI cJ cZ oA rA s_15.2, b_t cB cC cI cJ cZ oA rA s_15.2, b_d cB cC cI cJ cZ oA rA s_15.2]) (bs' := [b_c cB cC cI cJ cZ oA rA s_15.2]) (ws' := (b_c cB cC cI cJ cZ oA rA s_15.2)) (hDD s_15.2) fl_7 fl_1 [4] (by decide +kernel) rfl
      have hFc := bx_F (bs := [b_k cB cC cI cJ cZ oA rA s_15.2, b_p cB cC cI cJ cZ oA rA s_15.2, b_o cB cC cI cJ cZ oA rA s_15.2, b_s cB cC cI cJ cZ oA rA s_15.2, b_c cB cC cI cJ cZ oA rA s_15.2, b_t cB cC cI cJ cZ oA rA s_15.2, b_d cB cC cI cJ cZ oA rA s_15.2]) (bs' := [b_c cB cC cI cJ cZ oA rA s_15.2]) (wc := (b_c cB cC cI cJ cZ oA rA s_15.2)) (hDD s_15.2) hS hA fl_7 fl_1 [4] rfl
      refine g_ofi (wc := (b_c cB cC cI cJ cZ oA rA s_15.2)) (wr := (b_k cB cC cI cJ cZ oA rA s_15.2 ++ b_p cB cC cI cJ cZ oA rA s_15.2 ++ b_o cB cC cI cJ cZ oA rA s_15.2 ++ b_s cB cC cI cJ cZ oA rA s_15.2 ++ b_t cB cC cI cJ cZ oA rA s_15.2 ++ b_d cB cC cI cJ cZ oA rA s_15.2)) hP (hDD s_15.2) hS hFc (bx_ix [b_k cB cC cI cJ cZ oA rA s_15.2, b_p cB cC cI cJ cZ oA rA s_15.2, b_o cB cC cI cJ cZ oA rA s_15.2, b_s cB cC cI cJ cZ oA rA s_15.2, b_c cB cC cI cJ cZ oA rA s_15.2, b_t cB cC cI cJ cZ oA rA s_15.2, b_d cB cC cI cJ cZ oA rA s_15.2] [4]) (bx_ix [b_k cB cC cI cJ cZ oA rA s_15.2, b_p cB cC cI cJ cZ oA rA s_15.2, b_o cB cC cI cJ cZ oA rA s_15.2, b_s cB cC cI cJ cZ oA rA s_15.2, b_c cB cC cI cJ cZ oA rA s_15.2, b_t cB cC cI cJ cZ oA rA s_15.2, b_d cB cC cI cJ cZ oA rA s_15.2] [0, 1, 2, 3, 5, 6]) (bx_C (bs := [b_k cB cC cI cJ cZ oA rA s_15.2, b_p cB cC cI cJ cZ oA rA s_15.2, b_o cB cC cI cJ cZ oA rA s_15.2, b_s cB cC cI cJ cZ oA rA s_15.2, b_c cB cC cI cJ cZ oA rA s_15.2, b_t cB cC cI cJ cZ oA rA s_15.2, b_d cB cC cI cJ cZ oA rA s_15.2]) (bs' := [b_c cB cC cI cJ cZ oA rA s_15.2]) (is := [4]) fl_7 fl_1 rfl) (bx_C (bs := [b_k cB cC cI cJ cZ oA rA s_15.2, b_p cB cC cI cJ cZ oA rA s_15.2, b_o cB cC cI cJ cZ oA rA s_15.2, b_s cB cC cI cJ cZ oA rA s_15.2, b_c cB cC cI cJ cZ oA rA s_15.2, b_t cB cC cI cJ cZ oA rA s_15.2, b_d cB cC cI cJ cZ oA rA s_15.2]) (bs' := [b_k cB cC cI cJ cZ oA rA s_15.2, b_p cB cC cI cJ cZ oA rA s_15.2, b_o cB cC cI cJ cZ oA rA s_15.2, b_s cB cC cI cJ cZ oA rA s_15.2, b_t cB cC cI cJ cZ oA rA s_15.2, b_d cB cC cI cJ cZ oA rA s_15.2]) (is := [0, 1, 2, 3, 5, 6]) fl_7 fl_6 rfl) (bx_n (by decide +kernel)) (bx_d (by decide +kernel)) (va_runV (As := [.int ((s_15.2 10).1 9)]) (rest := []) ⟨hx, hb, hml, hown, hts⟩ (k_X0_byteAt l dC dI cB cC cI cJ cZ cP oA rA H.size  ((s_15.2 10).1 9) s_15.2 _ hu_34) (cwV 1 hts (g_gV wq_1136 wq_828 wq_829 wq_6 wq_830) rfl rfl rfl (by decide +kernel) ⟨Nat.le_of_ble_eq_true rfl, Nat.le_of_ble_eq_true rfl⟩) (g_preV g_bl0 hK hPc hDc hS hE hFc g_to0 (q0 := 0) (ci := 0) rfl rfl) rfl rfl hl.1 rfl (lv_room (Nat.le_of_ble_eq_true rfl)) dX3_run_62 ⟨Nat.le_of_ble_eq_true rfl, Nat.le_of_ble_eq_true rfl⟩) (fun r9 u9 H locs hw9 hP' hD' hS => ?_)
      clear hPc hDc hFc
      subst hw9
      obtain ⟨σ_36, eσ_36, hF_37⟩ := bnd_e hF_35
      clear hF_35
      have hP : va_P (dC, dI) vwCl (b_k cB cC cI cJ cZ oA rA σ_36 ++ b_p cB cC cI cJ cZ oA rA σ_36 ++ b_o cB cC cI cJ cZ oA rA σ_36 ++ b_s cB cC cI cJ cZ oA rA σ_36 ++ b_c cB cC cI cJ cZ oA rA σ_36 ++ b_t cB cC cI cJ cZ oA rA σ_36 ++ b_d cB cC cI cJ cZ oA rA σ_36) H := by rw [eσ_36]; exact bx_P (bs := [b_k cB cC cI cJ cZ oA rA s_15.2, b_p cB cC cI cJ cZ oA rA s_15.2, b_o cB cC cI cJ cZ oA rA s_15.2, b_s cB cC cI cJ cZ oA rA s_15.2, b_t cB cC cI cJ cZ oA rA s_15.2, b_d cB cC cI cJ cZ oA rA s_15.2] ++ [b_c cB cC cI cJ cZ oA rA u_34.2]) (bs' := [b_k cB cC cI cJ cZ oA rA (mrg (fun j => j == 5) s_15.2 u_34.2), b_p cB cC cI cJ cZ oA rA (mrg (fun j => j == 5) s_15.2 u_34.2), b_o cB cC cI cJ cZ oA rA (mrg (fun j => j == 5) s_15.2 u_34.2), b_s cB cC cI cJ cZ oA rA (mrg (fun j => j == 5) s_15.2 u_34.2), b_c cB cC cI cJ cZ oA rA (mrg (fun j => j == 5) s_15.2 u_34.2), b_t cB cC cI cJ cZ oA rA (mrg (fun j => j == 5) s_15.2 u_34.2), b_d cB cC cI cJ cZ oA rA (mrg (fun j => j == 5) s_15.2 u_34.2)]) hP' (fl_a fl_6 fl_1) fl_7 [0, 1, 2, 3, 6, 4, 5] rfl
      clear hP' hD'
      refine lv_istore_n (lv' := [(3, .int u_34.1), (0, .ref (oA 10)), (2, .int s_15.1)]) hx hb dX3_run_65 rfl hl (by decide) rfl (fun ls hl => ?_)
      refine lv_aload_n hx hb dX3_run_66 rfl (lv_at hl 1 rfl) ?_
      refine lv_dup hx hb dX3_run_67 rfl ?_
      refine va_get (D := (dC, dI)) (ci := 3) (v := .int ((σ_36 10).1 9)) (C := RX3) (T := TX3) (N := 16) hx hb hts ii_X3 hown hK hP 0 rfl rfl 9 (by decide) (hts (.fieldLink RX3 68 "StoryHouse$Machine" "pc" "I") wq_273) (fun _ h9 => h9) rfl dX3_run_68 ?_
      refine lv_iconst (v := 1) hx hb dX3_run_71 (by decide +kernel) ?_
      refine lv_iadd hx hb dX3_run_72 ?_
      obtain ⟨σ_38, eσ_38, hF_39⟩ := bnd_e hF_37
      clear hF_37
      refine va_put (D := (dC, dI)) (ci := 3) (v := .int (((σ_36 10).1 9) + 1)) (ty := .int) (C := RX3) (T := TX3) (N := 16) hx hb hts ii_X3 tyX3 tyX3_ok nmX3 hown hK hP (hDD _) hS 0 rfl rfl 9 (by decide) (hts (.fieldLink RX3 68 "StoryHouse$Machine" "pc" "I") wq_273) (fun _ h9 => h9) rfl (by decide +kernel) rfl rfl (Nat.le_of_ble_eq_true rfl) dX3_run_73 (fun H locs hP' _ hS => ?_)
      have hP : va_P (dC, dI) vwCl (b_k cB cC cI cJ cZ oA rA σ_38 ++ b_p cB cC cI cJ cZ oA rA σ_38 ++ b_o cB cC cI cJ cZ oA rA σ_38 ++ b_s cB cC cI cJ cZ oA rA σ_38 ++ b_c cB cC cI cJ cZ oA rA σ_38 ++ b_t cB cC cI cJ cZ oA rA σ_38 ++ b_d cB cC cI cJ cZ oA rA σ_38) H := by rw [eσ_38]; exact cs_kposctd_k_9 ▸ hP'
      clear hP'
      refine lv_iload_n hx hb dX3_run_76 rfl (lv_at hl 0 rfl) ?_
      refine lv_bipush (v := 33) hx hb dX3_run_77 (by decide +kernel) ?_
      obtain ⟨j_41, ej_41, hF_42⟩ := bnd_e hF_39
      clear hF_39
      have Jj_41 : ∀  (σ_40 : HS), j_41  σ_40 = some res → ∀ (H : Heap) (locs : List Loc), va_P (dC, dI) vwCl (b_k cB cC cI cJ cZ oA rA σ_40 ++ b_p cB cC cI cJ cZ oA rA σ_40 ++ b_o cB cC cI cJ cZ oA rA σ_40 ++ b_s cB cC cI cJ cZ oA rA σ_40 ++ b_c cB cC cI cJ cZ oA rA σ_40 ++ b_t cB cC cI cJ cZ oA rA σ_40 ++ b_d cB cC cI cJ cZ oA rA σ_40) H → va_S A s.heap H locs → ∀ ls : Array Slot, lv_has ls 5 [(0, .ref (oA 10)), (2, .int s_15.1)] → W p l e (headSpec (g_ws yX3_run cX3_run 5 (some .int)) { frames := 9, cells := 0, slots := 0, locals := 221 }).room s m ([.ref (oA 10), .int p0] : List Value).toArray below meth c H locs 0 0 (MQ below (va_Qi (fun r (_ : Unit) => r = res.1) (g_Bo (dC, dI) A (fun (_ : Unit) => (b_k cB cC cI cJ cZ oA rA res.2 ++ b_p cB cC cI cJ cZ oA rA res.2 ++ b_o cB cC cI cJ cZ oA rA res.2 ++ b_s cB cC cI cJ cZ oA rA res.2 ++ b_c cB cC cI cJ cZ oA rA res.2 ++ b_t cB cC cI cJ cZ oA rA res.2 ++ b_d cB cC cI cJ cZ oA rA res.2))) A) ([.ref (oA 10), .int p0] : List Value).toArray s 0 0 A) (F0 m 178 ls []) := by
        intro  σ_40 hF0 H locs hP hS ls hl
        subst ej_41
        have hF_43 := hF0
        clear hF0
        obtain ⟨x_44, ex_44, hF_45⟩ := bnd_e hF_43
        clear hF_43
        refine lv_iinc (v := x_44) (lv' := [(2, .int x_44), (0, .ref (oA 10))]) hx hb dX3_run_178 hl (k := 1) rfl (by rw [ex_44]; rfl) (by decide) rfl (fun ls hl => ?_)
        refine lv_goto (tgt := 38) hx hb dX3_run_181 (by decide) ?_
        exact ih_17 (x_44, σ_40) hF_45 _ _ hP hS ls (lv_sub hl [1, 0] rfl)
      refine lv_icmp_lt (tgt := 118) hx hb dX3_run_79 (by decide) (fun c_46 => ?_) (fun c_46 => ?_)
      · have hF_47 := ipos c_46 hF_42
        clear hF_42
        refine lv_iload_n hx hb dX3_run_118 rfl (lv_at hl 0 rfl) ?_
        refine lv_bipush (v := 32) hx hb dX3_run_119 (by decide +kernel) ?_
        refine lv_icmp_ne (tgt := 131) hx hb dX3_run_121 (by decide) (fun c_48 => ?_) (fun c_48 => ?_)
        · have hF_52 := ineg c_48 hF_47
          clear hF_47
          refine lv_iload_n hx hb dX3_run_131 rfl (lv_at hl 0 rfl) ?_
          refine lv_bipush (v := 27) hx hb dX3_run_132 (by decide +kernel) ?_
          refine lv_icmp_lt (tgt := 145) hx hb dX3_run_134 (by decide) (fun c_53 => ?_) (fun c_53 => ?_)
          · have hF_54 := ipos c_53 hF_52
            clear hF_52
            refine lv_iload_n hx hb dX3_run_145 rfl (lv_at hl 0 rfl) ?_
            refine lv_bipush (v := 21) hx hb dX3_run_146 (by decide +kernel) ?_
            refine lv_icmp_lt (tgt := 159) hx hb dX3_run_148 (by decide) (fun c_55 => ?_) (fun c_55 => ?_)
            · have hF_56 := ipos c_55 hF_54
              clear hF_54
              refine lv_iload_n hx hb dX3_run_159 rfl (lv_at hl 0 rfl) ?_
              refine lv_bipush (v := 10) hx hb dX3_run_160 (by decide +kernel) ?_
              refine lv_icmp_lt (tgt := 173) hx hb dX3_run_162 (by decide) (fun c_57 => ?_) (fun c_57 => ?_)
              · have hF_58 := ipos c_57 hF_56
                clear hF_56
                refine lv_aload_n hx hb dX3_run_173 rfl (lv_at hl 1 rfl) ?_
                refine lv_iload_n hx hb dX3_run_174 rfl (lv_at hl 0 rfl) ?_
                obtain ⟨u_59, hu_59, hF_60⟩ := Option.bind_eq_some_iff.mp hF_58
                clear hF_58
                have hPc := bx_P (bs := [b_k cB cC cI cJ cZ oA rA σ_38, b_p cB cC cI cJ cZ oA rA σ_38, b_o cB cC cI cJ cZ oA rA σ_38, b_s cB cC cI cJ cZ oA rA σ_38, b_c cB cC cI cJ cZ oA rA σ_38, b_t cB cC cI cJ cZ oA rA σ_38, b_d cB cC cI cJ cZ oA rA σ_38]) (bs' := [b_k cB cC cI cJ cZ oA rA σ_38, b_p cB cC cI cJ cZ oA rA σ_38, b_o cB cC cI cJ cZ oA rA σ_38, b_s cB cC cI cJ cZ oA rA σ_38, b_c cB cC cI cJ cZ oA rA σ_38, b_t cB cC cI cJ cZ oA rA σ_38, b_d cB cC cI cJ cZ oA rA σ_38]) (ws' := (b_k cB cC cI cJ cZ oA rA σ_38 ++ b_p cB cC cI cJ cZ oA rA σ_38 ++ b_o cB cC cI cJ cZ oA rA σ_38 ++ b_s cB cC cI cJ cZ oA rA σ_38 ++ b_c cB cC cI cJ cZ oA rA σ_38 ++ b_t cB cC cI cJ cZ oA rA σ_38 ++ b_d cB cC cI cJ cZ oA rA σ_38)) hP fl_7 fl_7 [0, 1, 2, 3, 4, 5, 6] rfl
                have hDc := bx_D (bs := [b_k cB cC cI cJ cZ oA rA σ_38, b_p cB cC cI cJ cZ oA rA σ_38, b_o cB cC cI cJ cZ oA rA σ_38, b_s cB cC cI cJ cZ oA rA σ_38, b_c cB cC cI cJ cZ oA rA σ_38, b_t cB cC cI cJ cZ oA rA σ_38, b_d cB cC cI cJ cZ oA rA σ_38]) (bs' := [b_k cB cC cI cJ cZ oA rA σ_38, b_p cB cC cI cJ cZ oA rA σ_38, b_o cB cC cI cJ cZ oA rA σ_38, b_s cB cC cI cJ cZ oA rA σ_38, b_c cB cC cI cJ cZ oA rA σ_38, b_t cB cC cI cJ cZ oA rA σ_38, b_d cB cC cI cJ cZ oA rA σ_38]) (ws' := (b_k cB cC cI cJ cZ oA rA σ_38 ++ b_p cB cC cI cJ cZ oA rA σ_38 ++ b_o cB cC cI cJ cZ oA rA σ_38 ++ b_s cB cC cI cJ cZ oA rA σ_38 ++ b_c cB cC cI cJ cZ oA rA σ_38 ++ b_t cB cC cI cJ cZ oA rA σ_38 ++ b_d cB cC cI cJ cZ oA rA σ_38)) (hDD σ_38) fl_7 fl_7 [0, 1, 2, 3, 4, 5, 6] (by decide +kernel) rfl
                have hFc := bx_F (bs := [b_k cB cC cI cJ cZ oA rA σ_38, b_p cB cC cI cJ cZ oA rA σ_38, b_o cB cC cI cJ cZ oA rA σ_38, b_s cB cC cI cJ cZ oA rA σ_38, b_c cB cC cI cJ cZ oA rA σ_38, b_t cB cC cI cJ cZ oA rA σ_38, b_d cB cC cI cJ cZ oA rA σ_38]) (bs' := [b_k cB cC cI cJ cZ oA rA σ_38, b_p cB cC cI cJ cZ oA rA σ_38, b_o cB cC cI cJ cZ oA rA σ_38, b_s cB cC cI cJ cZ oA rA σ_38, b_c cB cC cI cJ cZ oA rA σ_38, b_t cB cC cI cJ cZ oA rA σ_38, b_d cB cC cI cJ cZ oA rA σ_38]) (wc := (b_k cB cC cI cJ cZ oA rA σ_38 ++ b_p cB cC cI cJ cZ oA rA σ_38 ++ b_o cB cC cI cJ cZ oA rA σ_38 ++ b_s cB cC cI cJ cZ oA rA σ_38 ++ b_c cB cC cI cJ cZ oA rA σ_38 ++ b_t cB cC cI cJ cZ oA rA σ_38 ++ b_d cB cC cI cJ cZ oA rA σ_38)) (hDD σ_38) hS hA fl_7 fl_7 [0, 1, 2, 3, 4, 5, 6] rfl
                refine g_ofv (wc := (b_k cB cC cI cJ cZ oA rA σ_38 ++ b_p cB cC cI cJ cZ oA rA σ_38 ++ b_o cB cC cI cJ cZ oA rA σ_38 ++ b_s cB cC cI cJ cZ oA rA σ_38 ++ b_c cB cC cI cJ cZ oA rA σ_38 ++ b_t cB cC cI cJ cZ oA rA σ_38 ++ b_d cB cC cI cJ cZ oA rA σ_38)) (wr := ([] : va_W)) hP (hDD σ_38) hS hFc (bx_ix [b_k cB cC cI cJ cZ oA rA σ_38, b_p cB cC cI cJ cZ oA rA σ_38, b_o cB cC cI cJ cZ oA rA σ_38, b_s cB cC cI cJ cZ oA rA σ_38, b_c cB cC cI cJ cZ oA rA σ_38, b_t cB cC cI cJ cZ oA rA σ_38, b_d cB cC cI cJ cZ oA rA σ_38] [0, 1, 2, 3, 4, 5, 6]) (bx_ix [b_k cB cC cI cJ cZ oA rA σ_38, b_p cB cC cI cJ cZ oA rA σ_38, b_o cB cC cI cJ cZ oA rA σ_38, b_s cB cC cI cJ cZ oA rA σ_38, b_c cB cC cI cJ cZ oA rA σ_38, b_t cB cC cI cJ cZ oA rA σ_38, b_d cB cC cI cJ cZ oA rA σ_38] []) (bx_C (bs := [b_k cB cC cI cJ cZ oA rA σ_38, b_p cB cC cI cJ cZ oA rA σ_38, b_o cB cC cI cJ cZ oA rA σ_38, b_s cB cC cI cJ cZ oA rA σ_38, b_c cB cC cI cJ cZ oA rA σ_38, b_t cB cC cI cJ cZ oA rA σ_38, b_d cB cC cI cJ cZ oA rA σ_38]) (bs' := [b_k cB cC cI cJ cZ oA rA σ_38, b_p cB cC cI cJ cZ oA rA σ_38, b_o cB cC cI cJ cZ oA rA σ_38, b_s cB cC cI cJ cZ oA rA σ_38, b_c cB cC cI cJ cZ oA rA σ_38, b_t cB cC cI cJ cZ oA rA σ_38, b_d cB cC cI cJ cZ oA rA σ_38]) (is := [0, 1, 2, 3, 4, 5, 6]) fl_7 fl_7 rfl) (bx_C (bs := [b_k cB cC cI cJ cZ oA rA σ_38, b_p cB cC cI cJ cZ oA rA σ_38, b_o cB cC cI cJ cZ oA rA σ_38, b_s cB cC cI cJ cZ oA rA σ_38, b_c cB cC cI cJ cZ oA rA σ_38, b_t cB cC cI cJ cZ oA rA σ_38, b_d cB cC cI cJ cZ oA rA σ_38]) (bs' := []) (is := []) fl_7 fl_0 rfl) (bx_n (by decide +kernel)) (bx_d (by decide +kernel)) (va_runV (As := [.int u_34.1]) (rest := []) ⟨hx, hb, hml, hown, hts⟩ (k_X3_flowOp l dC dI cB cC cI cJ cZ cP oA rA H.size  u_34.1 σ_38 _ hu_59) (cwV 1 hts (g_gV wq_1210 wq_1211 wq_2098 wq_11 wq_1212) rfl rfl rfl (by decide +kernel) ⟨Nat.le_of_ble_eq_true rfl, Nat.le_of_ble_eq_true rfl⟩) (g_preV g_bl0 hK hPc hDc hS hE hFc g_to0 (q0 := 0) (ci := 3) rfl rfl) rfl rfl hl.1 rfl (lv_room (Nat.le_of_ble_eq_true rfl)) dX3_run_175 ⟨Nat.le_of_ble_eq_true rfl, Nat.le_of_ble_eq_true rfl⟩) (fun u9 H locs hw9 hP' hD' hS => ?_)
                clear hPc hDc hFc
                have hP : va_P (dC, dI) vwCl (b_k cB cC cI cJ cZ oA rA u_59.2 ++ b_p cB cC cI cJ cZ oA rA u_59.2 ++ b_o cB cC cI cJ cZ oA rA u_59.2 ++ b_s cB cC cI cJ cZ oA rA u_59.2 ++ b_c cB cC cI cJ cZ oA rA u_59.2 ++ b_t cB cC cI cJ cZ oA rA u_59.2 ++ b_d cB cC cI cJ cZ oA rA u_59.2) H := hP'
                clear hP' hD'
                exact Jj_41  u_59.2 hF_60 _ _ hP hS ls (lv_sub hl [1, 2] rfl)
              · have hF_61 := ineg c_57 hF_56
                clear hF_56
                refine lv_aload_n hx hb dX3_run_165 rfl (lv_at hl 1 rfl) ?_
                refine lv_iload_n hx hb dX3_run_166 rfl (lv_at hl 0 rfl) ?_
                obtain ⟨u_62, hu_62, hF_63⟩ := Option.bind_eq_some_iff.mp hF_61
                clear hF_61
                have hPc := bx_P (bs := [b_k cB cC cI cJ cZ oA rA σ_38, b_p cB cC cI cJ cZ oA rA σ_38, b_o cB cC cI cJ cZ oA rA σ_38, b_s cB cC cI cJ cZ oA rA σ_38, b_c cB cC cI cJ cZ oA rA σ_38, b_t cB cC cI cJ cZ oA rA σ_38, b_d cB cC cI cJ cZ oA rA σ_38]) (bs' := [b_k cB cC cI cJ cZ oA rA σ_38, b_p cB cC cI cJ cZ oA rA σ_38, b_o cB cC cI cJ cZ oA rA σ_38, b_s cB cC cI cJ cZ oA rA σ_38, b_c cB cC cI cJ cZ oA rA σ_38, b_t cB cC cI cJ cZ oA rA σ_38, b_d cB cC cI cJ cZ oA rA σ_38]) (ws' := (b_k cB cC cI cJ cZ oA rA σ_38 ++ b_p cB cC cI cJ cZ oA rA σ_38 ++ b_o cB cC cI cJ cZ oA rA σ_38 ++ b_s cB cC cI cJ cZ oA rA σ_38 ++ b_c cB cC cI cJ cZ oA rA σ_38 ++ b_t cB cC cI cJ cZ oA rA σ_38 ++ b_d cB cC cI cJ cZ oA rA σ_38)) hP fl_7 fl_7 [0, 1, 2, 3, 4, 5, 6] rfl
                have hDc := bx_D (bs := [b_k cB cC cI cJ cZ oA rA σ_38, b_p cB cC cI cJ cZ oA rA σ_38, b_o cB cC cI cJ cZ oA rA σ_38, b_s cB cC cI cJ cZ oA rA σ_38, b_c cB cC cI cJ cZ oA rA σ_38, b_t cB cC cI cJ cZ oA rA σ_38, b_d cB cC cI cJ cZ oA rA σ_38]) (bs' := [b_k cB cC cI cJ cZ oA rA σ_38, b_p cB cC cI cJ cZ oA rA σ_38, b_o cB cC cI cJ cZ oA rA σ_38, b_s cB cC cI cJ cZ oA rA σ_38, b_c cB cC cI cJ cZ oA rA σ_38, b_t cB cC cI cJ cZ oA rA σ_38, b_d cB cC cI cJ cZ oA rA σ_38]) (ws' := (b_k cB cC cI cJ cZ oA rA σ_38 ++ b_p cB cC cI cJ cZ oA rA σ_38 ++ b_o cB cC cI cJ cZ oA rA σ_38 ++ b_s cB cC cI cJ cZ oA rA σ_38 ++ b_c cB cC cI cJ cZ oA rA σ_38 ++ b_t cB cC cI cJ cZ oA rA σ_38 ++ b_d cB cC cI cJ cZ oA rA σ_38)) (hDD σ_38) fl_7 fl_7 [0, 1, 2, 3, 4, 5, 6] (by decide +kernel) rfl
                have hFc := bx_F (bs := [b_k cB cC cI cJ cZ oA rA σ_38, b_p cB cC cI cJ cZ oA rA σ_38, b_o cB cC cI cJ cZ oA rA σ_38, b_s cB cC cI cJ cZ oA rA σ_38, b_c cB cC cI cJ cZ oA rA σ_38, b_t cB cC cI cJ cZ oA rA σ_38, b_d cB cC cI cJ cZ oA rA σ_38]) (bs' := [b_k cB cC cI cJ cZ oA rA σ_38, b_p cB cC cI cJ cZ oA rA σ_38, b_o cB cC cI cJ cZ oA rA σ_38, b_s cB cC cI cJ cZ oA rA σ_38, b_c cB cC cI cJ cZ oA rA σ_38, b_t cB cC cI cJ cZ oA rA σ_38, b_d cB cC cI cJ cZ oA rA σ_38]) (wc := (b_k cB cC cI cJ cZ oA rA σ_38 ++ b_p cB cC cI cJ cZ oA rA σ_38 ++ b_o cB cC cI cJ cZ oA rA σ_38 ++ b_s cB cC cI cJ cZ oA rA σ_38 ++ b_c cB cC cI cJ cZ oA rA σ_38 ++ b_t cB cC cI cJ cZ oA rA σ_38 ++ b_d cB cC cI cJ cZ oA rA σ_38)) (hDD σ_38) hS hA fl_7 fl_7 [0, 1, 2, 3, 4, 5, 6] rfl
                refine g_ofv (wc := (b_k cB cC cI cJ cZ oA rA σ_38 ++ b_p cB cC cI cJ cZ oA rA σ_38 ++ b_o cB cC cI cJ cZ oA rA σ_38 ++ b_s cB cC cI cJ cZ oA rA σ_38 ++ b_c cB cC cI cJ cZ oA rA σ_38 ++ b_t cB cC cI cJ cZ oA rA σ_38 ++ b_d cB cC cI cJ cZ oA rA σ_38)) (wr := ([] : va_W)) hP (hDD σ_38) hS hFc (bx_ix [b_k cB cC cI cJ cZ oA rA σ_38, b_p cB cC cI cJ cZ oA rA σ_38, b_o cB cC cI cJ cZ oA rA σ_38, b_s cB cC cI cJ cZ oA rA σ_38, b_c cB cC cI cJ cZ oA rA σ_38, b_t cB cC cI cJ cZ oA rA σ_38, b_d cB cC cI cJ cZ oA rA σ_38] [0, 1, 2, 3, 4, 5, 6]) (bx_ix [b_k cB cC cI cJ cZ oA rA σ_38, b_p cB cC cI cJ cZ oA rA σ_38, b_o cB cC cI cJ cZ oA rA σ_38, b_s cB cC cI cJ cZ oA rA σ_38, b_c cB cC cI cJ cZ oA rA σ_38, b_t cB cC cI cJ cZ oA rA σ_38, b_d cB cC cI cJ cZ oA rA σ_38] []) (bx_C (bs := [b_k cB cC cI cJ cZ oA rA σ_38, b_p cB cC cI cJ cZ oA rA σ_38, b_o cB cC cI cJ cZ oA rA σ_38, b_s cB cC cI cJ cZ oA rA σ_38, b_c cB cC cI cJ cZ oA rA σ_38, b_t cB cC cI cJ cZ oA rA σ_38, b_d cB cC cI cJ cZ oA rA σ_38]) (bs' := [b_k cB cC cI cJ cZ oA rA σ_38, b_p cB cC cI cJ cZ oA rA σ_38, b_o cB cC cI cJ cZ oA rA σ_38, b_s cB cC cI cJ cZ oA rA σ_38, b_c cB cC cI cJ cZ oA rA σ_38, b_t cB cC cI cJ cZ oA rA σ_38, b_d cB cC cI cJ cZ oA rA σ_38]) (is := [0, 1, 2, 3, 4, 5, 6]) fl_7 fl_7 rfl) (bx_C (bs := [b_k cB cC cI cJ cZ oA rA σ_38, b_p cB cC cI cJ cZ oA rA σ_38, b_o cB cC cI cJ cZ oA rA σ_38, b_s cB cC cI cJ cZ oA rA σ_38, b_c cB cC cI cJ cZ oA rA σ_38, b_t cB cC cI cJ cZ oA rA σ_38, b_d cB cC cI cJ cZ oA rA σ_38]) (bs' := []) (is := []) fl_7 fl_0 rfl) (bx_n (by decide +kernel)) (bx_d (by decide +kernel)) (va_runV (As := [.int u_34.1]) (rest := []) ⟨hx, hb, hml, hown, hts⟩ (k_X3_numberOp l dC dI cB cC cI cJ cZ cP oA rA H.size  u_34.1 σ_38 _ hu_62) (cwV 1 hts (g_gV wq_1204 wq_1205 wq_2097 wq_11 wq_1206) rfl rfl rfl (by decide +kernel) ⟨Nat.le_of_ble_eq_true rfl, Nat.le_of_ble_eq_true rfl⟩) (g_preV g_bl0 hK hPc hDc hS hE hFc g_to0 (q0 := 0) (ci := 3) rfl rfl) rfl rfl hl.1 rfl (lv_room (Nat.le_of_ble_eq_true rfl)) dX3_run_167 ⟨Nat.le_of_ble_eq_true rfl, Nat.le_of_ble_eq_true rfl⟩) (fun u9 H locs hw9 hP' hD' hS => ?_)
                clear hPc hDc hFc
                have hP : va_P (dC, dI) vwCl (b_k cB cC cI cJ cZ oA rA u_62.2 ++ b_p cB cC cI cJ cZ oA rA u_62.2 ++ b_o cB cC cI cJ cZ oA rA u_62.2 ++ b_s cB cC cI cJ cZ oA rA u_62.2 ++ b_c cB cC cI cJ cZ oA rA u_62.2 ++ b_t cB cC cI cJ cZ oA rA u_62.2 ++ b_d cB cC cI cJ cZ oA rA u_62.2) H := hP'
                clear hP' hD'
                refine lv_goto (tgt := 178) hx hb dX3_run_170 (by decide) ?_
                exact Jj_41  u_62.2 hF_63 _ _ hP hS ls (lv_sub hl [1, 2] rfl)
            · have hF_64 := ineg c_55 hF_54
              clear hF_54
              refine lv_aload_n hx hb dX3_run_151 rfl (lv_at hl 1 rfl) ?_
              refine lv_iload_n hx hb dX3_run_152 rfl (lv_at hl 0 rfl) ?_
              obtain ⟨u_65, hu_65, hF_66⟩ := Option.bind_eq_some_iff.mp hF_64
              clear hF_64
              have hPc := bx_P (bs := [b_k cB cC cI cJ cZ oA rA σ_38, b_p cB cC cI cJ cZ oA rA σ_38, b_o cB cC cI cJ cZ oA rA σ_38, b_s cB cC cI cJ cZ oA rA σ_38, b_c cB cC cI cJ cZ oA rA σ_38, b_t cB cC cI cJ cZ oA rA σ_38, b_d cB cC cI cJ cZ oA rA σ_38]) (bs' := [b_k cB cC cI cJ cZ oA rA σ_38, b_p cB cC cI cJ cZ oA rA σ_38, b_o cB cC cI cJ cZ oA rA σ_38, b_s cB cC cI cJ cZ oA rA σ_38, b_c cB cC cI cJ cZ oA rA σ_38, b_t cB cC cI cJ cZ oA rA σ_38, b_d cB cC cI cJ cZ oA rA σ_38]) (ws' := (b_k cB cC cI cJ cZ oA rA σ_38 ++ b_p cB cC cI cJ cZ oA rA σ_38 ++ b_o cB cC cI cJ cZ oA rA σ_38 ++ b_s cB cC cI cJ cZ oA rA σ_38 ++ b_c cB cC cI cJ cZ oA rA σ_38 ++ b_t cB cC cI cJ cZ oA rA σ_38 ++ b_d cB cC cI cJ cZ oA rA σ_38)) hP fl_7 fl_7 [0, 1, 2, 3, 4, 5, 6] rfl
              have hDc := bx_D (bs := [b_k cB cC cI cJ cZ oA rA σ_38, b_p cB cC cI cJ cZ oA rA σ_38, b_o cB cC cI cJ cZ oA rA σ_38, b_s cB cC cI cJ cZ oA rA σ_38, b_c cB cC cI cJ cZ oA rA σ_38, b_t cB cC cI cJ cZ oA rA σ_38, b_d cB cC cI cJ cZ oA rA σ_38]) (bs' := [b_k cB cC cI cJ cZ oA rA σ_38, b_p cB cC cI cJ cZ oA rA σ_38, b_o cB cC cI cJ cZ oA rA σ_38, b_s cB cC cI cJ cZ oA rA σ_38, b_c cB cC cI cJ cZ oA rA σ_38, b_t cB cC cI cJ cZ oA rA σ_38, b_d cB cC cI cJ cZ oA rA σ_38]) (ws' := (b_k cB cC cI cJ cZ oA rA σ_38 ++ b_p cB cC cI cJ cZ oA rA σ_38 ++ b_o cB cC cI cJ cZ oA rA σ_38 ++ b_s cB cC cI cJ cZ oA rA σ_38 ++ b_c cB cC cI cJ cZ oA rA σ_38 ++ b_t cB cC cI cJ cZ oA rA σ_38 ++ b_d cB cC cI cJ cZ oA rA σ_38)) (hDD σ_38) fl_7 fl_7 [0, 1, 2, 3, 4, 5, 6] (by decide +kernel) rfl
              have hFc := bx_F (bs := [b_k cB cC cI cJ cZ oA rA σ_38, b_p cB cC cI cJ cZ oA rA σ_38, b_o cB cC cI cJ cZ oA rA σ_38, b_s cB cC cI cJ cZ oA rA σ_38, b_c cB cC cI cJ cZ oA rA σ_38, b_t cB cC cI cJ cZ oA rA σ_38, b_d cB cC cI cJ cZ oA rA σ_38]) (bs' := [b_k cB cC cI cJ cZ oA rA σ_38, b_p cB cC cI cJ cZ oA rA σ_38, b_o cB cC cI cJ cZ oA rA σ_38, b_s cB cC cI cJ cZ oA rA σ_38, b_c cB cC cI cJ cZ oA rA σ_38, b_t cB cC cI cJ cZ oA rA σ_38, b_d cB cC cI cJ cZ oA rA σ_38]) (wc := (b_k cB cC cI cJ cZ oA rA σ_38 ++ b_p cB cC cI cJ cZ oA rA σ_38 ++ b_o cB cC cI cJ cZ oA rA σ_38 ++ b_s cB cC cI cJ cZ oA rA σ_38 ++ b_c cB cC cI cJ cZ oA rA σ_38 ++ b_t cB cC cI cJ cZ oA rA σ_38 ++ b_d cB cC cI cJ cZ oA rA σ_38)) (hDD σ_38) hS hA fl_7 fl_7 [0, 1, 2, 3, 4, 5, 6] rfl
              refine g_ofv (wc := (b_k cB cC cI cJ cZ oA rA σ_38 ++ b_p cB cC cI cJ cZ oA rA σ_38 ++ b_o cB cC cI cJ cZ oA rA σ_38 ++ b_s cB cC cI cJ cZ oA rA σ_38 ++ b_c cB cC cI cJ cZ oA rA σ_38 ++ b_t cB cC cI cJ cZ oA rA σ_38 ++ b_d cB cC cI cJ cZ oA rA σ_38)) (wr := ([] : va_W)) hP (hDD σ_38) hS hFc (bx_ix [b_k cB cC cI cJ cZ oA rA σ_38, b_p cB cC cI cJ cZ oA rA σ_38, b_o cB cC cI cJ cZ oA rA σ_38, b_s cB cC cI cJ cZ oA rA σ_38, b_c cB cC cI cJ cZ oA rA σ_38, b_t cB cC cI cJ cZ oA rA σ_38, b_d cB cC cI cJ cZ oA rA σ_38] [0, 1, 2, 3, 4, 5, 6]) (bx_ix [b_k cB cC cI cJ cZ oA rA σ_38, b_p cB cC cI cJ cZ oA rA σ_38, b_o cB cC cI cJ cZ oA rA σ_38, b_s cB cC cI cJ cZ oA rA σ_38, b_c cB cC cI cJ cZ oA rA σ_38, b_t cB cC cI cJ cZ oA rA σ_38, b_d cB cC cI cJ cZ oA rA σ_38] []) (bx_C (bs := [b_k cB cC cI cJ cZ oA rA σ_38, b_p cB cC cI cJ cZ oA rA σ_38, b_o cB cC cI cJ cZ oA rA σ_38, b_s cB cC cI cJ cZ oA rA σ_38, b_c cB cC cI cJ cZ oA rA σ_38, b_t cB cC cI cJ cZ oA rA σ_38, b_d cB cC cI cJ cZ oA rA σ_38]) (bs' := [b_k cB cC cI cJ cZ oA rA σ_38, b_p cB cC cI cJ cZ oA rA σ_38, b_o cB cC cI cJ cZ oA rA σ_38, b_s cB cC cI cJ cZ oA rA σ_38, b_c cB cC cI cJ cZ oA rA σ_38, b_t cB cC cI cJ cZ oA rA σ_38, b_d cB cC cI cJ cZ oA rA σ_38]) (is := [0, 1, 2, 3, 4, 5, 6]) fl_7 fl_7 rfl) (bx_C (bs := [b_k cB cC cI cJ cZ oA rA σ_38, b_p cB cC cI cJ cZ oA rA σ_38, b_o cB cC cI cJ cZ oA rA σ_38, b_s cB cC cI cJ cZ oA rA σ_38, b_c cB cC cI cJ cZ oA rA σ_38, b_t cB cC cI cJ cZ oA rA σ_38, b_d cB cC cI cJ cZ oA rA σ_38]) (bs' := []) (is := []) fl_7 fl_0 rfl) (bx_n (by decide +kernel)) (bx_d (by decide +kernel)) (va_runV (As := [.int u_34.1]) (rest := []) ⟨hx, hb, hml, hown, hts⟩ (k_X3_objectOp l dC dI cB cC cI cJ cZ cP oA rA H.size  u_34.1 σ_38 _ hu_65) (cwV 1 hts (g_gV wq_1199 wq_1200 wq_2096 wq_11 wq_1201) rfl rfl rfl (by decide +kernel) ⟨Nat.le_of_ble_eq_true rfl, Nat.le_of_ble_eq_true rfl⟩) (g_preV g_bl0 hK hPc hDc hS hE hFc g_to0 (q0 := 0) (ci := 3) rfl rfl) rfl rfl hl.1 rfl (lv_room (Nat.le_of_ble_eq_true rfl)) dX3_run_153 ⟨Nat.le_of_ble_eq_true rfl, Nat.le_of_ble_eq_true rfl⟩) (fun u9 H locs hw9 hP' hD' hS => ?_)
              clear hPc hDc hFc
              have hP : va_P (dC, dI) vwCl (b_k cB cC cI cJ cZ oA rA u_65.2 ++ b_p cB cC cI cJ cZ oA rA u_65.2 ++ b_o cB cC cI cJ cZ oA rA u_65.2 ++ b_s cB cC cI cJ cZ oA rA u_65.2 ++ b_c cB cC cI cJ cZ oA rA u_65.2 ++ b_t cB cC cI cJ cZ oA rA u_65.2 ++ b_d cB cC cI cJ cZ oA rA u_65.2) H := hP'
              clear hP' hD'
              refine lv_goto (tgt := 178) hx hb dX3_run_156 (by decide) ?_
              exact Jj_41  u_65.2 hF_66 _ _ hP hS ls (lv_sub hl [1, 2] rfl)
          · have hF_67 := ineg c_53 hF_52
            clear hF_52
            refine lv_aload_n hx hb dX3_run_137 rfl (lv_at hl 1 rfl) ?_
            refine lv_iload_n hx hb dX3_run_138 rfl (lv_at hl 0 rfl) ?_
            obtain ⟨u_68, hu_68, hF_69⟩ := Option.bind_eq_some_iff.mp hF_67
            clear hF_67
            have hPc := bx_P (bs := [b_k cB cC cI cJ cZ oA rA σ_38, b_p cB cC cI cJ cZ oA rA σ_38, b_o cB cC cI cJ cZ oA rA σ_38, b_s cB cC cI cJ cZ oA rA σ_38, b_c cB cC cI cJ cZ oA rA σ_38, b_t cB cC cI cJ cZ oA rA σ_38, b_d cB cC cI cJ cZ oA rA σ_38]) (bs' := [b_k cB cC cI cJ cZ oA rA σ_38, b_p cB cC cI cJ cZ oA rA σ_38, b_o cB cC cI cJ cZ oA rA σ_38, b_s cB cC cI cJ cZ oA rA σ_38, b_c cB cC cI cJ cZ oA rA σ_38, b_t cB cC cI cJ cZ oA rA σ_38, b_d cB cC cI cJ cZ oA rA σ_38]) (ws' := (b_k cB cC cI cJ cZ oA rA σ_38 ++ b_p cB cC cI cJ cZ oA rA σ_38 ++ b_o cB cC cI cJ cZ oA rA σ_38 ++ b_s cB cC cI cJ cZ oA rA σ_38 ++ b_c cB cC cI cJ cZ oA rA σ_38 ++ b_t cB cC cI cJ cZ oA rA σ_38 ++ b_d cB cC cI cJ cZ oA rA σ_38)) hP fl_7 fl_7 [0, 1, 2, 3, 4, 5, 6] rfl
            have hDc := bx_D (bs := [b_k cB cC cI cJ cZ oA rA σ_38, b_p cB cC cI cJ cZ oA rA σ_38, b_o cB cC cI cJ cZ oA rA σ_38, b_s cB cC cI cJ cZ oA rA σ_38, b_c cB cC cI cJ cZ oA rA σ_38, b_t cB cC cI cJ cZ oA rA σ_38, b_d cB cC cI cJ cZ oA rA σ_38]) (bs' := [b_k cB cC cI cJ cZ oA rA σ_38, b_p cB cC cI cJ cZ oA rA σ_38, b_o cB cC cI cJ cZ oA rA σ_38, b_s cB cC cI cJ cZ oA rA σ_38, b_c cB cC cI cJ cZ oA rA σ_38, b_t cB cC cI cJ cZ oA rA σ_38, b_d cB cC cI cJ cZ oA rA σ_38]) (ws' := (b_k cB cC cI cJ cZ oA rA σ_38 ++ b_p cB cC cI cJ cZ oA rA σ_38 ++ b_o cB cC cI cJ cZ oA rA σ_38 ++ b_s cB cC cI cJ cZ oA rA σ_38 ++ b_c cB cC cI cJ cZ oA rA σ_38 ++ b_t cB cC cI cJ cZ oA rA σ_38 ++ b_d cB cC cI cJ cZ oA rA σ_38)) (hDD σ_38) fl_7 fl_7 [0, 1, 2, 3, 4, 5, 6] (by decide +kernel) rfl
            have hFc := bx_F (bs := [b_k cB cC cI cJ cZ oA rA σ_38, b_p cB cC cI cJ cZ oA rA σ_38, b_o cB cC cI cJ cZ oA rA σ_38, b_s cB cC cI cJ cZ oA rA σ_38, b_c cB cC cI cJ cZ oA rA σ_38, b_t cB cC cI cJ cZ oA rA σ_38, b_d cB cC cI cJ cZ oA rA σ_38]) (bs' := [b_k cB cC cI cJ cZ oA rA σ_38, b_p cB cC cI cJ cZ oA rA σ_38, b_o cB cC cI cJ cZ oA rA σ_38, b_s cB cC cI cJ cZ oA rA σ_38, b_c cB cC cI cJ cZ oA rA σ_38, b_t cB cC cI cJ cZ oA rA σ_38, b_d cB cC cI cJ cZ oA rA σ_38]) (wc := (b_k cB cC cI cJ cZ oA rA σ_38 ++ b_p cB cC cI cJ cZ oA rA σ_38 ++ b_o cB cC cI cJ cZ oA rA σ_38 ++ b_s cB cC cI cJ cZ oA rA σ_38 ++ b_c cB cC cI cJ cZ oA rA σ_38 ++ b_t cB cC cI cJ cZ oA rA σ_38 ++ b_d cB cC cI cJ cZ oA rA σ_38)) (hDD σ_38) hS hA fl_7 fl_7 [0, 1, 2, 3, 4, 5, 6] rfl
            refine g_ofv (wc := (b_k cB cC cI cJ cZ oA rA σ_38 ++ b_p cB cC cI cJ cZ oA rA σ_38 ++ b_o cB cC cI cJ cZ oA rA σ_38 ++ b_s cB cC cI cJ cZ oA rA σ_38 ++ b_c cB cC cI cJ cZ oA rA σ_38 ++ b_t cB cC cI cJ cZ oA rA σ_38 ++ b_d cB cC cI cJ cZ oA rA σ_38)) (wr := ([] : va_W)) hP (hDD σ_38) hS hFc (bx_ix [b_k cB cC cI cJ cZ oA rA σ_38, b_p cB cC cI cJ cZ oA rA σ_38, b_o cB cC cI cJ cZ oA rA σ_38, b_s cB cC cI cJ cZ oA rA σ_38, b_c cB cC cI cJ cZ oA rA σ_38, b_t cB cC cI cJ cZ oA rA σ_38, b_d cB cC cI cJ cZ oA rA σ_38] [0, 1, 2, 3, 4, 5, 6]) (bx_ix [b_k cB cC cI cJ cZ oA rA σ_38, b_p cB cC cI cJ cZ oA rA σ_38, b_o cB cC cI cJ cZ oA rA σ_38, b_s cB cC cI cJ cZ oA rA σ_38, b_c cB cC cI cJ cZ oA rA σ_38, b_t cB cC cI cJ cZ oA rA σ_38, b_d cB cC cI cJ cZ oA rA σ_38] []) (bx_C (bs := [b_k cB cC cI cJ cZ oA rA σ_38, b_p cB cC cI cJ cZ oA rA σ_38, b_o cB cC cI cJ cZ oA rA σ_38, b_s cB cC cI cJ cZ oA rA σ_38, b_c cB cC cI cJ cZ oA rA σ_38, b_t cB cC cI cJ cZ oA rA σ_38, b_d cB cC cI cJ cZ oA rA σ_38]) (bs' := [b_k cB cC cI cJ cZ oA rA σ_38, b_p cB cC cI cJ cZ oA rA σ_38, b_o cB cC cI cJ cZ oA rA σ_38, b_s cB cC cI cJ cZ oA rA σ_38, b_c cB cC cI cJ cZ oA rA σ_38, b_t cB cC cI cJ cZ oA rA σ_38, b_d cB cC cI cJ cZ oA rA σ_38]) (is := [0, 1, 2, 3, 4, 5, 6]) fl_7 fl_7 rfl) (bx_C (bs := [b_k cB cC cI cJ cZ oA rA σ_38, b_p cB cC cI cJ cZ oA rA σ_38, b_o cB cC cI cJ cZ oA rA σ_38, b_s cB cC cI cJ cZ oA rA σ_38, b_c cB cC cI cJ cZ oA rA σ_38, b_t cB cC cI cJ cZ oA rA σ_38, b_d cB cC cI cJ cZ oA rA σ_38]) (bs' := []) (is := []) fl_7 fl_0 rfl) (bx_n (by decide +kernel)) (bx_d (by decide +kernel)) (va_runV (As := [.int u_34.1]) (rest := []) ⟨hx, hb, hml, hown, hts⟩ (k_X3_worldOp l dC dI cB cC cI cJ cZ cP oA rA H.size  u_34.1 σ_38 _ hu_68) (cwV 1 hts (g_gV wq_1184 wq_1185 wq_2094 wq_11 wq_1186) rfl rfl rfl (by decide +kernel) ⟨Nat.le_of_ble_eq_true rfl, Nat.le_of_ble_eq_true rfl⟩) (g_preV g_bl0 hK hPc hDc hS hE hFc g_to0 (q0 := 0) (ci := 3) rfl rfl) rfl rfl hl.1 rfl (lv_room (Nat.le_of_ble_eq_true rfl)) dX3_run_139 ⟨Nat.le_of_ble_eq_true rfl, Nat.le_of_ble_eq_true rfl⟩) (fun u9 H locs hw9 hP' hD' hS => ?_)
            clear hPc hDc hFc
            have hP : va_P (dC, dI) vwCl (b_k cB cC cI cJ cZ oA rA u_68.2 ++ b_p cB cC cI cJ cZ oA rA u_68.2 ++ b_o cB cC cI cJ cZ oA rA u_68.2 ++ b_s cB cC cI cJ cZ oA rA u_68.2 ++ b_c cB cC cI cJ cZ oA rA u_68.2 ++ b_t cB cC cI cJ cZ oA rA u_68.2 ++ b_d cB cC cI cJ cZ oA rA u_68.2) H := hP'
            clear hP' hD'
            refine lv_goto (tgt := 178) hx hb dX3_run_142 (by decide) ?_
            exact Jj_41  u_68.2 hF_69 _ _ hP hS ls (lv_sub hl [1, 2] rfl)
        · have hF_49 := ipos c_48 hF_47
          clear hF_47
          refine lv_aload_n hx hb dX3_run_124 rfl (lv_at hl 1 rfl) ?_
          obtain ⟨u_50, hu_50, hF_51⟩ := Option.bind_eq_some_iff.mp hF_49
          clear hF_49
          have hPc := bx_P (bs := [b_k cB cC cI cJ cZ oA rA σ_38, b_p cB cC cI cJ cZ oA rA σ_38, b_o cB cC cI cJ cZ oA rA σ_38, b_s cB cC cI cJ cZ oA rA σ_38, b_c cB cC cI cJ cZ oA rA σ_38, b_t cB cC cI cJ cZ oA rA σ_38, b_d cB cC cI cJ cZ oA rA σ_38]) (bs' := [b_k cB cC cI cJ cZ oA rA σ_38, b_p cB cC cI cJ cZ oA rA σ_38, b_o cB cC cI cJ cZ oA rA σ_38, b_s cB cC cI cJ cZ oA rA σ_38, b_c cB cC cI cJ cZ oA rA σ_38, b_t cB cC cI cJ cZ oA rA σ_38, b_d cB cC cI cJ cZ oA rA σ_38]) (ws' := (b_k cB cC cI cJ cZ oA rA σ_38 ++ b_p cB cC cI cJ cZ oA rA σ_38 ++ b_o cB cC cI cJ cZ oA rA σ_38 ++ b_s cB cC cI cJ cZ oA rA σ_38 ++ b_c cB cC cI cJ cZ oA rA σ_38 ++ b_t cB cC cI cJ cZ oA rA σ_38 ++ b_d cB cC cI cJ cZ oA rA σ_38)) hP fl_7 fl_7 [0, 1, 2, 3, 4, 5, 6] rfl
          have hDc := bx_D (bs := [b_k cB cC cI cJ cZ oA rA σ_38, b_p cB cC cI cJ cZ oA rA σ_38, b_o cB cC cI cJ cZ oA rA σ_38, b_s cB cC cI cJ cZ oA rA σ_38, b_c cB cC cI cJ cZ oA rA σ_38, b_t cB cC cI cJ cZ oA rA σ_38, b_d cB cC cI cJ cZ oA rA σ_38]) (bs' := [b_k cB cC cI cJ cZ oA rA σ_38, b_p cB cC cI cJ cZ oA rA σ_38, b_o cB cC cI cJ cZ oA rA σ_38, b_s cB cC cI cJ cZ oA rA σ_38, b_c cB cC cI cJ cZ oA rA σ_38, b_t cB cC cI cJ cZ oA rA σ_38, b_d cB cC cI cJ cZ oA rA σ_38]) (ws' := (b_k cB cC cI cJ cZ oA rA σ_38 ++ b_p cB cC cI cJ cZ oA rA σ_38 ++ b_o cB cC cI cJ cZ oA rA σ_38 ++ b_s cB cC cI cJ cZ oA rA σ_38 ++ b_c cB cC cI cJ cZ oA rA σ_38 ++ b_t cB cC cI cJ cZ oA rA σ_38 ++ b_d cB cC cI cJ cZ oA rA σ_38)) (hDD σ_38) fl_7 fl_7 [0, 1, 2, 3, 4, 5, 6] (by decide +kernel) rfl
          have hFc := bx_F (bs := [b_k cB cC cI cJ cZ oA rA σ_38, b_p cB cC cI cJ cZ oA rA σ_38, b_o cB cC cI cJ cZ oA rA σ_38, b_s cB cC cI cJ cZ oA rA σ_38, b_c cB cC cI cJ cZ oA rA σ_38, b_t cB cC cI cJ cZ oA rA σ_38, b_d cB cC cI cJ cZ oA rA σ_38]) (bs' := [b_k cB cC cI cJ cZ oA rA σ_38, b_p cB cC cI cJ cZ oA rA σ_38, b_o cB cC cI cJ cZ oA rA σ_38, b_s cB cC cI cJ cZ oA rA σ_38, b_c cB cC cI cJ cZ oA rA σ_38, b_t cB cC cI cJ cZ oA rA σ_38, b_d cB cC cI cJ cZ oA rA σ_38]) (wc := (b_k cB cC cI cJ cZ oA rA σ_38 ++ b_p cB cC cI cJ cZ oA rA σ_38 ++ b_o cB cC cI cJ cZ oA rA σ_38 ++ b_s cB cC cI cJ cZ oA rA σ_38 ++ b_c cB cC cI cJ cZ oA rA σ_38 ++ b_t cB cC cI cJ cZ oA rA σ_38 ++ b_d cB cC cI cJ cZ oA rA σ_38)) (hDD σ_38) hS hA fl_7 fl_7 [0, 1, 2, 3, 4, 5, 6] rfl
          refine g_ofv (wc := (b_k cB cC cI cJ cZ oA rA σ_38 ++ b_p cB cC cI cJ cZ oA rA σ_38 ++ b_o cB cC cI cJ cZ oA rA σ_38 ++ b_s cB cC cI cJ cZ oA rA σ_38 ++ b_c cB cC cI cJ cZ oA rA σ_38 ++ b_t cB cC cI cJ cZ oA rA σ_38 ++ b_d cB cC cI cJ cZ oA rA σ_38)) (wr := ([] : va_W)) hP (hDD σ_38) hS hFc (bx_ix [b_k cB cC cI cJ cZ oA rA σ_38, b_p cB cC cI cJ cZ oA rA σ_38, b_o cB cC cI cJ cZ oA rA σ_38, b_s cB cC cI cJ cZ oA rA σ_38, b_c cB cC cI cJ cZ oA rA σ_38, b_t cB cC cI cJ cZ oA rA σ_38, b_d cB cC cI cJ cZ oA rA σ_38] [0, 1, 2, 3, 4, 5, 6]) (bx_ix [b_k cB cC cI cJ cZ oA rA σ_38, b_p cB cC cI cJ cZ oA rA σ_38, b_o cB cC cI cJ cZ oA rA σ_38, b_s cB cC cI cJ cZ oA rA σ_38, b_c cB cC cI cJ cZ oA rA σ_38, b_t cB cC cI cJ cZ oA rA σ_38, b_d cB cC cI cJ cZ oA rA σ_38] []) (bx_C (bs := [b_k cB cC cI cJ cZ oA rA σ_38, b_p cB cC cI cJ cZ oA rA σ_38, b_o cB cC cI cJ cZ oA rA σ_38, b_s cB cC cI cJ cZ oA rA σ_38, b_c cB cC cI cJ cZ oA rA σ_38, b_t cB cC cI cJ cZ oA rA σ_38, b_d cB cC cI cJ cZ oA rA σ_38]) (bs' := [b_k cB cC cI cJ cZ oA rA σ_38, b_p cB cC cI cJ cZ oA rA σ_38, b_o cB cC cI cJ cZ oA rA σ_38, b_s cB cC cI cJ cZ oA rA σ_38, b_c cB cC cI cJ cZ oA rA σ_38, b_t cB cC cI cJ cZ oA rA σ_38, b_d cB cC cI cJ cZ oA rA σ_38]) (is := [0, 1, 2, 3, 4, 5, 6]) fl_7 fl_7 rfl) (bx_C (bs := [b_k cB cC cI cJ cZ oA rA σ_38, b_p cB cC cI cJ cZ oA rA σ_38, b_o cB cC cI cJ cZ oA rA σ_38, b_s cB cC cI cJ cZ oA rA σ_38, b_c cB cC cI cJ cZ oA rA σ_38, b_t cB cC cI cJ cZ oA rA σ_38, b_d cB cC cI cJ cZ oA rA σ_38]) (bs' := []) (is := []) fl_7 fl_0 rfl) (bx_n (by decide +kernel)) (bx_d (by decide +kernel)) (va_runV (As := []) (rest := []) ⟨hx, hb, hml, hown, hts⟩ (k_X3_moveOp l dC dI cB cC cI cJ cZ cP oA rA H.size  σ_38 _ hu_50) (cwV 0 hts (g_gV wq_1175 wq_1176 wq_2093 wq_11 wq_1177) rfl rfl rfl (by decide +kernel) ⟨Nat.le_of_ble_eq_true rfl, Nat.le_of_ble_eq_true rfl⟩) (g_preV g_bl0 hK hPc hDc hS hE hFc g_to0 (q0 := 0) (ci := 3) rfl rfl) rfl rfl hl.1 rfl (lv_room (Nat.le_of_ble_eq_true rfl)) dX3_run_125 ⟨Nat.le_of_ble_eq_true rfl, Nat.le_of_ble_eq_true rfl⟩) (fun u9 H locs hw9 hP' hD' hS => ?_)
          clear hPc hDc hFc
          have hP : va_P (dC, dI) vwCl (b_k cB cC cI cJ cZ oA rA u_50.2 ++ b_p cB cC cI cJ cZ oA rA u_50.2 ++ b_o cB cC cI cJ cZ oA rA u_50.2 ++ b_s cB cC cI cJ cZ oA rA u_50.2 ++ b_c cB cC cI cJ cZ oA rA u_50.2 ++ b_t cB cC cI cJ cZ oA rA u_50.2 ++ b_d cB cC cI cJ cZ oA rA u_50.2) H := hP'
          clear hP' hD'
          refine lv_goto (tgt := 178) hx hb dX3_run_128 (by decide) ?_
          exact Jj_41  u_50.2 hF_51 _ _ hP hS ls (lv_sub hl [1, 2] rfl)
      · have hF_70 := ineg c_46 hF_42
        clear hF_42
        refine lv_aload_n hx hb dX3_run_82 rfl (lv_at hl 1 rfl) ?_
        refine va_get (D := (dC, dI)) (ci := 3) (v := .ref (oA 4)) (C := RX3) (T := TX3) (N := 16) hx hb hts ii_X3 hown hK hP 0 rfl rfl 2 (by decide) (hts (.fieldLink RX3 52 "StoryHouse$Machine" "story" "LStoryHouse$Story;") wq_262) (fun _ h9 => h9) rfl dX3_run_83 ?_
        refine va_get (D := (dC, dI)) (ci := 7) (v := .ref (oA 5)) (C := RX7) (T := TX7) (N := 19) hx hb hts ii_X7 hown hK hP 15 rfl rfl 16 (by decide) (hts (.fieldLink RX3 56 "StoryHouse$Story" "code" "LStoryHouse$Code;") wq_194) (fun _ h9 => h9) rfl dX3_run_86 ?_
        refine lv_aload_n hx hb dX3_run_89 rfl (lv_at hl 1 rfl) ?_
        refine va_get (D := (dC, dI)) (ci := 3) (v := .int ((σ_38 10).1 9)) (C := RX3) (T := TX3) (N := 16) hx hb hts ii_X3 hown hK hP 0 rfl rfl 9 (by decide) (hts (.fieldLink RX3 68 "StoryHouse$Machine" "pc" "I") wq_273) (fun _ h9 => h9) rfl dX3_run_90 ?_
        obtain ⟨u_71, hu_71, hF_72⟩ := Option.bind_eq_some_iff.mp hF_70
        clear hF_70
        have hPc := bx_P (bs := [b_k cB cC cI cJ cZ oA rA σ_38, b_p cB cC cI cJ cZ oA rA σ_38, b_o cB cC cI cJ cZ oA rA σ_38, b_s cB cC cI cJ cZ oA rA σ_38, b_c cB cC cI cJ cZ oA rA σ_38, b_t cB cC cI cJ cZ oA rA σ_38, b_d cB cC cI cJ cZ oA rA σ_38]) (bs' := [b_c cB cC cI cJ cZ oA rA σ_38]) (ws' := (b_c cB cC cI cJ cZ oA rA σ_38)) hP fl_7 fl_1 [4] rfl
        have hDc := bx_D (bs := [b_k cB cC cI cJ cZ oA rA σ_38, b_p cB cC cI cJ cZ oA rA σ_38, b_o cB cC cI cJ cZ oA rA σ_38, b_s cB cC cI cJ cZ oA rA σ_38, b_c cB cC cI cJ cZ oA rA σ_38, b_t cB cC cI cJ cZ oA rA σ_38, b_d cB cC cI cJ cZ oA rA σ_38]) (bs' := [b_c cB cC cI cJ cZ oA rA σ_38]) (ws' := (b_c cB cC cI cJ cZ oA rA σ_38)) (hDD σ_38) fl_7 fl_1 [4] (by decide +kernel) rfl
        have hFc := bx_F (bs := [b_k cB cC cI cJ cZ oA rA σ_38, b_p cB cC cI cJ cZ oA rA σ_38, b_o cB cC cI cJ cZ oA rA σ_38, b_s cB cC cI cJ cZ oA rA σ_38, b_c cB cC cI cJ cZ oA rA σ_38, b_t cB cC cI cJ cZ oA rA σ_38, b_d cB cC cI cJ cZ oA rA σ_38]) (bs' := [b_c cB cC cI cJ cZ oA rA σ_38]) (wc := (b_c cB cC cI cJ cZ oA rA σ_38)) (hDD σ_38) hS hA fl_7 fl_1 [4] rfl
        refine g_ofi (wc := (b_c cB cC cI cJ cZ oA rA σ_38)) (wr := (b_k cB cC cI cJ cZ oA rA σ_38 ++ b_p cB cC cI cJ cZ oA rA σ_38 ++ b_o cB cC cI cJ cZ oA rA σ_38 ++ b_s cB cC cI cJ cZ oA rA σ_38 ++ b_t cB cC cI cJ cZ oA rA σ_38 ++ b_d cB cC cI cJ cZ oA rA σ_38)) hP (hDD σ_38) hS hFc (bx_ix [b_k cB cC cI cJ cZ oA rA σ_38, b_p cB cC cI cJ cZ oA rA σ_38, b_o cB cC cI cJ cZ oA rA σ_38, b_s cB cC cI cJ cZ oA rA σ_38, b_c cB cC cI cJ cZ oA rA σ_38, b_t cB cC cI cJ cZ oA rA σ_38, b_d cB cC cI cJ cZ oA rA σ_38] [4]) (bx_ix [b_k cB cC cI cJ cZ oA rA σ_38, b_p cB cC cI cJ cZ oA rA σ_38, b_o cB cC cI cJ cZ oA rA σ_38, b_s cB cC cI cJ cZ oA rA σ_38, b_c cB cC cI cJ cZ oA rA σ_38, b_t cB cC cI cJ cZ oA rA σ_38, b_d cB cC cI cJ cZ oA rA σ_38] [0, 1, 2, 3, 5, 6]) (bx_C (bs := [b_k cB cC cI cJ cZ oA rA σ_38, b_p cB cC cI cJ cZ oA rA σ_38, b_o cB cC cI cJ cZ oA rA σ_38, b_s cB cC cI cJ cZ oA rA σ_38, b_c cB cC cI cJ cZ oA rA σ_38, b_t cB cC cI cJ cZ oA rA σ_38, b_d cB cC cI cJ cZ oA rA σ_38]) (bs' := [b_c cB cC cI cJ cZ oA rA σ_38]) (is := [4]) fl_7 fl_1 rfl) (bx_C (bs := [b_k cB cC cI cJ cZ oA rA σ_38, b_p cB cC cI cJ cZ oA rA σ_38, b_o cB cC cI cJ cZ oA rA σ_38, b_s cB cC cI cJ cZ oA rA σ_38, b_c cB cC cI cJ cZ oA rA σ_38, b_t cB cC cI cJ cZ oA rA σ_38, b_d cB cC cI cJ cZ oA rA σ_38]) (bs' := [b_k cB cC cI cJ cZ oA rA σ_38, b_p cB cC cI cJ cZ oA rA σ_38, b_o cB cC cI cJ cZ oA rA σ_38, b_s cB cC cI cJ cZ oA rA σ_38, b_t cB cC cI cJ cZ oA rA σ_38, b_d cB cC cI cJ cZ oA rA σ_38]) (is := [0, 1, 2, 3, 5, 6]) fl_7 fl_6 rfl) (bx_n (by decide +kernel)) (bx_d (by decide +kernel)) (va_runV (As := [.int ((σ_38 10).1 9)]) (rest := []) ⟨hx, hb, hml, hown, hts⟩ (k_X0_pairAt l dC dI cB cC cI cJ cZ cP oA rA H.size  ((σ_38 10).1 9) σ_38 _ hu_71) (cwV 1 hts (g_gV wq_1137 wq_832 wq_833 wq_6 wq_834) rfl rfl rfl (by decide +kernel) ⟨Nat.le_of_ble_eq_true rfl, Nat.le_of_ble_eq_true rfl⟩) (g_preV g_bl0 hK hPc hDc hS hE hFc g_to0 (q0 := 0) (ci := 0) rfl rfl) rfl rfl hl.1 rfl (lv_room (Nat.le_of_ble_eq_true rfl)) dX3_run_93 ⟨Nat.le_of_ble_eq_true rfl, Nat.le_of_ble_eq_true rfl⟩) (fun r9 u9 H locs hw9 hP' hD' hS => ?_)
        clear hPc hDc hFc
        subst hw9
        obtain ⟨σ_73, eσ_73, hF_74⟩ := bnd_e hF_72
        clear hF_72
        have hP : va_P (dC, dI) vwCl (b_k cB cC cI cJ cZ oA rA σ_73 ++ b_p cB cC cI cJ cZ oA rA σ_73 ++ b_o cB cC cI cJ cZ oA rA σ_73 ++ b_s cB cC cI cJ cZ oA rA σ_73 ++ b_c cB cC cI cJ cZ oA rA σ_73 ++ b_t cB cC cI cJ cZ oA rA σ_73 ++ b_d cB cC cI cJ cZ oA rA σ_73) H := by rw [eσ_73]; exact bx_P (bs := [b_k cB cC cI cJ cZ oA rA σ_38, b_p cB cC cI cJ cZ oA rA σ_38, b_o cB cC cI cJ cZ oA rA σ_38, b_s cB cC cI cJ cZ oA rA σ_38, b_t cB cC cI cJ cZ oA rA σ_38, b_d cB cC cI cJ cZ oA rA σ_38] ++ [b_c cB cC cI cJ cZ oA rA u_71.2]) (bs' := [b_k cB cC cI cJ cZ oA rA (mrg (fun j => j == 5) σ_38 u_71.2), b_p cB cC cI cJ cZ oA rA (mrg (fun j => j == 5) σ_38 u_71.2), b_o cB cC cI cJ cZ oA rA (mrg (fun j => j == 5) σ_38 u_71.2), b_s cB cC cI cJ cZ oA rA (mrg (fun j => j == 5) σ_38 u_71.2), b_c cB cC cI cJ cZ oA rA (mrg (fun j => j == 5) σ_38 u_71.2), b_t cB cC cI cJ cZ oA rA (mrg (fun j => j == 5) σ_38 u_71.2), b_d cB cC cI cJ cZ oA rA (mrg (fun j => j == 5) σ_38 u_71.2)]) hP' (fl_a fl_6 fl_1) fl_7 [0, 1, 2, 3, 6, 4, 5] rfl
        clear hP' hD'
        refine lv_istore (lv' := [(4, .int u_71.1), (3, .int u_34.1), (0, .ref (oA 10)), (2, .int s_15.1)]) hx hb dX3_run_96 hl (by decide) rfl (fun ls hl => ?_)
        refine lv_aload_n hx hb dX3_run_98 rfl (lv_at hl 2 rfl) ?_
        refine lv_dup hx hb dX3_run_99 rfl ?_
        refine va_get (D := (dC, dI)) (ci := 3) (v := .int ((σ_73 10).1 9)) (C := RX3) (T := TX3) (N := 16) hx hb hts ii_X3 hown hK hP 0 rfl rfl 9 (by decide) (hts (.fieldLink RX3 68 "StoryHouse$Machine" "pc" "I") wq_273) (fun _ h9 => h9) rfl dX3_run_100 ?_
        refine lv_iconst (v := 2) hx hb dX3_run_103 (by decide +kernel) ?_
        refine lv_iadd hx hb dX3_run_104 ?_
        obtain ⟨σ_75, eσ_75, hF_76⟩ := bnd_e hF_74
        clear hF_74
        refine va_put (D := (dC, dI)) (ci := 3) (v := .int (((σ_73 10).1 9) + 2)) (ty := .int) (C := RX3) (T := TX3) (N := 16) hx hb hts ii_X3 tyX3 tyX3_ok nmX3 hown hK hP (hDD _) hS 0 rfl rfl 9 (by decide) (hts (.fieldLink RX3 68 "StoryHouse$Machine" "pc" "I") wq_273) (fun _ h9 => h9) rfl (by decide +kernel) rfl rfl (Nat.le_of_ble_eq_true rfl) dX3_run_105 (fun H locs hP' _ hS => ?_)
        have hP : va_P (dC, dI) vwCl (b_k cB cC cI cJ cZ oA rA σ_75 ++ b_p cB cC cI cJ cZ oA rA σ_75 ++ b_o cB cC cI cJ cZ oA rA σ_75 ++ b_s cB cC cI cJ cZ oA rA σ_75 ++ b_c cB cC cI cJ cZ oA rA σ_75 ++ b_t cB cC cI cJ cZ oA rA σ_75 ++ b_d cB cC cI cJ cZ oA rA σ_75) H := by rw [eσ_75]; exact cs_kposctd_k_9 ▸ hP'
        clear hP'
        refine lv_aload_n hx hb dX3_run_108 rfl (lv_at hl 2 rfl) ?_
        refine lv_iload_n hx hb dX3_run_109 rfl (lv_at hl 1 rfl) ?_
        refine lv_iload hx hb dX3_run_110 (lv_at hl 0 rfl) ?_
        obtain ⟨u_77, hu_77, hF_78⟩ := Option.bind_eq_some_iff.mp hF_76
        clear hF_76
        have hPc := bx_P (bs := [b_k cB cC cI cJ cZ oA rA σ_75, b_p cB cC cI cJ cZ oA rA σ_75, b_o cB cC cI cJ cZ oA rA σ_75, b_s cB cC cI cJ cZ oA rA σ_75, b_c cB cC cI cJ cZ oA rA σ_75, b_t cB cC cI cJ cZ oA rA σ_75, b_d cB cC cI cJ cZ oA rA σ_75]) (bs' := [b_k cB cC cI cJ cZ oA rA σ_75, b_p cB cC cI cJ cZ oA rA σ_75, b_o cB cC cI cJ cZ oA rA σ_75, b_s cB cC cI cJ cZ oA rA σ_75, b_c cB cC cI cJ cZ oA rA σ_75, b_t cB cC cI cJ cZ oA rA σ_75, b_d cB cC cI cJ cZ oA rA σ_75]) (ws' := (b_k cB cC cI cJ cZ oA rA σ_75 ++ b_p cB cC cI cJ cZ oA rA σ_75 ++ b_o cB cC cI cJ cZ oA rA σ_75 ++ b_s cB cC cI cJ cZ oA rA σ_75 ++ b_c cB cC cI cJ cZ oA rA σ_75 ++ b_t cB cC cI cJ cZ oA rA σ_75 ++ b_d cB cC cI cJ cZ oA rA σ_75)) hP fl_7 fl_7 [0, 1, 2, 3, 4, 5, 6] rfl
        have hDc := bx_D (bs := [b_k cB cC cI cJ cZ oA rA σ_75, b_p cB cC cI cJ cZ oA rA σ_75, b_o cB cC cI cJ cZ oA rA σ_75, b_s cB cC cI cJ cZ oA rA σ_75, b_c cB cC cI cJ cZ oA rA σ_75, b_t cB cC cI cJ cZ oA rA σ_75, b_d cB cC cI cJ cZ oA rA σ_75]) (bs' := [b_k cB cC cI cJ cZ oA rA σ_75, b_p cB cC cI cJ cZ oA rA σ_75, b_o cB cC cI cJ cZ oA rA σ_75, b_s cB cC cI cJ cZ oA rA σ_75, b_c cB cC cI cJ cZ oA rA σ_75, b_t cB cC cI cJ cZ oA rA σ_75, b_d cB cC cI cJ cZ oA rA σ_75]) (ws' := (b_k cB cC cI cJ cZ oA rA σ_75 ++ b_p cB cC cI cJ cZ oA rA σ_75 ++ b_o cB cC cI cJ cZ oA rA σ_75 ++ b_s cB cC cI cJ cZ oA rA σ_75 ++ b_c cB cC cI cJ cZ oA rA σ_75 ++ b_t cB cC cI cJ cZ oA rA σ_75 ++ b_d cB cC cI cJ cZ oA rA σ_75)) (hDD σ_75) fl_7 fl_7 [0, 1, 2, 3, 4, 5, 6] (by decide +kernel) rfl
        have hFc := bx_F (bs := [b_k cB cC cI cJ cZ oA rA σ_75, b_p cB cC cI cJ cZ oA rA σ_75, b_o cB cC cI cJ cZ oA rA σ_75, b_s cB cC cI cJ cZ oA rA σ_75, b_c cB cC cI cJ cZ oA rA σ_75, b_t cB cC cI cJ cZ oA rA σ_75, b_d cB cC cI cJ cZ oA rA σ_75]) (bs' := [b_k cB cC cI cJ cZ oA rA σ_75, b_p cB cC cI cJ cZ oA rA σ_75, b_o cB cC cI cJ cZ oA rA σ_75, b_s cB cC cI cJ cZ oA rA σ_75, b_c cB cC cI cJ cZ oA rA σ_75, b_t cB cC cI cJ cZ oA rA σ_75, b_d cB cC cI cJ cZ oA rA σ_75]) (wc := (b_k cB cC cI cJ cZ oA rA σ_75 ++ b_p cB cC cI cJ cZ oA rA σ_75 ++ b_o cB cC cI cJ cZ oA rA σ_75 ++ b_s cB cC cI cJ cZ oA rA σ_75 ++ b_c cB cC cI cJ cZ oA rA σ_75 ++ b_t cB cC cI cJ cZ oA rA σ_75 ++ b_d cB cC cI cJ cZ oA rA σ_75)) (hDD σ_75) hS hA fl_7 fl_7 [0, 1, 2, 3, 4, 5, 6] rfl
        refine g_ofv (wc := (b_k cB cC cI cJ cZ oA rA σ_75 ++ b_p cB cC cI cJ cZ oA rA σ_75 ++ b_o cB cC cI cJ cZ oA rA σ_75 ++ b_s cB cC cI cJ cZ oA rA σ_75 ++ b_c cB cC cI cJ cZ oA rA σ_75 ++ b_t cB cC cI cJ cZ oA rA σ_75 ++ b_d cB cC cI cJ cZ oA rA σ_75)) (wr := ([] : va_W)) hP (hDD σ_75) hS hFc (bx_ix [b_k cB cC cI cJ cZ oA rA σ_75, b_p cB cC cI cJ cZ oA rA σ_75, b_o cB cC cI cJ cZ oA rA σ_75, b_s cB cC cI cJ cZ oA rA σ_75, b_c cB cC cI cJ cZ oA rA σ_75, b_t cB cC cI cJ cZ oA rA σ_75, b_d cB cC cI cJ cZ oA rA σ_75] [0, 1, 2, 3, 4, 5, 6]) (bx_ix [b_k cB cC cI cJ cZ oA rA σ_75, b_p cB cC cI cJ cZ oA rA σ_75, b_o cB cC cI cJ cZ oA rA σ_75, b_s cB cC cI cJ cZ oA rA σ_75, b_c cB cC cI cJ cZ oA rA σ_75, b_t cB cC cI cJ cZ oA rA σ_75, b_d cB cC cI cJ cZ oA rA σ_75] []) (bx_C (bs := [b_k cB cC cI cJ cZ oA rA σ_75, b_p cB cC cI cJ cZ oA rA σ_75, b_o cB cC cI cJ cZ oA rA σ_75, b_s cB cC cI cJ cZ oA rA σ_75, b_c cB cC cI cJ cZ oA rA σ_75, b_t cB cC cI cJ cZ oA rA σ_75, b_d cB cC cI cJ cZ oA rA σ_75]) (bs' := [b_k cB cC cI cJ cZ oA rA σ_75, b_p cB cC cI cJ cZ oA rA σ_75, b_o cB cC cI cJ cZ oA rA σ_75, b_s cB cC cI cJ cZ oA rA σ_75, b_c cB cC cI cJ cZ oA rA σ_75, b_t cB cC cI cJ cZ oA rA σ_75, b_d cB cC cI cJ cZ oA rA σ_75]) (is := [0, 1, 2, 3, 4, 5, 6]) fl_7 fl_7 rfl) (bx_C (bs := [b_k cB cC cI cJ cZ oA rA σ_75, b_p cB cC cI cJ cZ oA rA σ_75, b_o cB cC cI cJ cZ oA rA σ_75, b_s cB cC cI cJ cZ oA rA σ_75, b_c cB cC cI cJ cZ oA rA σ_75, b_t cB cC cI cJ cZ oA rA σ_75, b_d cB cC cI cJ cZ oA rA σ_75]) (bs' := []) (is := []) fl_7 fl_0 rfl) (bx_n (by decide +kernel)) (bx_d (by decide +kernel)) (va_runV (As := [.int u_34.1, .int u_71.1]) (rest := []) ⟨hx, hb, hml, hown, hts⟩ (k_X3_wideOp l dC dI cB cC cI cJ cZ cP oA rA H.size  u_34.1 u_71.1 σ_75 _ hu_77) (cwV 2 hts (g_gV wq_1138 wq_1139 wq_2084 wq_11 wq_1140) rfl rfl rfl (by decide +kernel) ⟨Nat.le_of_ble_eq_true rfl, Nat.le_of_ble_eq_true rfl⟩) (g_preV g_bl0 hK hPc hDc hS hE hFc g_to0 (q0 := 0) (ci := 3) rfl rfl) rfl rfl hl.1 rfl (lv_room (Nat.le_of_ble_eq_true rfl)) dX3_run_112 ⟨Nat.le_of_ble_eq_true rfl, Nat.le_of_ble_eq_true rfl⟩) (fun u9 H locs hw9 hP' hD' hS => ?_)
        clear hPc hDc hFc
        have hP : va_P (dC, dI) vwCl (b_k cB cC cI cJ cZ oA rA u_77.2 ++ b_p cB cC cI cJ cZ oA rA u_77.2 ++ b_o cB cC cI cJ cZ oA rA u_77.2 ++ b_s cB cC cI cJ cZ oA rA u_77.2 ++ b_c cB cC cI cJ cZ oA rA u_77.2 ++ b_t cB cC cI cJ cZ oA rA u_77.2 ++ b_d cB cC cI cJ cZ oA rA u_77.2) H := hP'
        clear hP' hD'
        refine lv_goto (tgt := 178) hx hb dX3_run_115 (by decide) ?_
        exact Jj_41  u_77.2 hF_78 _ _ hP hS ls (lv_sub hl [2, 3] rfl)
theorem dX4_fail_0 : decode cX4_fail 0 = .ok (.aload_n 0, 1) := by decide +kernel
theorem dX4_fail_1 : decode cX4_fail 1 = .ok (.getfield 40, 3) := by decide +kernel
theorem dX4_fail_4 : decode cX4_fail 4 = .ok (.ifCond .ne 20, 3) := by decide +kernel
theorem dX4_fail_7 : decode cX4_fail 7 = .ok (.aload_n 0, 1) := by decide +kernel
theorem dX4_fail_8 : decode cX4_fail 8 = .ok (.iload_n 1, 1) := by decide +kernel
theorem dX4_fail_9 : decode cX4_fail 9 = .ok (.putfield 40, 3) := by decide +kernel
theorem dX4_fail_12 : decode cX4_fail 12 = .ok (.aload_n 0, 1) := by decide +kernel
theorem dX4_fail_13 : decode cX4_fail 13 = .ok (.aload_n 0, 1) := by decide +kernel
theorem dX4_fail_14 : decode cX4_fail 14 = .ok (.getfield 32, 3) := by decide +kernel
theorem dX4_fail_17 : decode cX4_fail 17 = .ok (.iload_n 2, 1) := by decide +kernel
theorem dX4_fail_18 : decode cX4_fail 18 = .ok (.invokevirtual 88, 3) := by decide +kernel
theorem dX4_fail_21 : decode cX4_fail 21 = .ok (.putfield 44, 3) := by decide +kernel
theorem dX4_fail_24 : decode cX4_fail 24 = .ok (.return_, 1) := by decide +kernel
def F_X4_fail (p0 : Int32) (p1 : Int32) (Γ : HS) : HR :=
  if ((Γ 3).1 16) = 0 then (
    bnd (cI' Γ 3 16 p0) fun σ_3 =>
    (F_X10_placeOf p1 σ_3).bind fun u_5 =>
    bnd (mrg (fun j => j == 1) σ_3 u_5.2) fun σ_7 =>
    bnd (cI' σ_7 3 17 u_5.1) fun σ_9 =>
    some (0, σ_9)
  ) else (
    some (0, Γ)
  )
set_option maxHeartbeats 4000000 in
set_option maxRecDepth 100000 in
theorem k_X4_fail (l : Launch) (dC : Nat → ClassId) (dI : Nat → Nat → Nat) (cB cC cI cJ cZ cP : ClassId) (oA : Nat → Nat) (rA : Nat → Nat → Nat) (sz : Nat)  (p0 : Int32) (p1 : Int32) (Γ : HS) (res : Int32 × HS) (hF : F_X4_fail p0 p1 Γ = some res) : Met l yX4_fail (g_ws yX4_fail cX4_fail 3 none) ({ frames := 4, cells := 0, slots := 0, locals := 102 }) (va_Pc [.ref (oA 3), .int p0, .int p1] (g_B (dC, dI) [(cB, .byte), (cC, .char), (cI, .int), (cJ, .long), (cZ, .boolean), (cP, .object "StoryHouse$Play")] sz (b_m cB cC cI cJ cZ oA rA Γ ++ b_w cB cC cI cJ cZ oA rA Γ ++ b_s cB cC cI cJ cZ oA rA Γ ++ b_c cB cC cI cJ cZ oA rA Γ ++ b_t cB cC cI cJ cZ oA rA Γ ++ b_d cB cC cI cJ cZ oA rA Γ) g_0)) (va_Qv (fun (_ : Unit) => True) (g_Bo (dC, dI) (va_A (b_m cB cC cI cJ cZ oA rA Γ ++ b_w cB cC cI cJ cZ oA rA Γ ++ b_s cB cC cI cJ cZ oA rA Γ ++ b_c cB cC cI cJ cZ oA rA Γ ++ b_t cB cC cI cJ cZ oA rA Γ ++ b_d cB cC cI cJ cZ oA rA Γ) sz) (fun (_ : Unit) => (b_m cB cC cI cJ cZ oA rA res.2 ++ b_w cB cC cI cJ cZ oA rA res.2 ++ b_s cB cC cI cJ cZ oA rA res.2 ++ b_c cB cC cI cJ cZ oA rA res.2 ++ b_t cB cC cI cJ cZ oA rA res.2 ++ b_d cB cC cI cJ cZ oA rA res.2))) (va_A (b_m cB cC cI cJ cZ oA rA Γ ++ b_w cB cC cI cJ cZ oA rA Γ ++ b_s cB cC cI cJ cZ oA rA Γ ++ b_c cB cC cI cJ cZ oA rA Γ ++ b_t cB cC cI cJ cZ oA rA Γ ++ b_d cB cC cI cJ cZ oA rA Γ) sz)) 0 0 (va_A (b_m cB cC cI cJ cZ oA rA Γ ++ b_w cB cC cI cJ cZ oA rA Γ ++ b_s cB cC cI cJ cZ oA rA Γ ++ b_c cB cC cI cJ cZ oA rA Γ ++ b_t cB cC cI cJ cZ oA rA Γ ++ b_d cB cC cI cJ cZ oA rA Γ) sz) := by
  refine Met.ofW (cc := cX4_fail) (maxL := 3) (ret := none) (by decide) rfl ?_
  intro p e s m args below meth c s₁ B hml hv
  obtain ⟨rfl, hsz, hP, hK, hD0, hE, hX⟩ := hv
  have hx := B.exec
  have hb := B.bytes
  have hr := B.returns
  have hts0 := atoms_spec (ws := g_ws yX4_fail cX4_fail 3 none) B.pre
  have hts : ∀ w ∈ lw_good, w.before ([.ref (oA 3), .int p0, .int p1] : List Value).toArray s = true := fun w z => hts0 w (List.mem_cons_of_mem _ z)
  have hown : s.vm.findClass RX4 = some m.cls := findClass_of_methodNamed B.named
  have hlocks := B.notSynchronized
  subst hsz
  have hD1 := hD0.self (sz := s.heap.size)
  generalize hAe : va_A (b_m cB cC cI cJ cZ oA rA Γ ++ b_w cB cC cI cJ cZ oA rA Γ ++ b_s cB cC cI cJ cZ oA rA Γ ++ b_c cB cC cI cJ cZ oA rA Γ ++ b_t cB cC cI cJ cZ oA rA Γ ++ b_d cB cC cI cJ cZ oA rA Γ) s.heap.size = A at hD1 hE hX ⊢
  have hA : ∀ q : Nat, s.heap.size ≤ q → A q := fun q z => by rw [← hAe]; exact Or.inr z
  have hDD : ∀ Γ : HS, va_D A (b_m cB cC cI cJ cZ oA rA Γ ++ b_w cB cC cI cJ cZ oA rA Γ ++ b_s cB cC cI cJ cZ oA rA Γ ++ b_c cB cC cI cJ cZ oA rA Γ ++ b_t cB cC cI cJ cZ oA rA Γ ++ b_d cB cC cI cJ cZ oA rA Γ) := fun Γ9 => va_D_fst (ws := (b_m cB cC cI cJ cZ oA rA Γ ++ b_w cB cC cI cJ cZ oA rA Γ ++ b_s cB cC cI cJ cZ oA rA Γ ++ b_c cB cC cI cJ cZ oA rA Γ ++ b_t cB cC cI cJ cZ oA rA Γ ++ b_d cB cC cI cJ cZ oA rA Γ)) (ws' := (b_m cB cC cI cJ cZ oA rA Γ9 ++ b_w cB cC cI cJ cZ oA rA Γ9 ++ b_s cB cC cI cJ cZ oA rA Γ9 ++ b_c cB cC cI cJ cZ oA rA Γ9 ++ b_t cB cC cI cJ cZ oA rA Γ9 ++ b_d cB cC cI cJ cZ oA rA Γ9)) rfl hD1
  have hN := hE.1
  have hS : va_S A s.heap s.heap [] := va_S.rf
  have hl := lv_entry ([.ref (oA 3), .int p0, .int p1]) (n := 3) (Nat.le_of_ble_eq_true rfl)
  rw [lg_entry_eq]
  generalize (lg_sl ([.ref (oA 3), .int p0, .int p1]) ++ List.replicate (3 - (lg_sl ([.ref (oA 3), .int p0, .int p1])).length) Slot.unset).toArray = ls at hl ⊢
  have hl : lv_has ls 3 [(0, .ref (oA 3)), (1, .int p0), (2, .int p1)] := hl
  unfold F_X4_fail at hF
  refine lv_aload_n hx hb dX4_fail_0 rfl (lv_at hl 0 rfl) ?_
  refine va_get (D := (dC, dI)) (ci := 4) (v := .int ((Γ 3).1 16)) (C := RX4) (T := TX4) (N := 18) hx hb hts ii_X4 hown hK hP 0 rfl rfl 16 (by decide) (hts (.fieldLink RX4 40 "StoryHouse$Meanings" "fault" "I") wq_102) (fun _ h9 => h9) rfl dX4_fail_1 ?_
  refine lv_if_ne (tgt := 24) hx hb dX4_fail_4 (by decide) (fun c_1 => ?_) (fun c_1 => ?_)
  · have hF_11 := ineg c_1 hF
    clear hF
    have h9 := Option.some.inj hF_11
    subst h9
    exact W.vret hx hb hr (fun t ht hW => ⟨⟨(), rfl, trivial, m_end ht hP, hDD _⟩, hS.F ht⟩) hS.2.2 dX4_fail_24
  · have hF_2 := ipos c_1 hF
    clear hF
    refine lv_aload_n hx hb dX4_fail_7 rfl (lv_at hl 0 rfl) ?_
    refine lv_iload_n hx hb dX4_fail_8 rfl (lv_at hl 1 rfl) ?_
    obtain ⟨σ_3, eσ_3, hF_4⟩ := bnd_e hF_2
    clear hF_2
    refine va_put (D := (dC, dI)) (ci := 4) (v := .int p0) (ty := .int) (C := RX4) (T := TX4) (N := 18) hx hb hts ii_X4 tyX4 tyX4_ok nmX4 hown hK hP (hDD _) hS 0 rfl rfl 16 (by decide) (hts (.fieldLink RX4 40 "StoryHouse$Meanings" "fault" "I") wq_102) (fun _ h9 => h9) rfl (by decide +kernel) rfl rfl (Nat.le_of_ble_eq_true rfl) dX4_fail_9 (fun H locs hP' _ hS => ?_)
    have hP : va_P (dC, dI) vwCl (b_m cB cC cI cJ cZ oA rA σ_3 ++ b_w cB cC cI cJ cZ oA rA σ_3 ++ b_s cB cC cI cJ cZ oA rA σ_3 ++ b_c cB cC cI cJ cZ oA rA σ_3 ++ b_t cB cC cI cJ cZ oA rA σ_3 ++ b_d cB cC cI cJ cZ oA rA σ_3) H := by rw [eσ_3]; exact cs_mwsctd_m_16 ▸ hP'
    clear hP'
    refine lv_aload_n hx hb dX4_fail_12 rfl (lv_at hl 0 rfl) ?_
    refine lv_aload_n hx hb dX4_fail_13 rfl (lv_at hl 0 rfl) ?_
    refine va_get (D := (dC, dI)) (ci := 4) (v := .ref (oA 1)) (C := RX4) (T := TX4) (N := 18) hx hb hts ii_X4 hown hK hP 0 rfl rfl 0 (by decide) (hts (.fieldLink RX4 32 "StoryHouse$Meanings" "words" "LStoryHouse$Words;") wq_86) (fun _ h9 => h9) rfl dX4_fail_14 ?_
    refine lv_iload_n hx hb dX4_fail_17 rfl (lv_at hl 2 rfl) ?_
    obtain ⟨u_5, hu_5, hF_6⟩ := Option.bind_eq_some_iff.mp hF_4
    clear hF_4
    have hPc := bx_P (bs := [b_m cB cC cI cJ cZ oA rA σ_3, b_w cB cC cI cJ cZ oA rA σ_3, b_s cB cC cI cJ cZ oA rA σ_3, b_c cB cC cI cJ cZ oA rA σ_3, b_t cB cC cI cJ cZ oA rA σ_3, b_d cB cC cI cJ cZ oA rA σ_3]) (bs' := [b_w cB cC cI cJ cZ oA rA σ_3]) (ws' := (b_w cB cC cI cJ cZ oA rA σ_3)) hP fl_6 fl_1 [1] rfl
    have hDc := bx_D (bs := [b_m cB cC cI cJ cZ oA rA σ_3, b_w cB cC cI cJ cZ oA rA σ_3, b_s cB cC cI cJ cZ oA rA σ_3, b_c cB cC cI cJ cZ oA rA σ_3, b_t cB cC cI cJ cZ oA rA σ_3, b_d cB cC cI cJ cZ oA rA σ_3]) (bs' := [b_w cB cC cI cJ cZ oA rA σ_3]) (ws' := (b_w cB cC cI cJ cZ oA rA σ_3)) (hDD σ_3) fl_6 fl_1 [1] (by decide +kernel) rfl
    have hFc := bx_F (bs := [b_m cB cC cI cJ cZ oA rA σ_3, b_w cB cC cI cJ cZ oA rA σ_3, b_s cB cC cI cJ cZ oA rA σ_3, b_c cB cC cI cJ cZ oA rA σ_3, b_t cB cC cI cJ cZ oA rA σ_3, b_d cB cC cI cJ cZ oA rA σ_3]) (bs' := [b_w cB cC cI cJ cZ oA rA σ_3]) (wc := (b_w cB cC cI cJ cZ oA rA σ_3)) (hDD σ_3) hS hA fl_6 fl_1 [1] rfl
    refine g_ofi (wc := (b_w cB cC cI cJ cZ oA rA σ_3)) (wr := (b_m cB cC cI cJ cZ oA rA σ_3 ++ b_s cB cC cI cJ cZ oA rA σ_3 ++ b_c cB cC cI cJ cZ oA rA σ_3 ++ b_t cB cC cI cJ cZ oA rA σ_3 ++ b_d cB cC cI cJ cZ oA rA σ_3)) hP (hDD σ_3) hS hFc (bx_ix [b_m cB cC cI cJ cZ oA rA σ_3, b_w cB cC cI cJ cZ oA rA σ_3, b_s cB cC cI cJ cZ oA rA σ_3, b_c cB cC cI cJ cZ oA rA σ_3, b_t cB cC cI cJ cZ oA rA σ_3, b_d cB cC cI cJ cZ oA rA σ_3] [1]) (bx_ix [b_m cB cC cI cJ cZ oA rA σ_3, b_w cB cC cI cJ cZ oA rA σ_3, b_s cB cC cI cJ cZ oA rA σ_3, b_c cB cC cI cJ cZ oA rA σ_3, b_t cB cC cI cJ cZ oA rA σ_3, b_d cB cC cI cJ cZ oA rA σ_3] [0, 2, 3, 4, 5]) (bx_C (bs := [b_m cB cC cI cJ cZ oA rA σ_3, b_w cB cC cI cJ cZ oA rA σ_3, b_s cB cC cI cJ cZ oA rA σ_3, b_c cB cC cI cJ cZ oA rA σ_3, b_t cB cC cI cJ cZ oA rA σ_3, b_d cB cC cI cJ cZ oA rA σ_3]) (bs' := [b_w cB cC cI cJ cZ oA rA σ_3]) (is := [1]) fl_6 fl_1 rfl) (bx_C (bs := [b_m cB cC cI cJ cZ oA rA σ_3, b_w cB cC cI cJ cZ oA rA σ_3, b_s cB cC cI cJ cZ oA rA σ_3, b_c cB cC cI cJ cZ oA rA σ_3, b_t cB cC cI cJ cZ oA rA σ_3, b_d cB cC cI cJ cZ oA rA σ_3]) (bs' := [b_m cB cC cI cJ cZ oA rA σ_3, b_s cB cC cI cJ cZ oA rA σ_3, b_c cB cC cI cJ cZ oA rA σ_3, b_t cB cC cI cJ cZ oA rA σ_3, b_d cB cC cI cJ cZ oA rA σ_3]) (is := [0, 2, 3, 4, 5]) fl_6 fl_5 rfl) (bx_n (by decide +kernel)) (bx_d (by decide +kernel)) (va_runV (As := [.int p1]) (rest := [.ref (oA 3)]) ⟨hx, hb, hml, hown, hts⟩ (k_X10_placeOf l dC dI cB cC cI cJ cZ cP oA rA H.size  p1 σ_3 _ hu_5) (cwV 1 hts (g_gV wq_728 wq_702 wq_703 wq_2 wq_704) rfl rfl rfl (by decide +kernel) ⟨Nat.le_of_ble_eq_true rfl, Nat.le_of_ble_eq_true rfl⟩) (g_preV g_bl0 hK hPc hDc hS hE hFc g_to0 (q0 := 0) (ci := 10) rfl rfl) rfl rfl hl.1 rfl (lv_room (Nat.le_of_ble_eq_true rfl)) dX4_fail_18 ⟨Nat.le_of_ble_eq_true rfl, Nat.le_of_ble_eq_true rfl⟩) (fun r9 u9 H locs hw9 hP' hD' hS => ?_)
    clear hPc hDc hFc
    subst hw9
    obtain ⟨σ_7, eσ_7, hF_8⟩ := bnd_e hF_6
    clear hF_6
    have hP : va_P (dC, dI) vwCl (b_m cB cC cI cJ cZ oA rA σ_7 ++ b_w cB cC cI cJ cZ oA rA σ_7 ++ b_s cB cC cI cJ cZ oA rA σ_7 ++ b_c cB cC cI cJ cZ oA rA σ_7 ++ b_t cB cC cI cJ cZ oA rA σ_7 ++ b_d cB cC cI cJ cZ oA rA σ_7) H := by rw [eσ_7]; exact bx_P (bs := [b_m cB cC cI cJ cZ oA rA σ_3, b_s cB cC cI cJ cZ oA rA σ_3, b_c cB cC cI cJ cZ oA rA σ_3, b_t cB cC cI cJ cZ oA rA σ_3, b_d cB cC cI cJ cZ oA rA σ_3] ++ [b_w cB cC cI cJ cZ oA rA u_5.2]) (bs' := [b_m cB cC cI cJ cZ oA rA (mrg (fun j => j == 1) σ_3 u_5.2), b_w cB cC cI cJ cZ oA rA (mrg (fun j => j == 1) σ_3 u_5.2), b_s cB cC cI cJ cZ oA rA (mrg (fun j => j == 1) σ_3 u_5.2), b_c cB cC cI cJ cZ oA rA (mrg (fun j => j == 1) σ_3 u_5.2), b_t cB cC cI cJ cZ oA rA (mrg (fun j => j == 1) σ_3 u_5.2), b_d cB cC cI cJ cZ oA rA (mrg (fun j => j == 1) σ_3 u_5.2)]) hP' (fl_a fl_5 fl_1) fl_6 [0, 5, 1, 2, 3, 4] rfl
    clear hP' hD'
    obtain ⟨σ_9, eσ_9, hF_10⟩ := bnd_e hF_8
    clear hF_8
    refine va_put (D := (dC, dI)) (ci := 4) (v := .int u_5.1) (ty := .int) (C := RX4) (T := TX4) (N := 18) hx hb hts ii_X4 tyX4 tyX4_ok nmX4 hown hK hP (hDD _) hS 0 rfl rfl 17 (by decide) (hts (.fieldLink RX4 44 "StoryHouse$Meanings" "faultPlace" "I") wq_103) (fun _ h9 => h9) rfl (by decide +kernel) rfl rfl (Nat.le_of_ble_eq_true rfl) dX4_fail_21 (fun H locs hP' _ hS => ?_)
    have hP : va_P (dC, dI) vwCl (b_m cB cC cI cJ cZ oA rA σ_9 ++ b_w cB cC cI cJ cZ oA rA σ_9 ++ b_s cB cC cI cJ cZ oA rA σ_9 ++ b_c cB cC cI cJ cZ oA rA σ_9 ++ b_t cB cC cI cJ cZ oA rA σ_9 ++ b_d cB cC cI cJ cZ oA rA σ_9) H := by rw [eσ_9]; exact cs_mwsctd_m_17 ▸ hP'
    clear hP'
    have h9 := Option.some.inj hF_10
    subst h9
    exact W.vret hx hb hr (fun t ht hW => ⟨⟨(), rfl, trivial, m_end ht hP, hDD _⟩, hS.F ht⟩) hS.2.2 dX4_fail_24
theorem dX4_numberOf_0 : decode cX4_numberOf 0 = .ok (.aload_n 0, 1) := by decide +kernel
theorem dX4_numberOf_1 : decode cX4_numberOf 1 = .ok (.getfield 32, 3) := by decide +kernel
theorem dX4_numberOf_4 : decode cX4_numberOf 4 = .ok (.iload_n 1, 1) := by decide +kernel
theorem dX4_numberOf_5 : decode cX4_numberOf 5 = .ok (.invokevirtual 119, 3) := by decide +kernel
theorem dX4_numberOf_8 : decode cX4_numberOf 8 = .ok (.istore_n 2, 1) := by decide +kernel
theorem dX4_numberOf_9 : decode cX4_numberOf 9 = .ok (.aload_n 0, 1) := by decide +kernel
theorem dX4_numberOf_10 : decode cX4_numberOf 10 = .ok (.getfield 23, 3) := by decide +kernel
theorem dX4_numberOf_13 : decode cX4_numberOf 13 = .ok (.iload_n 2, 1) := by decide +kernel
theorem dX4_numberOf_14 : decode cX4_numberOf 14 = .ok (.invokestatic 122, 3) := by decide +kernel
theorem dX4_numberOf_17 : decode cX4_numberOf 17 = .ok (.ifCond .eq 16, 3) := by decide +kernel
theorem dX4_numberOf_20 : decode cX4_numberOf 20 = .ok (.aload_n 0, 1) := by decide +kernel
theorem dX4_numberOf_21 : decode cX4_numberOf 21 = .ok (.getfield 23, 3) := by decide +kernel
theorem dX4_numberOf_24 : decode cX4_numberOf 24 = .ok (.iload_n 2, 1) := by decide +kernel
theorem dX4_numberOf_25 : decode cX4_numberOf 25 = .ok (.invokestatic 122, 3) := by decide +kernel
theorem dX4_numberOf_28 : decode cX4_numberOf 28 = .ok (.iconst 1, 1) := by decide +kernel
theorem dX4_numberOf_29 : decode cX4_numberOf 29 = .ok (.isub, 1) := by decide +kernel
theorem dX4_numberOf_30 : decode cX4_numberOf 30 = .ok (.goto 11, 3) := by decide +kernel
theorem dX4_numberOf_33 : decode cX4_numberOf 33 = .ok (.aload_n 0, 1) := by decide +kernel
theorem dX4_numberOf_34 : decode cX4_numberOf 34 = .ok (.getfield 20, 3) := by decide +kernel
theorem dX4_numberOf_37 : decode cX4_numberOf 37 = .ok (.iload_n 2, 1) := by decide +kernel
theorem dX4_numberOf_38 : decode cX4_numberOf 38 = .ok (.invokestatic 122, 3) := by decide +kernel
theorem dX4_numberOf_41 : decode cX4_numberOf 41 = .ok (.ireturn, 1) := by decide +kernel
def F_X4_numberOf (p0 : Int32) (Γ : HS) : HR :=
  (F_X10_worthOf p0 Γ).bind fun u_1 =>
  bnd (mrg (fun j => j == 1) Γ u_1.2) fun σ_3 =>
  bnd ((g_at 4500 ((σ_3 3).2.1 5) u_1.1)) fun (x_5 : Int32) =>
  if x_5 = 0 then (
    bnd ((g_at 4500 ((σ_3 3).2.1 4) u_1.1)) fun (x_9 : Int32) =>
    some (x_9, σ_3)
  ) else (
    bnd ((g_at 4500 ((σ_3 3).2.1 5) u_1.1)) fun (x_12 : Int32) =>
    some ((x_12 - 1), σ_3)
  )
set_option maxHeartbeats 4000000 in
set_option maxRecDepth 100000 in
theorem k_X4_numberOf (l : Launch) (dC : Nat → ClassId) (dI : Nat → Nat → Nat) (cB cC cI cJ cZ cP : ClassId) (oA : Nat → Nat) (rA : Nat → Nat → Nat) (sz : Nat)  (p0 : Int32) (Γ : HS) (res : Int32 × HS) (hF : F_X4_numberOf p0 Γ = some res) : Met l yX4_numberOf (g_ws yX4_numberOf cX4_numberOf 3 (some .int)) ({ frames := 4, cells := 0, slots := 0, locals := 102 }) (va_Pc [.ref (oA 3), .int p0] (g_B (dC, dI) [(cB, .byte), (cC, .char), (cI, .int), (cJ, .long), (cZ, .boolean), (cP, .object "StoryHouse$Play")] sz (b_m cB cC cI cJ cZ oA rA Γ ++ b_w cB cC cI cJ cZ oA rA Γ ++ b_s cB cC cI cJ cZ oA rA Γ ++ b_c cB cC cI cJ cZ oA rA Γ ++ b_t cB cC cI cJ cZ oA rA Γ ++ b_d cB cC cI cJ cZ oA rA Γ) g_0)) (va_Qi (fun r (_ : Unit) => r = res.1) (g_Bo (dC, dI) (va_A (b_m cB cC cI cJ cZ oA rA Γ ++ b_w cB cC cI cJ cZ oA rA Γ ++ b_s cB cC cI cJ cZ oA rA Γ ++ b_c cB cC cI cJ cZ oA rA Γ ++ b_t cB cC cI cJ cZ oA rA Γ ++ b_d cB cC cI cJ cZ oA rA Γ) sz) (fun (_ : Unit) => (b_m cB cC cI cJ cZ oA rA res.2 ++ b_w cB cC cI cJ cZ oA rA res.2 ++ b_s cB cC cI cJ cZ oA rA res.2 ++ b_c cB cC cI cJ cZ oA rA res.2 ++ b_t cB cC cI cJ cZ oA rA res.2 ++ b_d cB cC cI cJ cZ oA rA res.2))) (va_A (b_m cB cC cI cJ cZ oA rA Γ ++ b_w cB cC cI cJ cZ oA rA Γ ++ b_s cB cC cI cJ cZ oA rA Γ ++ b_c cB cC cI cJ cZ oA rA Γ ++ b_t cB cC cI cJ cZ oA rA Γ ++ b_d cB cC cI cJ cZ oA rA Γ) sz)) 0 0 (va_A (b_m cB cC cI cJ cZ oA rA Γ ++ b_w cB cC cI cJ cZ oA rA Γ ++ b_s cB cC cI cJ cZ oA rA Γ ++ b_c cB cC cI cJ cZ oA rA Γ ++ b_t cB cC cI cJ cZ oA rA Γ ++ b_d cB cC cI cJ cZ oA rA Γ) sz) := by
  refine Met.ofW (cc := cX4_numberOf) (maxL := 3) (ret := (some .int)) (by decide) rfl ?_
  intro p e s m args below meth c s₁ B hml hv
  obtain ⟨rfl, hsz, hP, hK, hD0, hE, hX⟩ := hv
  have hx := B.exec
  have hb := B.bytes
  have hr := B.returns
  have hts0 := atoms_spec (ws := g_ws yX4_numberOf cX4_numberOf 3 (some .int)) B.pre
  have hts : ∀ w ∈ lw_good, w.before ([.ref (oA 3), .int p0] : List Value).toArray s = true := fun w z => hts0 w (List.mem_cons_of_mem _ z)
  have hown : s.vm.findClass RX4 = some m.cls := findClass_of_methodNamed B.named
  have hlocks := B.notSynchronized
  subst hsz
  have hD1 := hD0.self (sz := s.heap.size)
  generalize hAe : va_A (b_m cB cC cI cJ cZ oA rA Γ ++ b_w cB cC cI cJ cZ oA rA Γ ++ b_s cB cC cI cJ cZ oA rA Γ ++ b_c cB cC cI cJ cZ oA rA Γ ++ b_t cB cC cI cJ cZ oA rA Γ ++ b_d cB cC cI cJ cZ oA rA Γ) s.heap.size = A at hD1 hE hX ⊢
  have hA : ∀ q : Nat, s.heap.size ≤ q → A q := fun q z => by rw [← hAe]; exact Or.inr z
  have hDD : ∀ Γ : HS, va_D A (b_m cB cC cI cJ cZ oA rA Γ ++ b_w cB cC cI cJ cZ oA rA Γ ++ b_s cB cC cI cJ cZ oA rA Γ ++ b_c cB cC cI cJ cZ oA rA Γ ++ b_t cB cC cI cJ cZ oA rA Γ ++ b_d cB cC cI cJ cZ oA rA Γ) := fun Γ9 => va_D_fst (ws := (b_m cB cC cI cJ cZ oA rA Γ ++ b_w cB cC cI cJ cZ oA rA Γ ++ b_s cB cC cI cJ cZ oA rA Γ ++ b_c cB cC cI cJ cZ oA rA Γ ++ b_t cB cC cI cJ cZ oA rA Γ ++ b_d cB cC cI cJ cZ oA rA Γ)) (ws' := (b_m cB cC cI cJ cZ oA rA Γ9 ++ b_w cB cC cI cJ cZ oA rA Γ9 ++ b_s cB cC cI cJ cZ oA rA Γ9 ++ b_c cB cC cI cJ cZ oA rA Γ9 ++ b_t cB cC cI cJ cZ oA rA Γ9 ++ b_d cB cC cI cJ cZ oA rA Γ9)) rfl hD1
  have hN := hE.1
  have hS : va_S A s.heap s.heap [] := va_S.rf
  have hl := lv_entry ([.ref (oA 3), .int p0]) (n := 3) (Nat.le_of_ble_eq_true rfl)
  rw [lg_entry_eq]
  generalize (lg_sl ([.ref (oA 3), .int p0]) ++ List.replicate (3 - (lg_sl ([.ref (oA 3), .int p0])).length) Slot.unset).toArray = ls at hl ⊢
  have hl : lv_has ls 3 [(0, .ref (oA 3)), (1, .int p0)] := hl
  unfold F_X4_numberOf at hF
  refine lv_aload_n hx hb dX4_numberOf_0 rfl (lv_at hl 0 rfl) ?_
  refine va_get (D := (dC, dI)) (ci := 4) (v := .ref (oA 1)) (C := RX4) (T := TX4) (N := 18) hx hb hts ii_X4 hown hK hP 0 rfl rfl 0 (by decide) (hts (.fieldLink RX4 32 "StoryHouse$Meanings" "words" "LStoryHouse$Words;") wq_86) (fun _ h9 => h9) rfl dX4_numberOf_1 ?_
  refine lv_iload_n hx hb dX4_numberOf_4 rfl (lv_at hl 1 rfl) ?_
  obtain ⟨u_1, hu_1, hF_2⟩ := Option.bind_eq_some_iff.mp hF
  clear hF
  have hPc := bx_P (bs := [b_m cB cC cI cJ cZ oA rA Γ, b_w cB cC cI cJ cZ oA rA Γ, b_s cB cC cI cJ cZ oA rA Γ, b_c cB cC cI cJ cZ oA rA Γ, b_t cB cC cI cJ cZ oA rA Γ, b_d cB cC cI cJ cZ oA rA Γ]) (bs' := [b_w cB cC cI cJ cZ oA rA Γ]) (ws' := (b_w cB cC cI cJ cZ oA rA Γ)) hP fl_6 fl_1 [1] rfl
  have hDc := bx_D (bs := [b_m cB cC cI cJ cZ oA rA Γ, b_w cB cC cI cJ cZ oA rA Γ, b_s cB cC cI cJ cZ oA rA Γ, b_c cB cC cI cJ cZ oA rA Γ, b_t cB cC cI cJ cZ oA rA Γ, b_d cB cC cI cJ cZ oA rA Γ]) (bs' := [b_w cB cC cI cJ cZ oA rA Γ]) (ws' := (b_w cB cC cI cJ cZ oA rA Γ)) (hDD Γ) fl_6 fl_1 [1] (by decide +kernel) rfl
  have hFc := bx_F (bs := [b_m cB cC cI cJ cZ oA rA Γ, b_w cB cC cI cJ cZ oA rA Γ, b_s cB cC cI cJ cZ oA rA Γ, b_c cB cC cI cJ cZ oA rA Γ, b_t cB cC cI cJ cZ oA rA Γ, b_d cB cC cI cJ cZ oA rA Γ]) (bs' := [b_w cB cC cI cJ cZ oA rA Γ]) (wc := (b_w cB cC cI cJ cZ oA rA Γ)) (hDD Γ) hS hA fl_6 fl_1 [1] rfl
  refine g_ofi (wc := (b_w cB cC cI cJ cZ oA rA Γ)) (wr := (b_m cB cC cI cJ cZ oA rA Γ ++ b_s cB cC cI cJ cZ oA rA Γ ++ b_c cB cC cI cJ cZ oA rA Γ ++ b_t cB cC cI cJ cZ oA rA Γ ++ b_d cB cC cI cJ cZ oA rA Γ)) hP (hDD Γ) hS hFc (bx_ix [b_m cB cC cI cJ cZ oA rA Γ, b_w cB cC cI cJ cZ oA rA Γ, b_s cB cC cI cJ cZ oA rA Γ, b_c cB cC cI cJ cZ oA rA Γ, b_t cB cC cI cJ cZ oA rA Γ, b_d cB cC cI cJ cZ oA rA Γ] [1]) (bx_ix [b_m cB cC cI cJ cZ oA rA Γ, b_w cB cC cI cJ cZ oA rA Γ, b_s cB cC cI cJ cZ oA rA Γ, b_c cB cC cI cJ cZ oA rA Γ, b_t cB cC cI cJ cZ oA rA Γ, b_d cB cC cI cJ cZ oA rA Γ] [0, 2, 3, 4, 5]) (bx_C (bs := [b_m cB cC cI cJ cZ oA rA Γ, b_w cB cC cI cJ cZ oA rA Γ, b_s cB cC cI cJ cZ oA rA Γ, b_c cB cC cI cJ cZ oA rA Γ, b_t cB cC cI cJ cZ oA rA Γ, b_d cB cC cI cJ cZ oA rA Γ]) (bs' := [b_w cB cC cI cJ cZ oA rA Γ]) (is := [1]) fl_6 fl_1 rfl) (bx_C (bs := [b_m cB cC cI cJ cZ oA rA Γ, b_w cB cC cI cJ cZ oA rA Γ, b_s cB cC cI cJ cZ oA rA Γ, b_c cB cC cI cJ cZ oA rA Γ, b_t cB cC cI cJ cZ oA rA Γ, b_d cB cC cI cJ cZ oA rA Γ]) (bs' := [b_m cB cC cI cJ cZ oA rA Γ, b_s cB cC cI cJ cZ oA rA Γ, b_c cB cC cI cJ cZ oA rA Γ, b_t cB cC cI cJ cZ oA rA Γ, b_d cB cC cI cJ cZ oA rA Γ]) (is := [0, 2, 3, 4, 5]) fl_6 fl_5 rfl) (bx_n (by decide +kernel)) (bx_d (by decide +kernel)) (va_runV (As := [.int p0]) (rest := []) ⟨hx, hb, hml, hown, hts⟩ (k_X10_worthOf l dC dI cB cC cI cJ cZ cP oA rA s.heap.size  p0 Γ _ hu_1) (cwV 1 hts (g_gV wq_715 wq_653 wq_654 wq_2 wq_655) rfl rfl rfl (by decide +kernel) ⟨Nat.le_of_ble_eq_true rfl, Nat.le_of_ble_eq_true rfl⟩) (g_preV g_bl0 hK hPc hDc hS hE hFc g_to0 (q0 := 0) (ci := 10) rfl rfl) rfl rfl hl.1 rfl (lv_room (Nat.le_of_ble_eq_true rfl)) dX4_numberOf_5 ⟨Nat.le_of_ble_eq_true rfl, Nat.le_of_ble_eq_true rfl⟩) (fun r9 u9 H locs hw9 hP' hD' hS => ?_)
  clear hPc hDc hFc
  subst hw9
  obtain ⟨σ_3, eσ_3, hF_4⟩ := bnd_e hF_2
  clear hF_2
  have hP : va_P (dC, dI) vwCl (b_m cB cC cI cJ cZ oA rA σ_3 ++ b_w cB cC cI cJ cZ oA rA σ_3 ++ b_s cB cC cI cJ cZ oA rA σ_3 ++ b_c cB cC cI cJ cZ oA rA σ_3 ++ b_t cB cC cI cJ cZ oA rA σ_3 ++ b_d cB cC cI cJ cZ oA rA σ_3) H := by rw [eσ_3]; exact bx_P (bs := [b_m cB cC cI cJ cZ oA rA Γ, b_s cB cC cI cJ cZ oA rA Γ, b_c cB cC cI cJ cZ oA rA Γ, b_t cB cC cI cJ cZ oA rA Γ, b_d cB cC cI cJ cZ oA rA Γ] ++ [b_w cB cC cI cJ cZ oA rA u_1.2]) (bs' := [b_m cB cC cI cJ cZ oA rA (mrg (fun j => j == 1) Γ u_1.2), b_w cB cC cI cJ cZ oA rA (mrg (fun j => j == 1) Γ u_1.2), b_s cB cC cI cJ cZ oA rA (mrg (fun j => j == 1) Γ u_1.2), b_c cB cC cI cJ cZ oA rA (mrg (fun j => j == 1) Γ u_1.2), b_t cB cC cI cJ cZ oA rA (mrg (fun j => j == 1) Γ u_1.2), b_d cB cC cI cJ cZ oA rA (mrg (fun j => j == 1) Γ u_1.2)]) hP' (fl_a fl_5 fl_1) fl_6 [0, 5, 1, 2, 3, 4] rfl
  clear hP' hD'
  refine lv_istore_n (lv' := [(2, .int u_1.1), (0, .ref (oA 3)), (1, .int p0)]) hx hb dX4_numberOf_8 rfl hl (by decide) rfl (fun ls hl => ?_)
  refine lv_aload_n hx hb dX4_numberOf_9 rfl (lv_at hl 1 rfl) ?_
  refine va_get (D := (dC, dI)) (ci := 4) (v := .ref (rA 3 5)) (C := RX4) (T := TX4) (N := 18) hx hb hts ii_X4 hown hK hP 0 rfl rfl 5 (by decide) (hts (.fieldLink RX4 23 "StoryHouse$Meanings" "seen" "[I") wq_91) (fun _ h9 => h9) rfl dX4_numberOf_10 ?_
  refine lv_iload_n hx hb dX4_numberOf_13 rfl (lv_at hl 0 rfl) ?_
  have hq9 : ((b_m cB cC cI cJ cZ oA rA σ_3 ++ b_w cB cC cI cJ cZ oA rA σ_3 ++ b_s cB cC cI cJ cZ oA rA σ_3 ++ b_c cB cC cI cJ cZ oA rA σ_3 ++ b_t cB cC cI cJ cZ oA rA σ_3 ++ b_d cB cC cI cJ cZ oA rA σ_3))[4]? = some (rA 3 5, .inl (cI, 4500, .inl ((σ_3 3).2.1 5))) := rfl
  have hPc := hP.sub (ws' := [(rA 3 5, .inl (cI, 4500, .inl ((σ_3 3).2.1 5)))]) [4] (pk_fm (er_C hq9))
  have hDc := (hDD σ_3).sub (ws' := [(rA 3 5, .inl (cI, 4500, .inl ((σ_3 3).2.1 5)))]) [4] (by decide +kernel) (er_C hq9)
  have hFc := va_free (wc := [(rA 3 5, .inl (cI, 4500, .inl ((σ_3 3).2.1 5)))]) (hDD σ_3) hS hA [4] (er_C hq9)
  refine g_ofi (wc := [(rA 3 5, .inl (cI, 4500, .inl ((σ_3 3).2.1 5)))]) (wr := (((b_m cB cC cI cJ cZ oA rA σ_3 ++ b_w cB cC cI cJ cZ oA rA σ_3 ++ b_s cB cC cI cJ cZ oA rA σ_3 ++ b_c cB cC cI cJ cZ oA rA σ_3 ++ b_t cB cC cI cJ cZ oA rA σ_3 ++ b_d cB cC cI cJ cZ oA rA σ_3)).eraseIdx 4)) hP (hDD σ_3) hS hFc [4] ((List.range ((b_m cB cC cI cJ cZ oA rA σ_3 ++ b_w cB cC cI cJ cZ oA rA σ_3 ++ b_s cB cC cI cJ cZ oA rA σ_3 ++ b_c cB cC cI cJ cZ oA rA σ_3 ++ b_t cB cC cI cJ cZ oA rA σ_3 ++ b_d cB cC cI cJ cZ oA rA σ_3)).length).eraseIdx 4) (er_C hq9) er_R er_n er_d (va_runSN (As := [.ref (rA 3 5), .int u_1.1]) (rest := []) ⟨hx, hb, hml, hown, hts⟩ (c_X11_at l dC dI cB cC cI cJ cZ cP H.size (rA 3 5) u_1.1 4500 ((σ_3 3).2.1 5) (by decide)) ⟨va_cnB 2 hts (g_gA wq_407) rfl rfl rfl (nw_24 hN) (hts (.initialized RX11) wq_1) (by decide +kernel) ⟨Nat.le_of_ble_eq_true rfl, Nat.le_of_ble_eq_true rfl⟩, (hts (.static yX11_at) wq_406), trivial⟩ (g_preS g_bl0 hK hPc hDc hS hE hFc g_to0) rfl rfl hl.1 rfl (lv_room (Nat.le_of_ble_eq_true rfl)) dX4_numberOf_14 ⟨Nat.le_of_ble_eq_true rfl, Nat.le_of_ble_eq_true rfl⟩) (fun r9 u9 H locs hw9 hP' hD' hS => ?_)
  clear hPc hDc hFc hD'
  have hP : va_P (dC, dI) vwCl (b_m cB cC cI cJ cZ oA rA σ_3 ++ b_w cB cC cI cJ cZ oA rA σ_3 ++ b_s cB cC cI cJ cZ oA rA σ_3 ++ b_c cB cC cI cJ cZ oA rA σ_3 ++ b_t cB cC cI cJ cZ oA rA σ_3 ++ b_d cB cC cI cJ cZ oA rA σ_3) H := er_I hP' hq9
  clear hP' hq9
  subst hw9
  obtain ⟨x_5, ex_5, hF_6⟩ := bnd_e hF_4
  clear hF_4
  refine m_top ex_5 ?_
  refine lv_if_eq (tgt := 33) hx hb dX4_numberOf_17 (by decide) (fun c_7 => ?_) (fun c_7 => ?_)
  · have hF_8 := ipos c_7 hF_6
    clear hF_6
    refine lv_aload_n hx hb dX4_numberOf_33 rfl (lv_at hl 1 rfl) ?_
    refine va_get (D := (dC, dI)) (ci := 4) (v := .ref (rA 3 4)) (C := RX4) (T := TX4) (N := 18) hx hb hts ii_X4 hown hK hP 0 rfl rfl 4 (by decide) (hts (.fieldLink RX4 20 "StoryHouse$Meanings" "numbers" "[I") wq_90) (fun _ h9 => h9) rfl dX4_numberOf_34 ?_
    refine lv_iload_n hx hb dX4_numberOf_37 rfl (lv_at hl 0 rfl) ?_
    have hq9 : ((b_m cB cC cI cJ cZ oA rA σ_3 ++ b_w cB cC cI cJ cZ oA rA σ_3 ++ b_s cB cC cI cJ cZ oA rA σ_3 ++ b_c cB cC cI cJ cZ oA rA σ_3 ++ b_t cB cC cI cJ cZ oA rA σ_3 ++ b_d cB cC cI cJ cZ oA rA σ_3))[3]? = some (rA 3 4, .inl (cI, 4500, .inl ((σ_3 3).2.1 4))) := rfl
    have hPc := hP.sub (ws' := [(rA 3 4, .inl (cI, 4500, .inl ((σ_3 3).2.1 4)))]) [3] (pk_fm (er_C hq9))
    have hDc := (hDD σ_3).sub (ws' := [(rA 3 4, .inl (cI, 4500, .inl ((σ_3 3).2.1 4)))]) [3] (by decide +kernel) (er_C hq9)
    have hFc := va_free (wc := [(rA 3 4, .inl (cI, 4500, .inl ((σ_3 3).2.1 4)))]) (hDD σ_3) hS hA [3] (er_C hq9)
    refine g_ofi (wc := [(rA 3 4, .inl (cI, 4500, .inl ((σ_3 3).2.1 4)))]) (wr := (((b_m cB cC cI cJ cZ oA rA σ_3 ++ b_w cB cC cI cJ cZ oA rA σ_3 ++ b_s cB cC cI cJ cZ oA rA σ_3 ++ b_c cB cC cI cJ cZ oA rA σ_3 ++ b_t cB cC cI cJ cZ oA rA σ_3 ++ b_d cB cC cI cJ cZ oA rA σ_3)).eraseIdx 3)) hP (hDD σ_3) hS hFc [3] ((List.range ((b_m cB cC cI cJ cZ oA rA σ_3 ++ b_w cB cC cI cJ cZ oA rA σ_3 ++ b_s cB cC cI cJ cZ oA rA σ_3 ++ b_c cB cC cI cJ cZ oA rA σ_3 ++ b_t cB cC cI cJ cZ oA rA σ_3 ++ b_d cB cC cI cJ cZ oA rA σ_3)).length).eraseIdx 3) (er_C hq9) er_R er_n er_d (va_runSN (As := [.ref (rA 3 4), .int u_1.1]) (rest := []) ⟨hx, hb, hml, hown, hts⟩ (c_X11_at l dC dI cB cC cI cJ cZ cP H.size (rA 3 4) u_1.1 4500 ((σ_3 3).2.1 4) (by decide)) ⟨va_cnB 2 hts (g_gA wq_407) rfl rfl rfl (nw_24 hN) (hts (.initialized RX11) wq_1) (by decide +kernel) ⟨Nat.le_of_ble_eq_true rfl, Nat.le_of_ble_eq_true rfl⟩, (hts (.static yX11_at) wq_406), trivial⟩ (g_preS g_bl0 hK hPc hDc hS hE hFc g_to0) rfl rfl hl.1 rfl (lv_room (Nat.le_of_ble_eq_true rfl)) dX4_numberOf_38 ⟨Nat.le_of_ble_eq_true rfl, Nat.le_of_ble_eq_true rfl⟩) (fun r9 u9 H locs hw9 hP' hD' hS => ?_)
    clear hPc hDc hFc hD'
    have hP : va_P (dC, dI) vwCl (b_m cB cC cI cJ cZ oA rA σ_3 ++ b_w cB cC cI cJ cZ oA rA σ_3 ++ b_s cB cC cI cJ cZ oA rA σ_3 ++ b_c cB cC cI cJ cZ oA rA σ_3 ++ b_t cB cC cI cJ cZ oA rA σ_3 ++ b_d cB cC cI cJ cZ oA rA σ_3) H := er_I hP' hq9
    clear hP' hq9
    subst hw9
    obtain ⟨x_9, ex_9, hF_10⟩ := bnd_e hF_8
    clear hF_8
    refine m_top ex_9 ?_
    have h9 := Option.some.inj hF_10
    subst h9
    exact W.iret (v := x_9) hx hb hr (fun t ht hW => ⟨⟨x_9, (), rfl, rfl, m_end ht hP, hDD _⟩, hS.F ht⟩) hS.2.2 dX4_numberOf_41
  · have hF_11 := ineg c_7 hF_6
    clear hF_6
    refine lv_aload_n hx hb dX4_numberOf_20 rfl (lv_at hl 1 rfl) ?_
    refine va_get (D := (dC, dI)) (ci := 4) (v := .ref (rA 3 5)) (C := RX4) (T := TX4) (N := 18) hx hb hts ii_X4 hown hK hP 0 rfl rfl 5 (by decide) (hts (.fieldLink RX4 23 "StoryHouse$Meanings" "seen" "[I") wq_91) (fun _ h9 => h9) rfl dX4_numberOf_21 ?_
    refine lv_iload_n hx hb dX4_numberOf_24 rfl (lv_at hl 0 rfl) ?_
    have hq9 : ((b_m cB cC cI cJ cZ oA rA σ_3 ++ b_w cB cC cI cJ cZ oA rA σ_3 ++ b_s cB cC cI cJ cZ oA rA σ_3 ++ b_c cB cC cI cJ cZ oA rA σ_3 ++ b_t cB cC cI cJ cZ oA rA σ_3 ++ b_d cB cC cI cJ cZ oA rA σ_3))[4]? = some (rA 3 5, .inl (cI, 4500, .inl ((σ_3 3).2.1 5))) := rfl
    have hPc := hP.sub (ws' := [(rA 3 5, .inl (cI, 4500, .inl ((σ_3 3).2.1 5)))]) [4] (pk_fm (er_C hq9))
    have hDc := (hDD σ_3).sub (ws' := [(rA 3 5, .inl (cI, 4500, .inl ((σ_3 3).2.1 5)))]) [4] (by decide +kernel) (er_C hq9)
    have hFc := va_free (wc := [(rA 3 5, .inl (cI, 4500, .inl ((σ_3 3).2.1 5)))]) (hDD σ_3) hS hA [4] (er_C hq9)
    refine g_ofi (wc := [(rA 3 5, .inl (cI, 4500, .inl ((σ_3 3).2.1 5)))]) (wr := (((b_m cB cC cI cJ cZ oA rA σ_3 ++ b_w cB cC cI cJ cZ oA rA σ_3 ++ b_s cB cC cI cJ cZ oA rA σ_3 ++ b_c cB cC cI cJ cZ oA rA σ_3 ++ b_t cB cC cI cJ cZ oA rA σ_3 ++ b_d cB cC cI cJ cZ oA rA σ_3)).eraseIdx 4)) hP (hDD σ_3) hS hFc [4] ((List.range ((b_m cB cC cI cJ cZ oA rA σ_3 ++ b_w cB cC cI cJ cZ oA rA σ_3 ++ b_s cB cC cI cJ cZ oA rA σ_3 ++ b_c cB cC cI cJ cZ oA rA σ_3 ++ b_t cB cC cI cJ cZ oA rA σ_3 ++ b_d cB cC cI cJ cZ oA rA σ_3)).length).eraseIdx 4) (er_C hq9) er_R er_n er_d (va_runSN (As := [.ref (rA 3 5), .int u_1.1]) (rest := []) ⟨hx, hb, hml, hown, hts⟩ (c_X11_at l dC dI cB cC cI cJ cZ cP H.size (rA 3 5) u_1.1 4500 ((σ_3 3).2.1 5) (by decide)) ⟨va_cnB 2 hts (g_gA wq_407) rfl rfl rfl (nw_24 hN) (hts (.initialized RX11) wq_1) (by decide +kernel) ⟨Nat.le_of_ble_eq_true rfl, Nat.le_of_ble_eq_true rfl⟩, (hts (.static yX11_at) wq_406), trivial⟩ (g_preS g_bl0 hK hPc hDc hS hE hFc g_to0) rfl rfl hl.1 rfl (lv_room (Nat.le_of_ble_eq_true rfl)) dX4_numberOf_25 ⟨Nat.le_of_ble_eq_true rfl, Nat.le_of_ble_eq_true rfl⟩) (fun r9 u9 H locs hw9 hP' hD' hS => ?_)
    clear hPc hDc hFc hD'
    have hP : va_P (dC, dI) vwCl (b_m cB cC cI cJ cZ oA rA σ_3 ++ b_w cB cC cI cJ cZ oA rA σ_3 ++ b_s cB cC cI cJ cZ oA rA σ_3 ++ b_c cB cC cI cJ cZ oA rA σ_3 ++ b_t cB cC cI cJ cZ oA rA σ_3 ++ b_d cB cC cI cJ cZ oA rA σ_3) H := er_I hP' hq9
    clear hP' hq9
    subst hw9
    obtain ⟨x_12, ex_12, hF_13⟩ := bnd_e hF_11
    clear hF_11
    refine m_top ex_12 ?_
    refine lv_iconst (v := 1) hx hb dX4_numberOf_28 (by decide +kernel) ?_
    refine lv_isub hx hb dX4_numberOf_29 ?_
    refine lv_goto (tgt := 41) hx hb dX4_numberOf_30 (by decide) ?_
    have h9 := Option.some.inj hF_13
    subst h9
    exact W.iret (v := (x_12 - 1)) hx hb hr (fun t ht hW => ⟨⟨(x_12 - 1), (), rfl, rfl, m_end ht hP, hDD _⟩, hS.F ht⟩) hS.2.2 dX4_numberOf_41
