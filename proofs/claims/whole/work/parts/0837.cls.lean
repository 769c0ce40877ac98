/-! methods of the class: what each does is its function -/
theorem dX8_hear_0 : decode cX8_hear 0 = .ok (.aload_n 0, 1) := by decide +kernel
theorem dX8_hear_1 : decode cX8_hear 1 = .ok (.iload_n 2, 1) := by decide +kernel
theorem dX8_hear_2 : decode cX8_hear 2 = .ok (.aload_n 1, 1) := by decide +kernel
theorem dX8_hear_3 : decode cX8_hear 3 = .ok (.arraylength, 1) := by decide +kernel
theorem dX8_hear_4 : decode cX8_hear 4 = .ok (.invokestatic 74, 3) := by decide +kernel
theorem dX8_hear_7 : decode cX8_hear 7 = .ok (.aload_n 0, 1) := by decide +kernel
theorem dX8_hear_8 : decode cX8_hear 8 = .ok (.getfield 9, 3) := by decide +kernel
theorem dX8_hear_11 : decode cX8_hear 11 = .ok (.arraylength, 1) := by decide +kernel
theorem dX8_hear_12 : decode cX8_hear 12 = .ok (.invokestatic 74, 3) := by decide +kernel
theorem dX8_hear_15 : decode cX8_hear 15 = .ok (.putfield 80, 3) := by decide +kernel
theorem dX8_hear_18 : decode cX8_hear 18 = .ok (.iconst 0, 1) := by decide +kernel
theorem dX8_hear_19 : decode cX8_hear 19 = .ok (.istore_n 3, 1) := by decide +kernel
theorem dX8_hear_20 : decode cX8_hear 20 = .ok (.iload_n 3, 1) := by decide +kernel
theorem dX8_hear_21 : decode cX8_hear 21 = .ok (.aload_n 0, 1) := by decide +kernel
theorem dX8_hear_22 : decode cX8_hear 22 = .ok (.getfield 80, 3) := by decide +kernel
theorem dX8_hear_25 : decode cX8_hear 25 = .ok (.if_icmp .ge 72, 3) := by decide +kernel
theorem dX8_hear_28 : decode cX8_hear 28 = .ok (.iload_n 3, 1) := by decide +kernel
theorem dX8_hear_29 : decode cX8_hear 29 = .ok (.aload_n 0, 1) := by decide +kernel
theorem dX8_hear_30 : decode cX8_hear 30 = .ok (.getfield 9, 3) := by decide +kernel
theorem dX8_hear_33 : decode cX8_hear 33 = .ok (.arraylength, 1) := by decide +kernel
theorem dX8_hear_34 : decode cX8_hear 34 = .ok (.if_icmp .ge 63, 3) := by decide +kernel
theorem dX8_hear_37 : decode cX8_hear 37 = .ok (.iload_n 3, 1) := by decide +kernel
theorem dX8_hear_38 : decode cX8_hear 38 = .ok (.aload_n 1, 1) := by decide +kernel
theorem dX8_hear_39 : decode cX8_hear 39 = .ok (.arraylength, 1) := by decide +kernel
theorem dX8_hear_40 : decode cX8_hear 40 = .ok (.if_icmp .ge 57, 3) := by decide +kernel
theorem dX8_hear_43 : decode cX8_hear 43 = .ok (.aload_n 1, 1) := by decide +kernel
theorem dX8_hear_44 : decode cX8_hear 44 = .ok (.iload_n 3, 1) := by decide +kernel
theorem dX8_hear_45 : decode cX8_hear 45 = .ok (.baload, 1) := by decide +kernel
theorem dX8_hear_46 : decode cX8_hear 46 = .ok (.istore 4, 2) := by decide +kernel
theorem dX8_hear_48 : decode cX8_hear 48 = .ok (.aload_n 0, 1) := by decide +kernel
theorem dX8_hear_49 : decode cX8_hear 49 = .ok (.getfield 9, 3) := by decide +kernel
theorem dX8_hear_52 : decode cX8_hear 52 = .ok (.iload_n 3, 1) := by decide +kernel
theorem dX8_hear_53 : decode cX8_hear 53 = .ok (.iload 4, 2) := by decide +kernel
theorem dX8_hear_55 : decode cX8_hear 55 = .ok (.bipush 65, 2) := by decide +kernel
theorem dX8_hear_57 : decode cX8_hear 57 = .ok (.if_icmp .lt 18, 3) := by decide +kernel
theorem dX8_hear_60 : decode cX8_hear 60 = .ok (.iload 4, 2) := by decide +kernel
theorem dX8_hear_62 : decode cX8_hear 62 = .ok (.bipush 90, 2) := by decide +kernel
theorem dX8_hear_64 : decode cX8_hear 64 = .ok (.if_icmp .gt 11, 3) := by decide +kernel
theorem dX8_hear_67 : decode cX8_hear 67 = .ok (.iload 4, 2) := by decide +kernel
theorem dX8_hear_69 : decode cX8_hear 69 = .ok (.bipush 32, 2) := by decide +kernel
theorem dX8_hear_71 : decode cX8_hear 71 = .ok (.iadd, 1) := by decide +kernel
theorem dX8_hear_72 : decode cX8_hear 72 = .ok (.goto 17, 3) := by decide +kernel
theorem dX8_hear_75 : decode cX8_hear 75 = .ok (.iload 4, 2) := by decide +kernel
theorem dX8_hear_77 : decode cX8_hear 77 = .ok (.bipush 10, 2) := by decide +kernel
theorem dX8_hear_79 : decode cX8_hear 79 = .ok (.if_icmp .ne 8, 3) := by decide +kernel
theorem dX8_hear_82 : decode cX8_hear 82 = .ok (.bipush 32, 2) := by decide +kernel
theorem dX8_hear_84 : decode cX8_hear 84 = .ok (.goto 5, 3) := by decide +kernel
theorem dX8_hear_87 : decode cX8_hear 87 = .ok (.iload 4, 2) := by decide +kernel
theorem dX8_hear_89 : decode cX8_hear 89 = .ok (.i2b, 1) := by decide +kernel
theorem dX8_hear_90 : decode cX8_hear 90 = .ok (.bastore, 1) := by decide +kernel
theorem dX8_hear_91 : decode cX8_hear 91 = .ok (.iinc 3 1, 3) := by decide +kernel
theorem dX8_hear_94 : decode cX8_hear 94 = .ok (.goto (-74), 3) := by decide +kernel
theorem dX8_hear_97 : decode cX8_hear 97 = .ok (.aload_n 0, 1) := by decide +kernel
theorem dX8_hear_98 : decode cX8_hear 98 = .ok (.iconst 0, 1) := by decide +kernel
theorem dX8_hear_99 : decode cX8_hear 99 = .ok (.putfield 50, 3) := by decide +kernel
theorem dX8_hear_102 : decode cX8_hear 102 = .ok (.iconst 0, 1) := by decide +kernel
theorem dX8_hear_103 : decode cX8_hear 103 = .ok (.istore_n 3, 1) := by decide +kernel
theorem dX8_hear_104 : decode cX8_hear 104 = .ok (.iconst 0, 1) := by decide +kernel
theorem dX8_hear_105 : decode cX8_hear 105 = .ok (.istore 4, 2) := by decide +kernel
theorem dX8_hear_107 : decode cX8_hear 107 = .ok (.iload 4, 2) := by decide +kernel
theorem dX8_hear_109 : decode cX8_hear 109 = .ok (.aload_n 0, 1) := by decide +kernel
theorem dX8_hear_110 : decode cX8_hear 110 = .ok (.getfield 80, 3) := by decide +kernel
theorem dX8_hear_113 : decode cX8_hear 113 = .ok (.if_icmp .gt 99, 3) := by decide +kernel
theorem dX8_hear_116 : decode cX8_hear 116 = .ok (.iload 4, 2) := by decide +kernel
theorem dX8_hear_118 : decode cX8_hear 118 = .ok (.aload_n 0, 1) := by decide +kernel
theorem dX8_hear_119 : decode cX8_hear 119 = .ok (.getfield 80, 3) := by decide +kernel
theorem dX8_hear_122 : decode cX8_hear 122 = .ok (.if_icmp .eq 26, 3) := by decide +kernel
theorem dX8_hear_125 : decode cX8_hear 125 = .ok (.iload 4, 2) := by decide +kernel
theorem dX8_hear_127 : decode cX8_hear 127 = .ok (.aload_n 0, 1) := by decide +kernel
theorem dX8_hear_128 : decode cX8_hear 128 = .ok (.getfield 9, 3) := by decide +kernel
theorem dX8_hear_131 : decode cX8_hear 131 = .ok (.arraylength, 1) := by decide +kernel
theorem dX8_hear_132 : decode cX8_hear 132 = .ok (.if_icmp .ge 74, 3) := by decide +kernel
theorem dX8_hear_135 : decode cX8_hear 135 = .ok (.aload_n 0, 1) := by decide +kernel
theorem dX8_hear_136 : decode cX8_hear 136 = .ok (.getfield 9, 3) := by decide +kernel
theorem dX8_hear_139 : decode cX8_hear 139 = .ok (.iload 4, 2) := by decide +kernel
theorem dX8_hear_141 : decode cX8_hear 141 = .ok (.baload, 1) := by decide +kernel
theorem dX8_hear_142 : decode cX8_hear 142 = .ok (.invokestatic 81, 3) := by decide +kernel
theorem dX8_hear_145 : decode cX8_hear 145 = .ok (.ifCond .ne 61, 3) := by decide +kernel
theorem dX8_hear_148 : decode cX8_hear 148 = .ok (.iload 4, 2) := by decide +kernel
theorem dX8_hear_150 : decode cX8_hear 150 = .ok (.iload_n 3, 1) := by decide +kernel
theorem dX8_hear_151 : decode cX8_hear 151 = .ok (.if_icmp .le 50, 3) := by decide +kernel
theorem dX8_hear_154 : decode cX8_hear 154 = .ok (.aload_n 0, 1) := by decide +kernel
theorem dX8_hear_155 : decode cX8_hear 155 = .ok (.getfield 50, 3) := by decide +kernel
theorem dX8_hear_158 : decode cX8_hear 158 = .ok (.bipush 12, 2) := by decide +kernel
theorem dX8_hear_160 : decode cX8_hear 160 = .ok (.if_icmp .ge 41, 3) := by decide +kernel
theorem dX8_hear_163 : decode cX8_hear 163 = .ok (.aload_n 0, 1) := by decide +kernel
theorem dX8_hear_164 : decode cX8_hear 164 = .ok (.getfield 15, 3) := by decide +kernel
theorem dX8_hear_167 : decode cX8_hear 167 = .ok (.aload_n 0, 1) := by decide +kernel
theorem dX8_hear_168 : decode cX8_hear 168 = .ok (.getfield 50, 3) := by decide +kernel
theorem dX8_hear_171 : decode cX8_hear 171 = .ok (.aload_n 0, 1) := by decide +kernel
theorem dX8_hear_172 : decode cX8_hear 172 = .ok (.getfield 85, 3) := by decide +kernel
theorem dX8_hear_175 : decode cX8_hear 175 = .ok (.getfield 89, 3) := by decide +kernel
theorem dX8_hear_178 : decode cX8_hear 178 = .ok (.aload_n 0, 1) := by decide +kernel
theorem dX8_hear_179 : decode cX8_hear 179 = .ok (.iload_n 3, 1) := by decide +kernel
theorem dX8_hear_180 : decode cX8_hear 180 = .ok (.iload 4, 2) := by decide +kernel
theorem dX8_hear_182 : decode cX8_hear 182 = .ok (.invokevirtual 95, 3) := by decide +kernel
theorem dX8_hear_185 : decode cX8_hear 185 = .ok (.invokevirtual 99, 3) := by decide +kernel
theorem dX8_hear_188 : decode cX8_hear 188 = .ok (.invokestatic 105, 3) := by decide +kernel
theorem dX8_hear_191 : decode cX8_hear 191 = .ok (.aload_n 0, 1) := by decide +kernel
theorem dX8_hear_192 : decode cX8_hear 192 = .ok (.dup, 1) := by decide +kernel
theorem dX8_hear_193 : decode cX8_hear 193 = .ok (.getfield 50, 3) := by decide +kernel
theorem dX8_hear_196 : decode cX8_hear 196 = .ok (.iconst 1, 1) := by decide +kernel
theorem dX8_hear_197 : decode cX8_hear 197 = .ok (.iadd, 1) := by decide +kernel
theorem dX8_hear_198 : decode cX8_hear 198 = .ok (.putfield 50, 3) := by decide +kernel
theorem dX8_hear_201 : decode cX8_hear 201 = .ok (.iload 4, 2) := by decide +kernel
theorem dX8_hear_203 : decode cX8_hear 203 = .ok (.iconst 1, 1) := by decide +kernel
theorem dX8_hear_204 : decode cX8_hear 204 = .ok (.iadd, 1) := by decide +kernel
theorem dX8_hear_205 : decode cX8_hear 205 = .ok (.istore_n 3, 1) := by decide +kernel
theorem dX8_hear_206 : decode cX8_hear 206 = .ok (.iinc 4 1, 3) := by decide +kernel
theorem dX8_hear_209 : decode cX8_hear 209 = .ok (.goto (-102), 3) := by decide +kernel
theorem dX8_hear_212 : decode cX8_hear 212 = .ok (.return_, 1) := by decide +kernel
def F_X8_hear_b (p1 : Int32) (Γ : HS) : HR :=
  bnd ((if 16000 < p1 then 16000 else p1)) fun (x_1 : Int32) =>
  bnd ((if 120 < x_1 then 120 else x_1)) fun (x_3 : Int32) =>
  bnd (cI' Γ 11 5 x_3) fun σ_5 =>
  loopF (fun (again_8 : (Int32 × HS) → HR) (s_7 : Int32 × HS) => (
    bnd (fun  (σ_11 : HS) => (
      bnd (cI' σ_11 11 7 0) fun σ_15 =>
      loopF (fun (again_18 : (Int32 × Int32 × HS) → HR) (s_17 : Int32 × Int32 × HS) => (
        if ((s_17.2.2 11).1 5) < s_17.2.1 then (
          some (0, s_17.2.2)
        ) else (
          bnd (fun (v3_24 : Int32) (σ_25 : HS) => (
            bnd (s_17.2.1 + 1) fun (x_29 : Int32) =>
            again_18 (v3_24, x_29, σ_25)
          ) : Int32 → HS → HR) fun j_26 =>
          bnd (fun  (σ_31 : HS) => (
            bnd (fun  (σ_35 : HS) => (
              bnd ((s_17.2.1 + 1)) fun (x_39 : Int32) =>
              j_26 x_39 σ_35
            ) : HS → HR) fun j_36 =>
            if s_17.2.1 ≤ s_17.1 then (
              j_36  σ_31
            ) else (
              if 12 ≤ ((σ_31 11).1 7) then (
                j_36  σ_31
              ) else (
                (F_X8_termBetween s_17.1 s_17.2.1 σ_31).bind fun u_47 =>
                bnd (mrg (fun j => j == 11 || j == 10 || j == 9 || j == 8 || j == 4 || j == 5 || j == 6 || j == 7) σ_31 u_47.2) fun σ_49 =>
                (F_X1_find u_47.1 σ_49).bind fun u_51 =>
                bnd (mrg (fun j => j == 7) σ_49 u_51.2) fun σ_53 =>
                bnd (cA' σ_53 11 6 (g_put 12 ((σ_53 11).2.1 6) ((σ_31 11).1 7) u_51.1)) fun σ_55 =>
                bnd (cI' σ_55 11 7 (((σ_55 11).1 7) + 1)) fun σ_57 =>
                j_36  σ_57
              )
            )
          ) : HS → HR) fun j_32 =>
          if s_17.2.1 = ((s_17.2.2 11).1 5) then (
            j_32  s_17.2.2
          ) else (
            if 120 ≤ s_17.2.1 then (
              j_26 s_17.1 s_17.2.2
            ) else (
              if s_17.2.1 < 0 ∨ 120 ≤ s_17.2.1.toNatClampNeg then none else
              (F_X11_isLetter ((nrB ((s_17.2.2 11).2.1 4)) s_17.2.1.toNatClampNeg) s_17.2.2).bind fun u_67 =>
              if u_67.1 = 0 then (
                j_32  s_17.2.2
              ) else (
                j_26 s_17.1 s_17.2.2
              )
            )
          )
        )
      )) FU (0, 0, σ_15)
    ) : HS → HR) fun j_12 =>
    if ((s_7.2 11).1 5) ≤ s_7.1 then (
      j_12  s_7.2
    ) else (
      if 120 ≤ s_7.1 then (
        j_12  s_7.2
      ) else (
        if 16000 ≤ s_7.1 then (
          j_12  s_7.2
        ) else (
          if s_7.1 < 0 ∨ 16000 ≤ s_7.1.toNatClampNeg then none else
          bnd (((s_7.2 13).2.1 0 s_7.1.toNatClampNeg)) fun (x_83 : Int32) =>
          bnd (fun (t_85 : Int32) (σ_86 : HS) => (
            bnd (t_85.toInt8.toInt32) fun (x_90 : Int32) =>
            if s_7.1 < 0 ∨ 120 ≤ s_7.1.toNatClampNeg then none else
            bnd (cA' σ_86 11 4 (upd ((σ_86 11).2.1 4) s_7.1.toNatClampNeg (vp_nar .byte x_90))) fun σ_94 =>
            bnd (s_7.1 + 1) fun (x_96 : Int32) =>
            again_8 (x_96, σ_94)
          ) : Int32 → HS → HR) fun j_87 =>
          bnd (fun  (σ_98 : HS) => (
            if x_83 = 10 then (
              j_87 32 σ_98
            ) else (
              j_87 x_83 σ_98
            )
          ) : HS → HR) fun j_99 =>
          if x_83 < 65 then (
            j_99  s_7.2
          ) else (
            if 90 < x_83 then (
              j_99  s_7.2
            ) else (
              j_87 (x_83 + 32) s_7.2
            )
          )
        )
      )
    )
  )) FU (0, σ_5)
set_option maxHeartbeats 4000000 in
set_option maxRecDepth 100000 in
theorem k_X8_hear_b (l : Launch) (dC : Nat → ClassId) (dI : Nat → Nat → Nat) (cB cC cI cJ cZ cP : ClassId) (oA : Nat → Nat) (rA : Nat → Nat → Nat) (sz : Nat)  (p1 : Int32) (Γ : HS) (res : Int32 × HS) (hF : F_X8_hear_b p1 Γ = some res) : Met l yX8_hear (g_ws yX8_hear cX8_hear 5 none) ({ frames := 4, cells := 0, slots := 0, locals := 105 }) (va_Pc [.ref (oA 11), .ref (rA 13 0), .int p1] (g_B (dC, dI) [(cB, .byte), (cC, .char), (cI, .int), (cJ, .long), (cZ, .boolean), (cP, .object "StoryHouse$Play")] sz (b_b cB cC cI cJ cZ oA rA Γ ++ b_e cB cC cI cJ cZ oA rA Γ ++ b_k cB cC cI cJ cZ oA rA Γ ++ b_p cB cC cI cJ cZ oA rA Γ ++ b_o cB cC cI cJ cZ oA rA Γ ++ b_s cB cC cI cJ cZ oA rA Γ ++ b_c cB cC cI cJ cZ oA rA Γ ++ b_t cB cC cI cJ cZ oA rA Γ ++ b_d cB cC cI cJ cZ oA rA Γ) g_0)) (va_Qv (fun (_ : Unit) => True) (g_Bo (dC, dI) (va_A (b_b cB cC cI cJ cZ oA rA Γ ++ b_e cB cC cI cJ cZ oA rA Γ ++ b_k cB cC cI cJ cZ oA rA Γ ++ b_p cB cC cI cJ cZ oA rA Γ ++ b_o cB cC cI cJ cZ oA rA Γ ++ b_s cB cC cI cJ cZ oA rA Γ ++ b_c cB cC cI cJ cZ oA rA Γ ++ b_t cB cC cI cJ cZ oA rA Γ ++ b_d cB cC cI cJ cZ oA rA Γ) sz) (fun (_ : Unit) => (b_b cB cC cI cJ cZ oA rA res.2 ++ b_e cB cC cI cJ cZ oA rA res.2 ++ b_k cB cC cI cJ cZ oA rA res.2 ++ b_p cB cC cI cJ cZ oA rA res.2 ++ b_o cB cC cI cJ cZ oA rA res.2 ++ b_s cB cC cI cJ cZ oA rA res.2 ++ b_c cB cC cI cJ cZ oA rA res.2 ++ b_t cB cC cI cJ cZ oA rA res.2 ++ b_d cB cC cI cJ cZ oA rA res.2))) (va_A (b_b cB cC cI cJ cZ oA rA Γ ++ b_e cB cC cI cJ cZ oA rA Γ ++ b_k cB cC cI cJ cZ oA rA Γ ++ b_p cB cC cI cJ cZ oA rA Γ ++ b_o cB cC cI cJ cZ oA rA Γ ++ b_s cB cC cI cJ cZ oA rA Γ ++ b_c cB cC cI cJ cZ oA rA Γ ++ b_t cB cC cI cJ cZ oA rA Γ ++ b_d cB cC cI cJ cZ oA rA Γ) sz)) 0 0 (va_A (b_b cB cC cI cJ cZ oA rA Γ ++ b_e cB cC cI cJ cZ oA rA Γ ++ b_k cB cC cI cJ cZ oA rA Γ ++ b_p cB cC cI cJ cZ oA rA Γ ++ b_o cB cC cI cJ cZ oA rA Γ ++ b_s cB cC cI cJ cZ oA rA Γ ++ b_c cB cC cI cJ cZ oA rA Γ ++ b_t cB cC cI cJ cZ oA rA Γ ++ b_d cB cC cI cJ cZ oA rA Γ) sz) := by
  refine Met.ofW (cc := cX8_hear) (maxL := 5) (ret := none) (by decide) rfl ?_
  intro p e s m args below meth c s₁ B hml hv
  obtain ⟨rfl, hsz, hP, hK, hD0, hE, hX⟩ := hv
  have hx := B.exec
  have hb := B.bytes
  have hr := B.returns
  have hts0 := atoms_spec (ws := g_ws yX8_hear cX8_hear 5 none) B.pre
  have hts : ∀ w ∈ lw_good, w.before ([.ref (oA 11), .ref (rA 13 0), .int p1] : List Value).toArray s = true := fun w z => hts0 w (List.mem_cons_of_mem _ z)
  have hown : s.vm.findClass RX8 = some m.cls := findClass_of_methodNamed B.named
  have hlocks := B.notSynchronized
  subst hsz
  have hD1 := hD0.self (sz := s.heap.size)
  generalize hAe : va_A (b_b cB cC cI cJ cZ oA rA Γ ++ b_e cB cC cI cJ cZ oA rA Γ ++ b_k cB cC cI cJ cZ oA rA Γ ++ b_p cB cC cI cJ cZ oA rA Γ ++ b_o cB cC cI cJ cZ oA rA Γ ++ b_s cB cC cI cJ cZ oA rA Γ ++ b_c cB cC cI cJ cZ oA rA Γ ++ b_t cB cC cI cJ cZ oA rA Γ ++ b_d cB cC cI cJ cZ oA rA Γ) s.heap.size = A at hD1 hE hX ⊢
  have hA : ∀ q : Nat, s.heap.size ≤ q → A q := fun q z => by rw [← hAe]; exact Or.inr z
  have hDD : ∀ Γ : HS, va_D A (b_b cB cC cI cJ cZ oA rA Γ ++ b_e cB cC cI cJ cZ oA rA Γ ++ b_k cB cC cI cJ cZ oA rA Γ ++ b_p cB cC cI cJ cZ oA rA Γ ++ b_o cB cC cI cJ cZ oA rA Γ ++ b_s cB cC cI cJ cZ oA rA Γ ++ b_c cB cC cI cJ cZ oA rA Γ ++ b_t cB cC cI cJ cZ oA rA Γ ++ b_d cB cC cI cJ cZ oA rA Γ) := fun Γ9 => va_D_fst (ws := (b_b cB cC cI cJ cZ oA rA Γ ++ b_e cB cC cI cJ cZ oA rA Γ ++ b_k cB cC cI cJ cZ oA rA Γ ++ b_p cB cC cI cJ cZ oA rA Γ ++ b_o cB cC cI cJ cZ oA rA Γ ++ b_s cB cC cI cJ cZ oA rA Γ ++ b_c cB cC cI cJ cZ oA rA Γ ++ b_t cB cC cI cJ cZ oA rA Γ ++ b_d cB cC cI cJ cZ oA rA Γ)) (ws' := (b_b cB cC cI cJ cZ oA rA Γ9 ++ b_e cB cC cI cJ cZ oA rA Γ9 ++ b_k cB cC cI cJ cZ oA rA Γ9 ++ b_p cB cC cI cJ cZ oA rA Γ9 ++ b_o cB cC cI cJ cZ oA rA Γ9 ++ b_s cB cC cI cJ cZ oA rA Γ9 ++ b_c cB cC cI cJ cZ oA rA Γ9 ++ b_t cB cC cI cJ cZ oA rA Γ9 ++ b_d cB cC cI cJ cZ oA rA Γ9)) rfl hD1
  have hN := hE.1
  have hS : va_S A s.heap s.heap [] := va_S.rf
  have hl := lv_entry ([.ref (oA 11), .ref (rA 13 0), .int p1]) (n := 5) (Nat.le_of_ble_eq_true rfl)
  rw [lg_entry_eq]
  generalize (lg_sl ([.ref (oA 11), .ref (rA 13 0), .int p1]) ++ List.replicate (5 - (lg_sl ([.ref (oA 11), .ref (rA 13 0), .int p1])).length) Slot.unset).toArray = ls at hl ⊢
  have hl : lv_has ls 5 [(0, .ref (oA 11)), (1, .ref (rA 13 0)), (2, .int p1)] := hl
  unfold F_X8_hear_b at hF
  refine lv_aload_n hx hb dX8_hear_0 rfl (lv_at hl 0 rfl) ?_
  refine lv_iload_n hx hb dX8_hear_1 rfl (lv_at hl 2 rfl) ?_
  refine lv_aload_n hx hb dX8_hear_2 rfl (lv_at hl 1 rfl) ?_
  refine va_alen (v := 16000) hx hb hK hP 0 0 rfl rfl (by first | rfl | decide +kernel) dX8_hear_3 ?_
  refine va_mmin hx hb (hml.trans hl.1.symm) hown (hts (.methodLink RX8 74 yJ9_min_7cf53) wq_1056) (hts (.static yJ9_min_7cf53) wq_331) (hts (.initialized RJ9) wq_19) (hts (.code yJ9_min_7cf53 cJ9_min_7cf53 2 (some .int)) wq_332) (Nat.le_of_ble_eq_true rfl) (Nat.le_of_ble_eq_true rfl) (Nat.le_of_ble_eq_true rfl) (Nat.le_of_ble_eq_true rfl) dX8_hear_4 ?_
  obtain ⟨x_1, ex_1, hF_2⟩ := bnd_e hF
  clear hF
  refine m_top ex_1 ?_
  refine lv_aload_n hx hb dX8_hear_7 rfl (lv_at hl 0 rfl) ?_
  refine va_get (D := (dC, dI)) (ci := 8) (v := .ref (rA 11 4)) (C := RX8) (T := TX8) (N := 16) hx hb hts ii_X8 hown hK hP 1 rfl rfl 4 (by decide) (hts (.fieldLink RX8 9 "StoryHouse$Teller" "line" "[B") wq_291) (fun _ h9 => h9) rfl dX8_hear_8 ?_
  refine va_alen (v := 120) hx hb hK hP 2 0 rfl rfl (by first | rfl | decide +kernel) dX8_hear_11 ?_
  refine va_mmin hx hb (hml.trans hl.1.symm) hown (hts (.methodLink RX8 74 yJ9_min_7cf53) wq_1056) (hts (.static yJ9_min_7cf53) wq_331) (hts (.initialized RJ9) wq_19) (hts (.code yJ9_min_7cf53 cJ9_min_7cf53 2 (some .int)) wq_332) (Nat.le_of_ble_eq_true rfl) (Nat.le_of_ble_eq_true rfl) (Nat.le_of_ble_eq_true rfl) (Nat.le_of_ble_eq_true rfl) dX8_hear_12 ?_
  obtain ⟨x_3, ex_3, hF_4⟩ := bnd_e hF_2
  clear hF_2
  refine m_top ex_3 ?_
  obtain ⟨σ_5, eσ_5, hF_6⟩ := bnd_e hF_4
  clear hF_4
  refine va_put (D := (dC, dI)) (ci := 8) (v := .int x_3) (ty := .int) (C := RX8) (T := TX8) (N := 16) hx hb hts ii_X8 tyX8 tyX8_ok nmX8 hown hK hP (hDD _) hS 1 rfl rfl 5 (by decide) (hts (.fieldLink RX8 80 "StoryHouse$Teller" "lineLength" "I") wq_292) (fun _ h9 => h9) rfl (by decide +kernel) rfl rfl (Nat.le_of_ble_eq_true rfl) dX8_hear_15 (fun H locs hP' _ hS => ?_)
  have hP : va_P (dC, dI) vwCl (b_b cB cC cI cJ cZ oA rA σ_5 ++ b_e cB cC cI cJ cZ oA rA σ_5 ++ b_k cB cC cI cJ cZ oA rA σ_5 ++ b_p cB cC cI cJ cZ oA rA σ_5 ++ b_o cB cC cI cJ cZ oA rA σ_5 ++ b_s cB cC cI cJ cZ oA rA σ_5 ++ b_c cB cC cI cJ cZ oA rA σ_5 ++ b_t cB cC cI cJ cZ oA rA σ_5 ++ b_d cB cC cI cJ cZ oA rA σ_5) H := by rw [eσ_5]; exact cs_bekposctd_e_5 ▸ hP'
  clear hP'
  refine lv_iconst (v := 0) hx hb dX8_hear_18 (by decide +kernel) ?_
  refine lv_istore_n (lv' := [(3, .int 0), (0, .ref (oA 11)), (1, .ref (rA 13 0)), (2, .int p1)]) hx hb dX8_hear_19 rfl hl (by decide) rfl (fun ls hl => ?_)
  refine loopF_ind (P := fun (s_7 : Int32 × HS) => ∀ (H : Heap) (locs : List Loc), va_P (dC, dI) vwCl (b_b cB cC cI cJ cZ oA rA s_7.2 ++ b_e cB cC cI cJ cZ oA rA s_7.2 ++ b_k cB cC cI cJ cZ oA rA s_7.2 ++ b_p cB cC cI cJ cZ oA rA s_7.2 ++ b_o cB cC cI cJ cZ oA rA s_7.2 ++ b_s cB cC cI cJ cZ oA rA s_7.2 ++ b_c cB cC cI cJ cZ oA rA s_7.2 ++ b_t cB cC cI cJ cZ oA rA s_7.2 ++ b_d cB cC cI cJ cZ oA rA s_7.2) H → va_S A s.heap H locs → ∀ ls : Array Slot, lv_has ls 5 [(0, .ref (oA 11)), (1, .ref (rA 13 0)), (3, .int s_7.1)] → W p l e (headSpec (g_ws yX8_hear cX8_hear 5 none) { frames := 4, cells := 0, slots := 0, locals := 105 }).room s m ([.ref (oA 11), .ref (rA 13 0), .int p1] : List Value).toArray below meth c H locs 0 0 (MQ below (va_Qv (fun (_ : Unit) => True) (g_Bo (dC, dI) A (fun (_ : Unit) => (b_b cB cC cI cJ cZ oA rA res.2 ++ b_e cB cC cI cJ cZ oA rA res.2 ++ b_k cB cC cI cJ cZ oA rA res.2 ++ b_p cB cC cI cJ cZ oA rA res.2 ++ b_o cB cC cI cJ cZ oA rA res.2 ++ b_s cB cC cI cJ cZ oA rA res.2 ++ b_c cB cC cI cJ cZ oA rA res.2 ++ b_t cB cC cI cJ cZ oA rA res.2 ++ b_d cB cC cI cJ cZ oA rA res.2))) A) ([.ref (oA 11), .ref (rA 13 0), .int p1] : List Value).toArray s 0 0 A) (F0 m 20 ls [])) ?_ _ _ hF_6 _ _ hP hS ls (lv_sub hl [1, 2, 0] rfl)
  intro again_8 s_7 ih_9 hF_10
  intro H locs hP hS ls hl
  refine lv_iload_n hx hb dX8_hear_20 rfl (lv_at hl 2 rfl) ?_
  refine lv_aload_n hx hb dX8_hear_21 rfl (lv_at hl 0 rfl) ?_
  refine va_get (D := (dC, dI)) (ci := 8) (v := .int ((s_7.2 11).1 5)) (C := RX8) (T := TX8) (N := 16) hx hb hts ii_X8 hown hK hP 1 rfl rfl 5 (by decide) (hts (.fieldLink RX8 80 "StoryHouse$Teller" "lineLength" "I") wq_292) (fun _ h9 => h9) rfl dX8_hear_22 ?_
  obtain ⟨j_12, ej_12, hF_13⟩ := bnd_e hF_10
  clear hF_10
  have Jj_12 : ∀  (σ_11 : HS), j_12  σ_11 = some res → ∀ (H : Heap) (locs : List Loc), va_P (dC, dI) vwCl (b_b cB cC cI cJ cZ oA rA σ_11 ++ b_e cB cC cI cJ cZ oA rA σ_11 ++ b_k cB cC cI cJ cZ oA rA σ_11 ++ b_p cB cC cI cJ cZ oA rA σ_11 ++ b_o cB cC cI cJ cZ oA rA σ_11 ++ b_s cB cC cI cJ cZ oA rA σ_11 ++ b_c cB cC cI cJ cZ oA rA σ_11 ++ b_t cB cC cI cJ cZ oA rA σ_11 ++ b_d cB cC cI cJ cZ oA rA σ_11) H → va_S A s.heap H locs → ∀ ls : Array Slot, lv_has ls 5 [(0, .ref (oA 11))] → W p l e (headSpec (g_ws yX8_hear cX8_hear 5 none) { frames := 4, cells := 0, slots := 0, locals := 105 }).room s m ([.ref (oA 11), .ref (rA 13 0), .int p1] : List Value).toArray below meth c H locs 0 0 (MQ below (va_Qv (fun (_ : Unit) => True) (g_Bo (dC, dI) A (fun (_ : Unit) => (b_b cB cC cI cJ cZ oA rA res.2 ++ b_e cB cC cI cJ cZ oA rA res.2 ++ b_k cB cC cI cJ cZ oA rA res.2 ++ b_p cB cC cI cJ cZ oA rA res.2 ++ b_o cB cC cI cJ cZ oA rA res.2 ++ b_s cB cC cI cJ cZ oA rA res.2 ++ b_c cB cC cI cJ cZ oA rA res.2 ++ b_t cB cC cI cJ cZ oA rA res.2 ++ b_d cB cC cI cJ cZ oA rA res.2))) A) ([.ref (oA 11), .ref (rA 13 0), .int p1] : List Value).toArray s 0 0 A) (F0 m 97 ls []) := by
    intro  σ_11 hF0 H locs hP hS ls hl
    subst ej_12
    have hF_14 := hF0
    clear hF0
    refine lv_aload_n hx hb dX8_hear_97 rfl (lv_at hl 0 rfl) ?_
    refine lv_iconst (v := 0) hx hb dX8_hear_98 (by decide +kernel) ?_
    obtain ⟨σ_15, eσ_15, hF_16⟩ := bnd_e hF_14
    clear hF_14
    refine va_put (D := (dC, dI)) (ci := 8) (v := .int 0) (ty := .int) (C := RX8) (T := TX8) (N := 16) hx hb hts ii_X8 tyX8 tyX8_ok nmX8 hown hK hP (hDD _) hS 1 rfl rfl 7 (by decide) (hts (.fieldLink RX8 50 "StoryHouse$Teller" "termCount" "I") wq_294) (fun _ h9 => h9) rfl (by decide +kernel) rfl rfl (Nat.le_of_ble_eq_true rfl) dX8_hear_99 (fun H locs hP' _ hS => ?_)
    have hP : va_P (dC, dI) vwCl (b_b cB cC cI cJ cZ oA rA σ_15 ++ b_e cB cC cI cJ cZ oA rA σ_15 ++ b_k cB cC cI cJ cZ oA rA σ_15 ++ b_p cB cC cI cJ cZ oA rA σ_15 ++ b_o cB cC cI cJ cZ oA rA σ_15 ++ b_s cB cC cI cJ cZ oA rA σ_15 ++ b_c cB cC cI cJ cZ oA rA σ_15 ++ b_t cB cC cI cJ cZ oA rA σ_15 ++ b_d cB cC cI cJ cZ oA rA σ_15) H := by rw [eσ_15]; exact cs_bekposctd_e_7 ▸ hP'
    clear hP'
    refine lv_iconst (v := 0) hx hb dX8_hear_102 (by decide +kernel) ?_
    refine lv_istore_n (lv' := [(3, .int 0), (0, .ref (oA 11))]) hx hb dX8_hear_103 rfl hl (by decide) rfl (fun ls hl => ?_)
    refine lv_iconst (v := 0) hx hb dX8_hear_104 (by decide +kernel) ?_
    refine lv_istore (lv' := [(4, .int 0), (3, .int 0), (0, .ref (oA 11))]) hx hb dX8_hear_105 hl (by decide) rfl (fun ls hl => ?_)
    refine loopF_ind (P := fun (s_17 : Int32 × Int32 × HS) => ∀ (H : Heap) (locs : List Loc), va_P (dC, dI) vwCl (b_b cB cC cI cJ cZ oA rA s_17.2.2 ++ b_e cB cC cI cJ cZ oA rA s_17.2.2 ++ b_k cB cC cI cJ cZ oA rA s_17.2.2 ++ b_p cB cC cI cJ cZ oA rA s_17.2.2 ++ b_o cB cC cI cJ cZ oA rA s_17.2.2 ++ b_s cB cC cI cJ cZ oA rA s_17.2.2 ++ b_c cB cC cI cJ cZ oA rA s_17.2.2 ++ b_t cB cC cI cJ cZ oA rA s_17.2.2 ++ b_d cB cC cI cJ cZ oA rA s_17.2.2) H → va_S A s.heap H locs → ∀ ls : Array Slot, lv_has ls 5 [(0, .ref (oA 11)), (3, .int s_17.1), (4, .int s_17.2.1)] → W p l e (headSpec (g_ws yX8_hear cX8_hear 5 none) { frames := 4, cells := 0, slots := 0, locals := 105 }).room s m ([.ref (oA 11), .ref (rA 13 0), .int p1] : List Value).toArray below meth c H locs 0 0 (MQ below (va_Qv (fun (_ : Unit) => True) (g_Bo (dC, dI) A (fun (_ : Unit) => (b_b cB cC cI cJ cZ oA rA res.2 ++ b_e cB cC cI cJ cZ oA rA res.2 ++ b_k cB cC cI cJ cZ oA rA res.2 ++ b_p cB cC cI cJ cZ oA rA res.2 ++ b_o cB cC cI cJ cZ oA rA res.2 ++ b_s cB cC cI cJ cZ oA rA res.2 ++ b_c cB cC cI cJ cZ oA rA res.2 ++ b_t cB cC cI cJ cZ oA rA res.2 ++ b_d cB cC cI cJ cZ oA rA res.2))) A) ([.ref (oA 11), .ref (rA 13 0), .int p1] : List Value).toArray s 0 0 A) (F0 m 107 ls [])) ?_ _ _ hF_16 _ _ hP hS ls (lv_sub hl [2, 1, 0] rfl)
    intro again_18 s_17 ih_19 hF_20
    intro H locs hP hS ls hl
    refine lv_iload hx hb dX8_hear_107 (lv_at hl 2 rfl) ?_
    refine lv_aload_n hx hb dX8_hear_109 rfl (lv_at hl 0 rfl) ?_
    refine va_get (D := (dC, dI)) (ci := 8) (v := .int ((s_17.2.2 11).1 5)) (C := RX8) (T := TX8) (N := 16) hx hb hts ii_X8 hown hK hP 1 rfl rfl 5 (by decide) (hts (.fieldLink RX8 80 "StoryHouse$Teller" "lineLength" "I") wq_292) (fun _ h9 => h9) rfl dX8_hear_110 ?_
    refine lv_icmp_gt (tgt := 212) hx hb dX8_hear_113 (by decide) (fun c_21 => ?_) (fun c_21 => ?_)
    · have hF_22 := ipos c_21 hF_20
      clear hF_20
      have h9 := Option.some.inj hF_22
      subst h9
      exact W.vret hx hb hr (fun t ht hW => ⟨⟨(), rfl, trivial, m_end ht hP, hDD _⟩, hS.F ht⟩) hS.2.2 dX8_hear_212
    · have hF_23 := ineg c_21 hF_20
      clear hF_20
      refine lv_iload hx hb dX8_hear_116 (lv_at hl 2 rfl) ?_
      refine lv_aload_n hx hb dX8_hear_118 rfl (lv_at hl 0 rfl) ?_
      refine va_get (D := (dC, dI)) (ci := 8) (v := .int ((s_17.2.2 11).1 5)) (C := RX8) (T := TX8) (N := 16) hx hb hts ii_X8 hown hK hP 1 rfl rfl 5 (by decide) (hts (.fieldLink RX8 80 "StoryHouse$Teller" "lineLength" "I") wq_292) (fun _ h9 => h9) rfl dX8_hear_119 ?_
      obtain ⟨j_26, ej_26, hF_27⟩ := bnd_e hF_23
      clear hF_23
      have Jj_26 : ∀ (v3_24 : Int32) (σ_25 : HS), j_26 v3_24 σ_25 = some res → ∀ (H : Heap) (locs : List Loc), va_P (dC, dI) vwCl (b_b cB cC cI cJ cZ oA rA σ_25 ++ b_e cB cC cI cJ cZ oA rA σ_25 ++ b_k cB cC cI cJ cZ oA rA σ_25 ++ b_p cB cC cI cJ cZ oA rA σ_25 ++ b_o cB cC cI cJ cZ oA rA σ_25 ++ b_s cB cC cI cJ cZ oA rA σ_25 ++ b_c cB cC cI cJ cZ oA rA σ_25 ++ b_t cB cC cI cJ cZ oA rA σ_25 ++ b_d cB cC cI cJ cZ oA rA σ_25) H → va_S A s.heap H locs → ∀ ls : Array Slot, lv_has ls 5 [(0, .ref (oA 11)), (3, .int v3_24), (4, .int s_17.2.1)] → W p l e (headSpec (g_ws yX8_hear cX8_hear 5 none) { frames := 4, cells := 0, slots := 0, locals := 105 }).room s m ([.ref (oA 11), .ref (rA 13 0), .int p1] : List Value).toArray below meth c H locs 0 0 (MQ below (va_Qv (fun (_ : Unit) => True) (g_Bo (dC, dI) A (fun (_ : Unit) => (b_b cB cC cI cJ cZ oA rA res.2 ++ b_e cB cC cI cJ cZ oA rA res.2 ++ b_k cB cC cI cJ cZ oA rA res.2 ++ b_p cB cC cI cJ cZ oA rA res.2 ++ b_o cB cC cI cJ cZ oA rA res.2 ++ b_s cB cC cI cJ cZ oA rA res.2 ++ b_c cB cC cI cJ cZ oA rA res.2 ++ b_t cB cC cI cJ cZ oA rA res.2 ++ b_d cB cC cI cJ cZ oA rA res.2))) A) ([.ref (oA 11), .ref (rA 13 0), .int p1] : List Value).toArray s 0 0 A) (F0 m 206 ls []) := by
        intro v3_24 σ_25 hF0 H locs hP hS ls hl
        subst ej_26
        have hF_28 := hF0
        clear hF0
        obtain ⟨x_29, ex_29, hF_30⟩ := bnd_e hF_28
        clear hF_28
        refine lv_iinc (v := x_29) (lv' := [(4, .int x_29), (0, .ref (oA 11)), (3, .int v3_24)]) hx hb dX8_hear_206 hl (k := 2) rfl (by rw [ex_29]; rfl) (by decide) rfl (fun ls hl => ?_)
        refine lv_goto (tgt := 107) hx hb dX8_hear_209 (by decide) ?_
        exact ih_19 (v3_24, x_29, σ_25) hF_30 _ _ hP hS ls (lv_sub hl [1, 2, 0] rfl)
      obtain ⟨j_32, ej_32, hF_33⟩ := bnd_e hF_27
      clear hF_27
      have Jj_32 : ∀  (σ_31 : HS), j_32  σ_31 = some res → ∀ (H : Heap) (locs : List Loc), va_P (dC, dI) vwCl (b_b cB cC cI cJ cZ oA rA σ_31 ++ b_e cB cC cI cJ cZ oA rA σ_31 ++ b_k cB cC cI cJ cZ oA rA σ_31 ++ b_p cB cC cI cJ cZ oA rA σ_31 ++ b_o cB cC cI cJ cZ oA rA σ_31 ++ b_s cB cC cI cJ cZ oA rA σ_31 ++ b_c cB cC cI cJ cZ oA rA σ_31 ++ b_t cB cC cI cJ cZ oA rA σ_31 ++ b_d cB cC cI cJ cZ oA rA σ_31) H → va_S A s.heap H locs → ∀ ls : Array Slot, lv_has ls 5 [(0, .ref (oA 11)), (3, .int s_17.1), (4, .int s_17.2.1)] → W p l e (headSpec (g_ws yX8_hear cX8_hear 5 none) { frames := 4, cells := 0, slots := 0, locals := 105 }).room s m ([.ref (oA 11), .ref (rA 13 0), .int p1] : List Value).toArray below meth c H locs 0 0 (MQ below (va_Qv (fun (_ : Unit) => True) (g_Bo (dC, dI) A (fun (_ : Unit) => (b_b cB cC cI cJ cZ oA rA res.2 ++ b_e cB cC cI cJ cZ oA rA res.2 ++ b_k cB cC cI cJ cZ oA rA res.2 ++ b_p cB cC cI cJ cZ oA rA res.2 ++ b_o cB cC cI cJ cZ oA rA res.2 ++ b_s cB cC cI cJ cZ oA rA res.2 ++ b_c cB cC cI cJ cZ oA rA res.2 ++ b_t cB cC cI cJ cZ oA rA res.2 ++ b_d cB cC cI cJ cZ oA rA res.2))) A) ([.ref (oA 11), .ref (rA 13 0), .int p1] : List Value).toArray s 0 0 A) (F0 m 148 ls []) := by
        intro  σ_31 hF0 H locs hP hS ls hl
        subst ej_32
        have hF_34 := hF0
        clear hF0
        refine lv_iload hx hb dX8_hear_148 (lv_at hl 2 rfl) ?_
        refine lv_iload_n hx hb dX8_hear_150 rfl (lv_at hl 1 rfl) ?_
        obtain ⟨j_36, ej_36, hF_37⟩ := bnd_e hF_34
        clear hF_34
        have Jj_36 : ∀  (σ_35 : HS), j_36  σ_35 = some res → ∀ (H : Heap) (locs : List Loc), va_P (dC, dI) vwCl (b_b cB cC cI cJ cZ oA rA σ_35 ++ b_e cB cC cI cJ cZ oA rA σ_35 ++ b_k cB cC cI cJ cZ oA rA σ_35 ++ b_p cB cC cI cJ cZ oA rA σ_35 ++ b_o cB cC cI cJ cZ oA rA σ_35 ++ b_s cB cC cI cJ cZ oA rA σ_35 ++ b_c cB cC cI cJ cZ oA rA σ_35 ++ b_t cB cC cI cJ cZ oA rA σ_35 ++ b_d cB cC cI cJ cZ oA rA σ_35) H → va_S A s.heap H locs → ∀ ls : Array Slot, lv_has ls 5 [(0, .ref (oA 11)), (4, .int s_17.2.1)] → W p l e (headSpec (g_ws yX8_hear cX8_hear 5 none) { frames := 4, cells := 0, slots := 0, locals := 105 }).room s m ([.ref (oA 11), .ref (rA 13 0), .int p1] : List Value).toArray below meth c H locs 0 0 (MQ below (va_Qv (fun (_ : Unit) => True) (g_Bo (dC, dI) A (fun (_ : Unit) => (b_b cB cC cI cJ cZ oA rA res.2 ++ b_e cB cC cI cJ cZ oA rA res.2 ++ b_k cB cC cI cJ cZ oA rA res.2 ++ b_p cB cC cI cJ cZ oA rA res.2 ++ b_o cB cC cI cJ cZ oA rA res.2 ++ b_s cB cC cI cJ cZ oA rA res.2 ++ b_c cB cC cI cJ cZ oA rA res.2 ++ b_t cB cC cI cJ cZ oA rA res.2 ++ b_d cB cC cI cJ cZ oA rA res.2))) A) ([.ref (oA 11), .ref (rA 13 0), .int p1] : List Value).toArray s 0 0 A) (F0 m 201 ls []) := by
          intro  σ_35 hF0 H locs hP hS ls hl
          subst ej_36
          have hF_38 := hF0
          clear hF0
          refine lv_iload hx hb dX8_hear_201 (lv_at hl 1 rfl) ?_
          refine lv_iconst (v := 1) hx hb dX8_hear_203 (by decide +kernel) ?_
          refine lv_iadd hx hb dX8_hear_204 ?_
          obtain ⟨x_39, ex_39, hF_40⟩ := bnd_e hF_38
          clear hF_38
          refine m_top ex_39 ?_
          refine lv_istore_n (lv' := [(3, .int x_39), (0, .ref (oA 11)), (4, .int s_17.2.1)]) hx hb dX8_hear_205 rfl hl (by decide) rfl (fun ls hl => ?_)
          exact Jj_26 x_39 σ_35 hF_40 _ _ hP hS ls (lv_sub hl [1, 0, 2] rfl)
        refine lv_icmp_le (tgt := 201) hx hb dX8_hear_151 (by decide) (fun c_41 => ?_) (fun c_41 => ?_)
        · have hF_42 := ipos c_41 hF_37
          clear hF_37
          exact Jj_36  σ_31 hF_42 _ _ hP hS ls (lv_sub hl [0, 2] rfl)
        · have hF_43 := ineg c_41 hF_37
          clear hF_37
          refine lv_aload_n hx hb dX8_hear_154 rfl (lv_at hl 0 rfl) ?_
          refine va_get (D := (dC, dI)) (ci := 8) (v := .int ((σ_31 11).1 7)) (C := RX8) (T := TX8) (N := 16) hx hb hts ii_X8 hown hK hP 1 rfl rfl 7 (by decide) (hts (.fieldLink RX8 50 "StoryHouse$Teller" "termCount" "I") wq_294) (fun _ h9 => h9) rfl dX8_hear_155 ?_
          refine lv_bipush (v := 12) hx hb dX8_hear_158 (by decide +kernel) ?_
          refine lv_icmp_ge (tgt := 201) hx hb dX8_hear_160 (by decide) (fun c_44 => ?_) (fun c_44 => ?_)
          · have hF_45 := ipos c_44 hF_43
            clear hF_43
            exact Jj_36  σ_31 hF_45 _ _ hP hS ls (lv_sub hl [0, 2] rfl)
          · have hF_46 := ineg c_44 hF_43
            clear hF_43
            refine lv_aload_n hx hb dX8_hear_163 rfl (lv_at hl 0 rfl) ?_
            refine va_get (D := (dC, dI)) (ci := 8) (v := .ref (rA 11 6)) (C := RX8) (T := TX8) (N := 16) hx hb hts ii_X8 hown hK hP 1 rfl rfl 6 (by decide) (hts (.fieldLink RX8 15 "StoryHouse$Teller" "terms" "[I") wq_293) (fun _ h9 => h9) rfl dX8_hear_164 ?_
            refine lv_aload_n hx hb dX8_hear_167 rfl (lv_at hl 0 rfl) ?_
            refine va_get (D := (dC, dI)) (ci := 8) (v := .int ((σ_31 11).1 7)) (C := RX8) (T := TX8) (N := 16) hx hb hts ii_X8 hown hK hP 1 rfl rfl 7 (by decide) (hts (.fieldLink RX8 50 "StoryHouse$Teller" "termCount" "I") wq_294) (fun _ h9 => h9) rfl dX8_hear_168 ?_
            refine lv_aload_n hx hb dX8_hear_171 rfl (lv_at hl 0 rfl) ?_
            refine va_get (D := (dC, dI)) (ci := 8) (v := .ref (oA 4)) (C := RX8) (T := TX8) (N := 16) hx hb hts ii_X8 hown hK hP 1 rfl rfl 3 (by decide) (hts (.fieldLink RX8 85 "StoryHouse$Teller" "story" "LStoryHouse$Story;") wq_290) (fun _ h9 => h9) rfl dX8_hear_172 ?_
            refine va_get (D := (dC, dI)) (ci := 7) (v := .ref (oA 7)) (C := RX7) (T := TX7) (N := 19) hx hb hts ii_X7 hown hK hP 20 rfl rfl 18 (by decide) (hts (.fieldLink RX8 89 "StoryHouse$Story" "dictionary" "LStoryHouse$Dictionary;") wq_200) (fun _ h9 => h9) rfl dX8_hear_175 ?_
            refine lv_aload_n hx hb dX8_hear_178 rfl (lv_at hl 0 rfl) ?_
            refine lv_iload_n hx hb dX8_hear_179 rfl (lv_at hl 1 rfl) ?_
            refine lv_iload hx hb dX8_hear_180 (lv_at hl 2 rfl) ?_
            obtain ⟨u_47, hu_47, hF_48⟩ := Option.bind_eq_some_iff.mp hF_46
            clear hF_46
            have hPc := bx_P (bs := [b_b cB cC cI cJ cZ oA rA σ_31, b_e cB cC cI cJ cZ oA rA σ_31, b_k cB cC cI cJ cZ oA rA σ_31, b_p cB cC cI cJ cZ oA rA σ_31, b_o cB cC cI cJ cZ oA rA σ_31, b_s cB cC cI cJ cZ oA rA σ_31, b_c cB cC cI cJ cZ oA rA σ_31, b_t cB cC cI cJ cZ oA rA σ_31, b_d cB cC cI cJ cZ oA rA σ_31]) (bs' := [b_e cB cC cI cJ cZ oA rA σ_31, b_k cB cC cI cJ cZ oA rA σ_31, b_p cB cC cI cJ cZ oA rA σ_31, b_o cB cC cI cJ cZ oA rA σ_31, b_s cB cC cI cJ cZ oA rA σ_31, b_c cB cC cI cJ cZ oA rA σ_31, b_t cB cC cI cJ cZ oA rA σ_31, b_d cB cC cI cJ cZ oA rA σ_31]) (ws' := (b_e cB cC cI cJ cZ oA rA σ_31 ++ b_k cB cC cI cJ cZ oA rA σ_31 ++ b_p cB cC cI cJ cZ oA rA σ_31 ++ b_o cB cC cI cJ cZ oA rA σ_31 ++ b_s cB cC cI cJ cZ oA rA σ_31 ++ b_c cB cC cI cJ cZ oA rA σ_31 ++ b_t cB cC cI cJ cZ oA rA σ_31 ++ b_d cB cC cI cJ cZ oA rA σ_31)) hP fl_9 fl_8 [1, 2, 3, 4, 5, 6, 7, 8] rfl
            have hDc := bx_D (bs := [b_b cB cC cI cJ cZ oA rA σ_31, b_e cB cC cI cJ cZ oA rA σ_31, b_k cB cC cI cJ cZ oA rA σ_31, b_p cB cC cI cJ cZ oA rA σ_31, b_o cB cC cI cJ cZ oA rA σ_31, b_s cB cC cI cJ cZ oA rA σ_31, b_c cB cC cI cJ cZ oA rA σ_31, b_t cB cC cI cJ cZ oA rA σ_31, b_d cB cC cI cJ cZ oA rA σ_31]) (bs' := [b_e cB cC cI cJ cZ oA rA σ_31, b_k cB cC cI cJ cZ oA rA σ_31, b_p cB cC cI cJ cZ oA rA σ_31, b_o cB cC cI cJ cZ oA rA σ_31, b_s cB cC cI cJ cZ oA rA σ_31, b_c cB cC cI cJ cZ oA rA σ_31, b_t cB cC cI cJ cZ oA rA σ_31, b_d cB cC cI cJ cZ oA rA σ_31]) (ws' := (b_e cB cC cI cJ cZ oA rA σ_31 ++ b_k cB cC cI cJ cZ oA rA σ_31 ++ b_p cB cC cI cJ cZ oA rA σ_31 ++ b_o cB cC cI cJ cZ oA rA σ_31 ++ b_s cB cC cI cJ cZ oA rA σ_31 ++ b_c cB cC cI cJ cZ oA rA σ_31 ++ b_t cB cC cI cJ cZ oA rA σ_31 ++ b_d cB cC cI cJ cZ oA rA σ_31)) (hDD σ_31) fl_9 fl_8 [1, 2, 3, 4, 5, 6, 7, 8] (by decide +kernel) rfl
            have hFc := bx_F (bs := [b_b cB cC cI cJ cZ oA rA σ_31, b_e cB cC cI cJ cZ oA rA σ_31, b_k cB cC cI cJ cZ oA rA σ_31, b_p cB cC cI cJ cZ oA rA σ_31, b_o cB cC cI cJ cZ oA rA σ_31, b_s cB cC cI cJ cZ oA rA σ_31, b_c cB cC cI cJ cZ oA rA σ_31, b_t cB cC cI cJ cZ oA rA σ_31, b_d cB cC cI cJ cZ oA rA σ_31]) (bs' := [b_e cB cC cI cJ cZ oA rA σ_31, b_k cB cC cI cJ cZ oA rA σ_31, b_p cB cC cI cJ cZ oA rA σ_31, b_o cB cC cI cJ cZ oA rA σ_31, b_s cB cC cI cJ cZ oA rA σ_31, b_c cB cC cI cJ cZ oA rA σ_31, b_t cB cC cI cJ cZ oA rA σ_31, b_d cB cC cI cJ cZ oA rA σ_31]) (wc := (b_e cB cC cI cJ cZ oA rA σ_31 ++ b_k cB cC cI cJ cZ oA rA σ_31 ++ b_p cB cC cI cJ cZ oA rA σ_31 ++ b_o cB cC cI cJ cZ oA rA σ_31 ++ b_s cB cC cI cJ cZ oA rA σ_31 ++ b_c cB cC cI cJ cZ oA rA σ_31 ++ b_t cB cC cI cJ cZ oA rA σ_31 ++ b_d cB cC cI cJ cZ oA rA σ_31)) (hDD σ_31) hS hA fl_9 fl_8 [1, 2, 3, 4, 5, 6, 7, 8] rfl
            refine g_ofl (wc := (b_e cB cC cI cJ cZ oA rA σ_31 ++ b_k cB cC cI cJ cZ oA rA σ_31 ++ b_p cB cC cI cJ cZ oA rA σ_31 ++ b_o cB cC cI cJ cZ oA rA σ_31 ++ b_s cB cC cI cJ cZ oA rA σ_31 ++ b_c cB cC cI cJ cZ oA rA σ_31 ++ b_t cB cC cI cJ cZ oA rA σ_31 ++ b_d cB cC cI cJ cZ oA rA σ_31)) (wr := (b_b cB cC cI cJ cZ oA rA σ_31)) hP (hDD σ_31) hS hFc (bx_ix [b_b cB cC cI cJ cZ oA rA σ_31, b_e cB cC cI cJ cZ oA rA σ_31, b_k cB cC cI cJ cZ oA rA σ_31, b_p cB cC cI cJ cZ oA rA σ_31, b_o cB cC cI cJ cZ oA rA σ_31, b_s cB cC cI cJ cZ oA rA σ_31, b_c cB cC cI cJ cZ oA rA σ_31, b_t cB cC cI cJ cZ oA rA σ_31, b_d cB cC cI cJ cZ oA rA σ_31] [1, 2, 3, 4, 5, 6, 7, 8]) (bx_ix [b_b cB cC cI cJ cZ oA rA σ_31, b_e cB cC cI cJ cZ oA rA σ_31, b_k cB cC cI cJ cZ oA rA σ_31, b_p cB cC cI cJ cZ oA rA σ_31, b_o cB cC cI cJ cZ oA rA σ_31, b_s cB cC cI cJ cZ oA rA σ_31, b_c cB cC cI cJ cZ oA rA σ_31, b_t cB cC cI cJ cZ oA rA σ_31, b_d cB cC cI cJ cZ oA rA σ_31] [0]) (bx_C (bs := [b_b cB cC cI cJ cZ oA rA σ_31, b_e cB cC cI cJ cZ oA rA σ_31, b_k cB cC cI cJ cZ oA rA σ_31, b_p cB cC cI cJ cZ oA rA σ_31, b_o cB cC cI cJ cZ oA rA σ_31, b_s cB cC cI cJ cZ oA rA σ_31, b_c cB cC cI cJ cZ oA rA σ_31, b_t cB cC cI cJ cZ oA rA σ_31, b_d cB cC cI cJ cZ oA rA σ_31]) (bs' := [b_e cB cC cI cJ cZ oA rA σ_31, b_k cB cC cI cJ cZ oA rA σ_31, b_p cB cC cI cJ cZ oA rA σ_31, b_o cB cC cI cJ cZ oA rA σ_31, b_s cB cC cI cJ cZ oA rA σ_31, b_c cB cC cI cJ cZ oA rA σ_31, b_t cB cC cI cJ cZ oA rA σ_31, b_d cB cC cI cJ cZ oA rA σ_31]) (is := [1, 2, 3, 4, 5, 6, 7, 8]) fl_9 fl_8 rfl) (bx_C (bs := [b_b cB cC cI cJ cZ oA rA σ_31, b_e cB cC cI cJ cZ oA rA σ_31, b_k cB cC cI cJ cZ oA rA σ_31, b_p cB cC cI cJ cZ oA rA σ_31, b_o cB cC cI cJ cZ oA rA σ_31, b_s cB cC cI cJ cZ oA rA σ_31, b_c cB cC cI cJ cZ oA rA σ_31, b_t cB cC cI cJ cZ oA rA σ_31, b_d cB cC cI cJ cZ oA rA σ_31]) (bs' := [b_b cB cC cI cJ cZ oA rA σ_31]) (is := [0]) fl_9 fl_1 rfl) (bx_n (by decide +kernel)) (bx_d (by decide +kernel)) (va_runV (As := [.int s_17.1, .int s_17.2.1]) (rest := [.ref (oA 7), .int ((σ_31 11).1 7), .ref (rA 11 6)]) ⟨hx, hb, hml, hown, hts⟩ (k_X8_termBetween l dC dI cB cC cI cJ cZ cP oA rA H.size  s_17.1 s_17.2.1 σ_31 _ hu_47) (cwV 2 hts (g_gV wq_1057 wq_1058 wq_2073 wq_12 wq_1059) rfl rfl rfl (by decide +kernel) ⟨Nat.le_of_ble_eq_true rfl, Nat.le_of_ble_eq_true rfl⟩) (g_preV g_bl0 hK hPc hDc hS hE hFc g_to0 (q0 := 0) (ci := 8) rfl rfl) rfl rfl hl.1 rfl (lv_room (Nat.le_of_ble_eq_true rfl)) dX8_hear_182 ⟨Nat.le_of_ble_eq_true rfl, Nat.le_of_ble_eq_true rfl⟩) (fun r9 u9 H locs hw9 hP' hD' hS => ?_)
            clear hPc hDc hFc
            subst hw9
            obtain ⟨σ_49, eσ_49, hF_50⟩ := bnd_e hF_48
            clear hF_48
            have hP : va_P (dC, dI) vwCl (b_b cB cC cI cJ cZ oA rA σ_49 ++ b_e cB cC cI cJ cZ oA rA σ_49 ++ b_k cB cC cI cJ cZ oA rA σ_49 ++ b_p cB cC cI cJ cZ oA rA σ_49 ++ b_o cB cC cI cJ cZ oA rA σ_49 ++ b_s cB cC cI cJ cZ oA rA σ_49 ++ b_c cB cC cI cJ cZ oA rA σ_49 ++ b_t cB cC cI cJ cZ oA rA σ_49 ++ b_d cB cC cI cJ cZ oA rA σ_49) H := by rw [eσ_49]; exact bx_P (bs := [b_b cB cC cI cJ cZ oA rA σ_31] ++ [b_e cB cC cI cJ cZ oA rA u_47.2, b_k cB cC cI cJ cZ oA rA u_47.2, b_p cB cC cI cJ cZ oA rA u_47.2, b_o cB cC cI cJ cZ oA rA u_47.2, b_s cB cC cI cJ cZ oA rA u_47.2, b_c cB cC cI cJ cZ oA rA u_47.2, b_t cB cC cI cJ cZ oA rA u_47.2, b_d cB cC cI cJ cZ oA rA u_47.2]) (bs' := [b_b cB cC cI cJ cZ oA rA (mrg (fun j => j == 11 || j == 10 || j == 9 || j == 8 || j == 4 || j == 5 || j == 6 || j == 7) σ_31 u_47.2), b_e cB cC cI cJ cZ oA rA (mrg (fun j => j == 11 || j == 10 || j == 9 || j == 8 || j == 4 || j == 5 || j == 6 || j == 7) σ_31 u_47.2), b_k cB cC cI cJ cZ oA rA (mrg (fun j => j == 11 || j == 10 || j == 9 || j == 8 || j == 4 || j == 5 || j == 6 || j == 7) σ_31 u_47.2), b_p cB cC cI cJ cZ oA rA (mrg (fun j => j == 11 || j == 10 || j == 9 || j == 8 || j == 4 || j == 5 || j == 6 || j == 7) σ_31 u_47.2), b_o cB cC cI cJ cZ oA rA (mrg (fun j => j == 11 || j == 10 || j == 9 || j == 8 || j == 4 || j == 5 || j == 6 || j == 7) σ_31 u_47.2), b_s cB cC cI cJ cZ oA rA (mrg (fun j => j == 11 || j == 10 || j == 9 || j == 8 || j == 4 || j == 5 || j == 6 || j == 7) σ_31 u_47.2), b_c cB cC cI cJ cZ oA rA (mrg (fun j => j == 11 || j == 10 || j == 9 || j == 8 || j == 4 || j == 5 || j == 6 || j == 7) σ_31 u_47.2), b_t cB cC cI cJ cZ oA rA (mrg (fun j => j == 11 || j == 10 || j == 9 || j == 8 || j == 4 || j == 5 || j == 6 || j == 7) σ_31 u_47.2), b_d cB cC cI cJ cZ oA rA (mrg (fun j => j == 11 || j == 10 || j == 9 || j == 8 || j == 4 || j == 5 || j == 6 || j == 7) σ_31 u_47.2)]) hP' (fl_a fl_1 fl_8) fl_9 [0, 1, 2, 3, 4, 5, 6, 7, 8] rfl
            clear hP' hD'
            obtain ⟨u_51, hu_51, hF_52⟩ := Option.bind_eq_some_iff.mp hF_50
            clear hF_50
            have hPc := bx_P (bs := [b_b cB cC cI cJ cZ oA rA σ_49, b_e cB cC cI cJ cZ oA rA σ_49, b_k cB cC cI cJ cZ oA rA σ_49, b_p cB cC cI cJ cZ oA rA σ_49, b_o cB cC cI cJ cZ oA rA σ_49, b_s cB cC cI cJ cZ oA rA σ_49, b_c cB cC cI cJ cZ oA rA σ_49, b_t cB cC cI cJ cZ oA rA σ_49, b_d cB cC cI cJ cZ oA rA σ_49]) (bs' := [b_d cB cC cI cJ cZ oA rA σ_49]) (ws' := (b_d cB cC cI cJ cZ oA rA σ_49)) hP fl_9 fl_1 [8] rfl
            have hDc := bx_D (bs := [b_b cB cC cI cJ cZ oA rA σ_49, b_e cB cC cI cJ cZ oA rA σ_49, b_k cB cC cI cJ cZ oA rA σ_49, b_p cB cC cI cJ cZ oA rA σ_49, b_o cB cC cI cJ cZ oA rA σ_49, b_s cB cC cI cJ cZ oA rA σ_49, b_c cB cC cI cJ cZ oA rA σ_49, b_t cB cC cI cJ cZ oA rA σ_49, b_d cB cC cI cJ cZ oA rA σ_49]) (bs' := [b_d cB cC cI cJ cZ oA rA σ_49]) (ws' := (b_d cB cC cI cJ cZ oA rA σ_49)) (hDD σ_49) fl_9 fl_1 [8] (by decide +kernel) rfl
            have hFc := bx_F (bs := [b_b cB cC cI cJ cZ oA rA σ_49, b_e cB cC cI cJ cZ oA rA σ_49, b_k cB cC cI cJ cZ oA rA σ_49, b_p cB cC cI cJ cZ oA rA σ_49, b_o cB cC cI cJ cZ oA rA σ_49, b_s cB cC cI cJ cZ oA rA σ_49, b_c cB cC cI cJ cZ oA rA σ_49, b_t cB cC cI cJ cZ oA rA σ_49, b_d cB cC cI cJ cZ oA rA σ_49]) (bs' := [b_d cB cC cI cJ cZ oA rA σ_49]) (wc := (b_d cB cC cI cJ cZ oA rA σ_49)) (hDD σ_49) hS hA fl_9 fl_1 [8] rfl
            refine g_ofi (wc := (b_d cB cC cI cJ cZ oA rA σ_49)) (wr := (b_b cB cC cI cJ cZ oA rA σ_49 ++ b_e cB cC cI cJ cZ oA rA σ_49 ++ b_k cB cC cI cJ cZ oA rA σ_49 ++ b_p cB cC cI cJ cZ oA rA σ_49 ++ b_o cB cC cI cJ cZ oA rA σ_49 ++ b_s cB cC cI cJ cZ oA rA σ_49 ++ b_c cB cC cI cJ cZ oA rA σ_49 ++ b_t cB cC cI cJ cZ oA rA σ_49)) hP (hDD σ_49) hS hFc (bx_ix [b_b cB cC cI cJ cZ oA rA σ_49, b_e cB cC cI cJ cZ oA rA σ_49, b_k cB cC cI cJ cZ oA rA σ_49, b_p cB cC cI cJ cZ oA rA σ_49, b_o cB cC cI cJ cZ oA rA σ_49, b_s cB cC cI cJ cZ oA rA σ_49, b_c cB cC cI cJ cZ oA rA σ_49, b_t cB cC cI cJ cZ oA rA σ_49, b_d cB cC cI cJ cZ oA rA σ_49] [8]) (bx_ix [b_b cB cC cI cJ cZ oA rA σ_49, b_e cB cC cI cJ cZ oA rA σ_49, b_k cB cC cI cJ cZ oA rA σ_49, b_p cB cC cI cJ cZ oA rA σ_49, b_o cB cC cI cJ cZ oA rA σ_49, b_s cB cC cI cJ cZ oA rA σ_49, b_c cB cC cI cJ cZ oA rA σ_49, b_t cB cC cI cJ cZ oA rA σ_49, b_d cB cC cI cJ cZ oA rA σ_49] [0, 1, 2, 3, 4, 5, 6, 7]) (bx_C (bs := [b_b cB cC cI cJ cZ oA rA σ_49, b_e cB cC cI cJ cZ oA rA σ_49, b_k cB cC cI cJ cZ oA rA σ_49, b_p cB cC cI cJ cZ oA rA σ_49, b_o cB cC cI cJ cZ oA rA σ_49, b_s cB cC cI cJ cZ oA rA σ_49, b_c cB cC cI cJ cZ oA rA σ_49, b_t cB cC cI cJ cZ oA rA σ_49, b_d cB cC cI cJ cZ oA rA σ_49]) (bs' := [b_d cB cC cI cJ cZ oA rA σ_49]) (is := [8]) fl_9 fl_1 rfl) (bx_C (bs := [b_b cB cC cI cJ cZ oA rA σ_49, b_e cB cC cI cJ cZ oA rA σ_49, b_k cB cC cI cJ cZ oA rA σ_49, b_p cB cC cI cJ cZ oA rA σ_49, b_o cB cC cI cJ cZ oA rA σ_49, b_s cB cC cI cJ cZ oA rA σ_49, b_c cB cC cI cJ cZ oA rA σ_49, b_t cB cC cI cJ cZ oA rA σ_49, b_d cB cC cI cJ cZ oA rA σ_49]) (bs' := [b_b cB cC cI cJ cZ oA rA σ_49, b_e cB cC cI cJ cZ oA rA σ_49, b_k cB cC cI cJ cZ oA rA σ_49, b_p cB cC cI cJ cZ oA rA σ_49, b_o cB cC cI cJ cZ oA rA σ_49, b_s cB cC cI cJ cZ oA rA σ_49, b_c cB cC cI cJ cZ oA rA σ_49, b_t cB cC cI cJ cZ oA rA σ_49]) (is := [0, 1, 2, 3, 4, 5, 6, 7]) fl_9 fl_8 rfl) (bx_n (by decide +kernel)) (bx_d (by decide +kernel)) (va_runV (As := [.long u_47.1]) (rest := [.int ((σ_31 11).1 7), .ref (rA 11 6)]) ⟨hx, hb, hml, hown, hts⟩ (k_X1_find l dC dI cB cC cI cJ cZ cP oA rA H.size  u_47.1 σ_49 _ hu_51) (cwV 1 hts (g_gV wq_1061 wq_1062 wq_1063 wq_8 wq_1064) rfl rfl rfl (by decide +kernel) ⟨Nat.le_of_ble_eq_true rfl, Nat.le_of_ble_eq_true rfl⟩) (g_preV g_bl0 hK hPc hDc hS hE hFc g_to0 (q0 := 0) (ci := 1) rfl rfl) rfl rfl hl.1 rfl (lv_room (Nat.le_of_ble_eq_true rfl)) dX8_hear_185 ⟨Nat.le_of_ble_eq_true rfl, Nat.le_of_ble_eq_true rfl⟩) (fun r9 u9 H locs hw9 hP' hD' hS => ?_)
            clear hPc hDc hFc
            subst hw9
            obtain ⟨σ_53, eσ_53, hF_54⟩ := bnd_e hF_52
            clear hF_52
            have hP : va_P (dC, dI) vwCl (b_b cB cC cI cJ cZ oA rA σ_53 ++ b_e cB cC cI cJ cZ oA rA σ_53 ++ b_k cB cC cI cJ cZ oA rA σ_53 ++ b_p cB cC cI cJ cZ oA rA σ_53 ++ b_o cB cC cI cJ cZ oA rA σ_53 ++ b_s cB cC cI cJ cZ oA rA σ_53 ++ b_c cB cC cI cJ cZ oA rA σ_53 ++ b_t cB cC cI cJ cZ oA rA σ_53 ++ b_d cB cC cI cJ cZ oA rA σ_53) H := by rw [eσ_53]; exact bx_P (bs := [b_b cB cC cI cJ cZ oA rA σ_49, b_e cB cC cI cJ cZ oA rA σ_49, b_k cB cC cI cJ cZ oA rA σ_49, b_p cB cC cI cJ cZ oA rA σ_49, b_o cB cC cI cJ cZ oA rA σ_49, b_s cB cC cI cJ cZ oA rA σ_49, b_c cB cC cI cJ cZ oA rA σ_49, b_t cB cC cI cJ cZ oA rA σ_49] ++ [b_d cB cC cI cJ cZ oA rA u_51.2]) (bs' := [b_b cB cC cI cJ cZ oA rA (mrg (fun j => j == 7) σ_49 u_51.2), b_e cB cC cI cJ cZ oA rA (mrg (fun j => j == 7) σ_49 u_51.2), b_k cB cC cI cJ cZ oA rA (mrg (fun j => j == 7) σ_49 u_51.2), b_p cB cC cI cJ cZ oA rA (mrg (fun j => j == 7) σ_49 u_51.2), b_o cB cC cI cJ cZ oA rA (mrg (fun j => j == 7) σ_49 u_51.2), b_s cB cC cI cJ cZ oA rA (mrg (fun j => j == 7) σ_49 u_51.2), b_c cB cC cI cJ cZ oA rA (mrg (fun j => j == 7) σ_49 u_51.2), b_t cB cC cI cJ cZ oA rA (mrg (fun j => j == 7) σ_49 u_51.2), b_d cB cC cI cJ cZ oA rA (mrg (fun j => j == 7) σ_49 u_51.2)]) hP' (fl_a fl_8 fl_1) fl_9 [0, 1, 2, 3, 4, 5, 6, 7, 8] rfl
            clear hP' hD'
            have hq9 : ((b_b cB cC cI cJ cZ oA rA σ_53 ++ b_e cB cC cI cJ cZ oA rA σ_53 ++ b_k cB cC cI cJ cZ oA rA σ_53 ++ b_p cB cC cI cJ cZ oA rA σ_53 ++ b_o cB cC cI cJ cZ oA rA σ_53 ++ b_s cB cC cI cJ cZ oA rA σ_53 ++ b_c cB cC cI cJ cZ oA rA σ_53 ++ b_t cB cC cI cJ cZ oA rA σ_53 ++ b_d cB cC cI cJ cZ oA rA σ_53))[3]? = some (rA 11 6, .inl (cI, 12, .inl ((σ_53 11).2.1 6))) := rfl
            have hPc := hP.sub (ws' := [(rA 11 6, .inl (cI, 12, .inl ((σ_53 11).2.1 6)))]) [3] (pk_fm (er_C hq9))
            have hDc := (hDD σ_53).sub (ws' := [(rA 11 6, .inl (cI, 12, .inl ((σ_53 11).2.1 6)))]) [3] (by decide +kernel) (er_C hq9)
            have hFc := va_free (wc := [(rA 11 6, .inl (cI, 12, .inl ((σ_53 11).2.1 6)))]) (hDD σ_53) hS hA [3] (er_C hq9)
            refine g_ofv (wc := [(rA 11 6, .inl (cI, 12, .inl ((σ_53 11).2.1 6)))]) (wr := (((b_b cB cC cI cJ cZ oA rA σ_53 ++ b_e cB cC cI cJ cZ oA rA σ_53 ++ b_k cB cC cI cJ cZ oA rA σ_53 ++ b_p cB cC cI cJ cZ oA rA σ_53 ++ b_o cB cC cI cJ cZ oA rA σ_53 ++ b_s cB cC cI cJ cZ oA rA σ_53 ++ b_c cB cC cI cJ cZ oA rA σ_53 ++ b_t cB cC cI cJ cZ oA rA σ_53 ++ b_d cB cC cI cJ cZ oA rA σ_53)).eraseIdx 3)) hP (hDD σ_53) hS hFc [3] ((List.range ((b_b cB cC cI cJ cZ oA rA σ_53 ++ b_e cB cC cI cJ cZ oA rA σ_53 ++ b_k cB cC cI cJ cZ oA rA σ_53 ++ b_p cB cC cI cJ cZ oA rA σ_53 ++ b_o cB cC cI cJ cZ oA rA σ_53 ++ b_s cB cC cI cJ cZ oA rA σ_53 ++ b_c cB cC cI cJ cZ oA rA σ_53 ++ b_t cB cC cI cJ cZ oA rA σ_53 ++ b_d cB cC cI cJ cZ oA rA σ_53)).length).eraseIdx 3) (er_C hq9) er_R er_n er_d (va_runSN (As := [.ref (rA 11 6), .int ((σ_31 11).1 7), .int u_51.1]) (rest := []) ⟨hx, hb, hml, hown, hts⟩ (c_X11_put l dC dI cB cC cI cJ cZ cP H.size (rA 11 6) ((σ_31 11).1 7) u_51.1 12 ((σ_53 11).2.1 6) (by decide)) ⟨va_cnB 3 hts (g_gA wq_412) rfl rfl rfl (nw_34 hN) (hts (.initialized RX11) wq_1) (by decide +kernel) ⟨Nat.le_of_ble_eq_true rfl, Nat.le_of_ble_eq_true rfl⟩, (hts (.static yX11_put) wq_411), trivial⟩ (g_preS g_bl0 hK hPc hDc hS hE hFc g_to0) rfl rfl hl.1 rfl (lv_room (Nat.le_of_ble_eq_true rfl)) dX8_hear_188 ⟨Nat.le_of_ble_eq_true rfl, Nat.le_of_ble_eq_true rfl⟩) (fun g9 H locs hw9 hP' hD' hS => ?_)
            clear hPc hDc hFc hD'
            obtain ⟨σ_55, eσ_55, hF_56⟩ := bnd_e hF_54
            clear hF_54
            subst hw9
            have hP : va_P (dC, dI) vwCl (b_b cB cC cI cJ cZ oA rA σ_55 ++ b_e cB cC cI cJ cZ oA rA σ_55 ++ b_k cB cC cI cJ cZ oA rA σ_55 ++ b_p cB cC cI cJ cZ oA rA σ_55 ++ b_o cB cC cI cJ cZ oA rA σ_55 ++ b_s cB cC cI cJ cZ oA rA σ_55 ++ b_c cB cC cI cJ cZ oA rA σ_55 ++ b_t cB cC cI cJ cZ oA rA σ_55 ++ b_d cB cC cI cJ cZ oA rA σ_55) H := by rw [eσ_55]; exact cs_bekposctd_e_6 ▸ er_P hP' (er_lt hq9)
            clear hP' hq9
            refine lv_aload_n hx hb dX8_hear_191 rfl (lv_at hl 0 rfl) ?_
            refine lv_dup hx hb dX8_hear_192 rfl ?_
            refine va_get (D := (dC, dI)) (ci := 8) (v := .int ((σ_55 11).1 7)) (C := RX8) (T := TX8) (N := 16) hx hb hts ii_X8 hown hK hP 1 rfl rfl 7 (by decide) (hts (.fieldLink RX8 50 "StoryHouse$Teller" "termCount" "I") wq_294) (fun _ h9 => h9) rfl dX8_hear_193 ?_
            refine lv_iconst (v := 1) hx hb dX8_hear_196 (by decide +kernel) ?_
            refine lv_iadd hx hb dX8_hear_197 ?_
            obtain ⟨σ_57, eσ_57, hF_58⟩ := bnd_e hF_56
            clear hF_56
            refine va_put (D := (dC, dI)) (ci := 8) (v := .int (((σ_55 11).1 7) + 1)) (ty := .int) (C := RX8) (T := TX8) (N := 16) hx hb hts ii_X8 tyX8 tyX8_ok nmX8 hown hK hP (hDD _) hS 1 rfl rfl 7 (by decide) (hts (.fieldLink RX8 50 "StoryHouse$Teller" "termCount" "I") wq_294) (fun _ h9 => h9) rfl (by decide +kernel) rfl rfl (Nat.le_of_ble_eq_true rfl) dX8_hear_198 (fun H locs hP' _ hS => ?_)
            have hP : va_P (dC, dI) vwCl (b_b cB cC cI cJ cZ oA rA σ_57 ++ b_e cB cC cI cJ cZ oA rA σ_57 ++ b_k cB cC cI cJ cZ oA rA σ_57 ++ b_p cB cC cI cJ cZ oA rA σ_57 ++ b_o cB cC cI cJ cZ oA rA σ_57 ++ b_s cB cC cI cJ cZ oA rA σ_57 ++ b_c cB cC cI cJ cZ oA rA σ_57 ++ b_t cB cC cI cJ cZ oA rA σ_57 ++ b_d cB cC cI cJ cZ oA rA σ_57) H := by rw [eσ_57]; exact cs_bekposctd_e_7 ▸ hP'
            clear hP'
            exact Jj_36  σ_57 hF_58 _ _ hP hS ls (lv_sub hl [0, 2] rfl)
      refine lv_icmp_eq (tgt := 148) hx hb dX8_hear_122 (by decide) (fun c_59 => ?_) (fun c_59 => ?_)
      · have hF_60 := ipos c_59 hF_33
        clear hF_33
        exact Jj_32  s_17.2.2 hF_60 _ _ hP hS ls (lv_sub hl [0, 1, 2] rfl)
      · have hF_61 := ineg c_59 hF_33
        clear hF_33
        refine lv_iload hx hb dX8_hear_125 (lv_at hl 2 rfl) ?_
        refine lv_aload_n hx hb dX8_hear_127 rfl (lv_at hl 0 rfl) ?_
        refine va_get (D := (dC, dI)) (ci := 8) (v := .ref (rA 11 4)) (C := RX8) (T := TX8) (N := 16) hx hb hts ii_X8 hown hK hP 1 rfl rfl 4 (by decide) (hts (.fieldLink RX8 9 "StoryHouse$Teller" "line" "[B") wq_291) (fun _ h9 => h9) rfl dX8_hear_128 ?_
        refine va_alen (v := 120) hx hb hK hP 2 0 rfl rfl (by first | rfl | decide +kernel) dX8_hear_131 ?_
        refine lv_icmp_ge (tgt := 206) hx hb dX8_hear_132 (by decide) (fun c_62 => ?_) (fun c_62 => ?_)
        · have hF_63 := ipos c_62 hF_61
          clear hF_61
          exact Jj_26 s_17.1 s_17.2.2 hF_63 _ _ hP hS ls (lv_sub hl [0, 1, 2] rfl)
        · have hF_64 := ineg c_62 hF_61
          clear hF_61
          refine lv_aload_n hx hb dX8_hear_135 rfl (lv_at hl 0 rfl) ?_
          refine va_get (D := (dC, dI)) (ci := 8) (v := .ref (rA 11 4)) (C := RX8) (T := TX8) (N := 16) hx hb hts ii_X8 hown hK hP 1 rfl rfl 4 (by decide) (hts (.fieldLink RX8 9 "StoryHouse$Teller" "line" "[B") wq_291) (fun _ h9 => h9) rfl dX8_hear_136 ?_
          refine lv_iload hx hb dX8_hear_139 (lv_at hl 2 rfl) ?_
          obtain ⟨g_65, hF_66⟩ := nif_e hF_64
          clear hF_64
          refine va_bald (f := (nrB ((s_17.2.2 11).2.1 4))) hx hb hK hP 2 0 rfl rfl g_65 dX8_hear_141 ?_
          obtain ⟨u_67, hu_67, hF_68⟩ := Option.bind_eq_some_iff.mp hF_66
          clear hF_66
          have hPc : va_P (dC, dI) vwCl [] H := fun k q z => by simp at z
          have hDc : va_D A [] := ⟨fun i j p q z => by simp at z, fun k q z => by simp at z⟩
          have hFc := c_nil hA hS
          refine c_cs (v := u_67.1) hA hP hS (va_runSN (As := [.int ((nrB ((s_17.2.2 11).2.1 4)) s_17.2.1.toNatClampNeg)]) (rest := []) ⟨hx, hb, hml, hown, hts⟩ (k_X11_isLetter l dC dI cB cC cI cJ cZ cP oA rA H.size  ((nrB ((s_17.2.2 11).2.1 4)) s_17.2.1.toNatClampNeg) s_17.2.2 _ hu_67) ⟨va_cnB 1 hts (g_gA wq_400) rfl rfl rfl (nw_32 hN) (hts (.initialized RX11) wq_1) (by decide +kernel) ⟨Nat.le_of_ble_eq_true rfl, Nat.le_of_ble_eq_true rfl⟩, (hts (.static yX11_isLetter) wq_399), trivial⟩ (g_preS g_bl0 hK hPc hDc hS hE hFc g_to0) rfl rfl hl.1 rfl (lv_room (Nat.le_of_ble_eq_true rfl)) dX8_hear_142 ⟨Nat.le_of_ble_eq_true rfl, Nat.le_of_ble_eq_true rfl⟩) (fun H locs hP hS => ?_)
          clear hPc hDc hFc
          refine lv_if_ne (tgt := 206) hx hb dX8_hear_145 (by decide) (fun c_69 => ?_) (fun c_69 => ?_)
          · have hF_71 := ineg c_69 hF_68
            clear hF_68
            exact Jj_26 s_17.1 s_17.2.2 hF_71 _ _ hP hS ls (lv_sub hl [0, 1, 2] rfl)
          · have hF_70 := ipos c_69 hF_68
            clear hF_68
            exact Jj_32  s_17.2.2 hF_70 _ _ hP hS ls (lv_sub hl [0, 1, 2] rfl)
  refine lv_icmp_ge (tgt := 97) hx hb dX8_hear_25 (by decide) (fun c_72 => ?_) (fun c_72 => ?_)
  · have hF_73 := ipos c_72 hF_13
    clear hF_13
    exact Jj_12  s_7.2 hF_73 _ _ hP hS ls (lv_sub hl [0] rfl)
  · have hF_74 := ineg c_72 hF_13
    clear hF_13
    refine lv_iload_n hx hb dX8_hear_28 rfl (lv_at hl 2 rfl) ?_
    refine lv_aload_n hx hb dX8_hear_29 rfl (lv_at hl 0 rfl) ?_
    refine va_get (D := (dC, dI)) (ci := 8) (v := .ref (rA 11 4)) (C := RX8) (T := TX8) (N := 16) hx hb hts ii_X8 hown hK hP 1 rfl rfl 4 (by decide) (hts (.fieldLink RX8 9 "StoryHouse$Teller" "line" "[B") wq_291) (fun _ h9 => h9) rfl dX8_hear_30 ?_
    refine va_alen (v := 120) hx hb hK hP 2 0 rfl rfl (by first | rfl | decide +kernel) dX8_hear_33 ?_
    refine lv_icmp_ge (tgt := 97) hx hb dX8_hear_34 (by decide) (fun c_75 => ?_) (fun c_75 => ?_)
    · have hF_76 := ipos c_75 hF_74
      clear hF_74
      exact Jj_12  s_7.2 hF_76 _ _ hP hS ls (lv_sub hl [0] rfl)
    · have hF_77 := ineg c_75 hF_74
      clear hF_74
      refine lv_iload_n hx hb dX8_hear_37 rfl (lv_at hl 2 rfl) ?_
      refine lv_aload_n hx hb dX8_hear_38 rfl (lv_at hl 1 rfl) ?_
      refine va_alen (v := 16000) hx hb hK hP 0 0 rfl rfl (by first | rfl | decide +kernel) dX8_hear_39 ?_
      refine lv_icmp_ge (tgt := 97) hx hb dX8_hear_40 (by decide) (fun c_78 => ?_) (fun c_78 => ?_)
      · have hF_79 := ipos c_78 hF_77
        clear hF_77
        exact Jj_12  s_7.2 hF_79 _ _ hP hS ls (lv_sub hl [0] rfl)
      · have hF_80 := ineg c_78 hF_77
        clear hF_77
        refine lv_aload_n hx hb dX8_hear_43 rfl (lv_at hl 1 rfl) ?_
        refine lv_iload_n hx hb dX8_hear_44 rfl (lv_at hl 2 rfl) ?_
        obtain ⟨g_81, hF_82⟩ := nif_e hF_80
        clear hF_80
        refine va_bald (f := (s_7.2 13).2.1 0) hx hb hK hP 0 0 rfl rfl g_81 dX8_hear_45 ?_
        obtain ⟨x_83, ex_83, hF_84⟩ := bnd_e hF_82
        clear hF_82
        refine m_top ex_83 ?_
        refine lv_istore (lv' := [(4, .int x_83), (0, .ref (oA 11)), (1, .ref (rA 13 0)), (3, .int s_7.1)]) hx hb dX8_hear_46 hl (by decide) rfl (fun ls hl => ?_)
        refine lv_aload_n hx hb dX8_hear_48 rfl (lv_at hl 1 rfl) ?_
        refine va_get (D := (dC, dI)) (ci := 8) (v := .ref (rA 11 4)) (C := RX8) (T := TX8) (N := 16) hx hb hts ii_X8 hown hK hP 1 rfl rfl 4 (by decide) (hts (.fieldLink RX8 9 "StoryHouse$Teller" "line" "[B") wq_291) (fun _ h9 => h9) rfl dX8_hear_49 ?_
        refine lv_iload_n hx hb dX8_hear_52 rfl (lv_at hl 3 rfl) ?_
        refine lv_iload hx hb dX8_hear_53 (lv_at hl 0 rfl) ?_
        refine lv_bipush (v := 65) hx hb dX8_hear_55 (by decide +kernel) ?_
        obtain ⟨j_87, ej_87, hF_88⟩ := bnd_e hF_84
        clear hF_84
        have Jj_87 : ∀ (t_85 : Int32) (σ_86 : HS), j_87 t_85 σ_86 = some res → ∀ (H : Heap) (locs : List Loc), va_P (dC, dI) vwCl (b_b cB cC cI cJ cZ oA rA σ_86 ++ b_e cB cC cI cJ cZ oA rA σ_86 ++ b_k cB cC cI cJ cZ oA rA σ_86 ++ b_p cB cC cI cJ cZ oA rA σ_86 ++ b_o cB cC cI cJ cZ oA rA σ_86 ++ b_s cB cC cI cJ cZ oA rA σ_86 ++ b_c cB cC cI cJ cZ oA rA σ_86 ++ b_t cB cC cI cJ cZ oA rA σ_86 ++ b_d cB cC cI cJ cZ oA rA σ_86) H → va_S A s.heap H locs → ∀ ls : Array Slot, lv_has ls 5 [(0, .ref (oA 11)), (1, .ref (rA 13 0)), (3, .int s_7.1)] → W p l e (headSpec (g_ws yX8_hear cX8_hear 5 none) { frames := 4, cells := 0, slots := 0, locals := 105 }).room s m ([.ref (oA 11), .ref (rA 13 0), .int p1] : List Value).toArray below meth c H locs 0 0 (MQ below (va_Qv (fun (_ : Unit) => True) (g_Bo (dC, dI) A (fun (_ : Unit) => (b_b cB cC cI cJ cZ oA rA res.2 ++ b_e cB cC cI cJ cZ oA rA res.2 ++ b_k cB cC cI cJ cZ oA rA res.2 ++ b_p cB cC cI cJ cZ oA rA res.2 ++ b_o cB cC cI cJ cZ oA rA res.2 ++ b_s cB cC cI cJ cZ oA rA res.2 ++ b_c cB cC cI cJ cZ oA rA res.2 ++ b_t cB cC cI cJ cZ oA rA res.2 ++ b_d cB cC cI cJ cZ oA rA res.2))) A) ([.ref (oA 11), .ref (rA 13 0), .int p1] : List Value).toArray s 0 0 A) (F0 m 89 ls [.int t_85, .int s_7.1, .ref (rA 11 4)]) := by
          intro t_85 σ_86 hF0 H locs hP hS ls hl
          subst ej_87
          have hF_89 := hF0
          clear hF0
          refine lv_i2b hx hb dX8_hear_89 rfl ?_
          obtain ⟨x_90, ex_90, hF_91⟩ := bnd_e hF_89
          clear hF_89
          refine m_top ex_90 ?_
          obtain ⟨g_92, hF_93⟩ := nif_e hF_91
          clear hF_91
          obtain ⟨σ_94, eσ_94, hF_95⟩ := bnd_e hF_93
          clear hF_93
          refine va_bast (f := (nrB ((σ_86 11).2.1 4))) hx hb hK hP (hDD _) hS 2 0 rfl rfl g_92 dX8_hear_90 (fun H locs hP' _ hS => ?_)
          rw [nrB_upd] at hP'
          have hP : va_P (dC, dI) vwCl (b_b cB cC cI cJ cZ oA rA σ_94 ++ b_e cB cC cI cJ cZ oA rA σ_94 ++ b_k cB cC cI cJ cZ oA rA σ_94 ++ b_p cB cC cI cJ cZ oA rA σ_94 ++ b_o cB cC cI cJ cZ oA rA σ_94 ++ b_s cB cC cI cJ cZ oA rA σ_94 ++ b_c cB cC cI cJ cZ oA rA σ_94 ++ b_t cB cC cI cJ cZ oA rA σ_94 ++ b_d cB cC cI cJ cZ oA rA σ_94) H := by rw [eσ_94]; exact cs_bekposctd_e_4 ▸ hP'
          clear hP'
          obtain ⟨x_96, ex_96, hF_97⟩ := bnd_e hF_95
          clear hF_95
          refine lv_iinc (v := x_96) (lv' := [(3, .int x_96), (0, .ref (oA 11)), (1, .ref (rA 13 0))]) hx hb dX8_hear_91 hl (k := 2) rfl (by rw [ex_96]; rfl) (by decide) rfl (fun ls hl => ?_)
          refine lv_goto (tgt := 20) hx hb dX8_hear_94 (by decide) ?_
          exact ih_9 (x_96, σ_94) hF_97 _ _ hP hS ls (lv_sub hl [1, 2, 0] rfl)
        obtain ⟨j_99, ej_99, hF_100⟩ := bnd_e hF_88
        clear hF_88
        have Jj_99 : ∀  (σ_98 : HS), j_99  σ_98 = some res → ∀ (H : Heap) (locs : List Loc), va_P (dC, dI) vwCl (b_b cB cC cI cJ cZ oA rA σ_98 ++ b_e cB cC cI cJ cZ oA rA σ_98 ++ b_k cB cC cI cJ cZ oA rA σ_98 ++ b_p cB cC cI cJ cZ oA rA σ_98 ++ b_o cB cC cI cJ cZ oA rA σ_98 ++ b_s cB cC cI cJ cZ oA rA σ_98 ++ b_c cB cC cI cJ cZ oA rA σ_98 ++ b_t cB cC cI cJ cZ oA rA σ_98 ++ b_d cB cC cI cJ cZ oA rA σ_98) H → va_S A s.heap H locs → ∀ ls : Array Slot, lv_has ls 5 [(0, .ref (oA 11)), (1, .ref (rA 13 0)), (3, .int s_7.1), (4, .int x_83)] → W p l e (headSpec (g_ws yX8_hear cX8_hear 5 none) { frames := 4, cells := 0, slots := 0, locals := 105 }).room s m ([.ref (oA 11), .ref (rA 13 0), .int p1] : List Value).toArray below meth c H locs 0 0 (MQ below (va_Qv (fun (_ : Unit) => True) (g_Bo (dC, dI) A (fun (_ : Unit) => (b_b cB cC cI cJ cZ oA rA res.2 ++ b_e cB cC cI cJ cZ oA rA res.2 ++ b_k cB cC cI cJ cZ oA rA res.2 ++ b_p cB cC cI cJ cZ oA rA res.2 ++ b_o cB cC cI cJ cZ oA rA res.2 ++ b_s cB cC cI cJ cZ oA rA res.2 ++ b_c cB cC cI cJ cZ oA rA res.2 ++ b_t cB cC cI cJ cZ oA rA res.2 ++ b_d cB cC cI cJ cZ oA rA res.2))) A) ([.ref (oA 11), .ref (rA 13 0), .int p1] : List Value).toArray s 0 0 A) (F0 m 75 ls [.int s_7.1, .ref (rA 11 4)]) := by
          intro  σ_98 hF0 H locs hP hS ls hl
          subst ej_99
          have hF_101 := hF0
          clear hF0
          refine lv_iload hx hb dX8_hear_75 (lv_at hl 3 rfl) ?_
          refine lv_bipush (v := 10) hx hb dX8_hear_77 (by decide +kernel) ?_
          refine lv_icmp_ne (tgt := 87) hx hb dX8_hear_79 (by decide) (fun c_102 => ?_) (fun c_102 => ?_)
          · have hF_104 := ineg c_102 hF_101
            clear hF_101
            refine lv_iload hx hb dX8_hear_87 (lv_at hl 3 rfl) ?_
            exact Jj_87 x_83 σ_98 hF_104 _ _ hP hS ls (lv_sub hl [0, 1, 2] rfl)
          · have hF_103 := ipos c_102 hF_101
            clear hF_101
            refine lv_bipush (v := 32) hx hb dX8_hear_82 (by decide +kernel) ?_
            refine lv_goto (tgt := 89) hx hb dX8_hear_84 (by decide) ?_
            exact Jj_87 32 σ_98 hF_103 _ _ hP hS ls (lv_sub hl [0, 1, 2] rfl)
        refine lv_icmp_lt (tgt := 75) hx hb dX8_hear_57 (by decide) (fun c_105 => ?_) (fun c_105 => ?_)
        · have hF_106 := ipos c_105 hF_100
          clear hF_100
          exact Jj_99  s_7.2 hF_106 _ _ hP hS ls (lv_sub hl [1, 2, 3, 0] rfl)
        · have hF_107 := ineg c_105 hF_100
          clear hF_100
          refine lv_iload hx hb dX8_hear_60 (lv_at hl 0 rfl) ?_
          refine lv_bipush (v := 90) hx hb dX8_hear_62 (by decide +kernel) ?_
          refine lv_icmp_gt (tgt := 75) hx hb dX8_hear_64 (by decide) (fun c_108 => ?_) (fun c_108 => ?_)
          · have hF_109 := ipos c_108 hF_107
            clear hF_107
            exact Jj_99  s_7.2 hF_109 _ _ hP hS ls (lv_sub hl [1, 2, 3, 0] rfl)
          · have hF_110 := ineg c_108 hF_107
            clear hF_107
            refine lv_iload hx hb dX8_hear_67 (lv_at hl 0 rfl) ?_
            refine lv_bipush (v := 32) hx hb dX8_hear_69 (by decide +kernel) ?_
            refine lv_iadd hx hb dX8_hear_71 ?_
            refine lv_goto (tgt := 89) hx hb dX8_hear_72 (by decide) ?_
            exact Jj_87 (x_83 + 32) s_7.2 hF_110 _ _ hP hS ls (lv_sub hl [1, 2, 3] rfl)
def F_X8_hear_p (p1 : Int32) (Γ : HS) : HR :=
  bnd ((if 120 < p1 then 120 else p1)) fun (x_1 : Int32) =>
  bnd ((if 120 < x_1 then 120 else x_1)) fun (x_3 : Int32) =>
  bnd (cI' Γ 11 5 x_3) fun σ_5 =>
  loopF (fun (again_8 : (Int32 × HS) → HR) (s_7 : Int32 × HS) => (
    bnd (fun  (σ_11 : HS) => (
      bnd (cI' σ_11 11 7 0) fun σ_15 =>
      loopF (fun (again_18 : (Int32 × Int32 × HS) → HR) (s_17 : Int32 × Int32 × HS) => (
        if ((s_17.2.2 11).1 5) < s_17.2.1 then (
          some (0, s_17.2.2)
        ) else (
          bnd (fun (v3_24 : Int32) (σ_25 : HS) => (
            bnd (s_17.2.1 + 1) fun (x_29 : Int32) =>
            again_18 (v3_24, x_29, σ_25)
          ) : Int32 → HS → HR) fun j_26 =>
          bnd (fun  (σ_31 : HS) => (
            bnd (fun  (σ_35 : HS) => (
              bnd ((s_17.2.1 + 1)) fun (x_39 : Int32) =>
              j_26 x_39 σ_35
            ) : HS → HR) fun j_36 =>
            if s_17.2.1 ≤ s_17.1 then (
              j_36  σ_31
            ) else (
              if 12 ≤ ((σ_31 11).1 7) then (
                j_36  σ_31
              ) else (
                (F_X8_termBetween s_17.1 s_17.2.1 σ_31).bind fun u_47 =>
                (F_X1_find u_47.1 u_47.2).bind fun u_49 =>
                bnd (mrg (fun j => j == 7) u_47.2 u_49.2) fun σ_51 =>
                bnd (cA' σ_51 11 6 (g_put 12 ((σ_51 11).2.1 6) ((σ_31 11).1 7) u_49.1)) fun σ_53 =>
                bnd (cI' σ_53 11 7 (((σ_53 11).1 7) + 1)) fun σ_55 =>
                j_36  σ_55
              )
            )
          ) : HS → HR) fun j_32 =>
          if s_17.2.1 = ((s_17.2.2 11).1 5) then (
            j_32  s_17.2.2
          ) else (
            if 120 ≤ s_17.2.1 then (
              j_26 s_17.1 s_17.2.2
            ) else (
              if s_17.2.1 < 0 ∨ 120 ≤ s_17.2.1.toNatClampNeg then none else
              (F_X11_isLetter ((nrB ((s_17.2.2 11).2.1 4)) s_17.2.1.toNatClampNeg) s_17.2.2).bind fun u_65 =>
              if u_65.1 = 0 then (
                j_32  s_17.2.2
              ) else (
                j_26 s_17.1 s_17.2.2
              )
            )
          )
        )
      )) FU (0, 0, σ_15)
    ) : HS → HR) fun j_12 =>
    if ((s_7.2 11).1 5) ≤ s_7.1 then (
      j_12  s_7.2
    ) else (
      if 120 ≤ s_7.1 then (
        j_12  s_7.2
      ) else (
        if 120 ≤ s_7.1 then (
          j_12  s_7.2
        ) else (
          if s_7.1 < 0 ∨ 120 ≤ s_7.1.toNatClampNeg then none else
          bnd (((nrB ((s_7.2 9).2.1 6)) s_7.1.toNatClampNeg)) fun (x_81 : Int32) =>
          bnd (fun (t_83 : Int32) (σ_84 : HS) => (
            bnd (t_83.toInt8.toInt32) fun (x_88 : Int32) =>
            if s_7.1 < 0 ∨ 120 ≤ s_7.1.toNatClampNeg then none else
            bnd (cA' σ_84 11 4 (upd ((σ_84 11).2.1 4) s_7.1.toNatClampNeg (vp_nar .byte x_88))) fun σ_92 =>
            bnd (s_7.1 + 1) fun (x_94 : Int32) =>
            again_8 (x_94, σ_92)
          ) : Int32 → HS → HR) fun j_85 =>
          bnd (fun  (σ_96 : HS) => (
            if x_81 = 10 then (
              j_85 32 σ_96
            ) else (
              j_85 x_81 σ_96
            )
          ) : HS → HR) fun j_97 =>
          if x_81 < 65 then (
            j_97  s_7.2
          ) else (
            if 90 < x_81 then (
              j_97  s_7.2
            ) else (
              j_85 (x_81 + 32) s_7.2
            )
          )
        )
      )
    )
  )) FU (0, σ_5)
set_option maxHeartbeats 4000000 in
set_option maxRecDepth 100000 in
theorem k_X8_hear_p (l : Launch) (dC : Nat → ClassId) (dI : Nat → Nat → Nat) (cB cC cI cJ cZ cP : ClassId) (oA : Nat → Nat) (rA : Nat → Nat → Nat) (sz : Nat)  (p1 : Int32) (Γ : HS) (res : Int32 × HS) (hF : F_X8_hear_p p1 Γ = some res) : Met l yX8_hear (g_ws yX8_hear cX8_hear 5 none) ({ frames := 4, cells := 0, slots := 0, locals := 105 }) (va_Pc [.ref (oA 11), .ref (rA 9 6), .int p1] (g_B (dC, dI) [(cB, .byte), (cC, .char), (cI, .int), (cJ, .long), (cZ, .boolean), (cP, .object "StoryHouse$Play")] sz (b_e cB cC cI cJ cZ oA rA Γ ++ b_k cB cC cI cJ cZ oA rA Γ ++ b_p cB cC cI cJ cZ oA rA Γ ++ b_o cB cC cI cJ cZ oA rA Γ ++ b_s cB cC cI cJ cZ oA rA Γ ++ b_c cB cC cI cJ cZ oA rA Γ ++ b_t cB cC cI cJ cZ oA rA Γ ++ b_d cB cC cI cJ cZ oA rA Γ) g_0)) (va_Qv (fun (_ : Unit) => True) (g_Bo (dC, dI) (va_A (b_e cB cC cI cJ cZ oA rA Γ ++ b_k cB cC cI cJ cZ oA rA Γ ++ b_p cB cC cI cJ cZ oA rA Γ ++ b_o cB cC cI cJ cZ oA rA Γ ++ b_s cB cC cI cJ cZ oA rA Γ ++ b_c cB cC cI cJ cZ oA rA Γ ++ b_t cB cC cI cJ cZ oA rA Γ ++ b_d cB cC cI cJ cZ oA rA Γ) sz) (fun (_ : Unit) => (b_e cB cC cI cJ cZ oA rA res.2 ++ b_k cB cC cI cJ cZ oA rA res.2 ++ b_p cB cC cI cJ cZ oA rA res.2 ++ b_o cB cC cI cJ cZ oA rA res.2 ++ b_s cB cC cI cJ cZ oA rA res.2 ++ b_c cB cC cI cJ cZ oA rA res.2 ++ b_t cB cC cI cJ cZ oA rA res.2 ++ b_d cB cC cI cJ cZ oA rA res.2))) (va_A (b_e cB cC cI cJ cZ oA rA Γ ++ b_k cB cC cI cJ cZ oA rA Γ ++ b_p cB cC cI cJ cZ oA rA Γ ++ b_o cB cC cI cJ cZ oA rA Γ ++ b_s cB cC cI cJ cZ oA rA Γ ++ b_c cB cC cI cJ cZ oA rA Γ ++ b_t cB cC cI cJ cZ oA rA Γ ++ b_d cB cC cI cJ cZ oA rA Γ) sz)) 0 0 (va_A (b_e cB cC cI cJ cZ oA rA Γ ++ b_k cB cC cI cJ cZ oA rA Γ ++ b_p cB cC cI cJ cZ oA rA Γ ++ b_o cB cC cI cJ cZ oA rA Γ ++ b_s cB cC cI cJ cZ oA rA Γ ++ b_c cB cC cI cJ cZ oA rA Γ ++ b_t cB cC cI cJ cZ oA rA Γ ++ b_d cB cC cI cJ cZ oA rA Γ) sz) := by
  refine Met.ofW (cc := cX8_hear) (maxL := 5) (ret := none) (by decide) rfl ?_
  intro p e s m args below meth c s₁ B hml hv
  obtain ⟨rfl, hsz, hP, hK, hD0, hE, hX⟩ := hv
  have hx := B.exec
  have hb := B.bytes
  have hr := B.returns
  have hts0 := atoms_spec (ws := g_ws yX8_hear cX8_hear 5 none) B.pre
  have hts : ∀ w ∈ lw_good, w.before ([.ref (oA 11), .ref (rA 9 6), .int p1] : List Value).toArray s = true := fun w z => hts0 w (List.mem_cons_of_mem _ z)
  have hown : s.vm.findClass RX8 = some m.cls := findClass_of_methodNamed B.named
  have hlocks := B.notSynchronized
  subst hsz
  have hD1 := hD0.self (sz := s.heap.size)
  generalize hAe : va_A (b_e cB cC cI cJ cZ oA rA Γ ++ b_k cB cC cI cJ cZ oA rA Γ ++ b_p cB cC cI cJ cZ oA rA Γ ++ b_o cB cC cI cJ cZ oA rA Γ ++ b_s cB cC cI cJ cZ oA rA Γ ++ b_c cB cC cI cJ cZ oA rA Γ ++ b_t cB cC cI cJ cZ oA rA Γ ++ b_d cB cC cI cJ cZ oA rA Γ) s.heap.size = A at hD1 hE hX ⊢
  have hA : ∀ q : Nat, s.heap.size ≤ q → A q := fun q z => by rw [← hAe]; exact Or.inr z
  have hDD : ∀ Γ : HS, va_D A (b_e cB cC cI cJ cZ oA rA Γ ++ b_k cB cC cI cJ cZ oA rA Γ ++ b_p cB cC cI cJ cZ oA rA Γ ++ b_o cB cC cI cJ cZ oA rA Γ ++ b_s cB cC cI cJ cZ oA rA Γ ++ b_c cB cC cI cJ cZ oA rA Γ ++ b_t cB cC cI cJ cZ oA rA Γ ++ b_d cB cC cI cJ cZ oA rA Γ) := fun Γ9 => va_D_fst (ws := (b_e cB cC cI cJ cZ oA rA Γ ++ b_k cB cC cI cJ cZ oA rA Γ ++ b_p cB cC cI cJ cZ oA rA Γ ++ b_o cB cC cI cJ cZ oA rA Γ ++ b_s cB cC cI cJ cZ oA rA Γ ++ b_c cB cC cI cJ cZ oA rA Γ ++ b_t cB cC cI cJ cZ oA rA Γ ++ b_d cB cC cI cJ cZ oA rA Γ)) (ws' := (b_e cB cC cI cJ cZ oA rA Γ9 ++ b_k cB cC cI cJ cZ oA rA Γ9 ++ b_p cB cC cI cJ cZ oA rA Γ9 ++ b_o cB cC cI cJ cZ oA rA Γ9 ++ b_s cB cC cI cJ cZ oA rA Γ9 ++ b_c cB cC cI cJ cZ oA rA Γ9 ++ b_t cB cC cI cJ cZ oA rA Γ9 ++ b_d cB cC cI cJ cZ oA rA Γ9)) rfl hD1
  have hN := hE.1
  have hS : va_S A s.heap s.heap [] := va_S.rf
  have hl := lv_entry ([.ref (oA 11), .ref (rA 9 6), .int p1]) (n := 5) (Nat.le_of_ble_eq_true rfl)
  rw [lg_entry_eq]
  generalize (lg_sl ([.ref (oA 11), .ref (rA 9 6), .int p1]) ++ List.replicate (5 - (lg_sl ([.ref (oA 11), .ref (rA 9 6), .int p1])).length) Slot.unset).toArray = ls at hl ⊢
  have hl : lv_has ls 5 [(0, .ref (oA 11)), (1, .ref (rA 9 6)), (2, .int p1)] := hl
  unfold F_X8_hear_p at hF
  refine lv_aload_n hx hb dX8_hear_0 rfl (lv_at hl 0 rfl) ?_
  refine lv_iload_n hx hb dX8_hear_1 rfl (lv_at hl 2 rfl) ?_
  refine lv_aload_n hx hb dX8_hear_2 rfl (lv_at hl 1 rfl) ?_
  refine va_alen (v := 120) hx hb hK hP 16 0 rfl rfl (by first | rfl | decide +kernel) dX8_hear_3 ?_
  refine va_mmin hx hb (hml.trans hl.1.symm) hown (hts (.methodLink RX8 74 yJ9_min_7cf53) wq_1056) (hts (.static yJ9_min_7cf53) wq_331) (hts (.initialized RJ9) wq_19) (hts (.code yJ9_min_7cf53 cJ9_min_7cf53 2 (some .int)) wq_332) (Nat.le_of_ble_eq_true rfl) (Nat.le_of_ble_eq_true rfl) (Nat.le_of_ble_eq_true rfl) (Nat.le_of_ble_eq_true rfl) dX8_hear_4 ?_
  obtain ⟨x_1, ex_1, hF_2⟩ := bnd_e hF
  clear hF
  refine m_top ex_1 ?_
  refine lv_aload_n hx hb dX8_hear_7 rfl (lv_at hl 0 rfl) ?_
  refine va_get (D := (dC, dI)) (ci := 8) (v := .ref (rA 11 4)) (C := RX8) (T := TX8) (N := 16) hx hb hts ii_X8 hown hK hP 0 rfl rfl 4 (by decide) (hts (.fieldLink RX8 9 "StoryHouse$Teller" "line" "[B") wq_291) (fun _ h9 => h9) rfl dX8_hear_8 ?_
  refine va_alen (v := 120) hx hb hK hP 1 0 rfl rfl (by first | rfl | decide +kernel) dX8_hear_11 ?_
  refine va_mmin hx hb (hml.trans hl.1.symm) hown (hts (.methodLink RX8 74 yJ9_min_7cf53) wq_1056) (hts (.static yJ9_min_7cf53) wq_331) (hts (.initialized RJ9) wq_19) (hts (.code yJ9_min_7cf53 cJ9_min_7cf53 2 (some .int)) wq_332) (Nat.le_of_ble_eq_true rfl) (Nat.le_of_ble_eq_true rfl) (Nat.le_of_ble_eq_true rfl) (Nat.le_of_ble_eq_true rfl) dX8_hear_12 ?_
  obtain ⟨x_3, ex_3, hF_4⟩ := bnd_e hF_2
  clear hF_2
  refine m_top ex_3 ?_
  obtain ⟨σ_5, eσ_5, hF_6⟩ := bnd_e hF_4
  clear hF_4
  refine va_put (D := (dC, dI)) (ci := 8) (v := .int x_3) (ty := .int) (C := RX8) (T := TX8) (N := 16) hx hb hts ii_X8 tyX8 tyX8_ok nmX8 hown hK hP (hDD _) hS 0 rfl rfl 5 (by decide) (hts (.fieldLink RX8 80 "StoryHouse$Teller" "lineLength" "I") wq_292) (fun _ h9 => h9) rfl (by decide +kernel) rfl rfl (Nat.le_of_ble_eq_true rfl) dX8_hear_15 (fun H locs hP' _ hS => ?_)
  have hP : va_P (dC, dI) vwCl (b_e cB cC cI cJ cZ oA rA σ_5 ++ b_k cB cC cI cJ cZ oA rA σ_5 ++ b_p cB cC cI cJ cZ oA rA σ_5 ++ b_o cB cC cI cJ cZ oA rA σ_5 ++ b_s cB cC cI cJ cZ oA rA σ_5 ++ b_c cB cC cI cJ cZ oA rA σ_5 ++ b_t cB cC cI cJ cZ oA rA σ_5 ++ b_d cB cC cI cJ cZ oA rA σ_5) H := by rw [eσ_5]; exact cs_ekposctd_e_5 ▸ hP'
  clear hP'
  refine lv_iconst (v := 0) hx hb dX8_hear_18 (by decide +kernel) ?_
  refine lv_istore_n (lv' := [(3, .int 0), (0, .ref (oA 11)), (1, .ref (rA 9 6)), (2, .int p1)]) hx hb dX8_hear_19 rfl hl (by decide) rfl (fun ls hl => ?_)
  refine loopF_ind (P := fun (s_7 : Int32 × HS) => ∀ (H : Heap) (locs : List Loc), va_P (dC, dI) vwCl (b_e cB cC cI cJ cZ oA rA s_7.2 ++ b_k cB cC cI cJ cZ oA rA s_7.2 ++ b_p cB cC cI cJ cZ oA rA s_7.2 ++ b_o cB cC cI cJ cZ oA rA s_7.2 ++ b_s cB cC cI cJ cZ oA rA s_7.2 ++ b_c cB cC cI cJ cZ oA rA s_7.2 ++ b_t cB cC cI cJ cZ oA rA s_7.2 ++ b_d cB cC cI cJ cZ oA rA s_7.2) H → va_S A s.heap H locs → ∀ ls : Array Slot, lv_has ls 5 [(0, .ref (oA 11)), (1, .ref (rA 9 6)), (3, .int s_7.1)] → W p l e (headSpec (g_ws yX8_hear cX8_hear 5 none) { frames := 4, cells := 0, slots := 0, locals := 105 }).room s m ([.ref (oA 11), .ref (rA 9 6), .int p1] : List Value).toArray below meth c H locs 0 0 (MQ below (va_Qv (fun (_ : Unit) => True) (g_Bo (dC, dI) A (fun (_ : Unit) => (b_e cB cC cI cJ cZ oA rA res.2 ++ b_k cB cC cI cJ cZ oA rA res.2 ++ b_p cB cC cI cJ cZ oA rA res.2 ++ b_o cB cC cI cJ cZ oA rA res.2 ++ b_s cB cC cI cJ cZ oA rA res.2 ++ b_c cB cC cI cJ cZ oA rA res.2 ++ b_t cB cC cI cJ cZ oA rA res.2 ++ b_d cB cC cI cJ cZ oA rA res.2))) A) ([.ref (oA 11), .ref (rA 9 6), .int p1] : List Value).toArray s 0 0 A) (F0 m 20 ls [])) ?_ _ _ hF_6 _ _ hP hS ls (lv_sub hl [1, 2, 0] rfl)
  intro again_8 s_7 ih_9 hF_10
  intro H locs hP hS ls hl
  refine lv_iload_n hx hb dX8_hear_20 rfl (lv_at hl 2 rfl) ?_
  refine lv_aload_n hx hb dX8_hear_21 rfl (lv_at hl 0 rfl) ?_
  refine va_get (D := (dC, dI)) (ci := 8) (v := .int ((s_7.2 11).1 5)) (C := RX8) (T := TX8) (N := 16) hx hb hts ii_X8 hown hK hP 0 rfl rfl 5 (by decide) (hts (.fieldLink RX8 80 "StoryHouse$Teller" "lineLength" "I") wq_292) (fun _ h9 => h9) rfl dX8_hear_22 ?_
  obtain ⟨j_12, ej_12, hF_13⟩ := bnd_e hF_10
  clear hF_10
  have Jj_12 : ∀  (σ_11 : HS), j_12  σ_11 = some res → ∀ (H : Heap) (locs : List Loc), va_P (dC, dI) vwCl (b_e cB cC cI cJ cZ oA rA σ_11 ++ b_k cB cC cI cJ cZ oA rA σ_11 ++ b_p cB cC cI cJ cZ oA rA σ_11 ++ b_o cB cC cI cJ cZ oA rA σ_11 ++ b_s cB cC cI cJ cZ oA rA σ_11 ++ b_c cB cC cI cJ cZ oA rA σ_11 ++ b_t cB cC cI cJ cZ oA rA σ_11 ++ b_d cB cC cI cJ cZ oA rA σ_11) H → va_S A s.heap H locs → ∀ ls : Array Slot, lv_has ls 5 [(0, .ref (oA 11))] → W p l e (headSpec (g_ws yX8_hear cX8_hear 5 none) { frames := 4, cells := 0, slots := 0, locals := 105 }).room s m ([.ref (oA 11), .ref (rA 9 6), .int p1] : List Value).toArray below meth c H locs 0 0 (MQ below (va_Qv (fun (_ : Unit) => True) (g_Bo (dC, dI) A (fun (_ : Unit) => (b_e cB cC cI cJ cZ oA rA res.2 ++ b_k cB cC cI cJ cZ oA rA res.2 ++ b_p cB cC cI cJ cZ oA rA res.2 ++ b_o cB cC cI cJ cZ oA rA res.2 ++ b_s cB cC cI cJ cZ oA rA res.2 ++ b_c cB cC cI cJ cZ oA rA res.2 ++ b_t cB cC cI cJ cZ oA rA res.2 ++ b_d cB cC cI cJ cZ oA rA res.2))) A) ([.ref (oA 11), .ref (rA 9 6), .int p1] : List Value).toArray s 0 0 A) (F0 m 97 ls []) := by
    intro  σ_11 hF0 H locs hP hS ls hl
    subst ej_12
    have hF_14 := hF0
    clear hF0
    refine lv_aload_n hx hb dX8_hear_97 rfl (lv_at hl 0 rfl) ?_
    refine lv_iconst (v := 0) hx hb dX8_hear_98 (by decide +kernel) ?_
    obtain ⟨σ_15, eσ_15, hF_16⟩ := bnd_e hF_14
    clear hF_14
    refine va_put (D := (dC, dI)) (ci := 8) (v := .int 0) (ty := .int) (C := RX8) (T := TX8) (N := 16) hx hb hts ii_X8 tyX8 tyX8_ok nmX8 hown hK hP (hDD _) hS 0 rfl rfl 7 (by decide) (hts (.fieldLink RX8 50 "StoryHouse$Teller" "termCount" "I") wq_294) (fun _ h9 => h9) rfl (by decide +kernel) rfl rfl (Nat.le_of_ble_eq_true rfl) dX8_hear_99 (fun H locs hP' _ hS => ?_)
    have hP : va_P (dC, dI) vwCl (b_e cB cC cI cJ cZ oA rA σ_15 ++ b_k cB cC cI cJ cZ oA rA σ_15 ++ b_p cB cC cI cJ cZ oA rA σ_15 ++ b_o cB cC cI cJ cZ oA rA σ_15 ++ b_s cB cC cI cJ cZ oA rA σ_15 ++ b_c cB cC cI cJ cZ oA rA σ_15 ++ b_t cB cC cI cJ cZ oA rA σ_15 ++ b_d cB cC cI cJ cZ oA rA σ_15) H := by rw [eσ_15]; exact cs_ekposctd_e_7 ▸ hP'
    clear hP'
    refine lv_iconst (v := 0) hx hb dX8_hear_102 (by decide +kernel) ?_
    refine lv_istore_n (lv' := [(3, .int 0), (0, .ref (oA 11))]) hx hb dX8_hear_103 rfl hl (by decide) rfl (fun ls hl => ?_)
    refine lv_iconst (v := 0) hx hb dX8_hear_104 (by decide +kernel) ?_
    refine lv_istore (lv' := [(4, .int 0), (3, .int 0), (0, .ref (oA 11))]) hx hb dX8_hear_105 hl (by decide) rfl (fun ls hl => ?_)
    refine loopF_ind (P := fun (s_17 : Int32 × Int32 × HS) => ∀ (H : Heap) (locs : List Loc), va_P (dC, dI) vwCl (b_e cB cC cI cJ cZ oA rA s_17.2.2 ++ b_k cB cC cI cJ cZ oA rA s_17.2.2 ++ b_p cB cC cI cJ cZ oA rA s_17.2.2 ++ b_o cB cC cI cJ cZ oA rA s_17.2.2 ++ b_s cB cC cI cJ cZ oA rA s_17.2.2 ++ b_c cB cC cI cJ cZ oA rA s_17.2.2 ++ b_t cB cC cI cJ cZ oA rA s_17.2.2 ++ b_d cB cC cI cJ cZ oA rA s_17.2.2) H → va_S A s.heap H locs → ∀ ls : Array Slot, lv_has ls 5 [(0, .ref (oA 11)), (3, .int s_17.1), (4, .int s_17.2.1)] → W p l e (headSpec (g_ws yX8_hear cX8_hear 5 none) { frames := 4, cells := 0, slots := 0, locals := 105 }).room s m ([.ref (oA 11), .ref (rA 9 6), .int p1] : List Value).toArray below meth c H locs 0 0 (MQ below (va_Qv (fun (_ : Unit) => True) (g_Bo (dC, dI) A (fun (_ : Unit) => (b_e cB cC cI cJ cZ oA rA res.2 ++ b_k cB cC cI cJ cZ oA rA res.2 ++ b_p cB cC cI cJ cZ oA rA res.2 ++ b_o cB cC cI cJ cZ oA rA res.2 ++ b_s cB cC cI cJ cZ oA rA res.2 ++ b_c cB cC cI cJ cZ oA rA res.2 ++ b_t cB cC cI cJ cZ oA rA res.2 ++ b_d cB cC cI cJ cZ oA rA res.2))) A) ([.ref (oA 11), .ref (rA 9 6), .int p1] : List Value).toArray s 0 0 A) (F0 m 107 ls [])) ?_ _ _ hF_16 _ _ hP hS ls (lv_sub hl [2, 1, 0] rfl)
    intro again_18 s_17 ih_19 hF_20
    intro H locs hP hS ls hl
    refine lv_iload hx hb dX8_hear_107 (lv_at hl 2 rfl) ?_
    refine lv_aload_n hx hb dX8_hear_109 rfl (lv_at hl 0 rfl) ?_
    refine va_get (D := (dC, dI)) (ci := 8) (v := .int ((s_17.2.2 11).1 5)) (C := RX8) (T := TX8) (N := 16) hx hb hts ii_X8 hown hK hP 0 rfl rfl 5 (by decide) (hts (.fieldLink RX8 80 "StoryHouse$Teller" "lineLength" "I") wq_292) (fun _ h9 => h9) rfl dX8_hear_110 ?_
    refine lv_icmp_gt (tgt := 212) hx hb dX8_hear_113 (by decide) (fun c_21 => ?_) (fun c_21 => ?_)
    · have hF_22 := ipos c_21 hF_20
      clear hF_20
      have h9 := Option.some.inj hF_22
      subst h9
      exact W.vret hx hb hr (fun t ht hW => ⟨⟨(), rfl, trivial, m_end ht hP, hDD _⟩, hS.F ht⟩) hS.2.2 dX8_hear_212
    · have hF_23 := ineg c_21 hF_20
      clear hF_20
      refine lv_iload hx hb dX8_hear_116 (lv_at hl 2 rfl) ?_
      refine lv_aload_n hx hb dX8_hear_118 rfl (lv_at hl 0 rfl) ?_
      refine va_get (D := (dC, dI)) (ci := 8) (v := .int ((s_17.2.2 11).1 5)) (C := RX8) (T := TX8) (N := 16) hx hb hts ii_X8 hown hK hP 0 rfl rfl 5 (by decide) (hts (.fieldLink RX8 80 "StoryHouse$Teller" "lineLength" "I") wq_292) (fun _ h9 => h9) rfl dX8_hear_119 ?_
      obtain ⟨j_26, ej_26, hF_27⟩ := bnd_e hF_23
      clear hF_23
      have Jj_26 : ∀ (v3_24 : Int32) (σ_25 : HS), j_26 v3_24 σ_25 = some res → ∀ (H : Heap) (locs : List Loc), va_P (dC, dI) vwCl (b_e cB cC cI cJ cZ oA rA σ_25 ++ b_k cB cC cI cJ cZ oA rA σ_25 ++ b_p cB cC cI cJ cZ oA rA σ_25 ++ b_o cB cC cI cJ cZ oA rA σ_25 ++ b_s cB cC cI cJ cZ oA rA σ_25 ++ b_c cB cC cI cJ cZ oA rA σ_25 ++ b_t cB cC cI cJ cZ oA rA σ_25 ++ b_d cB cC cI cJ cZ oA rA σ_25) H → va_S A s.heap H locs → ∀ ls : Array Slot, lv_has ls 5 [(0, .ref (oA 11)), (3, .int v3_24), (4, .int s_17.2.1)] → W p l e (headSpec (g_ws yX8_hear cX8_hear 5 none) { frames := 4, cells := 0, slots := 0, locals := 105 }).room s m ([.ref (oA 11), .ref (rA 9 6), .int p1] : List Value).toArray below meth c H locs 0 0 (MQ below (va_Qv (fun (_ : Unit) => True) (g_Bo (dC, dI) A (fun (_ : Unit) => (b_e cB cC cI cJ cZ oA rA res.2 ++ b_k cB cC cI cJ cZ oA rA res.2 ++ b_p cB cC cI cJ cZ oA rA res.2 ++ b_o cB cC cI cJ cZ oA rA res.2 ++ b_s cB cC cI cJ cZ oA rA res.2 ++ b_c cB cC cI cJ cZ oA rA res.2 ++ b_t cB cC cI cJ cZ oA rA res.2 ++ b_d cB cC cI cJ cZ oA rA res.2))) A) ([.ref (oA 11), .ref (rA 9 6), .int p1] : List Value).toArray s 0 0 A) (F0 m 206 ls []) := by
        intro v3_24 σ_25 hF0 H locs hP hS ls hl
        subst ej_26
        have hF_28 := hF0
        clear hF0
        obtain ⟨x_29, ex_29, hF_30⟩ := bnd_e hF_28
        clear hF_28
        refine lv_iinc (v := x_29) (lv' := [(4, .int x_29), (0, .ref (oA 11)), (3, .int v3_24)]) hx hb dX8_hear_206 hl (k := 2) rfl (by rw [ex_29]; rfl) (by decide) rfl (fun ls hl => ?_)
        refine lv_goto (tgt := 107) hx hb dX8_hear_209 (by decide) ?_
        exact ih_19 (v3_24, x_29, σ_25) hF_30 _ _ hP hS ls (lv_sub hl [1, 2, 0] rfl)
      obtain ⟨j_32, ej_32, hF_33⟩ := bnd_e hF_27
      clear hF_27
      have Jj_32 : ∀  (σ_31 : HS), j_32  σ_31 = some res → ∀ (H : Heap) (locs : List Loc), va_P (dC, dI) vwCl (b_e cB cC cI cJ cZ oA rA σ_31 ++ b_k cB cC cI cJ cZ oA rA σ_31 ++ b_p cB cC cI cJ cZ oA rA σ_31 ++ b_o cB cC cI cJ cZ oA rA σ_31 ++ b_s cB cC cI cJ cZ oA rA σ_31 ++ b_c cB cC cI cJ cZ oA rA σ_31 ++ b_t cB cC cI cJ cZ oA rA σ_31 ++ b_d cB cC cI cJ cZ oA rA σ_31) H → va_S A s.heap H locs → ∀ ls : Array Slot, lv_has ls 5 [(0, .ref (oA 11)), (3, .int s_17.1), (4, .int s_17.2.1)] → W p l e (headSpec (g_ws yX8_hear cX8_hear 5 none) { frames := 4, cells := 0, slots := 0, locals := 105 }).room s m ([.ref (oA 11), .ref (rA 9 6), .int p1] : List Value).toArray below meth c H locs 0 0 (MQ below (va_Qv (fun (_ : Unit) => True) (g_Bo (dC, dI) A (fun (_ : Unit) => (b_e cB cC cI cJ cZ oA rA res.2 ++ b_k cB cC cI cJ cZ oA rA res.2 ++ b_p cB cC cI cJ cZ oA rA res.2 ++ b_o cB cC cI cJ cZ oA rA res.2 ++ b_s cB cC cI cJ cZ oA rA res.2 ++ b_c cB cC cI cJ cZ oA rA res.2 ++ b_t cB cC cI cJ cZ oA rA res.2 ++ b_d cB cC cI cJ cZ oA rA res.2))) A) ([.ref (oA 11), .ref (rA 9 6), .int p1] : List Value).toArray s 0 0 A) (F0 m 148 ls []) := by
        intro  σ_31 hF0 H locs hP hS ls hl
        subst ej_32
        have hF_34 := hF0
        clear hF0
        refine lv_iload hx hb dX8_hear_148 (lv_at hl 2 rfl) ?_
        refine lv_iload_n hx hb dX8_hear_150 rfl (lv_at hl 1 rfl) ?_
        obtain ⟨j_36, ej_36, hF_37⟩ := bnd_e hF_34
        clear hF_34
        have Jj_36 : ∀  (σ_35 : HS), j_36  σ_35 = some res → ∀ (H : Heap) (locs : List Loc), va_P (dC, dI) vwCl (b_e cB cC cI cJ cZ oA rA σ_35 ++ b_k cB cC cI cJ cZ oA rA σ_35 ++ b_p cB cC cI cJ cZ oA rA σ_35 ++ b_o cB cC cI cJ cZ oA rA σ_35 ++ b_s cB cC cI cJ cZ oA rA σ_35 ++ b_c cB cC cI cJ cZ oA rA σ_35 ++ b_t cB cC cI cJ cZ oA rA σ_35 ++ b_d cB cC cI cJ cZ oA rA σ_35) H → va_S A s.heap H locs → ∀ ls : Array Slot, lv_has ls 5 [(0, .ref (oA 11)), (4, .int s_17.2.1)] → W p l e (headSpec (g_ws yX8_hear cX8_hear 5 none) { frames := 4, cells := 0, slots := 0, locals := 105 }).room s m ([.ref (oA 11), .ref (rA 9 6), .int p1] : List Value).toArray below meth c H locs 0 0 (MQ below (va_Qv (fun (_ : Unit) => True) (g_Bo (dC, dI) A (fun (_ : Unit) => (b_e cB cC cI cJ cZ oA rA res.2 ++ b_k cB cC cI cJ cZ oA rA res.2 ++ b_p cB cC cI cJ cZ oA rA res.2 ++ b_o cB cC cI cJ cZ oA rA res.2 ++ b_s cB cC cI cJ cZ oA rA res.2 ++ b_c cB cC cI cJ cZ oA rA res.2 ++ b_t cB cC cI cJ cZ oA rA res.2 ++ b_d cB cC cI cJ cZ oA rA res.2))) A) ([.ref (oA 11), .ref (rA 9 6), .int p1] : List Value).toArray s 0 0 A) (F0 m 201 ls []) := by
          intro  σ_35 hF0 H locs hP hS ls hl
          subst ej_36
          have hF_38 := hF0
          clear hF0
          refine lv_iload hx hb dX8_hear_201 (lv_at hl 1 rfl) ?_
          refine lv_iconst (v := 1) hx hb dX8_hear_203 (by decide +kernel) ?_
          refine lv_iadd hx hb dX8_hear_204 ?_
          obtain ⟨x_39, ex_39, hF_40⟩ := bnd_e hF_38
          clear hF_38
          refine m_top ex_39 ?_
          refine lv_istore_n (lv' := [(3, .int x_39), (0, .ref (oA 11)), (4, .int s_17.2.1)]) hx hb dX8_hear_205 rfl hl (by decide) rfl (fun ls hl => ?_)
          exact Jj_26 x_39 σ_35 hF_40 _ _ hP hS ls (lv_sub hl [1, 0, 2] rfl)
        refine lv_icmp_le (tgt := 201) hx hb dX8_hear_151 (by decide) (fun c_41 => ?_) (fun c_41 => ?_)
        · have hF_42 := ipos c_41 hF_37
          clear hF_37
          exact Jj_36  σ_31 hF_42 _ _ hP hS ls (lv_sub hl [0, 2] rfl)
        · have hF_43 := ineg c_41 hF_37
          clear hF_37
          refine lv_aload_n hx hb dX8_hear_154 rfl (lv_at hl 0 rfl) ?_
          refine va_get (D := (dC, dI)) (ci := 8) (v := .int ((σ_31 11).1 7)) (C := RX8) (T := TX8) (N := 16) hx hb hts ii_X8 hown hK hP 0 rfl rfl 7 (by decide) (hts (.fieldLink RX8 50 "StoryHouse$Teller" "termCount" "I") wq_294) (fun _ h9 => h9) rfl dX8_hear_155 ?_
          refine lv_bipush (v := 12) hx hb dX8_hear_158 (by decide +kernel) ?_
          refine lv_icmp_ge (tgt := 201) hx hb dX8_hear_160 (by decide) (fun c_44 => ?_) (fun c_44 => ?_)
          · have hF_45 := ipos c_44 hF_43
            clear hF_43
            exact Jj_36  σ_31 hF_45 _ _ hP hS ls (lv_sub hl [0, 2] rfl)
          · have hF_46 := ineg c_44 hF_43
            clear hF_43
            refine lv_aload_n hx hb dX8_hear_163 rfl (lv_at hl 0 rfl) ?_
            refine va_get (D := (dC, dI)) (ci := 8) (v := .ref (rA 11 6)) (C := RX8) (T := TX8) (N := 16) hx hb hts ii_X8 hown hK hP 0 rfl rfl 6 (by decide) (hts (.fieldLink RX8 15 "StoryHouse$Teller" "terms" "[I") wq_293) (fun _ h9 => h9) rfl dX8_hear_164 ?_
            refine lv_aload_n hx hb dX8_hear_167 rfl (lv_at hl 0 rfl) ?_
            refine va_get (D := (dC, dI)) (ci := 8) (v := .int ((σ_31 11).1 7)) (C := RX8) (T := TX8) (N := 16) hx hb hts ii_X8 hown hK hP 0 rfl rfl 7 (by decide) (hts (.fieldLink RX8 50 "StoryHouse$Teller" "termCount" "I") wq_294) (fun _ h9 => h9) rfl dX8_hear_168 ?_
            refine lv_aload_n hx hb dX8_hear_171 rfl (lv_at hl 0 rfl) ?_
            refine va_get (D := (dC, dI)) (ci := 8) (v := .ref (oA 4)) (C := RX8) (T := TX8) (N := 16) hx hb hts ii_X8 hown hK hP 0 rfl rfl 3 (by decide) (hts (.fieldLink RX8 85 "StoryHouse$Teller" "story" "LStoryHouse$Story;") wq_290) (fun _ h9 => h9) rfl dX8_hear_172 ?_
            refine va_get (D := (dC, dI)) (ci := 7) (v := .ref (oA 7)) (C := RX7) (T := TX7) (N := 19) hx hb hts ii_X7 hown hK hP 19 rfl rfl 18 (by decide) (hts (.fieldLink RX8 89 "StoryHouse$Story" "dictionary" "LStoryHouse$Dictionary;") wq_200) (fun _ h9 => h9) rfl dX8_hear_175 ?_
            refine lv_aload_n hx hb dX8_hear_178 rfl (lv_at hl 0 rfl) ?_
            refine lv_iload_n hx hb dX8_hear_179 rfl (lv_at hl 1 rfl) ?_
            refine lv_iload hx hb dX8_hear_180 (lv_at hl 2 rfl) ?_
            obtain ⟨u_47, hu_47, hF_48⟩ := Option.bind_eq_some_iff.mp hF_46
            clear hF_46
            have hPc := bx_P (bs := [b_e cB cC cI cJ cZ oA rA σ_31, b_k cB cC cI cJ cZ oA rA σ_31, b_p cB cC cI cJ cZ oA rA σ_31, b_o cB cC cI cJ cZ oA rA σ_31, b_s cB cC cI cJ cZ oA rA σ_31, b_c cB cC cI cJ cZ oA rA σ_31, b_t cB cC cI cJ cZ oA rA σ_31, b_d cB cC cI cJ cZ oA rA σ_31]) (bs' := [b_e cB cC cI cJ cZ oA rA σ_31, b_k cB cC cI cJ cZ oA rA σ_31, b_p cB cC cI cJ cZ oA rA σ_31, b_o cB cC cI cJ cZ oA rA σ_31, b_s cB cC cI cJ cZ oA rA σ_31, b_c cB cC cI cJ cZ oA rA σ_31, b_t cB cC cI cJ cZ oA rA σ_31, b_d cB cC cI cJ cZ oA rA σ_31]) (ws' := (b_e cB cC cI cJ cZ oA rA σ_31 ++ b_k cB cC cI cJ cZ oA rA σ_31 ++ b_p cB cC cI cJ cZ oA rA σ_31 ++ b_o cB cC cI cJ cZ oA rA σ_31 ++ b_s cB cC cI cJ cZ oA rA σ_31 ++ b_c cB cC cI cJ cZ oA rA σ_31 ++ b_t cB cC cI cJ cZ oA rA σ_31 ++ b_d cB cC cI cJ cZ oA rA σ_31)) hP fl_8 fl_8 [0, 1, 2, 3, 4, 5, 6, 7] rfl
            have hDc := bx_D (bs := [b_e cB cC cI cJ cZ oA rA σ_31, b_k cB cC cI cJ cZ oA rA σ_31, b_p cB cC cI cJ cZ oA rA σ_31, b_o cB cC cI cJ cZ oA rA σ_31, b_s cB cC cI cJ cZ oA rA σ_31, b_c cB cC cI cJ cZ oA rA σ_31, b_t cB cC cI cJ cZ oA rA σ_31, b_d cB cC cI cJ cZ oA rA σ_31]) (bs' := [b_e cB cC cI cJ cZ oA rA σ_31, b_k cB cC cI cJ cZ oA rA σ_31, b_p cB cC cI cJ cZ oA rA σ_31, b_o cB cC cI cJ cZ oA rA σ_31, b_s cB cC cI cJ cZ oA rA σ_31, b_c cB cC cI cJ cZ oA rA σ_31, b_t cB cC cI cJ cZ oA rA σ_31, b_d cB cC cI cJ cZ oA rA σ_31]) (ws' := (b_e cB cC cI cJ cZ oA rA σ_31 ++ b_k cB cC cI cJ cZ oA rA σ_31 ++ b_p cB cC cI cJ cZ oA rA σ_31 ++ b_o cB cC cI cJ cZ oA rA σ_31 ++ b_s cB cC cI cJ cZ oA rA σ_31 ++ b_c cB cC cI cJ cZ oA rA σ_31 ++ b_t cB cC cI cJ cZ oA rA σ_31 ++ b_d cB cC cI cJ cZ oA rA σ_31)) (hDD σ_31) fl_8 fl_8 [0, 1, 2, 3, 4, 5, 6, 7] (by decide +kernel) rfl
            have hFc := bx_F (bs := [b_e cB cC cI cJ cZ oA rA σ_31, b_k cB cC cI cJ cZ oA rA σ_31, b_p cB cC cI cJ cZ oA rA σ_31, b_o cB cC cI cJ cZ oA rA σ_31, b_s cB cC cI cJ cZ oA rA σ_31, b_c cB cC cI cJ cZ oA rA σ_31, b_t cB cC cI cJ cZ oA rA σ_31, b_d cB cC cI cJ cZ oA rA σ_31]) (bs' := [b_e cB cC cI cJ cZ oA rA σ_31, b_k cB cC cI cJ cZ oA rA σ_31, b_p cB cC cI cJ cZ oA rA σ_31, b_o cB cC cI cJ cZ oA rA σ_31, b_s cB cC cI cJ cZ oA rA σ_31, b_c cB cC cI cJ cZ oA rA σ_31, b_t cB cC cI cJ cZ oA rA σ_31, b_d cB cC cI cJ cZ oA rA σ_31]) (wc := (b_e cB cC cI cJ cZ oA rA σ_31 ++ b_k cB cC cI cJ cZ oA rA σ_31 ++ b_p cB cC cI cJ cZ oA rA σ_31 ++ b_o cB cC cI cJ cZ oA rA σ_31 ++ b_s cB cC cI cJ cZ oA rA σ_31 ++ b_c cB cC cI cJ cZ oA rA σ_31 ++ b_t cB cC cI cJ cZ oA rA σ_31 ++ b_d cB cC cI cJ cZ oA rA σ_31)) (hDD σ_31) hS hA fl_8 fl_8 [0, 1, 2, 3, 4, 5, 6, 7] rfl
            refine g_ofl (wc := (b_e cB cC cI cJ cZ oA rA σ_31 ++ b_k cB cC cI cJ cZ oA rA σ_31 ++ b_p cB cC cI cJ cZ oA rA σ_31 ++ b_o cB cC cI cJ cZ oA rA σ_31 ++ b_s cB cC cI cJ cZ oA rA σ_31 ++ b_c cB cC cI cJ cZ oA rA σ_31 ++ b_t cB cC cI cJ cZ oA rA σ_31 ++ b_d cB cC cI cJ cZ oA rA σ_31)) (wr := ([] : va_W)) hP (hDD σ_31) hS hFc (bx_ix [b_e cB cC cI cJ cZ oA rA σ_31, b_k cB cC cI cJ cZ oA rA σ_31, b_p cB cC cI cJ cZ oA rA σ_31, b_o cB cC cI cJ cZ oA rA σ_31, b_s cB cC cI cJ cZ oA rA σ_31, b_c cB cC cI cJ cZ oA rA σ_31, b_t cB cC cI cJ cZ oA rA σ_31, b_d cB cC cI cJ cZ oA rA σ_31] [0, 1, 2, 3, 4, 5, 6, 7]) (bx_ix [b_e cB cC cI cJ cZ oA rA σ_31, b_k cB cC cI cJ cZ oA rA σ_31, b_p cB cC cI cJ cZ oA rA σ_31, b_o cB cC cI cJ cZ oA rA σ_31, b_s cB cC cI cJ cZ oA rA σ_31, b_c cB cC cI cJ cZ oA rA σ_31, b_t cB cC cI cJ cZ oA rA σ_31, b_d cB cC cI cJ cZ oA rA σ_31] []) (bx_C (bs := [b_e cB cC cI cJ cZ oA rA σ_31, b_k cB cC cI cJ cZ oA rA σ_31, b_p cB cC cI cJ cZ oA rA σ_31, b_o cB cC cI cJ cZ oA rA σ_31, b_s cB cC cI cJ cZ oA rA σ_31, b_c cB cC cI cJ cZ oA rA σ_31, b_t cB cC cI cJ cZ oA rA σ_31, b_d cB cC cI cJ cZ oA rA σ_31]) (bs' := [b_e cB cC cI cJ cZ oA rA σ_31, b_k cB cC cI cJ cZ oA rA σ_31, b_p cB cC cI cJ cZ oA rA σ_31, b_o cB cC cI cJ cZ oA rA σ_31, b_s cB cC cI cJ cZ oA rA σ_31, b_c cB cC cI cJ cZ oA rA σ_31, b_t cB cC cI cJ cZ oA rA σ_31, b_d cB cC cI cJ cZ oA rA σ_31]) (is := [0, 1, 2, 3, 4, 5, 6, 7]) fl_8 fl_8 rfl) (bx_C (bs := [b_e cB cC cI cJ cZ oA rA σ_31, b_k cB cC cI cJ cZ oA rA σ_31, b_p cB cC cI cJ cZ oA rA σ_31, b_o cB cC cI cJ cZ oA rA σ_31, b_s cB cC cI cJ cZ oA rA σ_31, b_c cB cC cI cJ cZ oA rA σ_31, b_t cB cC cI cJ cZ oA rA σ_31, b_d cB cC cI cJ cZ oA rA σ_31]) (bs' := []) (is := []) fl_8 fl_0 rfl) (bx_n (by decide +kernel)) (bx_d (by decide +kernel)) (va_runV (As := [.int s_17.1, .int s_17.2.1]) (rest := [.ref (oA 7), .int ((σ_31 11).1 7), .ref (rA 11 6)]) ⟨hx, hb, hml, hown, hts⟩ (k_X8_termBetween l dC dI cB cC cI cJ cZ cP oA rA H.size  s_17.1 s_17.2.1 σ_31 _ hu_47) (cwV 2 hts (g_gV wq_1057 wq_1058 wq_2073 wq_12 wq_1059) rfl rfl rfl (by decide +kernel) ⟨Nat.le_of_ble_eq_true rfl, Nat.le_of_ble_eq_true rfl⟩) (g_preV g_bl0 hK hPc hDc hS hE hFc g_to0 (q0 := 0) (ci := 8) rfl rfl) rfl rfl hl.1 rfl (lv_room (Nat.le_of_ble_eq_true rfl)) dX8_hear_182 ⟨Nat.le_of_ble_eq_true rfl, Nat.le_of_ble_eq_true rfl⟩) (fun r9 u9 H locs hw9 hP' hD' hS => ?_)
            clear hPc hDc hFc
            subst hw9
            have hP : va_P (dC, dI) vwCl (b_e cB cC cI cJ cZ oA rA u_47.2 ++ b_k cB cC cI cJ cZ oA rA u_47.2 ++ b_p cB cC cI cJ cZ oA rA u_47.2 ++ b_o cB cC cI cJ cZ oA rA u_47.2 ++ b_s cB cC cI cJ cZ oA rA u_47.2 ++ b_c cB cC cI cJ cZ oA rA u_47.2 ++ b_t cB cC cI cJ cZ oA rA u_47.2 ++ b_d cB cC cI cJ cZ oA rA u_47.2) H := hP'
            clear hP' hD'
            obtain ⟨u_49, hu_49, hF_50⟩ := Option.bind_eq_some_iff.mp hF_48
            clear hF_48
            have hPc := bx_P (bs := [b_e cB cC cI cJ cZ oA rA u_47.2, b_k cB cC cI cJ cZ oA rA u_47.2, b_p cB cC cI cJ cZ oA rA u_47.2, b_o cB cC cI cJ cZ oA rA u_47.2, b_s cB cC cI cJ cZ oA rA u_47.2, b_c cB cC cI cJ cZ oA rA u_47.2, b_t cB cC cI cJ cZ oA rA u_47.2, b_d cB cC cI cJ cZ oA rA u_47.2]) (bs' := [b_d cB cC cI cJ cZ oA rA u_47.2]) (ws' := (b_d cB cC cI cJ cZ oA rA u_47.2)) hP fl_8 fl_1 [7] rfl
            have hDc := bx_D (bs := [b_e cB cC cI cJ cZ oA rA u_47.2, b_k cB cC cI cJ cZ oA rA u_47.2, b_p cB cC cI cJ cZ oA rA u_47.2, b_o cB cC cI cJ cZ oA rA u_47.2, b_s cB cC cI cJ cZ oA rA u_47.2, b_c cB cC cI cJ cZ oA rA u_47.2, b_t cB cC cI cJ cZ oA rA u_47.2, b_d cB cC cI cJ cZ oA rA u_47.2]) (bs' := [b_d cB cC cI cJ cZ oA rA u_47.2]) (ws' := (b_d cB cC cI cJ cZ oA rA u_47.2)) (hDD u_47.2) fl_8 fl_1 [7] (by decide +kernel) rfl
            have hFc := bx_F (bs := [b_e cB cC cI cJ cZ oA rA u_47.2, b_k cB cC cI cJ cZ oA rA u_47.2, b_p cB cC cI cJ cZ oA rA u_47.2, b_o cB cC cI cJ cZ oA rA u_47.2, b_s cB cC cI cJ cZ oA rA u_47.2, b_c cB cC cI cJ cZ oA rA u_47.2, b_t cB cC cI cJ cZ oA rA u_47.2, b_d cB cC cI cJ cZ oA rA u_47.2]) (bs' := [b_d cB cC cI cJ cZ oA rA u_47.2]) (wc := (b_d cB cC cI cJ cZ oA rA u_47.2)) (hDD u_47.2) hS hA fl_8 fl_1 [7] rfl
            refine g_ofi (wc := (b_d cB cC cI cJ cZ oA rA u_47.2)) (wr := (b_e cB cC cI cJ cZ oA rA u_47.2 ++ b_k cB cC cI cJ cZ oA rA u_47.2 ++ b_p cB cC cI cJ cZ oA rA u_47.2 ++ b_o cB cC cI cJ cZ oA rA u_47.2 ++ b_s cB cC cI cJ cZ oA rA u_47.2 ++ b_c cB cC cI cJ cZ oA rA u_47.2 ++ b_t cB cC cI cJ cZ oA rA u_47.2)) hP (hDD u_47.2) hS hFc (bx_ix [b_e cB cC cI cJ cZ oA rA u_47.2, b_k cB cC cI cJ cZ oA rA u_47.2, b_p cB cC cI cJ cZ oA rA u_47.2, b_o cB cC cI cJ cZ oA rA u_47.2, b_s cB cC cI cJ cZ oA rA u_47.2, b_c cB cC cI cJ cZ oA rA u_47.2, b_t cB cC cI cJ cZ oA rA u_47.2, b_d cB cC cI cJ cZ oA rA u_47.2] [7]) (bx_ix [b_e cB cC cI cJ cZ oA rA u_47.2, b_k cB cC cI cJ cZ oA rA u_47.2, b_p cB cC cI cJ cZ oA rA u_47.2, b_o cB cC cI cJ cZ oA rA u_47.2, b_s cB cC cI cJ cZ oA rA u_47.2, b_c cB cC cI cJ cZ oA rA u_47.2, b_t cB cC cI cJ cZ oA rA u_47.2, b_d cB cC cI cJ cZ oA rA u_47.2] [0, 1, 2, 3, 4, 5, 6]) (bx_C (bs := [b_e cB cC cI cJ cZ oA rA u_47.2, b_k cB cC cI cJ cZ oA rA u_47.2, b_p cB cC cI cJ cZ oA rA u_47.2, b_o cB cC cI cJ cZ oA rA u_47.2, b_s cB cC cI cJ cZ oA rA u_47.2, b_c cB cC cI cJ cZ oA rA u_47.2, b_t cB cC cI cJ cZ oA rA u_47.2, b_d cB cC cI cJ cZ oA rA u_47.2]) (bs' := [b_d cB cC cI cJ cZ oA rA u_47.2]) (is := [7]) fl_8 fl_1 rfl) (bx_C (bs := [b_e cB cC cI cJ cZ oA rA u_47.2, b_k cB cC cI cJ cZ oA rA u_47.2, b_p cB cC cI cJ cZ oA rA u_47.2, b_o cB cC cI cJ cZ oA rA u_47.2, b_s cB cC cI cJ cZ oA rA u_47.2, b_c cB cC cI cJ cZ oA rA u_47.2, b_t cB cC cI cJ cZ oA rA u_47.2, b_d cB cC cI cJ cZ oA rA u_47.2]) (bs' := [b_e cB cC cI cJ cZ oA rA u_47.2, b_k cB cC cI cJ cZ oA rA u_47.2, b_p cB cC cI cJ cZ oA rA u_47.2, b_o cB cC cI cJ cZ oA rA u_47.2, b_s cB cC cI cJ cZ oA rA u_47.2, b_c cB cC cI cJ cZ oA rA u_47.2, b_t cB cC cI cJ cZ oA rA u_47.2]) (is := [0, 1, 2, 3, 4, 5, 6]) fl_8 fl_7 rfl) (bx_n (by decide +kernel)) (bx_d (by decide +kernel)) (va_runV (As := [.long u_47.1]) (rest := [.int ((σ_31 11).1 7), .ref (rA 11 6)]) ⟨hx, hb, hml, hown, hts⟩ (k_X1_find l dC dI cB cC cI cJ cZ cP oA rA H.size  u_47.1 u_47.2 _ hu_49) (cwV 1 hts (g_gV wq_1061 wq_1062 wq_1063 wq_8 wq_1064) rfl rfl rfl (by decide +kernel) ⟨Nat.le_of_ble_eq_true rfl, Nat.le_of_ble_eq_true rfl⟩) (g_preV g_bl0 hK hPc hDc hS hE hFc g_to0 (q0 := 0) (ci := 1) rfl rfl) rfl rfl hl.1 rfl (lv_room (Nat.le_of_ble_eq_true rfl)) dX8_hear_185 ⟨Nat.le_of_ble_eq_true rfl, Nat.le_of_ble_eq_true rfl⟩) (fun r9 u9 H locs hw9 hP' hD' hS => ?_)
            clear hPc hDc hFc
            subst hw9
            obtain ⟨σ_51, eσ_51, hF_52⟩ := bnd_e hF_50
            clear hF_50
            have hP : va_P (dC, dI) vwCl (b_e cB cC cI cJ cZ oA rA σ_51 ++ b_k cB cC cI cJ cZ oA rA σ_51 ++ b_p cB cC cI cJ cZ oA rA σ_51 ++ b_o cB cC cI cJ cZ oA rA σ_51 ++ b_s cB cC cI cJ cZ oA rA σ_51 ++ b_c cB cC cI cJ cZ oA rA σ_51 ++ b_t cB cC cI cJ cZ oA rA σ_51 ++ b_d cB cC cI cJ cZ oA rA σ_51) H := by rw [eσ_51]; exact bx_P (bs := [b_e cB cC cI cJ cZ oA rA u_47.2, b_k cB cC cI cJ cZ oA rA u_47.2, b_p cB cC cI cJ cZ oA rA u_47.2, b_o cB cC cI cJ cZ oA rA u_47.2, b_s cB cC cI cJ cZ oA rA u_47.2, b_c cB cC cI cJ cZ oA rA u_47.2, b_t cB cC cI cJ cZ oA rA u_47.2] ++ [b_d cB cC cI cJ cZ oA rA u_49.2]) (bs' := [b_e cB cC cI cJ cZ oA rA (mrg (fun j => j == 7) u_47.2 u_49.2), b_k cB cC cI cJ cZ oA rA (mrg (fun j => j == 7) u_47.2 u_49.2), b_p cB cC cI cJ cZ oA rA (mrg (fun j => j == 7) u_47.2 u_49.2), b_o cB cC cI cJ cZ oA rA (mrg (fun j => j == 7) u_47.2 u_49.2), b_s cB cC cI cJ cZ oA rA (mrg (fun j => j == 7) u_47.2 u_49.2), b_c cB cC cI cJ cZ oA rA (mrg (fun j => j == 7) u_47.2 u_49.2), b_t cB cC cI cJ cZ oA rA (mrg (fun j => j == 7) u_47.2 u_49.2), b_d cB cC cI cJ cZ oA rA (mrg (fun j => j == 7) u_47.2 u_49.2)]) hP' (fl_a fl_7 fl_1) fl_8 [0, 1, 2, 3, 4, 5, 6, 7] rfl
            clear hP' hD'
            have hq9 : ((b_e cB cC cI cJ cZ oA rA σ_51 ++ b_k cB cC cI cJ cZ oA rA σ_51 ++ b_p cB cC cI cJ cZ oA rA σ_51 ++ b_o cB cC cI cJ cZ oA rA σ_51 ++ b_s cB cC cI cJ cZ oA rA σ_51 ++ b_c cB cC cI cJ cZ oA rA σ_51 ++ b_t cB cC cI cJ cZ oA rA σ_51 ++ b_d cB cC cI cJ cZ oA rA σ_51))[2]? = some (rA 11 6, .inl (cI, 12, .inl ((σ_51 11).2.1 6))) := rfl
            have hPc := hP.sub (ws' := [(rA 11 6, .inl (cI, 12, .inl ((σ_51 11).2.1 6)))]) [2] (pk_fm (er_C hq9))
            have hDc := (hDD σ_51).sub (ws' := [(rA 11 6, .inl (cI, 12, .inl ((σ_51 11).2.1 6)))]) [2] (by decide +kernel) (er_C hq9)
            have hFc := va_free (wc := [(rA 11 6, .inl (cI, 12, .inl ((σ_51 11).2.1 6)))]) (hDD σ_51) hS hA [2] (er_C hq9)
            refine g_ofv (wc := [(rA 11 6, .inl (cI, 12, .inl ((σ_51 11).2.1 6)))]) (wr := (((b_e cB cC cI cJ cZ oA rA σ_51 ++ b_k cB cC cI cJ cZ oA rA σ_51 ++ b_p cB cC cI cJ cZ oA rA σ_51 ++ b_o cB cC cI cJ cZ oA rA σ_51 ++ b_s cB cC cI cJ cZ oA rA σ_51 ++ b_c cB cC cI cJ cZ oA rA σ_51 ++ b_t cB cC cI cJ cZ oA rA σ_51 ++ b_d cB cC cI cJ cZ oA rA σ_51)).eraseIdx 2)) hP (hDD σ_51) hS hFc [2] ((List.range ((b_e cB cC cI cJ cZ oA rA σ_51 ++ b_k cB cC cI cJ cZ oA rA σ_51 ++ b_p cB cC cI cJ cZ oA rA σ_51 ++ b_o cB cC cI cJ cZ oA rA σ_51 ++ b_s cB cC cI cJ cZ oA rA σ_51 ++ b_c cB cC cI cJ cZ oA rA σ_51 ++ b_t cB cC cI cJ cZ oA rA σ_51 ++ b_d cB cC cI cJ cZ oA rA σ_51)).length).eraseIdx 2) (er_C hq9) er_R er_n er_d (va_runSN (As := [.ref (rA 11 6), .int ((σ_31 11).1 7), .int u_49.1]) (rest := []) ⟨hx, hb, hml, hown, hts⟩ (c_X11_put l dC dI cB cC cI cJ cZ cP H.size (rA 11 6) ((σ_31 11).1 7) u_49.1 12 ((σ_51 11).2.1 6) (by decide)) ⟨va_cnB 3 hts (g_gA wq_412) rfl rfl rfl (nw_34 hN) (hts (.initialized RX11) wq_1) (by decide +kernel) ⟨Nat.le_of_ble_eq_true rfl, Nat.le_of_ble_eq_true rfl⟩, (hts (.static yX11_put) wq_411), trivial⟩ (g_preS g_bl0 hK hPc hDc hS hE hFc g_to0) rfl rfl hl.1 rfl (lv_room (Nat.le_of_ble_eq_true rfl)) dX8_hear_188 ⟨Nat.le_of_ble_eq_true rfl, Nat.le_of_ble_eq_true rfl⟩) (fun g9 H locs hw9 hP' hD' hS => ?_)
            clear hPc hDc hFc hD'
            obtain ⟨σ_53, eσ_53, hF_54⟩ := bnd_e hF_52
            clear hF_52
            subst hw9
            have hP : va_P (dC, dI) vwCl (b_e cB cC cI cJ cZ oA rA σ_53 ++ b_k cB cC cI cJ cZ oA rA σ_53 ++ b_p cB cC cI cJ cZ oA rA σ_53 ++ b_o cB cC cI cJ cZ oA rA σ_53 ++ b_s cB cC cI cJ cZ oA rA σ_53 ++ b_c cB cC cI cJ cZ oA rA σ_53 ++ b_t cB cC cI cJ cZ oA rA σ_53 ++ b_d cB cC cI cJ cZ oA rA σ_53) H := by rw [eσ_53]; exact cs_ekposctd_e_6 ▸ er_P hP' (er_lt hq9)
            clear hP' hq9
            refine lv_aload_n hx hb dX8_hear_191 rfl (lv_at hl 0 rfl) ?_
            refine lv_dup hx hb dX8_hear_192 rfl ?_
            refine va_get (D := (dC, dI)) (ci := 8) (v := .int ((σ_53 11).1 7)) (C := RX8) (T := TX8) (N := 16) hx hb hts ii_X8 hown hK hP 0 rfl rfl 7 (by decide) (hts (.fieldLink RX8 50 "StoryHouse$Teller" "termCount" "I") wq_294) (fun _ h9 => h9) rfl dX8_hear_193 ?_
            refine lv_iconst (v := 1) hx hb dX8_hear_196 (by decide +kernel) ?_
            refine lv_iadd hx hb dX8_hear_197 ?_
            obtain ⟨σ_55, eσ_55, hF_56⟩ := bnd_e hF_54
            clear hF_54
            refine va_put (D := (dC, dI)) (ci := 8) (v := .int (((σ_53 11).1 7) + 1)) (ty := .int) (C := RX8) (T := TX8) (N := 16) hx hb hts ii_X8 tyX8 tyX8_ok nmX8 hown hK hP (hDD _) hS 0 rfl rfl 7 (by decide) (hts (.fieldLink RX8 50 "StoryHouse$Teller" "termCount" "I") wq_294) (fun _ h9 => h9) rfl (by decide +kernel) rfl rfl (Nat.le_of_ble_eq_true rfl) dX8_hear_198 (fun H locs hP' _ hS => ?_)
            have hP : va_P (dC, dI) vwCl (b_e cB cC cI cJ cZ oA rA σ_55 ++ b_k cB cC cI cJ cZ oA rA σ_55 ++ b_p cB cC cI cJ cZ oA rA σ_55 ++ b_o cB cC cI cJ cZ oA rA σ_55 ++ b_s cB cC cI cJ cZ oA rA σ_55 ++ b_c cB cC cI cJ cZ oA rA σ_55 ++ b_t cB cC cI cJ cZ oA rA σ_55 ++ b_d cB cC cI cJ cZ oA rA σ_55) H := by rw [eσ_55]; exact cs_ekposctd_e_7 ▸ hP'
            clear hP'
            exact Jj_36  σ_55 hF_56 _ _ hP hS ls (lv_sub hl [0, 2] rfl)
      refine lv_icmp_eq (tgt := 148) hx hb dX8_hear_122 (by decide) (fun c_57 => ?_) (fun c_57 => ?_)
      · have hF_58 := ipos c_57 hF_33
        clear hF_33
        exact Jj_32  s_17.2.2 hF_58 _ _ hP hS ls (lv_sub hl [0, 1, 2] rfl)
      · have hF_59 := ineg c_57 hF_33
        clear hF_33
        refine lv_iload hx hb dX8_hear_125 (lv_at hl 2 rfl) ?_
        refine lv_aload_n hx hb dX8_hear_127 rfl (lv_at hl 0 rfl) ?_
        refine va_get (D := (dC, dI)) (ci := 8) (v := .ref (rA 11 4)) (C := RX8) (T := TX8) (N := 16) hx hb hts ii_X8 hown hK hP 0 rfl rfl 4 (by decide) (hts (.fieldLink RX8 9 "StoryHouse$Teller" "line" "[B") wq_291) (fun _ h9 => h9) rfl dX8_hear_128 ?_
        refine va_alen (v := 120) hx hb hK hP 1 0 rfl rfl (by first | rfl | decide +kernel) dX8_hear_131 ?_
        refine lv_icmp_ge (tgt := 206) hx hb dX8_hear_132 (by decide) (fun c_60 => ?_) (fun c_60 => ?_)
        · have hF_61 := ipos c_60 hF_59
          clear hF_59
          exact Jj_26 s_17.1 s_17.2.2 hF_61 _ _ hP hS ls (lv_sub hl [0, 1, 2] rfl)
        · have hF_62 := ineg c_60 hF_59
          clear hF_59
          refine lv_aload_n hx hb dX8_hear_135 rfl (lv_at hl 0 rfl) ?_
          refine va_get (D := (dC, dI)) (ci := 8) (v := .ref (rA 11 4)) (C := RX8) (T := TX8) (N := 16) hx hb hts ii_X8 hown hK hP 0 rfl rfl 4 (by decide) (hts (.fieldLink RX8 9 "StoryHouse$Teller" "line" "[B") wq_291) (fun _ h9 => h9) rfl dX8_hear_136 ?_
          refine lv_iload hx hb dX8_hear_139 (lv_at hl 2 rfl) ?_
          obtain ⟨g_63, hF_64⟩ := nif_e hF_62
          clear hF_62
          refine va_bald (f := (nrB ((s_17.2.2 11).2.1 4))) hx hb hK hP 1 0 rfl rfl g_63 dX8_hear_141 ?_
          obtain ⟨u_65, hu_65, hF_66⟩ := Option.bind_eq_some_iff.mp hF_64
          clear hF_64
          have hPc : va_P (dC, dI) vwCl [] H := fun k q z => by simp at z
          have hDc : va_D A [] := ⟨fun i j p q z => by simp at z, fun k q z => by simp at z⟩
          have hFc := c_nil hA hS
          refine c_cs (v := u_65.1) hA hP hS (va_runSN (As := [.int ((nrB ((s_17.2.2 11).2.1 4)) s_17.2.1.toNatClampNeg)]) (rest := []) ⟨hx, hb, hml, hown, hts⟩ (k_X11_isLetter l dC dI cB cC cI cJ cZ cP oA rA H.size  ((nrB ((s_17.2.2 11).2.1 4)) s_17.2.1.toNatClampNeg) s_17.2.2 _ hu_65) ⟨va_cnB 1 hts (g_gA wq_400) rfl rfl rfl (nw_32 hN) (hts (.initialized RX11) wq_1) (by decide +kernel) ⟨Nat.le_of_ble_eq_true rfl, Nat.le_of_ble_eq_true rfl⟩, (hts (.static yX11_isLetter) wq_399), trivial⟩ (g_preS g_bl0 hK hPc hDc hS hE hFc g_to0) rfl rfl hl.1 rfl (lv_room (Nat.le_of_ble_eq_true rfl)) dX8_hear_142 ⟨Nat.le_of_ble_eq_true rfl, Nat.le_of_ble_eq_true rfl⟩) (fun H locs hP hS => ?_)
          clear hPc hDc hFc
          refine lv_if_ne (tgt := 206) hx hb dX8_hear_145 (by decide) (fun c_67 => ?_) (fun c_67 => ?_)
          · have hF_69 := ineg c_67 hF_66
            clear hF_66
            exact Jj_26 s_17.1 s_17.2.2 hF_69 _ _ hP hS ls (lv_sub hl [0, 1, 2] rfl)
          · have hF_68 := ipos c_67 hF_66
            clear hF_66
            exact Jj_32  s_17.2.2 hF_68 _ _ hP hS ls (lv_sub hl [0, 1, 2] rfl)
  refine lv_icmp_ge (tgt := 97) hx hb dX8_hear_25 (by decide) (fun c_70 => ?_) (fun c_70 => ?_)
  · have hF_71 := ipos c_70 hF_13
    clear hF_13
    exact Jj_12  s_7.2 hF_71 _ _ hP hS ls (lv_sub hl [0] rfl)
  · have hF_72 := ineg c_70 hF_13
    clear hF_13
    refine lv_iload_n hx hb dX8_hear_28 rfl (lv_at hl 2 rfl) ?_
    refine lv_aload_n hx hb dX8_hear_29 rfl (lv_at hl 0 rfl) ?_
    refine va_get (D := (dC, dI)) (ci := 8) (v := .ref (rA 11 4)) (C := RX8) (T := TX8) (N := 16) hx hb hts ii_X8 hown hK hP 0 rfl rfl 4 (by decide) (hts (.fieldLink RX8 9 "StoryHouse$Teller" "line" "[B") wq_291) (fun _ h9 => h9) rfl dX8_hear_30 ?_
    refine va_alen (v := 120) hx hb hK hP 1 0 rfl rfl (by first | rfl | decide +kernel) dX8_hear_33 ?_
    refine lv_icmp_ge (tgt := 97) hx hb dX8_hear_34 (by decide) (fun c_73 => ?_) (fun c_73 => ?_)
    · have hF_74 := ipos c_73 hF_72
      clear hF_72
      exact Jj_12  s_7.2 hF_74 _ _ hP hS ls (lv_sub hl [0] rfl)
    · have hF_75 := ineg c_73 hF_72
      clear hF_72
      refine lv_iload_n hx hb dX8_hear_37 rfl (lv_at hl 2 rfl) ?_
      refine lv_aload_n hx hb dX8_hear_38 rfl (lv_at hl 1 rfl) ?_
      refine va_alen (v := 120) hx hb hK hP 16 0 rfl rfl (by first | rfl | decide +kernel) dX8_hear_39 ?_
      refine lv_icmp_ge (tgt := 97) hx hb dX8_hear_40 (by decide) (fun c_76 => ?_) (fun c_76 => ?_)
      · have hF_77 := ipos c_76 hF_75
        clear hF_75
        exact Jj_12  s_7.2 hF_77 _ _ hP hS ls (lv_sub hl [0] rfl)
      · have hF_78 := ineg c_76 hF_75
        clear hF_75
        refine lv_aload_n hx hb dX8_hear_43 rfl (lv_at hl 1 rfl) ?_
        refine lv_iload_n hx hb dX8_hear_44 rfl (lv_at hl 2 rfl) ?_
        obtain ⟨g_79, hF_80⟩ := nif_e hF_78
        clear hF_78
        refine va_bald (f := (nrB ((s_7.2 9).2.1 6))) hx hb hK hP 16 0 rfl rfl g_79 dX8_hear_45 ?_
        obtain ⟨x_81, ex_81, hF_82⟩ := bnd_e hF_80
        clear hF_80
        refine m_top ex_81 ?_
        refine lv_istore (lv' := [(4, .int x_81), (0, .ref (oA 11)), (1, .ref (rA 9 6)), (3, .int s_7.1)]) hx hb dX8_hear_46 hl (by decide) rfl (fun ls hl => ?_)
        refine lv_aload_n hx hb dX8_hear_48 rfl (lv_at hl 1 rfl) ?_
        refine va_get (D := (dC, dI)) (ci := 8) (v := .ref (rA 11 4)) (C := RX8) (T := TX8) (N := 16) hx hb hts ii_X8 hown hK hP 0 rfl rfl 4 (by decide) (hts (.fieldLink RX8 9 "StoryHouse$Teller" "line" "[B") wq_291) (fun _ h9 => h9) rfl dX8_hear_49 ?_
        refine lv_iload_n hx hb dX8_hear_52 rfl (lv_at hl 3 rfl) ?_
        refine lv_iload hx hb dX8_hear_53 (lv_at hl 0 rfl) ?_
        refine lv_bipush (v := 65) hx hb dX8_hear_55 (by decide +kernel) ?_
        obtain ⟨j_85, ej_85, hF_86⟩ := bnd_e hF_82
        clear hF_82
        have Jj_85 : ∀ (t_83 : Int32) (σ_84 : HS), j_85 t_83 σ_84 = some res → ∀ (H : Heap) (locs : List Loc), va_P (dC, dI) vwCl (b_e cB cC cI cJ cZ oA rA σ_84 ++ b_k cB cC cI cJ cZ oA rA σ_84 ++ b_p cB cC cI cJ cZ oA rA σ_84 ++ b_o cB cC cI cJ cZ oA rA σ_84 ++ b_s cB cC cI cJ cZ oA rA σ_84 ++ b_c cB cC cI cJ cZ oA rA σ_84 ++ b_t cB cC cI cJ cZ oA rA σ_84 ++ b_d cB cC cI cJ cZ oA rA σ_84) H → va_S A s.heap H locs → ∀ ls : Array Slot, lv_has ls 5 [(0, .ref (oA 11)), (1, .ref (rA 9 6)), (3, .int s_7.1)] → W p l e (headSpec (g_ws yX8_hear cX8_hear 5 none) { frames := 4, cells := 0, slots := 0, locals := 105 }).room s m ([.ref (oA 11), .ref (rA 9 6), .int p1] : List Value).toArray below meth c H locs 0 0 (MQ below (va_Qv (fun (_ : Unit) => True) (g_Bo (dC, dI) A (fun (_ : Unit) => (b_e cB cC cI cJ cZ oA rA res.2 ++ b_k cB cC cI cJ cZ oA rA res.2 ++ b_p cB cC cI cJ cZ oA rA res.2 ++ b_o cB cC cI cJ cZ oA rA res.2 ++ b_s cB cC cI cJ cZ oA rA res.2 ++ b_c cB cC cI cJ cZ oA rA res.2 ++ b_t cB cC cI cJ cZ oA rA res.2 ++ b_d cB cC cI cJ cZ oA rA res.2))) A) ([.ref (oA 11), .ref (rA 9 6), .int p1] : List Value).toArray s 0 0 A) (F0 m 89 ls [.int t_83, .int s_7.1, .ref (rA 11 4)]) := by
          intro t_83 σ_84 hF0 H locs hP hS ls hl
          subst ej_85
          have hF_87 := hF0
          clear hF0
          refine lv_i2b hx hb dX8_hear_89 rfl ?_
          obtain ⟨x_88, ex_88, hF_89⟩ := bnd_e hF_87
          clear hF_87
          refine m_top ex_88 ?_
          obtain ⟨g_90, hF_91⟩ := nif_e hF_89
          clear hF_89
          obtain ⟨σ_92, eσ_92, hF_93⟩ := bnd_e hF_91
          clear hF_91
          refine va_bast (f := (nrB ((σ_84 11).2.1 4))) hx hb hK hP (hDD _) hS 1 0 rfl rfl g_90 dX8_hear_90 (fun H locs hP' _ hS => ?_)
          rw [nrB_upd] at hP'
          have hP : va_P (dC, dI) vwCl (b_e cB cC cI cJ cZ oA rA σ_92 ++ b_k cB cC cI cJ cZ oA rA σ_92 ++ b_p cB cC cI cJ cZ oA rA σ_92 ++ b_o cB cC cI cJ cZ oA rA σ_92 ++ b_s cB cC cI cJ cZ oA rA σ_92 ++ b_c cB cC cI cJ cZ oA rA σ_92 ++ b_t cB cC cI cJ cZ oA rA σ_92 ++ b_d cB cC cI cJ cZ oA rA σ_92) H := by rw [eσ_92]; exact cs_ekposctd_e_4 ▸ hP'
          clear hP'
          obtain ⟨x_94, ex_94, hF_95⟩ := bnd_e hF_93
          clear hF_93
          refine lv_iinc (v := x_94) (lv' := [(3, .int x_94), (0, .ref (oA 11)), (1, .ref (rA 9 6))]) hx hb dX8_hear_91 hl (k := 2) rfl (by rw [ex_94]; rfl) (by decide) rfl (fun ls hl => ?_)
          refine lv_goto (tgt := 20) hx hb dX8_hear_94 (by decide) ?_
          exact ih_9 (x_94, σ_92) hF_95 _ _ hP hS ls (lv_sub hl [1, 2, 0] rfl)
        obtain ⟨j_97, ej_97, hF_98⟩ := bnd_e hF_86
        clear hF_86
        have Jj_97 : ∀  (σ_96 : HS), j_97  σ_96 = some res → ∀ (H : Heap) (locs : List Loc), va_P (dC, dI) vwCl (b_e cB cC cI cJ cZ oA rA σ_96 ++ b_k cB cC cI cJ cZ oA rA σ_96 ++ b_p cB cC cI cJ cZ oA rA σ_96 ++ b_o cB cC cI cJ cZ oA rA σ_96 ++ b_s cB cC cI cJ cZ oA rA σ_96 ++ b_c cB cC cI cJ cZ oA rA σ_96 ++ b_t cB cC cI cJ cZ oA rA σ_96 ++ b_d cB cC cI cJ cZ oA rA σ_96) H → va_S A s.heap H locs → ∀ ls : Array Slot, lv_has ls 5 [(0, .ref (oA 11)), (1, .ref (rA 9 6)), (3, .int s_7.1), (4, .int x_81)] → W p l e (headSpec (g_ws yX8_hear cX8_hear 5 none) { frames := 4, cells := 0, slots := 0, locals := 105 }).room s m ([.ref (oA 11), .ref (rA 9 6), .int p1] : List Value).toArray below meth c H locs 0 0 (MQ below (va_Qv (fun (_ : Unit) => True) (g_Bo (dC, dI) A (fun (_ : Unit) => (b_e cB cC cI cJ cZ oA rA res.2 ++ b_k cB cC cI cJ cZ oA rA res.2 ++ b_p cB cC cI cJ cZ oA rA res.2 ++ b_o cB cC cI cJ cZ oA rA res.2 ++ b_s cB cC cI cJ cZ oA rA res.2 ++ b_c cB cC cI cJ cZ oA rA res.2 ++ b_t cB cC cI cJ cZ oA rA res.2 ++ b_d cB cC cI cJ cZ oA rA res.2))) A) ([.ref (oA 11), .ref (rA 9 6), .int p1] : List Value).toArray s 0 0 A) (F0 m 75 ls [.int s_7.1, .ref (rA 11 4)]) := by
          intro  σ_96 hF0 H locs hP hS ls hl
          subst ej_97
          have hF_99 := hF0
          clear hF0
          refine lv_iload hx hb dX8_hear_75 (lv_at hl 3 rfl) ?_
          refine lv_bipush (v := 10) hx hb dX8_hear_77 (by decide +kernel) ?_
          refine lv_icmp_ne (tgt := 87) hx hb dX8_hear_79 (by decide) (fun c_100 => ?_) (fun c_100 => ?_)
          · have hF_102 := ineg c_100 hF_99
            clear hF_99
            refine lv_iload hx hb dX8_hear_87 (lv_at hl 3 rfl) ?_
            exact Jj_85 x_81 σ_96 hF_102 _ _ hP hS ls (lv_sub hl [0, 1, 2] rfl)
          · have hF_101 := ipos c_100 hF_99
            clear hF_99
            refine lv_bipush (v := 32) hx hb dX8_hear_82 (by decide +kernel) ?_
            refine lv_goto (tgt := 89) hx hb dX8_hear_84 (by decide) ?_
            exact Jj_85 32 σ_96 hF_101 _ _ hP hS ls (lv_sub hl [0, 1, 2] rfl)
        refine lv_icmp_lt (tgt := 75) hx hb dX8_hear_57 (by decide) (fun c_103 => ?_) (fun c_103 => ?_)
        · have hF_104 := ipos c_103 hF_98
          clear hF_98
          exact Jj_97  s_7.2 hF_104 _ _ hP hS ls (lv_sub hl [1, 2, 3, 0] rfl)
        · have hF_105 := ineg c_103 hF_98
          clear hF_98
          refine lv_iload hx hb dX8_hear_60 (lv_at hl 0 rfl) ?_
          refine lv_bipush (v := 90) hx hb dX8_hear_62 (by decide +kernel) ?_
          refine lv_icmp_gt (tgt := 75) hx hb dX8_hear_64 (by decide) (fun c_106 => ?_) (fun c_106 => ?_)
          · have hF_107 := ipos c_106 hF_105
            clear hF_105
            exact Jj_97  s_7.2 hF_107 _ _ hP hS ls (lv_sub hl [1, 2, 3, 0] rfl)
          · have hF_108 := ineg c_106 hF_105
            clear hF_105
            refine lv_iload hx hb dX8_hear_67 (lv_at hl 0 rfl) ?_
            refine lv_bipush (v := 32) hx hb dX8_hear_69 (by decide +kernel) ?_
            refine lv_iadd hx hb dX8_hear_71 ?_
            refine lv_goto (tgt := 89) hx hb dX8_hear_72 (by decide) ?_
            exact Jj_85 (x_81 + 32) s_7.2 hF_108 _ _ hP hS ls (lv_sub hl [1, 2, 3] rfl)
theorem dX8_refuse_0 : decode cX8_refuse 0 = .ok (.aload_n 0, 1) := by decide +kernel
theorem dX8_refuse_1 : decode cX8_refuse 1 = .ok (.getfield 26, 3) := by decide +kernel
theorem dX8_refuse_4 : decode cX8_refuse 4 = .ok (.aload_n 1, 1) := by decide +kernel
theorem dX8_refuse_5 : decode cX8_refuse 5 = .ok (.invokevirtual 65, 3) := by decide +kernel
theorem dX8_refuse_8 : decode cX8_refuse 8 = .ok (.iconst 0, 1) := by decide +kernel
theorem dX8_refuse_9 : decode cX8_refuse 9 = .ok (.ireturn, 1) := by decide +kernel
def F_X8_refuse (b0 : List Int32) (Γ : HS) : HR :=
  (F_X5_line b0 Γ).bind fun u_1 =>
  bnd (mrg (fun j => j == 8) Γ u_1.2) fun σ_3 =>
  some (0, σ_3)
set_option maxHeartbeats 4000000 in
set_option maxRecDepth 100000 in
theorem k_X8_refuse (l : Launch) (dC : Nat → ClassId) (dI : Nat → Nat → Nat) (cB cC cI cJ cZ cP : ClassId) (oA : Nat → Nat) (rA : Nat → Nat → Nat) (sz : Nat) (q0 vq0 : Nat) (b0 : List Int32) (Γ : HS) (res : Int32 × HS) (hF : F_X8_refuse b0 Γ = some res) : Met l yX8_refuse (g_ws yX8_refuse cX8_refuse 2 (some .boolean)) ({ frames := 7, cells := 0, slots := 0, locals := 168 }) (va_Pc [.ref (oA 11), .ref q0] (g_B (dC, dI) [(cB, .byte), (cC, .char), (cI, .int), (cJ, .long), (cZ, .boolean), (cP, .object "StoryHouse$Play")] sz (b_e cB cC cI cJ cZ oA rA Γ ++ b_k cB cC cI cJ cZ oA rA Γ ++ b_p cB cC cI cJ cZ oA rA Γ ++ b_o cB cC cI cJ cZ oA rA Γ ++ b_s cB cC cI cJ cZ oA rA Γ ++ b_c cB cC cI cJ cZ oA rA Γ ++ b_t cB cC cI cJ cZ oA rA Γ ++ b_d cB cC cI cJ cZ oA rA Γ) (fun U : State => g_S q0 vq0 b0 (va_A (b_e cB cC cI cJ cZ oA rA Γ ++ b_k cB cC cI cJ cZ oA rA Γ ++ b_p cB cC cI cJ cZ oA rA Γ ++ b_o cB cC cI cJ cZ oA rA Γ ++ b_s cB cC cI cJ cZ oA rA Γ ++ b_c cB cC cI cJ cZ oA rA Γ ++ b_t cB cC cI cJ cZ oA rA Γ ++ b_d cB cC cI cJ cZ oA rA Γ) sz) U U.heap))) (va_Qi (fun r (_ : Unit) => r = res.1) (g_Bo (dC, dI) (va_A (b_e cB cC cI cJ cZ oA rA Γ ++ b_k cB cC cI cJ cZ oA rA Γ ++ b_p cB cC cI cJ cZ oA rA Γ ++ b_o cB cC cI cJ cZ oA rA Γ ++ b_s cB cC cI cJ cZ oA rA Γ ++ b_c cB cC cI cJ cZ oA rA Γ ++ b_t cB cC cI cJ cZ oA rA Γ ++ b_d cB cC cI cJ cZ oA rA Γ) sz) (fun (_ : Unit) => (b_e cB cC cI cJ cZ oA rA res.2 ++ b_k cB cC cI cJ cZ oA rA res.2 ++ b_p cB cC cI cJ cZ oA rA res.2 ++ b_o cB cC cI cJ cZ oA rA res.2 ++ b_s cB cC cI cJ cZ oA rA res.2 ++ b_c cB cC cI cJ cZ oA rA res.2 ++ b_t cB cC cI cJ cZ oA rA res.2 ++ b_d cB cC cI cJ cZ oA rA res.2))) (va_A (b_e cB cC cI cJ cZ oA rA Γ ++ b_k cB cC cI cJ cZ oA rA Γ ++ b_p cB cC cI cJ cZ oA rA Γ ++ b_o cB cC cI cJ cZ oA rA Γ ++ b_s cB cC cI cJ cZ oA rA Γ ++ b_c cB cC cI cJ cZ oA rA Γ ++ b_t cB cC cI cJ cZ oA rA Γ ++ b_d cB cC cI cJ cZ oA rA Γ) sz)) 0 0 (va_A (b_e cB cC cI cJ cZ oA rA Γ ++ b_k cB cC cI cJ cZ oA rA Γ ++ b_p cB cC cI cJ cZ oA rA Γ ++ b_o cB cC cI cJ cZ oA rA Γ ++ b_s cB cC cI cJ cZ oA rA Γ ++ b_c cB cC cI cJ cZ oA rA Γ ++ b_t cB cC cI cJ cZ oA rA Γ ++ b_d cB cC cI cJ cZ oA rA Γ) sz) := by
  refine Met.ofW (cc := cX8_refuse) (maxL := 2) (ret := (some .boolean)) (by decide) rfl ?_
  intro p e s m args below meth c s₁ B hml hv
  obtain ⟨rfl, hsz, hP, hK, hD0, hE, hX⟩ := hv
  have hx := B.exec
  have hb := B.bytes
  have hr := B.returns
  have hts0 := atoms_spec (ws := g_ws yX8_refuse cX8_refuse 2 (some .boolean)) B.pre
  have hts : ∀ w ∈ lw_good, w.before ([.ref (oA 11), .ref q0] : List Value).toArray s = true := fun w z => hts0 w (List.mem_cons_of_mem _ z)
  have hown : s.vm.findClass RX8 = some m.cls := findClass_of_methodNamed B.named
  have hlocks := B.notSynchronized
  subst hsz
  have hD1 := hD0.self (sz := s.heap.size)
  generalize hAe : va_A (b_e cB cC cI cJ cZ oA rA Γ ++ b_k cB cC cI cJ cZ oA rA Γ ++ b_p cB cC cI cJ cZ oA rA Γ ++ b_o cB cC cI cJ cZ oA rA Γ ++ b_s cB cC cI cJ cZ oA rA Γ ++ b_c cB cC cI cJ cZ oA rA Γ ++ b_t cB cC cI cJ cZ oA rA Γ ++ b_d cB cC cI cJ cZ oA rA Γ) s.heap.size = A at hD1 hE hX ⊢
  have hA : ∀ q : Nat, s.heap.size ≤ q → A q := fun q z => by rw [← hAe]; exact Or.inr z
  have hDD : ∀ Γ : HS, va_D A (b_e cB cC cI cJ cZ oA rA Γ ++ b_k cB cC cI cJ cZ oA rA Γ ++ b_p cB cC cI cJ cZ oA rA Γ ++ b_o cB cC cI cJ cZ oA rA Γ ++ b_s cB cC cI cJ cZ oA rA Γ ++ b_c cB cC cI cJ cZ oA rA Γ ++ b_t cB cC cI cJ cZ oA rA Γ ++ b_d cB cC cI cJ cZ oA rA Γ) := fun Γ9 => va_D_fst (ws := (b_e cB cC cI cJ cZ oA rA Γ ++ b_k cB cC cI cJ cZ oA rA Γ ++ b_p cB cC cI cJ cZ oA rA Γ ++ b_o cB cC cI cJ cZ oA rA Γ ++ b_s cB cC cI cJ cZ oA rA Γ ++ b_c cB cC cI cJ cZ oA rA Γ ++ b_t cB cC cI cJ cZ oA rA Γ ++ b_d cB cC cI cJ cZ oA rA Γ)) (ws' := (b_e cB cC cI cJ cZ oA rA Γ9 ++ b_k cB cC cI cJ cZ oA rA Γ9 ++ b_p cB cC cI cJ cZ oA rA Γ9 ++ b_o cB cC cI cJ cZ oA rA Γ9 ++ b_s cB cC cI cJ cZ oA rA Γ9 ++ b_c cB cC cI cJ cZ oA rA Γ9 ++ b_t cB cC cI cJ cZ oA rA Γ9 ++ b_d cB cC cI cJ cZ oA rA Γ9)) rfl hD1
  have hN := hE.1
  have hStr_q0 := hX
  have hS : va_S A s.heap s.heap [] := va_S.rf
  have hl := lv_entry ([.ref (oA 11), .ref q0]) (n := 2) (Nat.le_of_ble_eq_true rfl)
  rw [lg_entry_eq]
  generalize (lg_sl ([.ref (oA 11), .ref q0]) ++ List.replicate (2 - (lg_sl ([.ref (oA 11), .ref q0])).length) Slot.unset).toArray = ls at hl ⊢
  have hl : lv_has ls 2 [(0, .ref (oA 11)), (1, .ref q0)] := hl
  unfold F_X8_refuse at hF
  refine lv_aload_n hx hb dX8_refuse_0 rfl (lv_at hl 0 rfl) ?_
  refine va_get (D := (dC, dI)) (ci := 8) (v := .ref (oA 8)) (C := RX8) (T := TX8) (N := 16) hx hb hts ii_X8 hown hK hP 0 rfl rfl 1 (by decide) (hts (.fieldLink RX8 26 "StoryHouse$Teller" "told" "LStoryHouse$Out;") wq_287) (fun _ h9 => h9) rfl dX8_refuse_1 ?_
  refine lv_aload_n hx hb dX8_refuse_4 rfl (lv_at hl 1 rfl) ?_
  obtain ⟨u_1, hu_1, hF_2⟩ := Option.bind_eq_some_iff.mp hF
  clear hF
  have hPc := bx_P (bs := [b_e cB cC cI cJ cZ oA rA Γ, b_k cB cC cI cJ cZ oA rA Γ, b_p cB cC cI cJ cZ oA rA Γ, b_o cB cC cI cJ cZ oA rA Γ, b_s cB cC cI cJ cZ oA rA Γ, b_c cB cC cI cJ cZ oA rA Γ, b_t cB cC cI cJ cZ oA rA Γ, b_d cB cC cI cJ cZ oA rA Γ]) (bs' := [b_o cB cC cI cJ cZ oA rA Γ]) (ws' := (b_o cB cC cI cJ cZ oA rA Γ)) hP fl_8 fl_1 [3] rfl
  have hDc := bx_D (bs := [b_e cB cC cI cJ cZ oA rA Γ, b_k cB cC cI cJ cZ oA rA Γ, b_p cB cC cI cJ cZ oA rA Γ, b_o cB cC cI cJ cZ oA rA Γ, b_s cB cC cI cJ cZ oA rA Γ, b_c cB cC cI cJ cZ oA rA Γ, b_t cB cC cI cJ cZ oA rA Γ, b_d cB cC cI cJ cZ oA rA Γ]) (bs' := [b_o cB cC cI cJ cZ oA rA Γ]) (ws' := (b_o cB cC cI cJ cZ oA rA Γ)) (hDD Γ) fl_8 fl_1 [3] (by decide +kernel) rfl
  have hFc := bx_F (bs := [b_e cB cC cI cJ cZ oA rA Γ, b_k cB cC cI cJ cZ oA rA Γ, b_p cB cC cI cJ cZ oA rA Γ, b_o cB cC cI cJ cZ oA rA Γ, b_s cB cC cI cJ cZ oA rA Γ, b_c cB cC cI cJ cZ oA rA Γ, b_t cB cC cI cJ cZ oA rA Γ, b_d cB cC cI cJ cZ oA rA Γ]) (bs' := [b_o cB cC cI cJ cZ oA rA Γ]) (wc := (b_o cB cC cI cJ cZ oA rA Γ)) (hDD Γ) hS hA fl_8 fl_1 [3] rfl
  refine g_ofv (wc := (b_o cB cC cI cJ cZ oA rA Γ)) (wr := (b_e cB cC cI cJ cZ oA rA Γ ++ b_k cB cC cI cJ cZ oA rA Γ ++ b_p cB cC cI cJ cZ oA rA Γ ++ b_s cB cC cI cJ cZ oA rA Γ ++ b_c cB cC cI cJ cZ oA rA Γ ++ b_t cB cC cI cJ cZ oA rA Γ ++ b_d cB cC cI cJ cZ oA rA Γ)) hP (hDD Γ) hS hFc (bx_ix [b_e cB cC cI cJ cZ oA rA Γ, b_k cB cC cI cJ cZ oA rA Γ, b_p cB cC cI cJ cZ oA rA Γ, b_o cB cC cI cJ cZ oA rA Γ, b_s cB cC cI cJ cZ oA rA Γ, b_c cB cC cI cJ cZ oA rA Γ, b_t cB cC cI cJ cZ oA rA Γ, b_d cB cC cI cJ cZ oA rA Γ] [3]) (bx_ix [b_e cB cC cI cJ cZ oA rA Γ, b_k cB cC cI cJ cZ oA rA Γ, b_p cB cC cI cJ cZ oA rA Γ, b_o cB cC cI cJ cZ oA rA Γ, b_s cB cC cI cJ cZ oA rA Γ, b_c cB cC cI cJ cZ oA rA Γ, b_t cB cC cI cJ cZ oA rA Γ, b_d cB cC cI cJ cZ oA rA Γ] [0, 1, 2, 4, 5, 6, 7]) (bx_C (bs := [b_e cB cC cI cJ cZ oA rA Γ, b_k cB cC cI cJ cZ oA rA Γ, b_p cB cC cI cJ cZ oA rA Γ, b_o cB cC cI cJ cZ oA rA Γ, b_s cB cC cI cJ cZ oA rA Γ, b_c cB cC cI cJ cZ oA rA Γ, b_t cB cC cI cJ cZ oA rA Γ, b_d cB cC cI cJ cZ oA rA Γ]) (bs' := [b_o cB cC cI cJ cZ oA rA Γ]) (is := [3]) fl_8 fl_1 rfl) (bx_C (bs := [b_e cB cC cI cJ cZ oA rA Γ, b_k cB cC cI cJ cZ oA rA Γ, b_p cB cC cI cJ cZ oA rA Γ, b_o cB cC cI cJ cZ oA rA Γ, b_s cB cC cI cJ cZ oA rA Γ, b_c cB cC cI cJ cZ oA rA Γ, b_t cB cC cI cJ cZ oA rA Γ, b_d cB cC cI cJ cZ oA rA Γ]) (bs' := [b_e cB cC cI cJ cZ oA rA Γ, b_k cB cC cI cJ cZ oA rA Γ, b_p cB cC cI cJ cZ oA rA Γ, b_s cB cC cI cJ cZ oA rA Γ, b_c cB cC cI cJ cZ oA rA Γ, b_t cB cC cI cJ cZ oA rA Γ, b_d cB cC cI cJ cZ oA rA Γ]) (is := [0, 1, 2, 4, 5, 6, 7]) fl_8 fl_7 rfl) (bx_n (by decide +kernel)) (bx_d (by decide +kernel)) (va_runV (As := [.ref q0]) (rest := []) ⟨hx, hb, hml, hown, hts⟩ (k_X5_line l dC dI cB cC cI cJ cZ cP oA rA s.heap.size q0 _ b0 Γ _ hu_1) (cwV 1 hts (g_gV wq_998 wq_999 wq_1000 wq_9 wq_1001) rfl rfl rfl (by decide +kernel) ⟨Nat.le_of_ble_eq_true rfl, Nat.le_of_ble_eq_true rfl⟩) (g_preV g_blS hK hPc hDc hS hE hFc (g_toS hStr_q0 hS hFc) (q0 := 0) (ci := 5) rfl rfl) rfl rfl hl.1 rfl (lv_room (Nat.le_of_ble_eq_true rfl)) dX8_refuse_5 ⟨Nat.le_of_ble_eq_true rfl, Nat.le_of_ble_eq_true rfl⟩) (fun u9 H locs hw9 hP' hD' hS => ?_)
  clear hPc hDc hFc
  obtain ⟨σ_3, eσ_3, hF_4⟩ := bnd_e hF_2
  clear hF_2
  have hP : va_P (dC, dI) vwCl (b_e cB cC cI cJ cZ oA rA σ_3 ++ b_k cB cC cI cJ cZ oA rA σ_3 ++ b_p cB cC cI cJ cZ oA rA σ_3 ++ b_o cB cC cI cJ cZ oA rA σ_3 ++ b_s cB cC cI cJ cZ oA rA σ_3 ++ b_c cB cC cI cJ cZ oA rA σ_3 ++ b_t cB cC cI cJ cZ oA rA σ_3 ++ b_d cB cC cI cJ cZ oA rA σ_3) H := by rw [eσ_3]; exact bx_P (bs := [b_e cB cC cI cJ cZ oA rA Γ, b_k cB cC cI cJ cZ oA rA Γ, b_p cB cC cI cJ cZ oA rA Γ, b_s cB cC cI cJ cZ oA rA Γ, b_c cB cC cI cJ cZ oA rA Γ, b_t cB cC cI cJ cZ oA rA Γ, b_d cB cC cI cJ cZ oA rA Γ] ++ [b_o cB cC cI cJ cZ oA rA u_1.2]) (bs' := [b_e cB cC cI cJ cZ oA rA (mrg (fun j => j == 8) Γ u_1.2), b_k cB cC cI cJ cZ oA rA (mrg (fun j => j == 8) Γ u_1.2), b_p cB cC cI cJ cZ oA rA (mrg (fun j => j == 8) Γ u_1.2), b_o cB cC cI cJ cZ oA rA (mrg (fun j => j == 8) Γ u_1.2), b_s cB cC cI cJ cZ oA rA (mrg (fun j => j == 8) Γ u_1.2), b_c cB cC cI cJ cZ oA rA (mrg (fun j => j == 8) Γ u_1.2), b_t cB cC cI cJ cZ oA rA (mrg (fun j => j == 8) Γ u_1.2), b_d cB cC cI cJ cZ oA rA (mrg (fun j => j == 8) Γ u_1.2)]) hP' (fl_a fl_7 fl_1) fl_8 [0, 1, 2, 7, 3, 4, 5, 6] rfl
  clear hP' hD'
  refine lv_iconst (v := 0) hx hb dX8_refuse_8 (by decide +kernel) ?_
  have h9 := Option.some.inj hF_4
  subst h9
  exact W.zret (v := 0) hx hb hr (by decide +kernel) (fun t ht hW => ⟨⟨0, (), rfl, rfl, m_end ht hP, hDD _⟩, hS.F ht⟩) hS.2.2 dX8_refuse_9
