/-! methods of the class: what each does is its function -/
theorem dX4_nameInBody_0 : decode cX4_nameInBody 0 = .ok (.aload_n 0, 1) := by decide +kernel
theorem dX4_nameInBody_1 : decode cX4_nameInBody 1 = .ok (.getfield 32, 3) := by decide +kernel
theorem dX4_nameInBody_4 : decode cX4_nameInBody 4 = .ok (.iload_n 1, 1) := by decide +kernel
theorem dX4_nameInBody_5 : decode cX4_nameInBody 5 = .ok (.iconst 1, 1) := by decide +kernel
theorem dX4_nameInBody_6 : decode cX4_nameInBody 6 = .ok (.isub, 1) := by decide +kernel
theorem dX4_nameInBody_7 : decode cX4_nameInBody 7 = .ok (.invokevirtual 116, 3) := by decide +kernel
theorem dX4_nameInBody_10 : decode cX4_nameInBody 10 = .ok (.sipush 242, 3) := by decide +kernel
theorem dX4_nameInBody_13 : decode cX4_nameInBody 13 = .ok (.if_icmp .ne 23, 3) := by decide +kernel
theorem dX4_nameInBody_16 : decode cX4_nameInBody 16 = .ok (.aload_n 0, 1) := by decide +kernel
theorem dX4_nameInBody_17 : decode cX4_nameInBody 17 = .ok (.getfield 32, 3) := by decide +kernel
theorem dX4_nameInBody_20 : decode cX4_nameInBody 20 = .ok (.getfield 269, 3) := by decide +kernel
theorem dX4_nameInBody_23 : decode cX4_nameInBody 23 = .ok (.iload_n 1, 1) := by decide +kernel
theorem dX4_nameInBody_24 : decode cX4_nameInBody 24 = .ok (.ldc_w 272, 3) := by decide +kernel
theorem dX4_nameInBody_27 : decode cX4_nameInBody 27 = .ok (.aload_n 0, 1) := by decide +kernel
theorem dX4_nameInBody_28 : decode cX4_nameInBody 28 = .ok (.getfield 129, 3) := by decide +kernel
theorem dX4_nameInBody_31 : decode cX4_nameInBody 31 = .ok (.ior, 1) := by decide +kernel
theorem dX4_nameInBody_32 : decode cX4_nameInBody 32 = .ok (.invokestatic 112, 3) := by decide +kernel
theorem dX4_nameInBody_35 : decode cX4_nameInBody 35 = .ok (.return_, 1) := by decide +kernel
theorem dX4_nameInBody_36 : decode cX4_nameInBody 36 = .ok (.aload_n 0, 1) := by decide +kernel
theorem dX4_nameInBody_37 : decode cX4_nameInBody 37 = .ok (.iload_n 1, 1) := by decide +kernel
theorem dX4_nameInBody_38 : decode cX4_nameInBody 38 = .ok (.invokevirtual 221, 3) := by decide +kernel
theorem dX4_nameInBody_41 : decode cX4_nameInBody 41 = .ok (.istore_n 2, 1) := by decide +kernel
theorem dX4_nameInBody_42 : decode cX4_nameInBody 42 = .ok (.aload_n 0, 1) := by decide +kernel
theorem dX4_nameInBody_43 : decode cX4_nameInBody 43 = .ok (.iload_n 1, 1) := by decide +kernel
theorem dX4_nameInBody_44 : decode cX4_nameInBody 44 = .ok (.invokevirtual 193, 3) := by decide +kernel
theorem dX4_nameInBody_47 : decode cX4_nameInBody 47 = .ok (.istore_n 3, 1) := by decide +kernel
theorem dX4_nameInBody_48 : decode cX4_nameInBody 48 = .ok (.aload_n 0, 1) := by decide +kernel
theorem dX4_nameInBody_49 : decode cX4_nameInBody 49 = .ok (.getfield 32, 3) := by decide +kernel
theorem dX4_nameInBody_52 : decode cX4_nameInBody 52 = .ok (.iload_n 1, 1) := by decide +kernel
theorem dX4_nameInBody_53 : decode cX4_nameInBody 53 = .ok (.iconst 1, 1) := by decide +kernel
theorem dX4_nameInBody_54 : decode cX4_nameInBody 54 = .ok (.iadd, 1) := by decide +kernel
theorem dX4_nameInBody_55 : decode cX4_nameInBody 55 = .ok (.invokevirtual 116, 3) := by decide +kernel
theorem dX4_nameInBody_58 : decode cX4_nameInBody 58 = .ok (.lookupswitch 114 #[(40, 34), (61, 93), (91, 78)], 34) := by decide +kernel
theorem dX4_nameInBody_92 : decode cX4_nameInBody 92 = .ok (.iload_n 2, 1) := by decide +kernel
theorem dX4_nameInBody_93 : decode cX4_nameInBody 93 = .ok (.bipush 6, 2) := by decide +kernel
theorem dX4_nameInBody_95 : decode cX4_nameInBody 95 = .ok (.if_icmp .ne 35, 3) := by decide +kernel
theorem dX4_nameInBody_98 : decode cX4_nameInBody 98 = .ok (.aload_n 0, 1) := by decide +kernel
theorem dX4_nameInBody_99 : decode cX4_nameInBody 99 = .ok (.getfield 32, 3) := by decide +kernel
theorem dX4_nameInBody_102 : decode cX4_nameInBody 102 = .ok (.getfield 181, 3) := by decide +kernel
theorem dX4_nameInBody_105 : decode cX4_nameInBody 105 = .ok (.iload_n 1, 1) := by decide +kernel
theorem dX4_nameInBody_106 : decode cX4_nameInBody 106 = .ok (.invokestatic 122, 3) := by decide +kernel
theorem dX4_nameInBody_109 : decode cX4_nameInBody 109 = .ok (.aload_n 0, 1) := by decide +kernel
theorem dX4_nameInBody_110 : decode cX4_nameInBody 110 = .ok (.getfield 36, 3) := by decide +kernel
theorem dX4_nameInBody_113 : decode cX4_nameInBody 113 = .ok (.getfield 273, 3) := by decide +kernel
theorem dX4_nameInBody_116 : decode cX4_nameInBody 116 = .ok (.getfield 277, 3) := by decide +kernel
theorem dX4_nameInBody_119 : decode cX4_nameInBody 119 = .ok (.iload_n 3, 1) := by decide +kernel
theorem dX4_nameInBody_120 : decode cX4_nameInBody 120 = .ok (.invokestatic 122, 3) := by decide +kernel
theorem dX4_nameInBody_123 : decode cX4_nameInBody 123 = .ok (.if_icmp .ne 7, 3) := by decide +kernel
theorem dX4_nameInBody_126 : decode cX4_nameInBody 126 = .ok (.iconst 1, 1) := by decide +kernel
theorem dX4_nameInBody_127 : decode cX4_nameInBody 127 = .ok (.goto 4, 3) := by decide +kernel
theorem dX4_nameInBody_130 : decode cX4_nameInBody 130 = .ok (.iconst 0, 1) := by decide +kernel
theorem dX4_nameInBody_131 : decode cX4_nameInBody 131 = .ok (.istore 4, 2) := by decide +kernel
theorem dX4_nameInBody_133 : decode cX4_nameInBody 133 = .ok (.goto 67, 3) := by decide +kernel
theorem dX4_nameInBody_136 : decode cX4_nameInBody 136 = .ok (.iload_n 2, 1) := by decide +kernel
theorem dX4_nameInBody_137 : decode cX4_nameInBody 137 = .ok (.iconst 5, 1) := by decide +kernel
theorem dX4_nameInBody_138 : decode cX4_nameInBody 138 = .ok (.if_icmp .ne 7, 3) := by decide +kernel
theorem dX4_nameInBody_141 : decode cX4_nameInBody 141 = .ok (.iconst 1, 1) := by decide +kernel
theorem dX4_nameInBody_142 : decode cX4_nameInBody 142 = .ok (.goto 4, 3) := by decide +kernel
theorem dX4_nameInBody_145 : decode cX4_nameInBody 145 = .ok (.iconst 0, 1) := by decide +kernel
theorem dX4_nameInBody_146 : decode cX4_nameInBody 146 = .ok (.istore 4, 2) := by decide +kernel
theorem dX4_nameInBody_148 : decode cX4_nameInBody 148 = .ok (.goto 52, 3) := by decide +kernel
theorem dX4_nameInBody_151 : decode cX4_nameInBody 151 = .ok (.iload_n 2, 1) := by decide +kernel
theorem dX4_nameInBody_152 : decode cX4_nameInBody 152 = .ok (.iconst 4, 1) := by decide +kernel
theorem dX4_nameInBody_153 : decode cX4_nameInBody 153 = .ok (.if_icmp .eq 9, 3) := by decide +kernel
theorem dX4_nameInBody_156 : decode cX4_nameInBody 156 = .ok (.iload_n 2, 1) := by decide +kernel
theorem dX4_nameInBody_157 : decode cX4_nameInBody 157 = .ok (.bipush 7, 2) := by decide +kernel
theorem dX4_nameInBody_159 : decode cX4_nameInBody 159 = .ok (.if_icmp .ne 7, 3) := by decide +kernel
theorem dX4_nameInBody_162 : decode cX4_nameInBody 162 = .ok (.iconst 1, 1) := by decide +kernel
theorem dX4_nameInBody_163 : decode cX4_nameInBody 163 = .ok (.goto 4, 3) := by decide +kernel
theorem dX4_nameInBody_166 : decode cX4_nameInBody 166 = .ok (.iconst 0, 1) := by decide +kernel
theorem dX4_nameInBody_167 : decode cX4_nameInBody 167 = .ok (.istore 4, 2) := by decide +kernel
theorem dX4_nameInBody_169 : decode cX4_nameInBody 169 = .ok (.goto 31, 3) := by decide +kernel
theorem dX4_nameInBody_172 : decode cX4_nameInBody 172 = .ok (.iload_n 2, 1) := by decide +kernel
theorem dX4_nameInBody_173 : decode cX4_nameInBody 173 = .ok (.iconst 1, 1) := by decide +kernel
theorem dX4_nameInBody_174 : decode cX4_nameInBody 174 = .ok (.if_icmp .eq 19, 3) := by decide +kernel
theorem dX4_nameInBody_177 : decode cX4_nameInBody 177 = .ok (.iload_n 2, 1) := by decide +kernel
theorem dX4_nameInBody_178 : decode cX4_nameInBody 178 = .ok (.iconst 2, 1) := by decide +kernel
theorem dX4_nameInBody_179 : decode cX4_nameInBody 179 = .ok (.if_icmp .eq 14, 3) := by decide +kernel
theorem dX4_nameInBody_182 : decode cX4_nameInBody 182 = .ok (.iload_n 2, 1) := by decide +kernel
theorem dX4_nameInBody_183 : decode cX4_nameInBody 183 = .ok (.iconst 4, 1) := by decide +kernel
theorem dX4_nameInBody_184 : decode cX4_nameInBody 184 = .ok (.if_icmp .eq 9, 3) := by decide +kernel
theorem dX4_nameInBody_187 : decode cX4_nameInBody 187 = .ok (.iload_n 2, 1) := by decide +kernel
theorem dX4_nameInBody_188 : decode cX4_nameInBody 188 = .ok (.bipush 7, 2) := by decide +kernel
theorem dX4_nameInBody_190 : decode cX4_nameInBody 190 = .ok (.if_icmp .ne 7, 3) := by decide +kernel
theorem dX4_nameInBody_193 : decode cX4_nameInBody 193 = .ok (.iconst 1, 1) := by decide +kernel
theorem dX4_nameInBody_194 : decode cX4_nameInBody 194 = .ok (.goto 4, 3) := by decide +kernel
theorem dX4_nameInBody_197 : decode cX4_nameInBody 197 = .ok (.iconst 0, 1) := by decide +kernel
theorem dX4_nameInBody_198 : decode cX4_nameInBody 198 = .ok (.istore 4, 2) := by decide +kernel
theorem dX4_nameInBody_200 : decode cX4_nameInBody 200 = .ok (.iload 4, 2) := by decide +kernel
theorem dX4_nameInBody_202 : decode cX4_nameInBody 202 = .ok (.ifCond .ne 9, 3) := by decide +kernel
theorem dX4_nameInBody_205 : decode cX4_nameInBody 205 = .ok (.aload_n 0, 1) := by decide +kernel
theorem dX4_nameInBody_206 : decode cX4_nameInBody 206 = .ok (.iconst 3, 1) := by decide +kernel
theorem dX4_nameInBody_207 : decode cX4_nameInBody 207 = .ok (.iload_n 1, 1) := by decide +kernel
theorem dX4_nameInBody_208 : decode cX4_nameInBody 208 = .ok (.invokevirtual 84, 3) := by decide +kernel
theorem dX4_nameInBody_211 : decode cX4_nameInBody 211 = .ok (.aload_n 0, 1) := by decide +kernel
theorem dX4_nameInBody_212 : decode cX4_nameInBody 212 = .ok (.getfield 32, 3) := by decide +kernel
theorem dX4_nameInBody_215 : decode cX4_nameInBody 215 = .ok (.getfield 269, 3) := by decide +kernel
theorem dX4_nameInBody_218 : decode cX4_nameInBody 218 = .ok (.iload_n 1, 1) := by decide +kernel
theorem dX4_nameInBody_219 : decode cX4_nameInBody 219 = .ok (.iload_n 2, 1) := by decide +kernel
theorem dX4_nameInBody_220 : decode cX4_nameInBody 220 = .ok (.bipush 16, 2) := by decide +kernel
theorem dX4_nameInBody_222 : decode cX4_nameInBody 222 = .ok (.ishl, 1) := by decide +kernel
theorem dX4_nameInBody_223 : decode cX4_nameInBody 223 = .ok (.iload_n 3, 1) := by decide +kernel
theorem dX4_nameInBody_224 : decode cX4_nameInBody 224 = .ok (.ior, 1) := by decide +kernel
theorem dX4_nameInBody_225 : decode cX4_nameInBody 225 = .ok (.invokestatic 112, 3) := by decide +kernel
theorem dX4_nameInBody_228 : decode cX4_nameInBody 228 = .ok (.return_, 1) := by decide +kernel
def F_X4_nameInBody (p0 : Int32) (Γ : HS) : HR :=
  (F_X10_kindOf (p0 - 1) Γ).bind fun u_1 =>
  bnd (mrg (fun j => j == 1) Γ u_1.2) fun σ_3 =>
  if u_1.1 = 242 then (
    bnd ((458752 ||| ((σ_3 3).1 8))) fun (x_7 : Int32) =>
    bnd (cA' σ_3 1 7 (g_put 16001 ((σ_3 1).2.1 7) p0 x_7)) fun σ_9 =>
    some (0, σ_9)
  ) else (
    (F_X4_sortOf p0 σ_3).bind fun u_12 =>
    (F_X4_numberOf p0 u_12.2).bind fun u_14 =>
    (F_X10_kindOf (p0 + 1) u_14.2).bind fun u_16 =>
    bnd (mrg (fun j => j == 1) u_14.2 u_16.2) fun σ_18 =>
    bnd (fun (v4_20 : Int32) (σ_21 : HS) => (
      bnd (fun  (σ_25 : HS) => (
        bnd (((u_12.1 <<< (16 &&& 31)) ||| u_14.1)) fun (x_29 : Int32) =>
        bnd (cA' σ_25 1 7 (g_put 16001 ((σ_25 1).2.1 7) p0 x_29)) fun σ_31 =>
        some (0, σ_31)
      ) : HS → HR) fun j_26 =>
      if v4_20 = 0 then (
        (F_X4_fail 3 p0 σ_21).bind fun u_35 =>
        j_26  u_35.2
      ) else (
        j_26  σ_21
      )
    ) : Int32 → HS → HR) fun j_22 =>
    if u_16.1 = 40 then (
      bnd (fun (t_40 : Int32) (σ_41 : HS) => (
        j_22 t_40 σ_41
      ) : Int32 → HS → HR) fun j_42 =>
      bnd (fun  (σ_45 : HS) => (
        j_42 0 σ_45
      ) : HS → HR) fun j_46 =>
      if u_12.1 = 6 then (
        bnd ((g_at 16001 ((σ_18 1).2.1 6) p0)) fun (x_51 : Int32) =>
        bnd ((g_at 100 ((σ_18 5).2.1 4) u_14.1)) fun (x_53 : Int32) =>
        if x_51 = x_53 then (
          j_42 1 σ_18
        ) else (
          j_46  σ_18
        )
      ) else (
        j_46  σ_18
      )
    ) else
    if u_16.1 = 61 then (
      bnd (fun (t_62 : Int32) (σ_63 : HS) => (
        j_22 t_62 σ_63
      ) : Int32 → HS → HR) fun j_64 =>
      bnd (fun  (σ_67 : HS) => (
        j_64 1 σ_67
      ) : HS → HR) fun j_68 =>
      if u_12.1 = 4 then (
        j_68  σ_18
      ) else (
        if u_12.1 = 7 then (
          j_68  σ_18
        ) else (
          j_64 0 σ_18
        )
      )
    ) else
    if u_16.1 = 91 then (
      bnd (fun (t_80 : Int32) (σ_81 : HS) => (
        j_22 t_80 σ_81
      ) : Int32 → HS → HR) fun j_82 =>
      if u_12.1 = 5 then (
        j_82 1 σ_18
      ) else (
        j_82 0 σ_18
      )
    ) else
    (
      bnd (fun (t_89 : Int32) (σ_90 : HS) => (
        j_22 t_89 σ_90
      ) : Int32 → HS → HR) fun j_91 =>
      bnd (fun  (σ_94 : HS) => (
        j_91 1 σ_94
      ) : HS → HR) fun j_95 =>
      if u_12.1 = 1 then (
        j_95  σ_18
      ) else (
        if u_12.1 = 2 then (
          j_95  σ_18
        ) else (
          if u_12.1 = 4 then (
            j_95  σ_18
          ) else (
            if u_12.1 = 7 then (
              j_95  σ_18
            ) else (
              j_91 0 σ_18
            )
          )
        )
      )
    )
  )
set_option maxHeartbeats 4000000 in
set_option maxRecDepth 100000 in
theorem k_X4_nameInBody (l : Launch) (dC : Nat → ClassId) (dI : Nat → Nat → Nat) (cB cC cI cJ cZ cP : ClassId) (oA : Nat → Nat) (rA : Nat → Nat → Nat) (sz : Nat)  (p0 : Int32) (Γ : HS) (res : Int32 × HS) (hF : F_X4_nameInBody p0 Γ = some res) : Met l yX4_nameInBody (g_ws yX4_nameInBody cX4_nameInBody 5 none) ({ frames := 5, cells := 0, slots := 0, locals := 124 }) (va_Pc [.ref (oA 3), .int p0] (g_B (dC, dI) [(cB, .byte), (cC, .char), (cI, .int), (cJ, .long), (cZ, .boolean), (cP, .object "StoryHouse$Play")] sz (b_m cB cC cI cJ cZ oA rA Γ ++ b_w cB cC cI cJ cZ oA rA Γ ++ b_s cB cC cI cJ cZ oA rA Γ ++ b_c cB cC cI cJ cZ oA rA Γ ++ b_t cB cC cI cJ cZ oA rA Γ ++ b_d cB cC cI cJ cZ oA rA Γ) g_0)) (va_Qv (fun (_ : Unit) => True) (g_Bo (dC, dI) (va_A (b_m cB cC cI cJ cZ oA rA Γ ++ b_w cB cC cI cJ cZ oA rA Γ ++ b_s cB cC cI cJ cZ oA rA Γ ++ b_c cB cC cI cJ cZ oA rA Γ ++ b_t cB cC cI cJ cZ oA rA Γ ++ b_d cB cC cI cJ cZ oA rA Γ) sz) (fun (_ : Unit) => (b_m cB cC cI cJ cZ oA rA res.2 ++ b_w cB cC cI cJ cZ oA rA res.2 ++ b_s cB cC cI cJ cZ oA rA res.2 ++ b_c cB cC cI cJ cZ oA rA res.2 ++ b_t cB cC cI cJ cZ oA rA res.2 ++ b_d cB cC cI cJ cZ oA rA res.2))) (va_A (b_m cB cC cI cJ cZ oA rA Γ ++ b_w cB cC cI cJ cZ oA rA Γ ++ b_s cB cC cI cJ cZ oA rA Γ ++ b_c cB cC cI cJ cZ oA rA Γ ++ b_t cB cC cI cJ cZ oA rA Γ ++ b_d cB cC cI cJ cZ oA rA Γ) sz)) 0 0 (va_A (b_m cB cC cI cJ cZ oA rA Γ ++ b_w cB cC cI cJ cZ oA rA Γ ++ b_s cB cC cI cJ cZ oA rA Γ ++ b_c cB cC cI cJ cZ oA rA Γ ++ b_t cB cC cI cJ cZ oA rA Γ ++ b_d cB cC cI cJ cZ oA rA Γ) sz) := by
  refine Met.ofW (cc := cX4_nameInBody) (maxL := 5) (ret := none) (by decide) rfl ?_
  intro p e s m args below meth c s₁ B hml hv
  obtain ⟨rfl, hsz, hP, hK, hD0, hE, hX⟩ := hv
  have hx := B.exec
  have hb := B.bytes
  have hr := B.returns
  have hts0 := atoms_spec (ws := g_ws yX4_nameInBody cX4_nameInBody 5 none) B.pre
  have hts : ∀ w ∈ lw_good, w.before ([.ref (oA 3), .int p0] : List Value).toArray s = true := fun w z => hts0 w (List.mem_cons_of_mem _ z)
  have hown : s.vm.findClass RX4 = some m.cls := findClass_of_methodNamed B.named
  have hlocks := B.notSynchronized
  subst hsz
  have hD1 := hD0.self (sz := s.heap.size)
  generalize hAe : va_A (b_m cB cC cI cJ cZ oA rA Γ ++ b_w cB cC cI cJ cZ oA rA Γ ++ b_s cB cC cI cJ cZ oA rA Γ ++ b_c cB cC cI cJ cZ oA rA Γ ++ b_t cB cC cI cJ cZ oA rA Γ ++ b_d cB cC cI cJ cZ oA rA Γ) s.heap.size = A at hD1 hE hX ⊢
  have hA : ∀ q : Nat, s.heap.size ≤ q → A q := fun q z => by rw [← hAe]; exact Or.inr z
  have hDD : ∀ Γ : HS, va_D A (b_m cB cC cI cJ cZ oA rA Γ ++ b_w cB cC cI cJ cZ oA rA Γ ++ b_s cB cC cI cJ cZ oA rA Γ ++ b_c cB cC cI cJ cZ oA rA Γ ++ b_t cB cC cI cJ cZ oA rA Γ ++ b_d cB cC cI cJ cZ oA rA Γ) := fun Γ9 => va_D_fst (ws := (b_m cB cC cI cJ cZ oA rA Γ ++ b_w cB cC cI cJ cZ oA rA Γ ++ b_s cB cC cI cJ cZ oA rA Γ ++ b_c cB cC cI cJ cZ oA rA Γ ++ b_t cB cC cI cJ cZ oA rA Γ ++ b_d cB cC cI cJ cZ oA rA Γ)) (ws' := (b_m cB cC cI cJ cZ oA rA Γ9 ++ b_w cB cC cI cJ cZ oA rA Γ9 ++ b_s cB cC cI cJ cZ oA rA Γ9 ++ b_c cB cC cI cJ cZ oA rA Γ9 ++ b_t cB cC cI cJ cZ oA rA Γ9 ++ b_d cB cC cI cJ cZ oA rA Γ9)) rfl hD1
  have hN := hE.1
  have hS : va_S A s.heap s.heap [] := va_S.rf
  have hl := lv_entry ([.ref (oA 3), .int p0]) (n := 5) (Nat.le_of_ble_eq_true rfl)
  rw [lg_entry_eq]
  generalize (lg_sl ([.ref (oA 3), .int p0]) ++ List.replicate (5 - (lg_sl ([.ref (oA 3), .int p0])).length) Slot.unset).toArray = ls at hl ⊢
  have hl : lv_has ls 5 [(0, .ref (oA 3)), (1, .int p0)] := hl
  unfold F_X4_nameInBody at hF
  refine lv_aload_n hx hb dX4_nameInBody_0 rfl (lv_at hl 0 rfl) ?_
  refine va_get (D := (dC, dI)) (ci := 4) (v := .ref (oA 1)) (C := RX4) (T := TX4) (N := 18) hx hb hts ii_X4 hown hK hP 0 rfl rfl 0 (by decide) (hts (.fieldLink RX4 32 "StoryHouse$Meanings" "words" "LStoryHouse$Words;") wq_86) (fun _ h9 => h9) rfl dX4_nameInBody_1 ?_
  refine lv_iload_n hx hb dX4_nameInBody_4 rfl (lv_at hl 1 rfl) ?_
  refine lv_iconst (v := 1) hx hb dX4_nameInBody_5 (by decide +kernel) ?_
  refine lv_isub hx hb dX4_nameInBody_6 ?_
  obtain ⟨u_1, hu_1, hF_2⟩ := Option.bind_eq_some_iff.mp hF
  clear hF
  have hPc := hP.sub (ws' := (b_w cB cC cI cJ cZ oA rA Γ)) [7, 8, 9, 10, 11, 12, 13, 14, 15] rfl
  have hDc := (hDD Γ).sub (ws' := (b_w cB cC cI cJ cZ oA rA Γ)) [7, 8, 9, 10, 11, 12, 13, 14, 15] (by decide +kernel) rfl
  have hFc := va_free (wc := (b_w cB cC cI cJ cZ oA rA Γ)) (hDD Γ) hS hA [7, 8, 9, 10, 11, 12, 13, 14, 15] rfl
  refine g_ofi (wc := (b_w cB cC cI cJ cZ oA rA Γ)) (wr := (b_m cB cC cI cJ cZ oA rA Γ ++ b_s cB cC cI cJ cZ oA rA Γ ++ b_c cB cC cI cJ cZ oA rA Γ ++ b_t cB cC cI cJ cZ oA rA Γ ++ b_d cB cC cI cJ cZ oA rA Γ)) hP (hDD Γ) hS hFc [7, 8, 9, 10, 11, 12, 13, 14, 15] [0, 1, 2, 3, 4, 5, 6, 16, 17, 18, 19, 20, 21, 22, 23, 24, 25, 26, 27, 28, 29, 30, 31, 32, 33, 34, 35, 36, 37, 38, 39, 40, 41, 42, 43, 44, 45, 46] rfl rfl (by decide +kernel) (by decide +kernel) (va_runV (As := [.int (p0 - 1)]) (rest := []) ⟨hx, hb, hml, hown, hts⟩ (k_X10_kindOf l dC dI cB cC cI cJ cZ cP oA rA s.heap.size  (p0 - 1) Γ _ hu_1) (cwV 1 hts (g_gV wq_714 wq_543 wq_544 wq_2 wq_545) rfl rfl rfl (by decide +kernel) ⟨Nat.le_of_ble_eq_true rfl, Nat.le_of_ble_eq_true rfl⟩) (g_preV g_bl0 hK hPc hDc hS hE hFc g_to0 (q0 := 0) (ci := 10) rfl rfl) rfl rfl hl.1 rfl (lv_room (Nat.le_of_ble_eq_true rfl)) dX4_nameInBody_7 ⟨Nat.le_of_ble_eq_true rfl, Nat.le_of_ble_eq_true rfl⟩) (fun r9 u9 H locs hw9 hP' hD' hS => ?_)
  clear hPc hDc hFc
  subst hw9
  obtain ⟨σ_3, eσ_3, hF_4⟩ := bnd_e hF_2
  clear hF_2
  have hP : va_P (dC, dI) vwCl (b_m cB cC cI cJ cZ oA rA σ_3 ++ b_w cB cC cI cJ cZ oA rA σ_3 ++ b_s cB cC cI cJ cZ oA rA σ_3 ++ b_c cB cC cI cJ cZ oA rA σ_3 ++ b_t cB cC cI cJ cZ oA rA σ_3 ++ b_d cB cC cI cJ cZ oA rA σ_3) H := by rw [eσ_3]; exact hP'.sub [0, 1, 2, 3, 4, 5, 6, 38, 39, 40, 41, 42, 43, 44, 45, 46, 7, 8, 9, 10, 11, 12, 13, 14, 15, 16, 17, 18, 19, 20, 21, 22, 23, 24, 25, 26, 27, 28, 29, 30, 31, 32, 33, 34, 35, 36, 37] rfl
  clear hP' hD'
  refine lv_sipush (v := 242) hx hb dX4_nameInBody_10 (by decide +kernel) ?_
  refine lv_icmp_ne (tgt := 36) hx hb dX4_nameInBody_13 (by decide) (fun c_5 => ?_) (fun c_5 => ?_)
  · have hF_11 := ineg c_5 hF_4
    clear hF_4
    refine lv_aload_n hx hb dX4_nameInBody_36 rfl (lv_at hl 0 rfl) ?_
    refine lv_iload_n hx hb dX4_nameInBody_37 rfl (lv_at hl 1 rfl) ?_
    obtain ⟨u_12, hu_12, hF_13⟩ := Option.bind_eq_some_iff.mp hF_11
    clear hF_11
    have hPc := hP.sub (ws' := (b_m cB cC cI cJ cZ oA rA σ_3 ++ b_w cB cC cI cJ cZ oA rA σ_3 ++ b_s cB cC cI cJ cZ oA rA σ_3 ++ b_c cB cC cI cJ cZ oA rA σ_3 ++ b_t cB cC cI cJ cZ oA rA σ_3 ++ b_d cB cC cI cJ cZ oA rA σ_3)) [0, 1, 2, 3, 4, 5, 6, 7, 8, 9, 10, 11, 12, 13, 14, 15, 16, 17, 18, 19, 20, 21, 22, 23, 24, 25, 26, 27, 28, 29, 30, 31, 32, 33, 34, 35, 36, 37, 38, 39, 40, 41, 42, 43, 44, 45, 46] rfl
    have hDc := (hDD σ_3).sub (ws' := (b_m cB cC cI cJ cZ oA rA σ_3 ++ b_w cB cC cI cJ cZ oA rA σ_3 ++ b_s cB cC cI cJ cZ oA rA σ_3 ++ b_c cB cC cI cJ cZ oA rA σ_3 ++ b_t cB cC cI cJ cZ oA rA σ_3 ++ b_d cB cC cI cJ cZ oA rA σ_3)) [0, 1, 2, 3, 4, 5, 6, 7, 8, 9, 10, 11, 12, 13, 14, 15, 16, 17, 18, 19, 20, 21, 22, 23, 24, 25, 26, 27, 28, 29, 30, 31, 32, 33, 34, 35, 36, 37, 38, 39, 40, 41, 42, 43, 44, 45, 46] (by decide +kernel) rfl
    have hFc := va_free (wc := (b_m cB cC cI cJ cZ oA rA σ_3 ++ b_w cB cC cI cJ cZ oA rA σ_3 ++ b_s cB cC cI cJ cZ oA rA σ_3 ++ b_c cB cC cI cJ cZ oA rA σ_3 ++ b_t cB cC cI cJ cZ oA rA σ_3 ++ b_d cB cC cI cJ cZ oA rA σ_3)) (hDD σ_3) hS hA [0, 1, 2, 3, 4, 5, 6, 7, 8, 9, 10, 11, 12, 13, 14, 15, 16, 17, 18, 19, 20, 21, 22, 23, 24, 25, 26, 27, 28, 29, 30, 31, 32, 33, 34, 35, 36, 37, 38, 39, 40, 41, 42, 43, 44, 45, 46] rfl
    refine g_ofi (wc := (b_m cB cC cI cJ cZ oA rA σ_3 ++ b_w cB cC cI cJ cZ oA rA σ_3 ++ b_s cB cC cI cJ cZ oA rA σ_3 ++ b_c cB cC cI cJ cZ oA rA σ_3 ++ b_t cB cC cI cJ cZ oA rA σ_3 ++ b_d cB cC cI cJ cZ oA rA σ_3)) (wr := ([] : va_W)) hP (hDD σ_3) hS hFc [0, 1, 2, 3, 4, 5, 6, 7, 8, 9, 10, 11, 12, 13, 14, 15, 16, 17, 18, 19, 20, 21, 22, 23, 24, 25, 26, 27, 28, 29, 30, 31, 32, 33, 34, 35, 36, 37, 38, 39, 40, 41, 42, 43, 44, 45, 46] [] rfl rfl (by decide +kernel) (by decide +kernel) (va_runV (As := [.int p0]) (rest := []) ⟨hx, hb, hml, hown, hts⟩ (k_X4_sortOf l dC dI cB cC cI cJ cZ cP oA rA H.size  p0 σ_3 _ hu_12) (cwV 1 hts (g_gV wq_766 wq_767 wq_2050 wq_4 wq_768) rfl rfl rfl (by decide +kernel) ⟨Nat.le_of_ble_eq_true rfl, Nat.le_of_ble_eq_true rfl⟩) (g_preV g_bl0 hK hPc hDc hS hE hFc g_to0 (q0 := 0) (ci := 4) rfl rfl) rfl rfl hl.1 rfl (lv_room (Nat.le_of_ble_eq_true rfl)) dX4_nameInBody_38 ⟨Nat.le_of_ble_eq_true rfl, Nat.le_of_ble_eq_true rfl⟩) (fun r9 u9 H locs hw9 hP' hD' hS => ?_)
    clear hPc hDc hFc
    subst hw9
    have hP : va_P (dC, dI) vwCl (b_m cB cC cI cJ cZ oA rA u_12.2 ++ b_w cB cC cI cJ cZ oA rA u_12.2 ++ b_s cB cC cI cJ cZ oA rA u_12.2 ++ b_c cB cC cI cJ cZ oA rA u_12.2 ++ b_t cB cC cI cJ cZ oA rA u_12.2 ++ b_d cB cC cI cJ cZ oA rA u_12.2) H := hP'
    clear hP' hD'
    refine lv_istore_n (lv' := [(2, .int u_12.1), (0, .ref (oA 3)), (1, .int p0)]) hx hb dX4_nameInBody_41 rfl hl (by decide) rfl (fun ls hl => ?_)
    refine lv_aload_n hx hb dX4_nameInBody_42 rfl (lv_at hl 1 rfl) ?_
    refine lv_iload_n hx hb dX4_nameInBody_43 rfl (lv_at hl 2 rfl) ?_
    obtain ⟨u_14, hu_14, hF_15⟩ := Option.bind_eq_some_iff.mp hF_13
    clear hF_13
    have hPc := hP.sub (ws' := (b_m cB cC cI cJ cZ oA rA u_12.2 ++ b_w cB cC cI cJ cZ oA rA u_12.2 ++ b_s cB cC cI cJ cZ oA rA u_12.2 ++ b_c cB cC cI cJ cZ oA rA u_12.2 ++ b_t cB cC cI cJ cZ oA rA u_12.2 ++ b_d cB cC cI cJ cZ oA rA u_12.2)) [0, 1, 2, 3, 4, 5, 6, 7, 8, 9, 10, 11, 12, 13, 14, 15, 16, 17, 18, 19, 20, 21, 22, 23, 24, 25, 26, 27, 28, 29, 30, 31, 32, 33, 34, 35, 36, 37, 38, 39, 40, 41, 42, 43, 44, 45, 46] rfl
    have hDc := (hDD u_12.2).sub (ws' := (b_m cB cC cI cJ cZ oA rA u_12.2 ++ b_w cB cC cI cJ cZ oA rA u_12.2 ++ b_s cB cC cI cJ cZ oA rA u_12.2 ++ b_c cB cC cI cJ cZ oA rA u_12.2 ++ b_t cB cC cI cJ cZ oA rA u_12.2 ++ b_d cB cC cI cJ cZ oA rA u_12.2)) [0, 1, 2, 3, 4, 5, 6, 7, 8, 9, 10, 11, 12, 13, 14, 15, 16, 17, 18, 19, 20, 21, 22, 23, 24, 25, 26, 27, 28, 29, 30, 31, 32, 33, 34, 35, 36, 37, 38, 39, 40, 41, 42, 43, 44, 45, 46] (by decide +kernel) rfl
    have hFc := va_free (wc := (b_m cB cC cI cJ cZ oA rA u_12.2 ++ b_w cB cC cI cJ cZ oA rA u_12.2 ++ b_s cB cC cI cJ cZ oA rA u_12.2 ++ b_c cB cC cI cJ cZ oA rA u_12.2 ++ b_t cB cC cI cJ cZ oA rA u_12.2 ++ b_d cB cC cI cJ cZ oA rA u_12.2)) (hDD u_12.2) hS hA [0, 1, 2, 3, 4, 5, 6, 7, 8, 9, 10, 11, 12, 13, 14, 15, 16, 17, 18, 19, 20, 21, 22, 23, 24, 25, 26, 27, 28, 29, 30, 31, 32, 33, 34, 35, 36, 37, 38, 39, 40, 41, 42, 43, 44, 45, 46] rfl
    refine g_ofi (wc := (b_m cB cC cI cJ cZ oA rA u_12.2 ++ b_w cB cC cI cJ cZ oA rA u_12.2 ++ b_s cB cC cI cJ cZ oA rA u_12.2 ++ b_c cB cC cI cJ cZ oA rA u_12.2 ++ b_t cB cC cI cJ cZ oA rA u_12.2 ++ b_d cB cC cI cJ cZ oA rA u_12.2)) (wr := ([] : va_W)) hP (hDD u_12.2) hS hFc [0, 1, 2, 3, 4, 5, 6, 7, 8, 9, 10, 11, 12, 13, 14, 15, 16, 17, 18, 19, 20, 21, 22, 23, 24, 25, 26, 27, 28, 29, 30, 31, 32, 33, 34, 35, 36, 37, 38, 39, 40, 41, 42, 43, 44, 45, 46] [] rfl rfl (by decide +kernel) (by decide +kernel) (va_runV (As := [.int p0]) (rest := []) ⟨hx, hb, hml, hown, hts⟩ (k_X4_numberOf l dC dI cB cC cI cJ cZ cP oA rA H.size  p0 u_12.2 _ hu_14) (cwV 1 hts (g_gV wq_769 wq_770 wq_2051 wq_4 wq_771) rfl rfl rfl (by decide +kernel) ⟨Nat.le_of_ble_eq_true rfl, Nat.le_of_ble_eq_true rfl⟩) (g_preV g_bl0 hK hPc hDc hS hE hFc g_to0 (q0 := 0) (ci := 4) rfl rfl) rfl rfl hl.1 rfl (lv_room (Nat.le_of_ble_eq_true rfl)) dX4_nameInBody_44 ⟨Nat.le_of_ble_eq_true rfl, Nat.le_of_ble_eq_true rfl⟩) (fun r9 u9 H locs hw9 hP' hD' hS => ?_)
    clear hPc hDc hFc
    subst hw9
    have hP : va_P (dC, dI) vwCl (b_m cB cC cI cJ cZ oA rA u_14.2 ++ b_w cB cC cI cJ cZ oA rA u_14.2 ++ b_s cB cC cI cJ cZ oA rA u_14.2 ++ b_c cB cC cI cJ cZ oA rA u_14.2 ++ b_t cB cC cI cJ cZ oA rA u_14.2 ++ b_d cB cC cI cJ cZ oA rA u_14.2) H := hP'
    clear hP' hD'
    refine lv_istore_n (lv' := [(3, .int u_14.1), (2, .int u_12.1), (0, .ref (oA 3)), (1, .int p0)]) hx hb dX4_nameInBody_47 rfl hl (by decide) rfl (fun ls hl => ?_)
    refine lv_aload_n hx hb dX4_nameInBody_48 rfl (lv_at hl 2 rfl) ?_
    refine va_get (D := (dC, dI)) (ci := 4) (v := .ref (oA 1)) (C := RX4) (T := TX4) (N := 18) hx hb hts ii_X4 hown hK hP 0 rfl rfl 0 (by decide) (hts (.fieldLink RX4 32 "StoryHouse$Meanings" "words" "LStoryHouse$Words;") wq_86) (fun _ h9 => h9) rfl dX4_nameInBody_49 ?_
    refine lv_iload_n hx hb dX4_nameInBody_52 rfl (lv_at hl 3 rfl) ?_
    refine lv_iconst (v := 1) hx hb dX4_nameInBody_53 (by decide +kernel) ?_
    refine lv_iadd hx hb dX4_nameInBody_54 ?_
    obtain ⟨u_16, hu_16, hF_17⟩ := Option.bind_eq_some_iff.mp hF_15
    clear hF_15
    have hPc := hP.sub (ws' := (b_w cB cC cI cJ cZ oA rA u_14.2)) [7, 8, 9, 10, 11, 12, 13, 14, 15] rfl
    have hDc := (hDD u_14.2).sub (ws' := (b_w cB cC cI cJ cZ oA rA u_14.2)) [7, 8, 9, 10, 11, 12, 13, 14, 15] (by decide +kernel) rfl
    have hFc := va_free (wc := (b_w cB cC cI cJ cZ oA rA u_14.2)) (hDD u_14.2) hS hA [7, 8, 9, 10, 11, 12, 13, 14, 15] rfl
    refine g_ofi (wc := (b_w cB cC cI cJ cZ oA rA u_14.2)) (wr := (b_m cB cC cI cJ cZ oA rA u_14.2 ++ b_s cB cC cI cJ cZ oA rA u_14.2 ++ b_c cB cC cI cJ cZ oA rA u_14.2 ++ b_t cB cC cI cJ cZ oA rA u_14.2 ++ b_d cB cC cI cJ cZ oA rA u_14.2)) hP (hDD u_14.2) hS hFc [7, 8, 9, 10, 11, 12, 13, 14, 15] [0, 1, 2, 3, 4, 5, 6, 16, 17, 18, 19, 20, 21, 22, 23, 24, 25, 26, 27, 28, 29, 30, 31, 32, 33, 34, 35, 36, 37, 38, 39, 40, 41, 42, 43, 44, 45, 46] rfl rfl (by decide +kernel) (by decide +kernel) (va_runV (As := [.int (p0 + 1)]) (rest := []) ⟨hx, hb, hml, hown, hts⟩ (k_X10_kindOf l dC dI cB cC cI cJ cZ cP oA rA H.size  (p0 + 1) u_14.2 _ hu_16) (cwV 1 hts (g_gV wq_714 wq_543 wq_544 wq_2 wq_545) rfl rfl rfl (by decide +kernel) ⟨Nat.le_of_ble_eq_true rfl, Nat.le_of_ble_eq_true rfl⟩) (g_preV g_bl0 hK hPc hDc hS hE hFc g_to0 (q0 := 0) (ci := 10) rfl rfl) rfl rfl hl.1 rfl (lv_room (Nat.le_of_ble_eq_true rfl)) dX4_nameInBody_55 ⟨Nat.le_of_ble_eq_true rfl, Nat.le_of_ble_eq_true rfl⟩) (fun r9 u9 H locs hw9 hP' hD' hS => ?_)
    clear hPc hDc hFc
    subst hw9
    obtain ⟨σ_18, eσ_18, hF_19⟩ := bnd_e hF_17
    clear hF_17
    have hP : va_P (dC, dI) vwCl (b_m cB cC cI cJ cZ oA rA σ_18 ++ b_w cB cC cI cJ cZ oA rA σ_18 ++ b_s cB cC cI cJ cZ oA rA σ_18 ++ b_c cB cC cI cJ cZ oA rA σ_18 ++ b_t cB cC cI cJ cZ oA rA σ_18 ++ b_d cB cC cI cJ cZ oA rA σ_18) H := by rw [eσ_18]; exact hP'.sub [0, 1, 2, 3, 4, 5, 6, 38, 39, 40, 41, 42, 43, 44, 45, 46, 7, 8, 9, 10, 11, 12, 13, 14, 15, 16, 17, 18, 19, 20, 21, 22, 23, 24, 25, 26, 27, 28, 29, 30, 31, 32, 33, 34, 35, 36, 37] rfl
    clear hP' hD'
    obtain ⟨j_22, ej_22, hF_23⟩ := bnd_e hF_19
    clear hF_19
    have Jj_22 : ∀ (v4_20 : Int32) (σ_21 : HS), j_22 v4_20 σ_21 = some res → ∀ (H : Heap) (locs : List Loc), va_P (dC, dI) vwCl (b_m cB cC cI cJ cZ oA rA σ_21 ++ b_w cB cC cI cJ cZ oA rA σ_21 ++ b_s cB cC cI cJ cZ oA rA σ_21 ++ b_c cB cC cI cJ cZ oA rA σ_21 ++ b_t cB cC cI cJ cZ oA rA σ_21 ++ b_d cB cC cI cJ cZ oA rA σ_21) H → va_S A s.heap H locs → ∀ ls : Array Slot, lv_has ls 5 [(0, .ref (oA 3)), (1, .int p0), (2, .int u_12.1), (3, .int u_14.1), (4, .int v4_20)] → W p l e (headSpec (g_ws yX4_nameInBody cX4_nameInBody 5 none) { frames := 5, cells := 0, slots := 0, locals := 124 }).room s m ([.ref (oA 3), .int p0] : List Value).toArray below meth c H locs 0 0 (MQ below (va_Qv (fun (_ : Unit) => True) (g_Bo (dC, dI) A (fun (_ : Unit) => (b_m cB cC cI cJ cZ oA rA res.2 ++ b_w cB cC cI cJ cZ oA rA res.2 ++ b_s cB cC cI cJ cZ oA rA res.2 ++ b_c cB cC cI cJ cZ oA rA res.2 ++ b_t cB cC cI cJ cZ oA rA res.2 ++ b_d cB cC cI cJ cZ oA rA res.2))) A) ([.ref (oA 3), .int p0] : List Value).toArray s 0 0 A) (F0 m 200 ls []) := by
      intro v4_20 σ_21 hF0 H locs hP hS ls hl
      subst ej_22
      have hF_24 := hF0
      clear hF0
      refine lv_iload hx hb dX4_nameInBody_200 (lv_at hl 4 rfl) ?_
      obtain ⟨j_26, ej_26, hF_27⟩ := bnd_e hF_24
      clear hF_24
      have Jj_26 : ∀  (σ_25 : HS), j_26  σ_25 = some res → ∀ (H : Heap) (locs : List Loc), va_P (dC, dI) vwCl (b_m cB cC cI cJ cZ oA rA σ_25 ++ b_w cB cC cI cJ cZ oA rA σ_25 ++ b_s cB cC cI cJ cZ oA rA σ_25 ++ b_c cB cC cI cJ cZ oA rA σ_25 ++ b_t cB cC cI cJ cZ oA rA σ_25 ++ b_d cB cC cI cJ cZ oA rA σ_25) H → va_S A s.heap H locs → ∀ ls : Array Slot, lv_has ls 5 [(0, .ref (oA 3)), (1, .int p0), (2, .int u_12.1), (3, .int u_14.1)] → W p l e (headSpec (g_ws yX4_nameInBody cX4_nameInBody 5 none) { frames := 5, cells := 0, slots := 0, locals := 124 }).room s m ([.ref (oA 3), .int p0] : List Value).toArray below meth c H locs 0 0 (MQ below (va_Qv (fun (_ : Unit) => True) (g_Bo (dC, dI) A (fun (_ : Unit) => (b_m cB cC cI cJ cZ oA rA res.2 ++ b_w cB cC cI cJ cZ oA rA res.2 ++ b_s cB cC cI cJ cZ oA rA res.2 ++ b_c cB cC cI cJ cZ oA rA res.2 ++ b_t cB cC cI cJ cZ oA rA res.2 ++ b_d cB cC cI cJ cZ oA rA res.2))) A) ([.ref (oA 3), .int p0] : List Value).toArray s 0 0 A) (F0 m 211 ls []) := by
        intro  σ_25 hF0 H locs hP hS ls hl
        subst ej_26
        have hF_28 := hF0
        clear hF0
        refine lv_aload_n hx hb dX4_nameInBody_211 rfl (lv_at hl 0 rfl) ?_
        refine va_get (D := (dC, dI)) (ci := 4) (v := .ref (oA 1)) (C := RX4) (T := TX4) (N := 18) hx hb hts ii_X4 hown hK hP 0 rfl rfl 0 (by decide) (hts (.fieldLink RX4 32 "StoryHouse$Meanings" "words" "LStoryHouse$Words;") wq_86) (fun _ h9 => h9) rfl dX4_nameInBody_212 ?_
        refine va_get (D := (dC, dI)) (ci := 10) (v := .ref (rA 1 7)) (C := RX10) (T := TX10) (N := 12) hx hb hts ii_X10 hown hK hP 7 rfl rfl 7 (by decide) (hts (.fieldLink RX4 269 "StoryHouse$Words" "meanings" "[I") wq_57) (fun _ h9 => h9) rfl dX4_nameInBody_215 ?_
        refine lv_iload_n hx hb dX4_nameInBody_218 rfl (lv_at hl 1 rfl) ?_
        refine lv_iload_n hx hb dX4_nameInBody_219 rfl (lv_at hl 2 rfl) ?_
        refine lv_bipush (v := 16) hx hb dX4_nameInBody_220 (by decide +kernel) ?_
        refine lv_ishl hx hb dX4_nameInBody_222 ?_
        refine lv_iload_n hx hb dX4_nameInBody_223 rfl (lv_at hl 3 rfl) ?_
        refine lv_ior hx hb dX4_nameInBody_224 ?_
        obtain ⟨x_29, ex_29, hF_30⟩ := bnd_e hF_28
        clear hF_28
        refine m_top ex_29 ?_
        have hPc := hP.sub (ws' := [(rA 1 7, .inl (cI, 16001, .inl ((σ_25 1).2.1 7)))]) [13] rfl
        have hDc := (hDD σ_25).sub (ws' := [(rA 1 7, .inl (cI, 16001, .inl ((σ_25 1).2.1 7)))]) [13] (by decide +kernel) rfl
        have hFc := va_free (wc := [(rA 1 7, .inl (cI, 16001, .inl ((σ_25 1).2.1 7)))]) (hDD σ_25) hS hA [13] rfl
        refine g_ofv (wc := [(rA 1 7, .inl (cI, 16001, .inl ((σ_25 1).2.1 7)))]) (wr := (((b_m cB cC cI cJ cZ oA rA σ_25 ++ b_w cB cC cI cJ cZ oA rA σ_25 ++ b_s cB cC cI cJ cZ oA rA σ_25 ++ b_c cB cC cI cJ cZ oA rA σ_25 ++ b_t cB cC cI cJ cZ oA rA σ_25 ++ b_d cB cC cI cJ cZ oA rA σ_25)).eraseIdx 13)) hP (hDD σ_25) hS hFc [13] [0, 1, 2, 3, 4, 5, 6, 7, 8, 9, 10, 11, 12, 14, 15, 16, 17, 18, 19, 20, 21, 22, 23, 24, 25, 26, 27, 28, 29, 30, 31, 32, 33, 34, 35, 36, 37, 38, 39, 40, 41, 42, 43, 44, 45, 46] rfl rfl (by decide +kernel) (by decide +kernel) (va_runSN (As := [.ref (rA 1 7), .int p0, .int x_29]) (rest := []) ⟨hx, hb, hml, hown, hts⟩ (c_X11_put l dC dI cB cC cI cJ cZ cP H.size (rA 1 7) p0 x_29 16001 ((σ_25 1).2.1 7) (by decide)) ⟨va_cnB 3 hts (g_gA wq_412) rfl rfl rfl (hN.at 23 rfl) (hts (.initialized RX11) wq_1) (by decide +kernel) ⟨Nat.le_of_ble_eq_true rfl, Nat.le_of_ble_eq_true rfl⟩, (hts (.static yX11_put) wq_411), trivial⟩ (g_preS g_bl0 hK hPc hDc hS hE hFc g_to0) rfl rfl hl.1 rfl (lv_room (Nat.le_of_ble_eq_true rfl)) dX4_nameInBody_225 ⟨Nat.le_of_ble_eq_true rfl, Nat.le_of_ble_eq_true rfl⟩) (fun g9 H locs hw9 hP' hD' hS => ?_)
        clear hPc hDc hFc hD'
        obtain ⟨σ_31, eσ_31, hF_32⟩ := bnd_e hF_30
        clear hF_30
        subst hw9
        have hP : va_P (dC, dI) vwCl (b_m cB cC cI cJ cZ oA rA σ_31 ++ b_w cB cC cI cJ cZ oA rA σ_31 ++ b_s cB cC cI cJ cZ oA rA σ_31 ++ b_c cB cC cI cJ cZ oA rA σ_31 ++ b_t cB cC cI cJ cZ oA rA σ_31 ++ b_d cB cC cI cJ cZ oA rA σ_31) H := by rw [eσ_31]; exact hP'.sub [0, 1, 2, 3, 4, 5, 6, 7, 8, 9, 10, 11, 12, 46, 13, 14, 15, 16, 17, 18, 19, 20, 21, 22, 23, 24, 25, 26, 27, 28, 29, 30, 31, 32, 33, 34, 35, 36, 37, 38, 39, 40, 41, 42, 43, 44, 45] rfl
        clear hP'
        have h9 := Option.some.inj hF_32
        subst h9
        exact W.vret hx hb hr (fun t ht hW => ⟨⟨(), rfl, trivial, m_end ht hP, hDD _⟩, hS.F ht⟩) hS.2.2 dX4_nameInBody_228
      refine lv_if_ne (tgt := 211) hx hb dX4_nameInBody_202 (by decide) (fun c_33 => ?_) (fun c_33 => ?_)
      · have hF_37 := ineg c_33 hF_27
        clear hF_27
        exact Jj_26  σ_21 hF_37 _ _ hP hS ls (lv_sub hl [0, 1, 2, 3] rfl)
      · have hF_34 := ipos c_33 hF_27
        clear hF_27
        refine lv_aload_n hx hb dX4_nameInBody_205 rfl (lv_at hl 0 rfl) ?_
        refine lv_iconst (v := 3) hx hb dX4_nameInBody_206 (by decide +kernel) ?_
        refine lv_iload_n hx hb dX4_nameInBody_207 rfl (lv_at hl 1 rfl) ?_
        obtain ⟨u_35, hu_35, hF_36⟩ := Option.bind_eq_some_iff.mp hF_34
        clear hF_34
        have hPc := hP.sub (ws' := (b_m cB cC cI cJ cZ oA rA σ_21 ++ b_w cB cC cI cJ cZ oA rA σ_21 ++ b_s cB cC cI cJ cZ oA rA σ_21 ++ b_c cB cC cI cJ cZ oA rA σ_21 ++ b_t cB cC cI cJ cZ oA rA σ_21 ++ b_d cB cC cI cJ cZ oA rA σ_21)) [0, 1, 2, 3, 4, 5, 6, 7, 8, 9, 10, 11, 12, 13, 14, 15, 16, 17, 18, 19, 20, 21, 22, 23, 24, 25, 26, 27, 28, 29, 30, 31, 32, 33, 34, 35, 36, 37, 38, 39, 40, 41, 42, 43, 44, 45, 46] rfl
        have hDc := (hDD σ_21).sub (ws' := (b_m cB cC cI cJ cZ oA rA σ_21 ++ b_w cB cC cI cJ cZ oA rA σ_21 ++ b_s cB cC cI cJ cZ oA rA σ_21 ++ b_c cB cC cI cJ cZ oA rA σ_21 ++ b_t cB cC cI cJ cZ oA rA σ_21 ++ b_d cB cC cI cJ cZ oA rA σ_21)) [0, 1, 2, 3, 4, 5, 6, 7, 8, 9, 10, 11, 12, 13, 14, 15, 16, 17, 18, 19, 20, 21, 22, 23, 24, 25, 26, 27, 28, 29, 30, 31, 32, 33, 34, 35, 36, 37, 38, 39, 40, 41, 42, 43, 44, 45, 46] (by decide +kernel) rfl
        have hFc := va_free (wc := (b_m cB cC cI cJ cZ oA rA σ_21 ++ b_w cB cC cI cJ cZ oA rA σ_21 ++ b_s cB cC cI cJ cZ oA rA σ_21 ++ b_c cB cC cI cJ cZ oA rA σ_21 ++ b_t cB cC cI cJ cZ oA rA σ_21 ++ b_d cB cC cI cJ cZ oA rA σ_21)) (hDD σ_21) hS hA [0, 1, 2, 3, 4, 5, 6, 7, 8, 9, 10, 11, 12, 13, 14, 15, 16, 17, 18, 19, 20, 21, 22, 23, 24, 25, 26, 27, 28, 29, 30, 31, 32, 33, 34, 35, 36, 37, 38, 39, 40, 41, 42, 43, 44, 45, 46] rfl
        refine g_ofv (wc := (b_m cB cC cI cJ cZ oA rA σ_21 ++ b_w cB cC cI cJ cZ oA rA σ_21 ++ b_s cB cC cI cJ cZ oA rA σ_21 ++ b_c cB cC cI cJ cZ oA rA σ_21 ++ b_t cB cC cI cJ cZ oA rA σ_21 ++ b_d cB cC cI cJ cZ oA rA σ_21)) (wr := ([] : va_W)) hP (hDD σ_21) hS hFc [0, 1, 2, 3, 4, 5, 6, 7, 8, 9, 10, 11, 12, 13, 14, 15, 16, 17, 18, 19, 20, 21, 22, 23, 24, 25, 26, 27, 28, 29, 30, 31, 32, 33, 34, 35, 36, 37, 38, 39, 40, 41, 42, 43, 44, 45, 46] [] rfl rfl (by decide +kernel) (by decide +kernel) (va_runV (As := [.int 3, .int p0]) (rest := []) ⟨hx, hb, hml, hown, hts⟩ (k_X4_fail l dC dI cB cC cI cJ cZ cP oA rA H.size  3 p0 σ_21 _ hu_35) (cwV 2 hts (g_gV wq_725 wq_726 wq_2037 wq_4 wq_727) rfl rfl rfl (by decide +kernel) ⟨Nat.le_of_ble_eq_true rfl, Nat.le_of_ble_eq_true rfl⟩) (g_preV g_bl0 hK hPc hDc hS hE hFc g_to0 (q0 := 0) (ci := 4) rfl rfl) rfl rfl hl.1 rfl (lv_room (Nat.le_of_ble_eq_true rfl)) dX4_nameInBody_208 ⟨Nat.le_of_ble_eq_true rfl, Nat.le_of_ble_eq_true rfl⟩) (fun u9 H locs hw9 hP' hD' hS => ?_)
        clear hPc hDc hFc
        have hP : va_P (dC, dI) vwCl (b_m cB cC cI cJ cZ oA rA u_35.2 ++ b_w cB cC cI cJ cZ oA rA u_35.2 ++ b_s cB cC cI cJ cZ oA rA u_35.2 ++ b_c cB cC cI cJ cZ oA rA u_35.2 ++ b_t cB cC cI cJ cZ oA rA u_35.2 ++ b_d cB cC cI cJ cZ oA rA u_35.2) H := hP'
        clear hP' hD'
        exact Jj_26  u_35.2 hF_36 _ _ hP hS ls (lv_sub hl [0, 1, 2, 3] rfl)
    by_cases c_38 : u_16.1 = 40
    · have hF_39 := ipos c_38 hF_23
      clear hF_23
      refine lv_lookup (off := 34) (tgt := 92) hx hb dX4_nameInBody_58 (by decide +kernel) (by rw [c_38]; decide +kernel) (by decide) ?_
      refine lv_iload_n hx hb dX4_nameInBody_92 rfl (lv_at hl 1 rfl) ?_
      refine lv_bipush (v := 6) hx hb dX4_nameInBody_93 (by decide +kernel) ?_
      obtain ⟨j_42, ej_42, hF_43⟩ := bnd_e hF_39
      clear hF_39
      have Jj_42 : ∀ (t_40 : Int32) (σ_41 : HS), j_42 t_40 σ_41 = some res → ∀ (H : Heap) (locs : List Loc), va_P (dC, dI) vwCl (b_m cB cC cI cJ cZ oA rA σ_41 ++ b_w cB cC cI cJ cZ oA rA σ_41 ++ b_s cB cC cI cJ cZ oA rA σ_41 ++ b_c cB cC cI cJ cZ oA rA σ_41 ++ b_t cB cC cI cJ cZ oA rA σ_41 ++ b_d cB cC cI cJ cZ oA rA σ_41) H → va_S A s.heap H locs → ∀ ls : Array Slot, lv_has ls 5 [(0, .ref (oA 3)), (1, .int p0), (2, .int u_12.1), (3, .int u_14.1)] → W p l e (headSpec (g_ws yX4_nameInBody cX4_nameInBody 5 none) { frames := 5, cells := 0, slots := 0, locals := 124 }).room s m ([.ref (oA 3), .int p0] : List Value).toArray below meth c H locs 0 0 (MQ below (va_Qv (fun (_ : Unit) => True) (g_Bo (dC, dI) A (fun (_ : Unit) => (b_m cB cC cI cJ cZ oA rA res.2 ++ b_w cB cC cI cJ cZ oA rA res.2 ++ b_s cB cC cI cJ cZ oA rA res.2 ++ b_c cB cC cI cJ cZ oA rA res.2 ++ b_t cB cC cI cJ cZ oA rA res.2 ++ b_d cB cC cI cJ cZ oA rA res.2))) A) ([.ref (oA 3), .int p0] : List Value).toArray s 0 0 A) (F0 m 131 ls [.int t_40]) := by
        intro t_40 σ_41 hF0 H locs hP hS ls hl
        subst ej_42
        have hF_44 := hF0
        clear hF0
        refine lv_istore (lv' := [(4, .int t_40), (0, .ref (oA 3)), (1, .int p0), (2, .int u_12.1), (3, .int u_14.1)]) hx hb dX4_nameInBody_131 hl (by decide) rfl (fun ls hl => ?_)
        refine lv_goto (tgt := 200) hx hb dX4_nameInBody_133 (by decide) ?_
        exact Jj_22 t_40 σ_41 hF_44 _ _ hP hS ls (lv_sub hl [1, 2, 3, 4, 0] rfl)
      obtain ⟨j_46, ej_46, hF_47⟩ := bnd_e hF_43
      clear hF_43
      have Jj_46 : ∀  (σ_45 : HS), j_46  σ_45 = some res → ∀ (H : Heap) (locs : List Loc), va_P (dC, dI) vwCl (b_m cB cC cI cJ cZ oA rA σ_45 ++ b_w cB cC cI cJ cZ oA rA σ_45 ++ b_s cB cC cI cJ cZ oA rA σ_45 ++ b_c cB cC cI cJ cZ oA rA σ_45 ++ b_t cB cC cI cJ cZ oA rA σ_45 ++ b_d cB cC cI cJ cZ oA rA σ_45) H → va_S A s.heap H locs → ∀ ls : Array Slot, lv_has ls 5 [(0, .ref (oA 3)), (1, .int p0), (2, .int u_12.1), (3, .int u_14.1)] → W p l e (headSpec (g_ws yX4_nameInBody cX4_nameInBody 5 none) { frames := 5, cells := 0, slots := 0, locals := 124 }).room s m ([.ref (oA 3), .int p0] : List Value).toArray below meth c H locs 0 0 (MQ below (va_Qv (fun (_ : Unit) => True) (g_Bo (dC, dI) A (fun (_ : Unit) => (b_m cB cC cI cJ cZ oA rA res.2 ++ b_w cB cC cI cJ cZ oA rA res.2 ++ b_s cB cC cI cJ cZ oA rA res.2 ++ b_c cB cC cI cJ cZ oA rA res.2 ++ b_t cB cC cI cJ cZ oA rA res.2 ++ b_d cB cC cI cJ cZ oA rA res.2))) A) ([.ref (oA 3), .int p0] : List Value).toArray s 0 0 A) (F0 m 130 ls []) := by
        intro  σ_45 hF0 H locs hP hS ls hl
        subst ej_46
        have hF_48 := hF0
        clear hF0
        refine lv_iconst (v := 0) hx hb dX4_nameInBody_130 (by decide +kernel) ?_
        exact Jj_42 0 σ_45 hF_48 _ _ hP hS ls (lv_sub hl [0, 1, 2, 3] rfl)
      refine lv_icmp_ne (tgt := 130) hx hb dX4_nameInBody_95 (by decide) (fun c_49 => ?_) (fun c_49 => ?_)
      · have hF_58 := ineg c_49 hF_47
        clear hF_47
        exact Jj_46  σ_18 hF_58 _ _ hP hS ls (lv_sub hl [2, 3, 1, 0] rfl)
      · have hF_50 := ipos c_49 hF_47
        clear hF_47
        refine lv_aload_n hx hb dX4_nameInBody_98 rfl (lv_at hl 2 rfl) ?_
        refine va_get (D := (dC, dI)) (ci := 4) (v := .ref (oA 1)) (C := RX4) (T := TX4) (N := 18) hx hb hts ii_X4 hown hK hP 0 rfl rfl 0 (by decide) (hts (.fieldLink RX4 32 "StoryHouse$Meanings" "words" "LStoryHouse$Words;") wq_86) (fun _ h9 => h9) rfl dX4_nameInBody_99 ?_
        refine va_get (D := (dC, dI)) (ci := 10) (v := .ref (rA 1 6)) (C := RX10) (T := TX10) (N := 12) hx hb hts ii_X10 hown hK hP 7 rfl rfl 6 (by decide) (hts (.fieldLink RX4 181 "StoryHouse$Words" "notes" "[I") wq_54) (fun _ h9 => h9) rfl dX4_nameInBody_102 ?_
        refine lv_iload_n hx hb dX4_nameInBody_105 rfl (lv_at hl 3 rfl) ?_
        have hPc := hP.sub (ws' := [(rA 1 6, .inl (cI, 16001, .inl ((σ_18 1).2.1 6)))]) [12] rfl
        have hDc := (hDD σ_18).sub (ws' := [(rA 1 6, .inl (cI, 16001, .inl ((σ_18 1).2.1 6)))]) [12] (by decide +kernel) rfl
        have hFc := va_free (wc := [(rA 1 6, .inl (cI, 16001, .inl ((σ_18 1).2.1 6)))]) (hDD σ_18) hS hA [12] rfl
        refine g_ofi (wc := [(rA 1 6, .inl (cI, 16001, .inl ((σ_18 1).2.1 6)))]) (wr := (((b_m cB cC cI cJ cZ oA rA σ_18 ++ b_w cB cC cI cJ cZ oA rA σ_18 ++ b_s cB cC cI cJ cZ oA rA σ_18 ++ b_c cB cC cI cJ cZ oA rA σ_18 ++ b_t cB cC cI cJ cZ oA rA σ_18 ++ b_d cB cC cI cJ cZ oA rA σ_18)).eraseIdx 12)) hP (hDD σ_18) hS hFc [12] [0, 1, 2, 3, 4, 5, 6, 7, 8, 9, 10, 11, 13, 14, 15, 16, 17, 18, 19, 20, 21, 22, 23, 24, 25, 26, 27, 28, 29, 30, 31, 32, 33, 34, 35, 36, 37, 38, 39, 40, 41, 42, 43, 44, 45, 46] rfl rfl (by decide +kernel) (by decide +kernel) (va_runSN (As := [.ref (rA 1 6), .int p0]) (rest := []) ⟨hx, hb, hml, hown, hts⟩ (c_X11_at l dC dI cB cC cI cJ cZ cP H.size (rA 1 6) p0 16001 ((σ_18 1).2.1 6) (by decide)) ⟨va_cnB 2 hts (g_gA wq_407) rfl rfl rfl (hN.at 24 rfl) (hts (.initialized RX11) wq_1) (by decide +kernel) ⟨Nat.le_of_ble_eq_true rfl, Nat.le_of_ble_eq_true rfl⟩, (hts (.static yX11_at) wq_406), trivial⟩ (g_preS g_bl0 hK hPc hDc hS hE hFc g_to0) rfl rfl hl.1 rfl (lv_room (Nat.le_of_ble_eq_true rfl)) dX4_nameInBody_106 ⟨Nat.le_of_ble_eq_true rfl, Nat.le_of_ble_eq_true rfl⟩) (fun r9 u9 H locs hw9 hP' hD' hS => ?_)
        clear hPc hDc hFc hD'
        have hP : va_P (dC, dI) vwCl (b_m cB cC cI cJ cZ oA rA σ_18 ++ b_w cB cC cI cJ cZ oA rA σ_18 ++ b_s cB cC cI cJ cZ oA rA σ_18 ++ b_c cB cC cI cJ cZ oA rA σ_18 ++ b_t cB cC cI cJ cZ oA rA σ_18 ++ b_d cB cC cI cJ cZ oA rA σ_18) H := hP'.sub [0, 1, 2, 3, 4, 5, 6, 7, 8, 9, 10, 11, 46, 12, 13, 14, 15, 16, 17, 18, 19, 20, 21, 22, 23, 24, 25, 26, 27, 28, 29, 30, 31, 32, 33, 34, 35, 36, 37, 38, 39, 40, 41, 42, 43, 44, 45] rfl
        clear hP'
        subst hw9
        obtain ⟨x_51, ex_51, hF_52⟩ := bnd_e hF_50
        clear hF_50
        refine m_top ex_51 ?_
        refine lv_aload_n hx hb dX4_nameInBody_109 rfl (lv_at hl 2 rfl) ?_
        refine va_get (D := (dC, dI)) (ci := 4) (v := .ref (oA 4)) (C := RX4) (T := TX4) (N := 18) hx hb hts ii_X4 hown hK hP 0 rfl rfl 1 (by decide) (hts (.fieldLink RX4 36 "StoryHouse$Meanings" "story" "LStoryHouse$Story;") wq_87) (fun _ h9 => h9) rfl dX4_nameInBody_110 ?_
        refine va_get (D := (dC, dI)) (ci := 7) (v := .ref (oA 5)) (C := RX7) (T := TX7) (N := 19) hx hb hts ii_X7 hown hK hP 16 rfl rfl 16 (by decide) (hts (.fieldLink RX4 273 "StoryHouse$Story" "code" "LStoryHouse$Code;") wq_195) (fun _ h9 => h9) rfl dX4_nameInBody_113 ?_
        refine va_get (D := (dC, dI)) (ci := 0) (v := .ref (rA 5 4)) (C := RX0) (T := TX0) (N := 9) hx hb hts ii_X0 hown hK hP 33 rfl rfl 4 (by decide) (hts (.fieldLink RX4 277 "StoryHouse$Code" "lists" "[I") wq_123) (fun _ h9 => h9) rfl dX4_nameInBody_116 ?_
        refine lv_iload_n hx hb dX4_nameInBody_119 rfl (lv_at hl 0 rfl) ?_
        have hPc := hP.sub (ws' := [(rA 5 4, .inl (cI, 100, .inl ((σ_18 5).2.1 4)))]) [37] rfl
        have hDc := (hDD σ_18).sub (ws' := [(rA 5 4, .inl (cI, 100, .inl ((σ_18 5).2.1 4)))]) [37] (by decide +kernel) rfl
        have hFc := va_free (wc := [(rA 5 4, .inl (cI, 100, .inl ((σ_18 5).2.1 4)))]) (hDD σ_18) hS hA [37] rfl
        refine g_ofi (wc := [(rA 5 4, .inl (cI, 100, .inl ((σ_18 5).2.1 4)))]) (wr := (((b_m cB cC cI cJ cZ oA rA σ_18 ++ b_w cB cC cI cJ cZ oA rA σ_18 ++ b_s cB cC cI cJ cZ oA rA σ_18 ++ b_c cB cC cI cJ cZ oA rA σ_18 ++ b_t cB cC cI cJ cZ oA rA σ_18 ++ b_d cB cC cI cJ cZ oA rA σ_18)).eraseIdx 37)) hP (hDD σ_18) hS hFc [37] [0, 1, 2, 3, 4, 5, 6, 7, 8, 9, 10, 11, 12, 13, 14, 15, 16, 17, 18, 19, 20, 21, 22, 23, 24, 25, 26, 27, 28, 29, 30, 31, 32, 33, 34, 35, 36, 38, 39, 40, 41, 42, 43, 44, 45, 46] rfl rfl (by decide +kernel) (by decide +kernel) (va_runSN (As := [.ref (rA 5 4), .int u_14.1]) (rest := [.int x_51]) ⟨hx, hb, hml, hown, hts⟩ (c_X11_at l dC dI cB cC cI cJ cZ cP H.size (rA 5 4) u_14.1 100 ((σ_18 5).2.1 4) (by decide)) ⟨va_cnB 2 hts (g_gA wq_407) rfl rfl rfl (hN.at 24 rfl) (hts (.initialized RX11) wq_1) (by decide +kernel) ⟨Nat.le_of_ble_eq_true rfl, Nat.le_of_ble_eq_true rfl⟩, (hts (.static yX11_at) wq_406), trivial⟩ (g_preS g_bl0 hK hPc hDc hS hE hFc g_to0) rfl rfl hl.1 rfl (lv_room (Nat.le_of_ble_eq_true rfl)) dX4_nameInBody_120 ⟨Nat.le_of_ble_eq_true rfl, Nat.le_of_ble_eq_true rfl⟩) (fun r9 u9 H locs hw9 hP' hD' hS => ?_)
        clear hPc hDc hFc hD'
        have hP : va_P (dC, dI) vwCl (b_m cB cC cI cJ cZ oA rA σ_18 ++ b_w cB cC cI cJ cZ oA rA σ_18 ++ b_s cB cC cI cJ cZ oA rA σ_18 ++ b_c cB cC cI cJ cZ oA rA σ_18 ++ b_t cB cC cI cJ cZ oA rA σ_18 ++ b_d cB cC cI cJ cZ oA rA σ_18) H := hP'.sub [0, 1, 2, 3, 4, 5, 6, 7, 8, 9, 10, 11, 12, 13, 14, 15, 16, 17, 18, 19, 20, 21, 22, 23, 24, 25, 26, 27, 28, 29, 30, 31, 32, 33, 34, 35, 36, 46, 37, 38, 39, 40, 41, 42, 43, 44, 45] rfl
        clear hP'
        subst hw9
        obtain ⟨x_53, ex_53, hF_54⟩ := bnd_e hF_52
        clear hF_52
        refine m_top ex_53 ?_
        refine lv_icmp_ne (tgt := 130) hx hb dX4_nameInBody_123 (by decide) (fun c_55 => ?_) (fun c_55 => ?_)
        · have hF_57 := ineg c_55 hF_54
          clear hF_54
          exact Jj_46  σ_18 hF_57 _ _ hP hS ls (lv_sub hl [2, 3, 1, 0] rfl)
        · have hF_56 := ipos c_55 hF_54
          clear hF_54
          refine lv_iconst (v := 1) hx hb dX4_nameInBody_126 (by decide +kernel) ?_
          refine lv_goto (tgt := 131) hx hb dX4_nameInBody_127 (by decide) ?_
          exact Jj_42 1 σ_18 hF_56 _ _ hP hS ls (lv_sub hl [2, 3, 1, 0] rfl)
    have hF_59 := ineg c_38 hF_23
    clear hF_23
    by_cases c_60 : u_16.1 = 61
    · have hF_61 := ipos c_60 hF_59
      clear hF_59
      refine lv_lookup (off := 93) (tgt := 151) hx hb dX4_nameInBody_58 (by decide +kernel) (by rw [c_60]; decide +kernel) (by decide) ?_
      refine lv_iload_n hx hb dX4_nameInBody_151 rfl (lv_at hl 1 rfl) ?_
      refine lv_iconst (v := 4) hx hb dX4_nameInBody_152 (by decide +kernel) ?_
      obtain ⟨j_64, ej_64, hF_65⟩ := bnd_e hF_61
      clear hF_61
      have Jj_64 : ∀ (t_62 : Int32) (σ_63 : HS), j_64 t_62 σ_63 = some res → ∀ (H : Heap) (locs : List Loc), va_P (dC, dI) vwCl (b_m cB cC cI cJ cZ oA rA σ_63 ++ b_w cB cC cI cJ cZ oA rA σ_63 ++ b_s cB cC cI cJ cZ oA rA σ_63 ++ b_c cB cC cI cJ cZ oA rA σ_63 ++ b_t cB cC cI cJ cZ oA rA σ_63 ++ b_d cB cC cI cJ cZ oA rA σ_63) H → va_S A s.heap H locs → ∀ ls : Array Slot, lv_has ls 5 [(0, .ref (oA 3)), (1, .int p0), (2, .int u_12.1), (3, .int u_14.1)] → W p l e (headSpec (g_ws yX4_nameInBody cX4_nameInBody 5 none) { frames := 5, cells := 0, slots := 0, locals := 124 }).room s m ([.ref (oA 3), .int p0] : List Value).toArray below meth c H locs 0 0 (MQ below (va_Qv (fun (_ : Unit) => True) (g_Bo (dC, dI) A (fun (_ : Unit) => (b_m cB cC cI cJ cZ oA rA res.2 ++ b_w cB cC cI cJ cZ oA rA res.2 ++ b_s cB cC cI cJ cZ oA rA res.2 ++ b_c cB cC cI cJ cZ oA rA res.2 ++ b_t cB cC cI cJ cZ oA rA res.2 ++ b_d cB cC cI cJ cZ oA rA res.2))) A) ([.ref (oA 3), .int p0] : List Value).toArray s 0 0 A) (F0 m 167 ls [.int t_62]) := by
        intro t_62 σ_63 hF0 H locs hP hS ls hl
        subst ej_64
        have hF_66 := hF0
        clear hF0
        refine lv_istore (lv' := [(4, .int t_62), (0, .ref (oA 3)), (1, .int p0), (2, .int u_12.1), (3, .int u_14.1)]) hx hb dX4_nameInBody_167 hl (by decide) rfl (fun ls hl => ?_)
        refine lv_goto (tgt := 200) hx hb dX4_nameInBody_169 (by decide) ?_
        exact Jj_22 t_62 σ_63 hF_66 _ _ hP hS ls (lv_sub hl [1, 2, 3, 4, 0] rfl)
      obtain ⟨j_68, ej_68, hF_69⟩ := bnd_e hF_65
      clear hF_65
      have Jj_68 : ∀  (σ_67 : HS), j_68  σ_67 = some res → ∀ (H : Heap) (locs : List Loc), va_P (dC, dI) vwCl (b_m cB cC cI cJ cZ oA rA σ_67 ++ b_w cB cC cI cJ cZ oA rA σ_67 ++ b_s cB cC cI cJ cZ oA rA σ_67 ++ b_c cB cC cI cJ cZ oA rA σ_67 ++ b_t cB cC cI cJ cZ oA rA σ_67 ++ b_d cB cC cI cJ cZ oA rA σ_67) H → va_S A s.heap H locs → ∀ ls : Array Slot, lv_has ls 5 [(0, .ref (oA 3)), (1, .int p0), (2, .int u_12.1), (3, .int u_14.1)] → W p l e (headSpec (g_ws yX4_nameInBody cX4_nameInBody 5 none) { frames := 5, cells := 0, slots := 0, locals := 124 }).room s m ([.ref (oA 3), .int p0] : List Value).toArray below meth c H locs 0 0 (MQ below (va_Qv (fun (_ : Unit) => True) (g_Bo (dC, dI) A (fun (_ : Unit) => (b_m cB cC cI cJ cZ oA rA res.2 ++ b_w cB cC cI cJ cZ oA rA res.2 ++ b_s cB cC cI cJ cZ oA rA res.2 ++ b_c cB cC cI cJ cZ oA rA res.2 ++ b_t cB cC cI cJ cZ oA rA res.2 ++ b_d cB cC cI cJ cZ oA rA res.2))) A) ([.ref (oA 3), .int p0] : List Value).toArray s 0 0 A) (F0 m 162 ls []) := by
        intro  σ_67 hF0 H locs hP hS ls hl
        subst ej_68
        have hF_70 := hF0
        clear hF0
        refine lv_iconst (v := 1) hx hb dX4_nameInBody_162 (by decide +kernel) ?_
        refine lv_goto (tgt := 167) hx hb dX4_nameInBody_163 (by decide) ?_
        exact Jj_64 1 σ_67 hF_70 _ _ hP hS ls (lv_sub hl [0, 1, 2, 3] rfl)
      refine lv_icmp_eq (tgt := 162) hx hb dX4_nameInBody_153 (by decide) (fun c_71 => ?_) (fun c_71 => ?_)
      · have hF_72 := ipos c_71 hF_69
        clear hF_69
        exact Jj_68  σ_18 hF_72 _ _ hP hS ls (lv_sub hl [2, 3, 1, 0] rfl)
      · have hF_73 := ineg c_71 hF_69
        clear hF_69
        refine lv_iload_n hx hb dX4_nameInBody_156 rfl (lv_at hl 1 rfl) ?_
        refine lv_bipush (v := 7) hx hb dX4_nameInBody_157 (by decide +kernel) ?_
        refine lv_icmp_ne (tgt := 166) hx hb dX4_nameInBody_159 (by decide) (fun c_74 => ?_) (fun c_74 => ?_)
        · have hF_76 := ineg c_74 hF_73
          clear hF_73
          refine lv_iconst (v := 0) hx hb dX4_nameInBody_166 (by decide +kernel) ?_
          exact Jj_64 0 σ_18 hF_76 _ _ hP hS ls (lv_sub hl [2, 3, 1, 0] rfl)
        · have hF_75 := ipos c_74 hF_73
          clear hF_73
          exact Jj_68  σ_18 hF_75 _ _ hP hS ls (lv_sub hl [2, 3, 1, 0] rfl)
    have hF_77 := ineg c_60 hF_59
    clear hF_59
    by_cases c_78 : u_16.1 = 91
    · have hF_79 := ipos c_78 hF_77
      clear hF_77
      refine lv_lookup (off := 78) (tgt := 136) hx hb dX4_nameInBody_58 (by decide +kernel) (by rw [c_78]; decide +kernel) (by decide) ?_
      refine lv_iload_n hx hb dX4_nameInBody_136 rfl (lv_at hl 1 rfl) ?_
      refine lv_iconst (v := 5) hx hb dX4_nameInBody_137 (by decide +kernel) ?_
      obtain ⟨j_82, ej_82, hF_83⟩ := bnd_e hF_79
      clear hF_79
      have Jj_82 : ∀ (t_80 : Int32) (σ_81 : HS), j_82 t_80 σ_81 = some res → ∀ (H : Heap) (locs : List Loc), va_P (dC, dI) vwCl (b_m cB cC cI cJ cZ oA rA σ_81 ++ b_w cB cC cI cJ cZ oA rA σ_81 ++ b_s cB cC cI cJ cZ oA rA σ_81 ++ b_c cB cC cI cJ cZ oA rA σ_81 ++ b_t cB cC cI cJ cZ oA rA σ_81 ++ b_d cB cC cI cJ cZ oA rA σ_81) H → va_S A s.heap H locs → ∀ ls : Array Slot, lv_has ls 5 [(0, .ref (oA 3)), (1, .int p0), (2, .int u_12.1), (3, .int u_14.1)] → W p l e (headSpec (g_ws yX4_nameInBody cX4_nameInBody 5 none) { frames := 5, cells := 0, slots := 0, locals := 124 }).room s m ([.ref (oA 3), .int p0] : List Value).toArray below meth c H locs 0 0 (MQ below (va_Qv (fun (_ : Unit) => True) (g_Bo (dC, dI) A (fun (_ : Unit) => (b_m cB cC cI cJ cZ oA rA res.2 ++ b_w cB cC cI cJ cZ oA rA res.2 ++ b_s cB cC cI cJ cZ oA rA res.2 ++ b_c cB cC cI cJ cZ oA rA res.2 ++ b_t cB cC cI cJ cZ oA rA res.2 ++ b_d cB cC cI cJ cZ oA rA res.2))) A) ([.ref (oA 3), .int p0] : List Value).toArray s 0 0 A) (F0 m 146 ls [.int t_80]) := by
        intro t_80 σ_81 hF0 H locs hP hS ls hl
        subst ej_82
        have hF_84 := hF0
        clear hF0
        refine lv_istore (lv' := [(4, .int t_80), (0, .ref (oA 3)), (1, .int p0), (2, .int u_12.1), (3, .int u_14.1)]) hx hb dX4_nameInBody_146 hl (by decide) rfl (fun ls hl => ?_)
        refine lv_goto (tgt := 200) hx hb dX4_nameInBody_148 (by decide) ?_
        exact Jj_22 t_80 σ_81 hF_84 _ _ hP hS ls (lv_sub hl [1, 2, 3, 4, 0] rfl)
      refine lv_icmp_ne (tgt := 145) hx hb dX4_nameInBody_138 (by decide) (fun c_85 => ?_) (fun c_85 => ?_)
      · have hF_87 := ineg c_85 hF_83
        clear hF_83
        refine lv_iconst (v := 0) hx hb dX4_nameInBody_145 (by decide +kernel) ?_
        exact Jj_82 0 σ_18 hF_87 _ _ hP hS ls (lv_sub hl [2, 3, 1, 0] rfl)
      · have hF_86 := ipos c_85 hF_83
        clear hF_83
        refine lv_iconst (v := 1) hx hb dX4_nameInBody_141 (by decide +kernel) ?_
        refine lv_goto (tgt := 146) hx hb dX4_nameInBody_142 (by decide) ?_
        exact Jj_82 1 σ_18 hF_86 _ _ hP hS ls (lv_sub hl [2, 3, 1, 0] rfl)
    have hF_88 := ineg c_78 hF_77
    clear hF_77
    refine lv_lookup (off := 114) (tgt := 172) hx hb dX4_nameInBody_58 (by decide +kernel) ((lv_osw (k := 40) c_38 (by decide +kernel)).trans ((lv_osw (k := 61) c_60 (by decide +kernel)).trans ((lv_osw (k := 91) c_78 (by decide +kernel)).trans rfl))) (by decide) ?_
    refine lv_iload_n hx hb dX4_nameInBody_172 rfl (lv_at hl 1 rfl) ?_
    refine lv_iconst (v := 1) hx hb dX4_nameInBody_173 (by decide +kernel) ?_
    obtain ⟨j_91, ej_91, hF_92⟩ := bnd_e hF_88
    clear hF_88
    have Jj_91 : ∀ (t_89 : Int32) (σ_90 : HS), j_91 t_89 σ_90 = some res → ∀ (H : Heap) (locs : List Loc), va_P (dC, dI) vwCl (b_m cB cC cI cJ cZ oA rA σ_90 ++ b_w cB cC cI cJ cZ oA rA σ_90 ++ b_s cB cC cI cJ cZ oA rA σ_90 ++ b_c cB cC cI cJ cZ oA rA σ_90 ++ b_t cB cC cI cJ cZ oA rA σ_90 ++ b_d cB cC cI cJ cZ oA rA σ_90) H → va_S A s.heap H locs → ∀ ls : Array Slot, lv_has ls 5 [(0, .ref (oA 3)), (1, .int p0), (2, .int u_12.1), (3, .int u_14.1)] → W p l e (headSpec (g_ws yX4_nameInBody cX4_nameInBody 5 none) { frames := 5, cells := 0, slots := 0, locals := 124 }).room s m ([.ref (oA 3), .int p0] : List Value).toArray below meth c H locs 0 0 (MQ below (va_Qv (fun (_ : Unit) => True) (g_Bo (dC, dI) A (fun (_ : Unit) => (b_m cB cC cI cJ cZ oA rA res.2 ++ b_w cB cC cI cJ cZ oA rA res.2 ++ b_s cB cC cI cJ cZ oA rA res.2 ++ b_c cB cC cI cJ cZ oA rA res.2 ++ b_t cB cC cI cJ cZ oA rA res.2 ++ b_d cB cC cI cJ cZ oA rA res.2))) A) ([.ref (oA 3), .int p0] : List Value).toArray s 0 0 A) (F0 m 198 ls [.int t_89]) := by
      intro t_89 σ_90 hF0 H locs hP hS ls hl
      subst ej_91
      have hF_93 := hF0
      clear hF0
      refine lv_istore (lv' := [(4, .int t_89), (0, .ref (oA 3)), (1, .int p0), (2, .int u_12.1), (3, .int u_14.1)]) hx hb dX4_nameInBody_198 hl (by decide) rfl (fun ls hl => ?_)
      exact Jj_22 t_89 σ_90 hF_93 _ _ hP hS ls (lv_sub hl [1, 2, 3, 4, 0] rfl)
    obtain ⟨j_95, ej_95, hF_96⟩ := bnd_e hF_92
    clear hF_92
    have Jj_95 : ∀  (σ_94 : HS), j_95  σ_94 = some res → ∀ (H : Heap) (locs : List Loc), va_P (dC, dI) vwCl (b_m cB cC cI cJ cZ oA rA σ_94 ++ b_w cB cC cI cJ cZ oA rA σ_94 ++ b_s cB cC cI cJ cZ oA rA σ_94 ++ b_c cB cC cI cJ cZ oA rA σ_94 ++ b_t cB cC cI cJ cZ oA rA σ_94 ++ b_d cB cC cI cJ cZ oA rA σ_94) H → va_S A s.heap H locs → ∀ ls : Array Slot, lv_has ls 5 [(0, .ref (oA 3)), (1, .int p0), (2, .int u_12.1), (3, .int u_14.1)] → W p l e (headSpec (g_ws yX4_nameInBody cX4_nameInBody 5 none) { frames := 5, cells := 0, slots := 0, locals := 124 }).room s m ([.ref (oA 3), .int p0] : List Value).toArray below meth c H locs 0 0 (MQ below (va_Qv (fun (_ : Unit) => True) (g_Bo (dC, dI) A (fun (_ : Unit) => (b_m cB cC cI cJ cZ oA rA res.2 ++ b_w cB cC cI cJ cZ oA rA res.2 ++ b_s cB cC cI cJ cZ oA rA res.2 ++ b_c cB cC cI cJ cZ oA rA res.2 ++ b_t cB cC cI cJ cZ oA rA res.2 ++ b_d cB cC cI cJ cZ oA rA res.2))) A) ([.ref (oA 3), .int p0] : List Value).toArray s 0 0 A) (F0 m 193 ls []) := by
      intro  σ_94 hF0 H locs hP hS ls hl
      subst ej_95
      have hF_97 := hF0
      clear hF0
      refine lv_iconst (v := 1) hx hb dX4_nameInBody_193 (by decide +kernel) ?_
      refine lv_goto (tgt := 198) hx hb dX4_nameInBody_194 (by decide) ?_
      exact Jj_91 1 σ_94 hF_97 _ _ hP hS ls (lv_sub hl [0, 1, 2, 3] rfl)
    refine lv_icmp_eq (tgt := 193) hx hb dX4_nameInBody_174 (by decide) (fun c_98 => ?_) (fun c_98 => ?_)
    · have hF_99 := ipos c_98 hF_96
      clear hF_96
      exact Jj_95  σ_18 hF_99 _ _ hP hS ls (lv_sub hl [2, 3, 1, 0] rfl)
    · have hF_100 := ineg c_98 hF_96
      clear hF_96
      refine lv_iload_n hx hb dX4_nameInBody_177 rfl (lv_at hl 1 rfl) ?_
      refine lv_iconst (v := 2) hx hb dX4_nameInBody_178 (by decide +kernel) ?_
      refine lv_icmp_eq (tgt := 193) hx hb dX4_nameInBody_179 (by decide) (fun c_101 => ?_) (fun c_101 => ?_)
      · have hF_102 := ipos c_101 hF_100
        clear hF_100
        exact Jj_95  σ_18 hF_102 _ _ hP hS ls (lv_sub hl [2, 3, 1, 0] rfl)
      · have hF_103 := ineg c_101 hF_100
        clear hF_100
        refine lv_iload_n hx hb dX4_nameInBody_182 rfl (lv_at hl 1 rfl) ?_
        refine lv_iconst (v := 4) hx hb dX4_nameInBody_183 (by decide +kernel) ?_
        refine lv_icmp_eq (tgt := 193) hx hb dX4_nameInBody_184 (by decide) (fun c_104 => ?_) (fun c_104 => ?_)
        · have hF_105 := ipos c_104 hF_103
          clear hF_103
          exact Jj_95  σ_18 hF_105 _ _ hP hS ls (lv_sub hl [2, 3, 1, 0] rfl)
        · have hF_106 := ineg c_104 hF_103
          clear hF_103
          refine lv_iload_n hx hb dX4_nameInBody_187 rfl (lv_at hl 1 rfl) ?_
          refine lv_bipush (v := 7) hx hb dX4_nameInBody_188 (by decide +kernel) ?_
          refine lv_icmp_ne (tgt := 197) hx hb dX4_nameInBody_190 (by decide) (fun c_107 => ?_) (fun c_107 => ?_)
          · have hF_109 := ineg c_107 hF_106
            clear hF_106
            refine lv_iconst (v := 0) hx hb dX4_nameInBody_197 (by decide +kernel) ?_
            exact Jj_91 0 σ_18 hF_109 _ _ hP hS ls (lv_sub hl [2, 3, 1, 0] rfl)
          · have hF_108 := ipos c_107 hF_106
            clear hF_106
            exact Jj_95  σ_18 hF_108 _ _ hP hS ls (lv_sub hl [2, 3, 1, 0] rfl)
  · have hF_6 := ipos c_5 hF_4
    clear hF_4
    refine lv_aload_n hx hb dX4_nameInBody_16 rfl (lv_at hl 0 rfl) ?_
    refine va_get (D := (dC, dI)) (ci := 4) (v := .ref (oA 1)) (C := RX4) (T := TX4) (N := 18) hx hb hts ii_X4 hown hK hP 0 rfl rfl 0 (by decide) (hts (.fieldLink RX4 32 "StoryHouse$Meanings" "words" "LStoryHouse$Words;") wq_86) (fun _ h9 => h9) rfl dX4_nameInBody_17 ?_
    refine va_get (D := (dC, dI)) (ci := 10) (v := .ref (rA 1 7)) (C := RX10) (T := TX10) (N := 12) hx hb hts ii_X10 hown hK hP 7 rfl rfl 7 (by decide) (hts (.fieldLink RX4 269 "StoryHouse$Words" "meanings" "[I") wq_57) (fun _ h9 => h9) rfl dX4_nameInBody_20 ?_
    refine lv_iload_n hx hb dX4_nameInBody_23 rfl (lv_at hl 1 rfl) ?_
    refine lv_ldcw (v := 458752) hx hb hown (hts (.constant RX4 272 (458752)) wq_765) dX4_nameInBody_24 ?_
    refine lv_aload_n hx hb dX4_nameInBody_27 rfl (lv_at hl 0 rfl) ?_
    refine va_get (D := (dC, dI)) (ci := 4) (v := .int ((σ_3 3).1 8)) (C := RX4) (T := TX4) (N := 18) hx hb hts ii_X4 hown hK hP 0 rfl rfl 8 (by decide) (hts (.fieldLink RX4 129 "StoryHouse$Meanings" "slots" "I") wq_94) (fun _ h9 => h9) rfl dX4_nameInBody_28 ?_
    refine lv_ior hx hb dX4_nameInBody_31 ?_
    obtain ⟨x_7, ex_7, hF_8⟩ := bnd_e hF_6
    clear hF_6
    refine m_top ex_7 ?_
    have hPc := hP.sub (ws' := [(rA 1 7, .inl (cI, 16001, .inl ((σ_3 1).2.1 7)))]) [13] rfl
    have hDc := (hDD σ_3).sub (ws' := [(rA 1 7, .inl (cI, 16001, .inl ((σ_3 1).2.1 7)))]) [13] (by decide +kernel) rfl
    have hFc := va_free (wc := [(rA 1 7, .inl (cI, 16001, .inl ((σ_3 1).2.1 7)))]) (hDD σ_3) hS hA [13] rfl
    refine g_ofv (wc := [(rA 1 7, .inl (cI, 16001, .inl ((σ_3 1).2.1 7)))]) (wr := (((b_m cB cC cI cJ cZ oA rA σ_3 ++ b_w cB cC cI cJ cZ oA rA σ_3 ++ b_s cB cC cI cJ cZ oA rA σ_3 ++ b_c cB cC cI cJ cZ oA rA σ_3 ++ b_t cB cC cI cJ cZ oA rA σ_3 ++ b_d cB cC cI cJ cZ oA rA σ_3)).eraseIdx 13)) hP (hDD σ_3) hS hFc [13] [0, 1, 2, 3, 4, 5, 6, 7, 8, 9, 10, 11, 12, 14, 15, 16, 17, 18, 19, 20, 21, 22, 23, 24, 25, 26, 27, 28, 29, 30, 31, 32, 33, 34, 35, 36, 37, 38, 39, 40, 41, 42, 43, 44, 45, 46] rfl rfl (by decide +kernel) (by decide +kernel) (va_runSN (As := [.ref (rA 1 7), .int p0, .int x_7]) (rest := []) ⟨hx, hb, hml, hown, hts⟩ (c_X11_put l dC dI cB cC cI cJ cZ cP H.size (rA 1 7) p0 x_7 16001 ((σ_3 1).2.1 7) (by decide)) ⟨va_cnB 3 hts (g_gA wq_412) rfl rfl rfl (hN.at 23 rfl) (hts (.initialized RX11) wq_1) (by decide +kernel) ⟨Nat.le_of_ble_eq_true rfl, Nat.le_of_ble_eq_true rfl⟩, (hts (.static yX11_put) wq_411), trivial⟩ (g_preS g_bl0 hK hPc hDc hS hE hFc g_to0) rfl rfl hl.1 rfl (lv_room (Nat.le_of_ble_eq_true rfl)) dX4_nameInBody_32 ⟨Nat.le_of_ble_eq_true rfl, Nat.le_of_ble_eq_true rfl⟩) (fun g9 H locs hw9 hP' hD' hS => ?_)
    clear hPc hDc hFc hD'
    obtain ⟨σ_9, eσ_9, hF_10⟩ := bnd_e hF_8
    clear hF_8
    subst hw9
    have hP : va_P (dC, dI) vwCl (b_m cB cC cI cJ cZ oA rA σ_9 ++ b_w cB cC cI cJ cZ oA rA σ_9 ++ b_s cB cC cI cJ cZ oA rA σ_9 ++ b_c cB cC cI cJ cZ oA rA σ_9 ++ b_t cB cC cI cJ cZ oA rA σ_9 ++ b_d cB cC cI cJ cZ oA rA σ_9) H := by rw [eσ_9]; exact hP'.sub [0, 1, 2, 3, 4, 5, 6, 7, 8, 9, 10, 11, 12, 46, 13, 14, 15, 16, 17, 18, 19, 20, 21, 22, 23, 24, 25, 26, 27, 28, 29, 30, 31, 32, 33, 34, 35, 36, 37, 38, 39, 40, 41, 42, 43, 44, 45] rfl
    clear hP'
    have h9 := Option.some.inj hF_10
    subst h9
    exact W.vret hx hb hr (fun t ht hW => ⟨⟨(), rfl, trivial, m_end ht hP, hDD _⟩, hS.F ht⟩) hS.2.2 dX4_nameInBody_35
theorem dX4_bodyWord_0 : decode cX4_bodyWord 0 = .ok (.aload_n 0, 1) := by decide +kernel
theorem dX4_bodyWord_1 : decode cX4_bodyWord 1 = .ok (.getfield 32, 3) := by decide +kernel
theorem dX4_bodyWord_4 : decode cX4_bodyWord 4 = .ok (.iload_n 1, 1) := by decide +kernel
theorem dX4_bodyWord_5 : decode cX4_bodyWord 5 = .ok (.invokevirtual 116, 3) := by decide +kernel
theorem dX4_bodyWord_8 : decode cX4_bodyWord 8 = .ok (.istore_n 2, 1) := by decide +kernel
theorem dX4_bodyWord_9 : decode cX4_bodyWord 9 = .ok (.iload_n 2, 1) := by decide +kernel
theorem dX4_bodyWord_10 : decode cX4_bodyWord 10 = .ok (.iconst 2, 1) := by decide +kernel
theorem dX4_bodyWord_11 : decode cX4_bodyWord 11 = .ok (.if_icmp .ne 11, 3) := by decide +kernel
theorem dX4_bodyWord_14 : decode cX4_bodyWord 14 = .ok (.aload_n 0, 1) := by decide +kernel
theorem dX4_bodyWord_15 : decode cX4_bodyWord 15 = .ok (.iload_n 1, 1) := by decide +kernel
theorem dX4_bodyWord_16 : decode cX4_bodyWord 16 = .ok (.invokevirtual 266, 3) := by decide +kernel
theorem dX4_bodyWord_19 : decode cX4_bodyWord 19 = .ok (.goto 43, 3) := by decide +kernel
theorem dX4_bodyWord_22 : decode cX4_bodyWord 22 = .ok (.iload_n 2, 1) := by decide +kernel
theorem dX4_bodyWord_23 : decode cX4_bodyWord 23 = .ok (.sipush 251, 3) := by decide +kernel
theorem dX4_bodyWord_26 : decode cX4_bodyWord 26 = .ok (.if_icmp .ne 13, 3) := by decide +kernel
theorem dX4_bodyWord_29 : decode cX4_bodyWord 29 = .ok (.aload_n 0, 1) := by decide +kernel
theorem dX4_bodyWord_30 : decode cX4_bodyWord 30 = .ok (.getfield 63, 3) := by decide +kernel
theorem dX4_bodyWord_33 : decode cX4_bodyWord 33 = .ok (.sipush 235, 3) := by decide +kernel
theorem dX4_bodyWord_36 : decode cX4_bodyWord 36 = .ok (.if_icmp .ne 20, 3) := by decide +kernel
theorem dX4_bodyWord_39 : decode cX4_bodyWord 39 = .ok (.iload_n 2, 1) := by decide +kernel
theorem dX4_bodyWord_40 : decode cX4_bodyWord 40 = .ok (.sipush 252, 3) := by decide +kernel
theorem dX4_bodyWord_43 : decode cX4_bodyWord 43 = .ok (.if_icmp .ne 19, 3) := by decide +kernel
theorem dX4_bodyWord_46 : decode cX4_bodyWord 46 = .ok (.aload_n 0, 1) := by decide +kernel
theorem dX4_bodyWord_47 : decode cX4_bodyWord 47 = .ok (.getfield 63, 3) := by decide +kernel
theorem dX4_bodyWord_50 : decode cX4_bodyWord 50 = .ok (.sipush 235, 3) := by decide +kernel
theorem dX4_bodyWord_53 : decode cX4_bodyWord 53 = .ok (.if_icmp .ne 9, 3) := by decide +kernel
theorem dX4_bodyWord_56 : decode cX4_bodyWord 56 = .ok (.aload_n 0, 1) := by decide +kernel
theorem dX4_bodyWord_57 : decode cX4_bodyWord 57 = .ok (.iconst 3, 1) := by decide +kernel
theorem dX4_bodyWord_58 : decode cX4_bodyWord 58 = .ok (.iload_n 1, 1) := by decide +kernel
theorem dX4_bodyWord_59 : decode cX4_bodyWord 59 = .ok (.invokevirtual 84, 3) := by decide +kernel
theorem dX4_bodyWord_62 : decode cX4_bodyWord 62 = .ok (.return_, 1) := by decide +kernel
def F_X4_bodyWord (p0 : Int32) (Γ : HS) : HR :=
  (F_X10_kindOf p0 Γ).bind fun u_1 =>
  bnd (mrg (fun j => j == 1) Γ u_1.2) fun σ_3 =>
  if u_1.1 = 2 then (
    (F_X4_nameInBody p0 σ_3).bind fun u_7 =>
    some (0, u_7.2)
  ) else (
    bnd (fun  (σ_10 : HS) => (
      (F_X4_fail 3 p0 σ_10).bind fun u_14 =>
      some (0, u_14.2)
    ) : HS → HR) fun j_11 =>
    bnd (fun  (σ_16 : HS) => (
      if u_1.1 = 252 then (
        if ((σ_16 3).1 12) = 235 then (
          j_11  σ_16
        ) else (
          some (0, σ_16)
        )
      ) else (
        some (0, σ_16)
      )
    ) : HS → HR) fun j_17 =>
    if u_1.1 = 251 then (
      if ((σ_3 3).1 12) = 235 then (
        j_17  σ_3
      ) else (
        j_11  σ_3
      )
    ) else (
      j_17  σ_3
    )
  )
set_option maxHeartbeats 4000000 in
set_option maxRecDepth 100000 in
theorem k_X4_bodyWord (l : Launch) (dC : Nat → ClassId) (dI : Nat → Nat → Nat) (cB cC cI cJ cZ cP : ClassId) (oA : Nat → Nat) (rA : Nat → Nat → Nat) (sz : Nat)  (p0 : Int32) (Γ : HS) (res : Int32 × HS) (hF : F_X4_bodyWord p0 Γ = some res) : Met l yX4_bodyWord (g_ws yX4_bodyWord cX4_bodyWord 3 none) ({ frames := 6, cells := 0, slots := 0, locals := 148 }) (va_Pc [.ref (oA 3), .int p0] (g_B (dC, dI) [(cB, .byte), (cC, .char), (cI, .int), (cJ, .long), (cZ, .boolean), (cP, .object "StoryHouse$Play")] sz (b_m cB cC cI cJ cZ oA rA Γ ++ b_w cB cC cI cJ cZ oA rA Γ ++ b_s cB cC cI cJ cZ oA rA Γ ++ b_c cB cC cI cJ cZ oA rA Γ ++ b_t cB cC cI cJ cZ oA rA Γ ++ b_d cB cC cI cJ cZ oA rA Γ) g_0)) (va_Qv (fun (_ : Unit) => True) (g_Bo (dC, dI) (va_A (b_m cB cC cI cJ cZ oA rA Γ ++ b_w cB cC cI cJ cZ oA rA Γ ++ b_s cB cC cI cJ cZ oA rA Γ ++ b_c cB cC cI cJ cZ oA rA Γ ++ b_t cB cC cI cJ cZ oA rA Γ ++ b_d cB cC cI cJ cZ oA rA Γ) sz) (fun (_ : Unit) => (b_m cB cC cI cJ cZ oA rA res.2 ++ b_w cB cC cI cJ cZ oA rA res.2 ++ b_s cB cC cI cJ cZ oA rA res.2 ++ b_c cB cC cI cJ cZ oA rA res.2 ++ b_t cB cC cI cJ cZ oA rA res.2 ++ b_d cB cC cI cJ cZ oA rA res.2))) (va_A (b_m cB cC cI cJ cZ oA rA Γ ++ b_w cB cC cI cJ cZ oA rA Γ ++ b_s cB cC cI cJ cZ oA rA Γ ++ b_c cB cC cI cJ cZ oA rA Γ ++ b_t cB cC cI cJ cZ oA rA Γ ++ b_d cB cC cI cJ cZ oA rA Γ) sz)) 0 0 (va_A (b_m cB cC cI cJ cZ oA rA Γ ++ b_w cB cC cI cJ cZ oA rA Γ ++ b_s cB cC cI cJ cZ oA rA Γ ++ b_c cB cC cI cJ cZ oA rA Γ ++ b_t cB cC cI cJ cZ oA rA Γ ++ b_d cB cC cI cJ cZ oA rA Γ) sz) := by
  refine Met.ofW (cc := cX4_bodyWord) (maxL := 3) (ret := none) (by decide) rfl ?_
  intro p e s m args below meth c s₁ B hml hv
  obtain ⟨rfl, hsz, hP, hK, hD0, hE, hX⟩ := hv
  have hx := B.exec
  have hb := B.bytes
  have hr := B.returns
  have hts0 := atoms_spec (ws := g_ws yX4_bodyWord cX4_bodyWord 3 none) B.pre
  have hts : ∀ w ∈ lw_good, w.before ([.ref (oA 3), .int p0] : List Value).toArray s = true := fun w z => hts0 w (List.mem_cons_of_mem _ z)
  have hown : s.vm.findClass RX4 = some m.cls := findClass_of_methodNamed B.named
  have hlocks := B.notSynchronized
  subst hsz
  have hD1 := hD0.self (sz := s.heap.size)
  generalize hAe : va_A (b_m cB cC cI cJ cZ oA rA Γ ++ b_w cB cC cI cJ cZ oA rA Γ ++ b_s cB cC cI cJ cZ oA rA Γ ++ b_c cB cC cI cJ cZ oA rA Γ ++ b_t cB cC cI cJ cZ oA rA Γ ++ b_d cB cC cI cJ cZ oA rA Γ) s.heap.size = A at hD1 hE hX ⊢
  have hA : ∀ q : Nat, s.heap.size ≤ q → A q := fun q z => by rw [← hAe]; exact Or.inr z
  have hDD : ∀ Γ : HS, va_D A (b_m cB cC cI cJ cZ oA rA Γ ++ b_w cB cC cI cJ cZ oA rA Γ ++ b_s cB cC cI cJ cZ oA rA Γ ++ b_c cB cC cI cJ cZ oA rA Γ ++ b_t cB cC cI cJ cZ oA rA Γ ++ b_d cB cC cI cJ cZ oA rA Γ) := fun Γ9 => va_D_fst (ws := (b_m cB cC cI cJ cZ oA rA Γ ++ b_w cB cC cI cJ cZ oA rA Γ ++ b_s cB cC cI cJ cZ oA rA Γ ++ b_c cB cC cI cJ cZ oA rA Γ ++ b_t cB cC cI cJ cZ oA rA Γ ++ b_d cB cC cI cJ cZ oA rA Γ)) (ws' := (b_m cB cC cI cJ cZ oA rA Γ9 ++ b_w cB cC cI cJ cZ oA rA Γ9 ++ b_s cB cC cI cJ cZ oA rA Γ9 ++ b_c cB cC cI cJ cZ oA rA Γ9 ++ b_t cB cC cI cJ cZ oA rA Γ9 ++ b_d cB cC cI cJ cZ oA rA Γ9)) rfl hD1
  have hN := hE.1
  have hS : va_S A s.heap s.heap [] := va_S.rf
  have hl := lv_entry ([.ref (oA 3), .int p0]) (n := 3) (Nat.le_of_ble_eq_true rfl)
  rw [lg_entry_eq]
  generalize (lg_sl ([.ref (oA 3), .int p0]) ++ List.replicate (3 - (lg_sl ([.ref (oA 3), .int p0])).length) Slot.unset).toArray = ls at hl ⊢
  have hl : lv_has ls 3 [(0, .ref (oA 3)), (1, .int p0)] := hl
  unfold F_X4_bodyWord at hF
  refine lv_aload_n hx hb dX4_bodyWord_0 rfl (lv_at hl 0 rfl) ?_
  refine va_get (D := (dC, dI)) (ci := 4) (v := .ref (oA 1)) (C := RX4) (T := TX4) (N := 18) hx hb hts ii_X4 hown hK hP 0 rfl rfl 0 (by decide) (hts (.fieldLink RX4 32 "StoryHouse$Meanings" "words" "LStoryHouse$Words;") wq_86) (fun _ h9 => h9) rfl dX4_bodyWord_1 ?_
  refine lv_iload_n hx hb dX4_bodyWord_4 rfl (lv_at hl 1 rfl) ?_
  obtain ⟨u_1, hu_1, hF_2⟩ := Option.bind_eq_some_iff.mp hF
  clear hF
  have hPc := hP.sub (ws' := (b_w cB cC cI cJ cZ oA rA Γ)) [7, 8, 9, 10, 11, 12, 13, 14, 15] rfl
  have hDc := (hDD Γ).sub (ws' := (b_w cB cC cI cJ cZ oA rA Γ)) [7, 8, 9, 10, 11, 12, 13, 14, 15] (by decide +kernel) rfl
  have hFc := va_free (wc := (b_w cB cC cI cJ cZ oA rA Γ)) (hDD Γ) hS hA [7, 8, 9, 10, 11, 12, 13, 14, 15] rfl
  refine g_ofi (wc := (b_w cB cC cI cJ cZ oA rA Γ)) (wr := (b_m cB cC cI cJ cZ oA rA Γ ++ b_s cB cC cI cJ cZ oA rA Γ ++ b_c cB cC cI cJ cZ oA rA Γ ++ b_t cB cC cI cJ cZ oA rA Γ ++ b_d cB cC cI cJ cZ oA rA Γ)) hP (hDD Γ) hS hFc [7, 8, 9, 10, 11, 12, 13, 14, 15] [0, 1, 2, 3, 4, 5, 6, 16, 17, 18, 19, 20, 21, 22, 23, 24, 25, 26, 27, 28, 29, 30, 31, 32, 33, 34, 35, 36, 37, 38, 39, 40, 41, 42, 43, 44, 45, 46] rfl rfl (by decide +kernel) (by decide +kernel) (va_runV (As := [.int p0]) (rest := []) ⟨hx, hb, hml, hown, hts⟩ (k_X10_kindOf l dC dI cB cC cI cJ cZ cP oA rA s.heap.size  p0 Γ _ hu_1) (cwV 1 hts (g_gV wq_714 wq_543 wq_544 wq_2 wq_545) rfl rfl rfl (by decide +kernel) ⟨Nat.le_of_ble_eq_true rfl, Nat.le_of_ble_eq_true rfl⟩) (g_preV g_bl0 hK hPc hDc hS hE hFc g_to0 (q0 := 0) (ci := 10) rfl rfl) rfl rfl hl.1 rfl (lv_room (Nat.le_of_ble_eq_true rfl)) dX4_bodyWord_5 ⟨Nat.le_of_ble_eq_true rfl, Nat.le_of_ble_eq_true rfl⟩) (fun r9 u9 H locs hw9 hP' hD' hS => ?_)
  clear hPc hDc hFc
  subst hw9
  obtain ⟨σ_3, eσ_3, hF_4⟩ := bnd_e hF_2
  clear hF_2
  have hP : va_P (dC, dI) vwCl (b_m cB cC cI cJ cZ oA rA σ_3 ++ b_w cB cC cI cJ cZ oA rA σ_3 ++ b_s cB cC cI cJ cZ oA rA σ_3 ++ b_c cB cC cI cJ cZ oA rA σ_3 ++ b_t cB cC cI cJ cZ oA rA σ_3 ++ b_d cB cC cI cJ cZ oA rA σ_3) H := by rw [eσ_3]; exact hP'.sub [0, 1, 2, 3, 4, 5, 6, 38, 39, 40, 41, 42, 43, 44, 45, 46, 7, 8, 9, 10, 11, 12, 13, 14, 15, 16, 17, 18, 19, 20, 21, 22, 23, 24, 25, 26, 27, 28, 29, 30, 31, 32, 33, 34, 35, 36, 37] rfl
  clear hP' hD'
  refine lv_istore_n (lv' := [(2, .int u_1.1), (0, .ref (oA 3)), (1, .int p0)]) hx hb dX4_bodyWord_8 rfl hl (by decide) rfl (fun ls hl => ?_)
  refine lv_iload_n hx hb dX4_bodyWord_9 rfl (lv_at hl 0 rfl) ?_
  refine lv_iconst (v := 2) hx hb dX4_bodyWord_10 (by decide +kernel) ?_
  refine lv_icmp_ne (tgt := 22) hx hb dX4_bodyWord_11 (by decide) (fun c_5 => ?_) (fun c_5 => ?_)
  · have hF_9 := ineg c_5 hF_4
    clear hF_4
    refine lv_iload_n hx hb dX4_bodyWord_22 rfl (lv_at hl 0 rfl) ?_
    refine lv_sipush (v := 251) hx hb dX4_bodyWord_23 (by decide +kernel) ?_
    obtain ⟨j_11, ej_11, hF_12⟩ := bnd_e hF_9
    clear hF_9
    have Jj_11 : ∀  (σ_10 : HS), j_11  σ_10 = some res → ∀ (H : Heap) (locs : List Loc), va_P (dC, dI) vwCl (b_m cB cC cI cJ cZ oA rA σ_10 ++ b_w cB cC cI cJ cZ oA rA σ_10 ++ b_s cB cC cI cJ cZ oA rA σ_10 ++ b_c cB cC cI cJ cZ oA rA σ_10 ++ b_t cB cC cI cJ cZ oA rA σ_10 ++ b_d cB cC cI cJ cZ oA rA σ_10) H → va_S A s.heap H locs → ∀ ls : Array Slot, lv_has ls 3 [(0, .ref (oA 3)), (1, .int p0)] → W p l e (headSpec (g_ws yX4_bodyWord cX4_bodyWord 3 none) { frames := 6, cells := 0, slots := 0, locals := 148 }).room s m ([.ref (oA 3), .int p0] : List Value).toArray below meth c H locs 0 0 (MQ below (va_Qv (fun (_ : Unit) => True) (g_Bo (dC, dI) A (fun (_ : Unit) => (b_m cB cC cI cJ cZ oA rA res.2 ++ b_w cB cC cI cJ cZ oA rA res.2 ++ b_s cB cC cI cJ cZ oA rA res.2 ++ b_c cB cC cI cJ cZ oA rA res.2 ++ b_t cB cC cI cJ cZ oA rA res.2 ++ b_d cB cC cI cJ cZ oA rA res.2))) A) ([.ref (oA 3), .int p0] : List Value).toArray s 0 0 A) (F0 m 56 ls []) := by
      intro  σ_10 hF0 H locs hP hS ls hl
      subst ej_11
      have hF_13 := hF0
      clear hF0
      refine lv_aload_n hx hb dX4_bodyWord_56 rfl (lv_at hl 0 rfl) ?_
      refine lv_iconst (v := 3) hx hb dX4_bodyWord_57 (by decide +kernel) ?_
      refine lv_iload_n hx hb dX4_bodyWord_58 rfl (lv_at hl 1 rfl) ?_
      obtain ⟨u_14, hu_14, hF_15⟩ := Option.bind_eq_some_iff.mp hF_13
      clear hF_13
      have hPc := hP.sub (ws' := (b_m cB cC cI cJ cZ oA rA σ_10 ++ b_w cB cC cI cJ cZ oA rA σ_10 ++ b_s cB cC cI cJ cZ oA rA σ_10 ++ b_c cB cC cI cJ cZ oA rA σ_10 ++ b_t cB cC cI cJ cZ oA rA σ_10 ++ b_d cB cC cI cJ cZ oA rA σ_10)) [0, 1, 2, 3, 4, 5, 6, 7, 8, 9, 10, 11, 12, 13, 14, 15, 16, 17, 18, 19, 20, 21, 22, 23, 24, 25, 26, 27, 28, 29, 30, 31, 32, 33, 34, 35, 36, 37, 38, 39, 40, 41, 42, 43, 44, 45, 46] rfl
      have hDc := (hDD σ_10).sub (ws' := (b_m cB cC cI cJ cZ oA rA σ_10 ++ b_w cB cC cI cJ cZ oA rA σ_10 ++ b_s cB cC cI cJ cZ oA rA σ_10 ++ b_c cB cC cI cJ cZ oA rA σ_10 ++ b_t cB cC cI cJ cZ oA rA σ_10 ++ b_d cB cC cI cJ cZ oA rA σ_10)) [0, 1, 2, 3, 4, 5, 6, 7, 8, 9, 10, 11, 12, 13, 14, 15, 16, 17, 18, 19, 20, 21, 22, 23, 24, 25, 26, 27, 28, 29, 30, 31, 32, 33, 34, 35, 36, 37, 38, 39, 40, 41, 42, 43, 44, 45, 46] (by decide +kernel) rfl
      have hFc := va_free (wc := (b_m cB cC cI cJ cZ oA rA σ_10 ++ b_w cB cC cI cJ cZ oA rA σ_10 ++ b_s cB cC cI cJ cZ oA rA σ_10 ++ b_c cB cC cI cJ cZ oA rA σ_10 ++ b_t cB cC cI cJ cZ oA rA σ_10 ++ b_d cB cC cI cJ cZ oA rA σ_10)) (hDD σ_10) hS hA [0, 1, 2, 3, 4, 5, 6, 7, 8, 9, 10, 11, 12, 13, 14, 15, 16, 17, 18, 19, 20, 21, 22, 23, 24, 25, 26, 27, 28, 29, 30, 31, 32, 33, 34, 35, 36, 37, 38, 39, 40, 41, 42, 43, 44, 45, 46] rfl
      refine g_ofv (wc := (b_m cB cC cI cJ cZ oA rA σ_10 ++ b_w cB cC cI cJ cZ oA rA σ_10 ++ b_s cB cC cI cJ cZ oA rA σ_10 ++ b_c cB cC cI cJ cZ oA rA σ_10 ++ b_t cB cC cI cJ cZ oA rA σ_10 ++ b_d cB cC cI cJ cZ oA rA σ_10)) (wr := ([] : va_W)) hP (hDD σ_10) hS hFc [0, 1, 2, 3, 4, 5, 6, 7, 8, 9, 10, 11, 12, 13, 14, 15, 16, 17, 18, 19, 20, 21, 22, 23, 24, 25, 26, 27, 28, 29, 30, 31, 32, 33, 34, 35, 36, 37, 38, 39, 40, 41, 42, 43, 44, 45, 46] [] rfl rfl (by decide +kernel) (by decide +kernel) (va_runV (As := [.int 3, .int p0]) (rest := []) ⟨hx, hb, hml, hown, hts⟩ (k_X4_fail l dC dI cB cC cI cJ cZ cP oA rA H.size  3 p0 σ_10 _ hu_14) (cwV 2 hts (g_gV wq_725 wq_726 wq_2037 wq_4 wq_727) rfl rfl rfl (by decide +kernel) ⟨Nat.le_of_ble_eq_true rfl, Nat.le_of_ble_eq_true rfl⟩) (g_preV g_bl0 hK hPc hDc hS hE hFc g_to0 (q0 := 0) (ci := 4) rfl rfl) rfl rfl hl.1 rfl (lv_room (Nat.le_of_ble_eq_true rfl)) dX4_bodyWord_59 ⟨Nat.le_of_ble_eq_true rfl, Nat.le_of_ble_eq_true rfl⟩) (fun u9 H locs hw9 hP' hD' hS => ?_)
      clear hPc hDc hFc
      have hP : va_P (dC, dI) vwCl (b_m cB cC cI cJ cZ oA rA u_14.2 ++ b_w cB cC cI cJ cZ oA rA u_14.2 ++ b_s cB cC cI cJ cZ oA rA u_14.2 ++ b_c cB cC cI cJ cZ oA rA u_14.2 ++ b_t cB cC cI cJ cZ oA rA u_14.2 ++ b_d cB cC cI cJ cZ oA rA u_14.2) H := hP'
      clear hP' hD'
      have h9 := Option.some.inj hF_15
      subst h9
      exact W.vret hx hb hr (fun t ht hW => ⟨⟨(), rfl, trivial, m_end ht hP, hDD _⟩, hS.F ht⟩) hS.2.2 dX4_bodyWord_62
    obtain ⟨j_17, ej_17, hF_18⟩ := bnd_e hF_12
    clear hF_12
    have Jj_17 : ∀  (σ_16 : HS), j_17  σ_16 = some res → ∀ (H : Heap) (locs : List Loc), va_P (dC, dI) vwCl (b_m cB cC cI cJ cZ oA rA σ_16 ++ b_w cB cC cI cJ cZ oA rA σ_16 ++ b_s cB cC cI cJ cZ oA rA σ_16 ++ b_c cB cC cI cJ cZ oA rA σ_16 ++ b_t cB cC cI cJ cZ oA rA σ_16 ++ b_d cB cC cI cJ cZ oA rA σ_16) H → va_S A s.heap H locs → ∀ ls : Array Slot, lv_has ls 3 [(0, .ref (oA 3)), (1, .int p0), (2, .int u_1.1)] → W p l e (headSpec (g_ws yX4_bodyWord cX4_bodyWord 3 none) { frames := 6, cells := 0, slots := 0, locals := 148 }).room s m ([.ref (oA 3), .int p0] : List Value).toArray below meth c H locs 0 0 (MQ below (va_Qv (fun (_ : Unit) => True) (g_Bo (dC, dI) A (fun (_ : Unit) => (b_m cB cC cI cJ cZ oA rA res.2 ++ b_w cB cC cI cJ cZ oA rA res.2 ++ b_s cB cC cI cJ cZ oA rA res.2 ++ b_c cB cC cI cJ cZ oA rA res.2 ++ b_t cB cC cI cJ cZ oA rA res.2 ++ b_d cB cC cI cJ cZ oA rA res.2))) A) ([.ref (oA 3), .int p0] : List Value).toArray s 0 0 A) (F0 m 39 ls []) := by
      intro  σ_16 hF0 H locs hP hS ls hl
      subst ej_17
      have hF_19 := hF0
      clear hF0
      refine lv_iload_n hx hb dX4_bodyWord_39 rfl (lv_at hl 2 rfl) ?_
      refine lv_sipush (v := 252) hx hb dX4_bodyWord_40 (by decide +kernel) ?_
      refine lv_icmp_ne (tgt := 62) hx hb dX4_bodyWord_43 (by decide) (fun c_20 => ?_) (fun c_20 => ?_)
      · have hF_25 := ineg c_20 hF_19
        clear hF_19
        have h9 := Option.some.inj hF_25
        subst h9
        exact W.vret hx hb hr (fun t ht hW => ⟨⟨(), rfl, trivial, m_end ht hP, hDD _⟩, hS.F ht⟩) hS.2.2 dX4_bodyWord_62
      · have hF_21 := ipos c_20 hF_19
        clear hF_19
        refine lv_aload_n hx hb dX4_bodyWord_46 rfl (lv_at hl 0 rfl) ?_
        refine va_get (D := (dC, dI)) (ci := 4) (v := .int ((σ_16 3).1 12)) (C := RX4) (T := TX4) (N := 18) hx hb hts ii_X4 hown hK hP 0 rfl rfl 12 (by decide) (hts (.fieldLink RX4 63 "StoryHouse$Meanings" "routine" "I") wq_98) (fun _ h9 => h9) rfl dX4_bodyWord_47 ?_
        refine lv_sipush (v := 235) hx hb dX4_bodyWord_50 (by decide +kernel) ?_
        refine lv_icmp_ne (tgt := 62) hx hb dX4_bodyWord_53 (by decide) (fun c_22 => ?_) (fun c_22 => ?_)
        · have hF_24 := ineg c_22 hF_21
          clear hF_21
          have h9 := Option.some.inj hF_24
          subst h9
          exact W.vret hx hb hr (fun t ht hW => ⟨⟨(), rfl, trivial, m_end ht hP, hDD _⟩, hS.F ht⟩) hS.2.2 dX4_bodyWord_62
        · have hF_23 := ipos c_22 hF_21
          clear hF_21
          exact Jj_11  σ_16 hF_23 _ _ hP hS ls (lv_sub hl [0, 1] rfl)
    refine lv_icmp_ne (tgt := 39) hx hb dX4_bodyWord_26 (by decide) (fun c_26 => ?_) (fun c_26 => ?_)
    · have hF_31 := ineg c_26 hF_18
      clear hF_18
      exact Jj_17  σ_3 hF_31 _ _ hP hS ls (lv_sub hl [1, 2, 0] rfl)
    · have hF_27 := ipos c_26 hF_18
      clear hF_18
      refine lv_aload_n hx hb dX4_bodyWord_29 rfl (lv_at hl 1 rfl) ?_
      refine va_get (D := (dC, dI)) (ci := 4) (v := .int ((σ_3 3).1 12)) (C := RX4) (T := TX4) (N := 18) hx hb hts ii_X4 hown hK hP 0 rfl rfl 12 (by decide) (hts (.fieldLink RX4 63 "StoryHouse$Meanings" "routine" "I") wq_98) (fun _ h9 => h9) rfl dX4_bodyWord_30 ?_
      refine lv_sipush (v := 235) hx hb dX4_bodyWord_33 (by decide +kernel) ?_
      refine lv_icmp_ne (tgt := 56) hx hb dX4_bodyWord_36 (by decide) (fun c_28 => ?_) (fun c_28 => ?_)
      · have hF_30 := ineg c_28 hF_27
        clear hF_27
        exact Jj_11  σ_3 hF_30 _ _ hP hS ls (lv_sub hl [1, 2] rfl)
      · have hF_29 := ipos c_28 hF_27
        clear hF_27
        exact Jj_17  σ_3 hF_29 _ _ hP hS ls (lv_sub hl [1, 2, 0] rfl)
  · have hF_6 := ipos c_5 hF_4
    clear hF_4
    refine lv_aload_n hx hb dX4_bodyWord_14 rfl (lv_at hl 1 rfl) ?_
    refine lv_iload_n hx hb dX4_bodyWord_15 rfl (lv_at hl 2 rfl) ?_
    obtain ⟨u_7, hu_7, hF_8⟩ := Option.bind_eq_some_iff.mp hF_6
    clear hF_6
    have hPc := hP.sub (ws' := (b_m cB cC cI cJ cZ oA rA σ_3 ++ b_w cB cC cI cJ cZ oA rA σ_3 ++ b_s cB cC cI cJ cZ oA rA σ_3 ++ b_c cB cC cI cJ cZ oA rA σ_3 ++ b_t cB cC cI cJ cZ oA rA σ_3 ++ b_d cB cC cI cJ cZ oA rA σ_3)) [0, 1, 2, 3, 4, 5, 6, 7, 8, 9, 10, 11, 12, 13, 14, 15, 16, 17, 18, 19, 20, 21, 22, 23, 24, 25, 26, 27, 28, 29, 30, 31, 32, 33, 34, 35, 36, 37, 38, 39, 40, 41, 42, 43, 44, 45, 46] rfl
    have hDc := (hDD σ_3).sub (ws' := (b_m cB cC cI cJ cZ oA rA σ_3 ++ b_w cB cC cI cJ cZ oA rA σ_3 ++ b_s cB cC cI cJ cZ oA rA σ_3 ++ b_c cB cC cI cJ cZ oA rA σ_3 ++ b_t cB cC cI cJ cZ oA rA σ_3 ++ b_d cB cC cI cJ cZ oA rA σ_3)) [0, 1, 2, 3, 4, 5, 6, 7, 8, 9, 10, 11, 12, 13, 14, 15, 16, 17, 18, 19, 20, 21, 22, 23, 24, 25, 26, 27, 28, 29, 30, 31, 32, 33, 34, 35, 36, 37, 38, 39, 40, 41, 42, 43, 44, 45, 46] (by decide +kernel) rfl
    have hFc := va_free (wc := (b_m cB cC cI cJ cZ oA rA σ_3 ++ b_w cB cC cI cJ cZ oA rA σ_3 ++ b_s cB cC cI cJ cZ oA rA σ_3 ++ b_c cB cC cI cJ cZ oA rA σ_3 ++ b_t cB cC cI cJ cZ oA rA σ_3 ++ b_d cB cC cI cJ cZ oA rA σ_3)) (hDD σ_3) hS hA [0, 1, 2, 3, 4, 5, 6, 7, 8, 9, 10, 11, 12, 13, 14, 15, 16, 17, 18, 19, 20, 21, 22, 23, 24, 25, 26, 27, 28, 29, 30, 31, 32, 33, 34, 35, 36, 37, 38, 39, 40, 41, 42, 43, 44, 45, 46] rfl
    refine g_ofv (wc := (b_m cB cC cI cJ cZ oA rA σ_3 ++ b_w cB cC cI cJ cZ oA rA σ_3 ++ b_s cB cC cI cJ cZ oA rA σ_3 ++ b_c cB cC cI cJ cZ oA rA σ_3 ++ b_t cB cC cI cJ cZ oA rA σ_3 ++ b_d cB cC cI cJ cZ oA rA σ_3)) (wr := ([] : va_W)) hP (hDD σ_3) hS hFc [0, 1, 2, 3, 4, 5, 6, 7, 8, 9, 10, 11, 12, 13, 14, 15, 16, 17, 18, 19, 20, 21, 22, 23, 24, 25, 26, 27, 28, 29, 30, 31, 32, 33, 34, 35, 36, 37, 38, 39, 40, 41, 42, 43, 44, 45, 46] [] rfl rfl (by decide +kernel) (by decide +kernel) (va_runV (As := [.int p0]) (rest := []) ⟨hx, hb, hml, hown, hts⟩ (k_X4_nameInBody l dC dI cB cC cI cJ cZ cP oA rA H.size  p0 σ_3 _ hu_7) (cwV 1 hts (g_gV wq_762 wq_763 wq_2049 wq_4 wq_764) rfl rfl rfl (by decide +kernel) ⟨Nat.le_of_ble_eq_true rfl, Nat.le_of_ble_eq_true rfl⟩) (g_preV g_bl0 hK hPc hDc hS hE hFc g_to0 (q0 := 0) (ci := 4) rfl rfl) rfl rfl hl.1 rfl (lv_room (Nat.le_of_ble_eq_true rfl)) dX4_bodyWord_16 ⟨Nat.le_of_ble_eq_true rfl, Nat.le_of_ble_eq_true rfl⟩) (fun u9 H locs hw9 hP' hD' hS => ?_)
    clear hPc hDc hFc
    have hP : va_P (dC, dI) vwCl (b_m cB cC cI cJ cZ oA rA u_7.2 ++ b_w cB cC cI cJ cZ oA rA u_7.2 ++ b_s cB cC cI cJ cZ oA rA u_7.2 ++ b_c cB cC cI cJ cZ oA rA u_7.2 ++ b_t cB cC cI cJ cZ oA rA u_7.2 ++ b_d cB cC cI cJ cZ oA rA u_7.2) H := hP'
    clear hP' hD'
    refine lv_goto (tgt := 62) hx hb dX4_bodyWord_19 (by decide) ?_
    have h9 := Option.some.inj hF_8
    subst h9
    exact W.vret hx hb hr (fun t ht hW => ⟨⟨(), rfl, trivial, m_end ht hP, hDD _⟩, hS.F ht⟩) hS.2.2 dX4_bodyWord_62
theorem dX4_see_0 : decode cX4_see 0 = .ok (.aload_n 0, 1) := by decide +kernel
theorem dX4_see_1 : decode cX4_see 1 = .ok (.dup, 1) := by decide +kernel
theorem dX4_see_2 : decode cX4_see 2 = .ok (.getfield 129, 3) := by decide +kernel
theorem dX4_see_5 : decode cX4_see 5 = .ok (.iconst 1, 1) := by decide +kernel
theorem dX4_see_6 : decode cX4_see 6 = .ok (.iadd, 1) := by decide +kernel
theorem dX4_see_7 : decode cX4_see 7 = .ok (.putfield 129, 3) := by decide +kernel
theorem dX4_see_10 : decode cX4_see 10 = .ok (.aload_n 0, 1) := by decide +kernel
theorem dX4_see_11 : decode cX4_see 11 = .ok (.getfield 23, 3) := by decide +kernel
theorem dX4_see_14 : decode cX4_see 14 = .ok (.iload_n 1, 1) := by decide +kernel
theorem dX4_see_15 : decode cX4_see 15 = .ok (.aload_n 0, 1) := by decide +kernel
theorem dX4_see_16 : decode cX4_see 16 = .ok (.getfield 129, 3) := by decide +kernel
theorem dX4_see_19 : decode cX4_see 19 = .ok (.invokestatic 112, 3) := by decide +kernel
theorem dX4_see_22 : decode cX4_see 22 = .ok (.aload_n 0, 1) := by decide +kernel
theorem dX4_see_23 : decode cX4_see 23 = .ok (.getfield 26, 3) := by decide +kernel
theorem dX4_see_26 : decode cX4_see 26 = .ok (.aload_n 0, 1) := by decide +kernel
theorem dX4_see_27 : decode cX4_see 27 = .ok (.getfield 126, 3) := by decide +kernel
theorem dX4_see_30 : decode cX4_see 30 = .ok (.iload_n 1, 1) := by decide +kernel
theorem dX4_see_31 : decode cX4_see 31 = .ok (.invokestatic 112, 3) := by decide +kernel
theorem dX4_see_34 : decode cX4_see 34 = .ok (.aload_n 0, 1) := by decide +kernel
theorem dX4_see_35 : decode cX4_see 35 = .ok (.dup, 1) := by decide +kernel
theorem dX4_see_36 : decode cX4_see 36 = .ok (.getfield 126, 3) := by decide +kernel
theorem dX4_see_39 : decode cX4_see 39 = .ok (.iconst 1, 1) := by decide +kernel
theorem dX4_see_40 : decode cX4_see 40 = .ok (.iadd, 1) := by decide +kernel
theorem dX4_see_41 : decode cX4_see 41 = .ok (.putfield 126, 3) := by decide +kernel
theorem dX4_see_44 : decode cX4_see 44 = .ok (.return_, 1) := by decide +kernel
def F_X4_see (p0 : Int32) (Γ : HS) : HR :=
  bnd (cI' Γ 3 8 (((Γ 3).1 8) + 1)) fun σ_1 =>
  bnd (((σ_1 3).1 8)) fun (x_3 : Int32) =>
  bnd (cA' σ_1 3 5 (g_put 4500 ((σ_1 3).2.1 5) p0 x_3)) fun σ_5 =>
  bnd (cA' σ_5 3 6 (g_put 14 ((σ_5 3).2.1 6) ((σ_5 3).1 7) p0)) fun σ_7 =>
  bnd (cI' σ_7 3 7 (((σ_7 3).1 7) + 1)) fun σ_9 =>
  some (0, σ_9)
set_option maxHeartbeats 4000000 in
set_option maxRecDepth 100000 in
theorem k_X4_see (l : Launch) (dC : Nat → ClassId) (dI : Nat → Nat → Nat) (cB cC cI cJ cZ cP : ClassId) (oA : Nat → Nat) (rA : Nat → Nat → Nat) (sz : Nat)  (p0 : Int32) (Γ : HS) (res : Int32 × HS) (hF : F_X4_see p0 Γ = some res) : Met l yX4_see (g_ws yX4_see cX4_see 2 none) ({ frames := 3, cells := 0, slots := 0, locals := 82 }) (va_Pc [.ref (oA 3), .int p0] (g_B (dC, dI) [(cB, .byte), (cC, .char), (cI, .int), (cJ, .long), (cZ, .boolean), (cP, .object "StoryHouse$Play")] sz (b_m cB cC cI cJ cZ oA rA Γ ++ b_w cB cC cI cJ cZ oA rA Γ ++ b_s cB cC cI cJ cZ oA rA Γ ++ b_c cB cC cI cJ cZ oA rA Γ ++ b_t cB cC cI cJ cZ oA rA Γ ++ b_d cB cC cI cJ cZ oA rA Γ) g_0)) (va_Qv (fun (_ : Unit) => True) (g_Bo (dC, dI) (va_A (b_m cB cC cI cJ cZ oA rA Γ ++ b_w cB cC cI cJ cZ oA rA Γ ++ b_s cB cC cI cJ cZ oA rA Γ ++ b_c cB cC cI cJ cZ oA rA Γ ++ b_t cB cC cI cJ cZ oA rA Γ ++ b_d cB cC cI cJ cZ oA rA Γ) sz) (fun (_ : Unit) => (b_m cB cC cI cJ cZ oA rA res.2 ++ b_w cB cC cI cJ cZ oA rA res.2 ++ b_s cB cC cI cJ cZ oA rA res.2 ++ b_c cB cC cI cJ cZ oA rA res.2 ++ b_t cB cC cI cJ cZ oA rA res.2 ++ b_d cB cC cI cJ cZ oA rA res.2))) (va_A (b_m cB cC cI cJ cZ oA rA Γ ++ b_w cB cC cI cJ cZ oA rA Γ ++ b_s cB cC cI cJ cZ oA rA Γ ++ b_c cB cC cI cJ cZ oA rA Γ ++ b_t cB cC cI cJ cZ oA rA Γ ++ b_d cB cC cI cJ cZ oA rA Γ) sz)) 0 0 (va_A (b_m cB cC cI cJ cZ oA rA Γ ++ b_w cB cC cI cJ cZ oA rA Γ ++ b_s cB cC cI cJ cZ oA rA Γ ++ b_c cB cC cI cJ cZ oA rA Γ ++ b_t cB cC cI cJ cZ oA rA Γ ++ b_d cB cC cI cJ cZ oA rA Γ) sz) := by
  refine Met.ofW (cc := cX4_see) (maxL := 2) (ret := none) (by decide) rfl ?_
  intro p e s m args below meth c s₁ B hml hv
  obtain ⟨rfl, hsz, hP, hK, hD0, hE, hX⟩ := hv
  have hx := B.exec
  have hb := B.bytes
  have hr := B.returns
  have hts0 := atoms_spec (ws := g_ws yX4_see cX4_see 2 none) B.pre
  have hts : ∀ w ∈ lw_good, w.before ([.ref (oA 3), .int p0] : List Value).toArray s = true := fun w z => hts0 w (List.mem_cons_of_mem _ z)
  have hown : s.vm.findClass RX4 = some m.cls := findClass_of_methodNamed B.named
  have hlocks := B.notSynchronized
  subst hsz
  have hD1 := hD0.self (sz := s.heap.size)
  generalize hAe : va_A (b_m cB cC cI cJ cZ oA rA Γ ++ b_w cB cC cI cJ cZ oA rA Γ ++ b_s cB cC cI cJ cZ oA rA Γ ++ b_c cB cC cI cJ cZ oA rA Γ ++ b_t cB cC cI cJ cZ oA rA Γ ++ b_d cB cC cI cJ cZ oA rA Γ) s.heap.size = A at hD1 hE hX ⊢
  have hA : ∀ q : Nat, s.heap.size ≤ q → A q := fun q z => by rw [← hAe]; exact Or.inr z
  have hDD : ∀ Γ : HS, va_D A (b_m cB cC cI cJ cZ oA rA Γ ++ b_w cB cC cI cJ cZ oA rA Γ ++ b_s cB cC cI cJ cZ oA rA Γ ++ b_c cB cC cI cJ cZ oA rA Γ ++ b_t cB cC cI cJ cZ oA rA Γ ++ b_d cB cC cI cJ cZ oA rA Γ) := fun Γ9 => va_D_fst (ws := (b_m cB cC cI cJ cZ oA rA Γ ++ b_w cB cC cI cJ cZ oA rA Γ ++ b_s cB cC cI cJ cZ oA rA Γ ++ b_c cB cC cI cJ cZ oA rA Γ ++ b_t cB cC cI cJ cZ oA rA Γ ++ b_d cB cC cI cJ cZ oA rA Γ)) (ws' := (b_m cB cC cI cJ cZ oA rA Γ9 ++ b_w cB cC cI cJ cZ oA rA Γ9 ++ b_s cB cC cI cJ cZ oA rA Γ9 ++ b_c cB cC cI cJ cZ oA rA Γ9 ++ b_t cB cC cI cJ cZ oA rA Γ9 ++ b_d cB cC cI cJ cZ oA rA Γ9)) rfl hD1
  have hN := hE.1
  have hS : va_S A s.heap s.heap [] := va_S.rf
  have hl := lv_entry ([.ref (oA 3), .int p0]) (n := 2) (Nat.le_of_ble_eq_true rfl)
  rw [lg_entry_eq]
  generalize (lg_sl ([.ref (oA 3), .int p0]) ++ List.replicate (2 - (lg_sl ([.ref (oA 3), .int p0])).length) Slot.unset).toArray = ls at hl ⊢
  have hl : lv_has ls 2 [(0, .ref (oA 3)), (1, .int p0)] := hl
  unfold F_X4_see at hF
  refine lv_aload_n hx hb dX4_see_0 rfl (lv_at hl 0 rfl) ?_
  refine lv_dup hx hb dX4_see_1 rfl ?_
  refine va_get (D := (dC, dI)) (ci := 4) (v := .int ((Γ 3).1 8)) (C := RX4) (T := TX4) (N := 18) hx hb hts ii_X4 hown hK hP 0 rfl rfl 8 (by decide) (hts (.fieldLink RX4 129 "StoryHouse$Meanings" "slots" "I") wq_94) (fun _ h9 => h9) rfl dX4_see_2 ?_
  refine lv_iconst (v := 1) hx hb dX4_see_5 (by decide +kernel) ?_
  refine lv_iadd hx hb dX4_see_6 ?_
  obtain ⟨σ_1, eσ_1, hF_2⟩ := bnd_e hF
  clear hF
  refine va_put (D := (dC, dI)) (ci := 4) (v := .int (((Γ 3).1 8) + 1)) (ty := .int) (C := RX4) (T := TX4) (N := 18) hx hb hts ii_X4 tyX4 tyX4_ok nmX4 hown hK hP (hDD _) hS 0 rfl rfl 8 (by decide) (hts (.fieldLink RX4 129 "StoryHouse$Meanings" "slots" "I") wq_94) (fun _ h9 => h9) rfl (by decide +kernel) rfl rfl (Nat.le_of_ble_eq_true rfl) dX4_see_7 (fun H locs hP' _ hS => ?_)
  have hP : va_P (dC, dI) vwCl (b_m cB cC cI cJ cZ oA rA σ_1 ++ b_w cB cC cI cJ cZ oA rA σ_1 ++ b_s cB cC cI cJ cZ oA rA σ_1 ++ b_c cB cC cI cJ cZ oA rA σ_1 ++ b_t cB cC cI cJ cZ oA rA σ_1 ++ b_d cB cC cI cJ cZ oA rA σ_1) H := by rw [eσ_1]; exact cs_mwsctd_m_8 ▸ hP'
  clear hP'
  refine lv_aload_n hx hb dX4_see_10 rfl (lv_at hl 0 rfl) ?_
  refine va_get (D := (dC, dI)) (ci := 4) (v := .ref (rA 3 5)) (C := RX4) (T := TX4) (N := 18) hx hb hts ii_X4 hown hK hP 0 rfl rfl 5 (by decide) (hts (.fieldLink RX4 23 "StoryHouse$Meanings" "seen" "[I") wq_91) (fun _ h9 => h9) rfl dX4_see_11 ?_
  refine lv_iload_n hx hb dX4_see_14 rfl (lv_at hl 1 rfl) ?_
  refine lv_aload_n hx hb dX4_see_15 rfl (lv_at hl 0 rfl) ?_
  refine va_get (D := (dC, dI)) (ci := 4) (v := .int ((σ_1 3).1 8)) (C := RX4) (T := TX4) (N := 18) hx hb hts ii_X4 hown hK hP 0 rfl rfl 8 (by decide) (hts (.fieldLink RX4 129 "StoryHouse$Meanings" "slots" "I") wq_94) (fun _ h9 => h9) rfl dX4_see_16 ?_
  obtain ⟨x_3, ex_3, hF_4⟩ := bnd_e hF_2
  clear hF_2
  refine m_top ex_3 ?_
  have hPc := hP.sub (ws' := [(rA 3 5, .inl (cI, 4500, .inl ((σ_1 3).2.1 5)))]) [4] rfl
  have hDc := (hDD σ_1).sub (ws' := [(rA 3 5, .inl (cI, 4500, .inl ((σ_1 3).2.1 5)))]) [4] (by decide +kernel) rfl
  have hFc := va_free (wc := [(rA 3 5, .inl (cI, 4500, .inl ((σ_1 3).2.1 5)))]) (hDD σ_1) hS hA [4] rfl
  refine g_ofv (wc := [(rA 3 5, .inl (cI, 4500, .inl ((σ_1 3).2.1 5)))]) (wr := (((b_m cB cC cI cJ cZ oA rA σ_1 ++ b_w cB cC cI cJ cZ oA rA σ_1 ++ b_s cB cC cI cJ cZ oA rA σ_1 ++ b_c cB cC cI cJ cZ oA rA σ_1 ++ b_t cB cC cI cJ cZ oA rA σ_1 ++ b_d cB cC cI cJ cZ oA rA σ_1)).eraseIdx 4)) hP (hDD σ_1) hS hFc [4] [0, 1, 2, 3, 5, 6, 7, 8, 9, 10, 11, 12, 13, 14, 15, 16, 17, 18, 19, 20, 21, 22, 23, 24, 25, 26, 27, 28, 29, 30, 31, 32, 33, 34, 35, 36, 37, 38, 39, 40, 41, 42, 43, 44, 45, 46] rfl rfl (by decide +kernel) (by decide +kernel) (va_runSN (As := [.ref (rA 3 5), .int p0, .int x_3]) (rest := []) ⟨hx, hb, hml, hown, hts⟩ (c_X11_put l dC dI cB cC cI cJ cZ cP H.size (rA 3 5) p0 x_3 4500 ((σ_1 3).2.1 5) (by decide)) ⟨va_cnB 3 hts (g_gA wq_412) rfl rfl rfl (hN.at 23 rfl) (hts (.initialized RX11) wq_1) (by decide +kernel) ⟨Nat.le_of_ble_eq_true rfl, Nat.le_of_ble_eq_true rfl⟩, (hts (.static yX11_put) wq_411), trivial⟩ (g_preS g_bl0 hK hPc hDc hS hE hFc g_to0) rfl rfl hl.1 rfl (lv_room (Nat.le_of_ble_eq_true rfl)) dX4_see_19 ⟨Nat.le_of_ble_eq_true rfl, Nat.le_of_ble_eq_true rfl⟩) (fun g9 H locs hw9 hP' hD' hS => ?_)
  clear hPc hDc hFc hD'
  obtain ⟨σ_5, eσ_5, hF_6⟩ := bnd_e hF_4
  clear hF_4
  subst hw9
  have hP : va_P (dC, dI) vwCl (b_m cB cC cI cJ cZ oA rA σ_5 ++ b_w cB cC cI cJ cZ oA rA σ_5 ++ b_s cB cC cI cJ cZ oA rA σ_5 ++ b_c cB cC cI cJ cZ oA rA σ_5 ++ b_t cB cC cI cJ cZ oA rA σ_5 ++ b_d cB cC cI cJ cZ oA rA σ_5) H := by rw [eσ_5]; exact hP'.sub [0, 1, 2, 3, 46, 4, 5, 6, 7, 8, 9, 10, 11, 12, 13, 14, 15, 16, 17, 18, 19, 20, 21, 22, 23, 24, 25, 26, 27, 28, 29, 30, 31, 32, 33, 34, 35, 36, 37, 38, 39, 40, 41, 42, 43, 44, 45] rfl
  clear hP'
  refine lv_aload_n hx hb dX4_see_22 rfl (lv_at hl 0 rfl) ?_
  refine va_get (D := (dC, dI)) (ci := 4) (v := .ref (rA 3 6)) (C := RX4) (T := TX4) (N := 18) hx hb hts ii_X4 hown hK hP 0 rfl rfl 6 (by decide) (hts (.fieldLink RX4 26 "StoryHouse$Meanings" "seenNames" "[I") wq_92) (fun _ h9 => h9) rfl dX4_see_23 ?_
  refine lv_aload_n hx hb dX4_see_26 rfl (lv_at hl 0 rfl) ?_
  refine va_get (D := (dC, dI)) (ci := 4) (v := .int ((σ_5 3).1 7)) (C := RX4) (T := TX4) (N := 18) hx hb hts ii_X4 hown hK hP 0 rfl rfl 7 (by decide) (hts (.fieldLink RX4 126 "StoryHouse$Meanings" "seenCount" "I") wq_93) (fun _ h9 => h9) rfl dX4_see_27 ?_
  refine lv_iload_n hx hb dX4_see_30 rfl (lv_at hl 1 rfl) ?_
  have hPc := hP.sub (ws' := [(rA 3 6, .inl (cI, 14, .inl ((σ_5 3).2.1 6)))]) [5] rfl
  have hDc := (hDD σ_5).sub (ws' := [(rA 3 6, .inl (cI, 14, .inl ((σ_5 3).2.1 6)))]) [5] (by decide +kernel) rfl
  have hFc := va_free (wc := [(rA 3 6, .inl (cI, 14, .inl ((σ_5 3).2.1 6)))]) (hDD σ_5) hS hA [5] rfl
  refine g_ofv (wc := [(rA 3 6, .inl (cI, 14, .inl ((σ_5 3).2.1 6)))]) (wr := (((b_m cB cC cI cJ cZ oA rA σ_5 ++ b_w cB cC cI cJ cZ oA rA σ_5 ++ b_s cB cC cI cJ cZ oA rA σ_5 ++ b_c cB cC cI cJ cZ oA rA σ_5 ++ b_t cB cC cI cJ cZ oA rA σ_5 ++ b_d cB cC cI cJ cZ oA rA σ_5)).eraseIdx 5)) hP (hDD σ_5) hS hFc [5] [0, 1, 2, 3, 4, 6, 7, 8, 9, 10, 11, 12, 13, 14, 15, 16, 17, 18, 19, 20, 21, 22, 23, 24, 25, 26, 27, 28, 29, 30, 31, 32, 33, 34, 35, 36, 37, 38, 39, 40, 41, 42, 43, 44, 45, 46] rfl rfl (by decide +kernel) (by decide +kernel) (va_runSN (As := [.ref (rA 3 6), .int ((σ_5 3).1 7), .int p0]) (rest := []) ⟨hx, hb, hml, hown, hts⟩ (c_X11_put l dC dI cB cC cI cJ cZ cP H.size (rA 3 6) ((σ_5 3).1 7) p0 14 ((σ_5 3).2.1 6) (by decide)) ⟨va_cnB 3 hts (g_gA wq_412) rfl rfl rfl (hN.at 23 rfl) (hts (.initialized RX11) wq_1) (by decide +kernel) ⟨Nat.le_of_ble_eq_true rfl, Nat.le_of_ble_eq_true rfl⟩, (hts (.static yX11_put) wq_411), trivial⟩ (g_preS g_bl0 hK hPc hDc hS hE hFc g_to0) rfl rfl hl.1 rfl (lv_room (Nat.le_of_ble_eq_true rfl)) dX4_see_31 ⟨Nat.le_of_ble_eq_true rfl, Nat.le_of_ble_eq_true rfl⟩) (fun g9 H locs hw9 hP' hD' hS => ?_)
  clear hPc hDc hFc hD'
  obtain ⟨σ_7, eσ_7, hF_8⟩ := bnd_e hF_6
  clear hF_6
  subst hw9
  have hP : va_P (dC, dI) vwCl (b_m cB cC cI cJ cZ oA rA σ_7 ++ b_w cB cC cI cJ cZ oA rA σ_7 ++ b_s cB cC cI cJ cZ oA rA σ_7 ++ b_c cB cC cI cJ cZ oA rA σ_7 ++ b_t cB cC cI cJ cZ oA rA σ_7 ++ b_d cB cC cI cJ cZ oA rA σ_7) H := by rw [eσ_7]; exact hP'.sub [0, 1, 2, 3, 4, 46, 5, 6, 7, 8, 9, 10, 11, 12, 13, 14, 15, 16, 17, 18, 19, 20, 21, 22, 23, 24, 25, 26, 27, 28, 29, 30, 31, 32, 33, 34, 35, 36, 37, 38, 39, 40, 41, 42, 43, 44, 45] rfl
  clear hP'
  refine lv_aload_n hx hb dX4_see_34 rfl (lv_at hl 0 rfl) ?_
  refine lv_dup hx hb dX4_see_35 rfl ?_
  refine va_get (D := (dC, dI)) (ci := 4) (v := .int ((σ_7 3).1 7)) (C := RX4) (T := TX4) (N := 18) hx hb hts ii_X4 hown hK hP 0 rfl rfl 7 (by decide) (hts (.fieldLink RX4 126 "StoryHouse$Meanings" "seenCount" "I") wq_93) (fun _ h9 => h9) rfl dX4_see_36 ?_
  refine lv_iconst (v := 1) hx hb dX4_see_39 (by decide +kernel) ?_
  refine lv_iadd hx hb dX4_see_40 ?_
  obtain ⟨σ_9, eσ_9, hF_10⟩ := bnd_e hF_8
  clear hF_8
  refine va_put (D := (dC, dI)) (ci := 4) (v := .int (((σ_7 3).1 7) + 1)) (ty := .int) (C := RX4) (T := TX4) (N := 18) hx hb hts ii_X4 tyX4 tyX4_ok nmX4 hown hK hP (hDD _) hS 0 rfl rfl 7 (by decide) (hts (.fieldLink RX4 126 "StoryHouse$Meanings" "seenCount" "I") wq_93) (fun _ h9 => h9) rfl (by decide +kernel) rfl rfl (Nat.le_of_ble_eq_true rfl) dX4_see_41 (fun H locs hP' _ hS => ?_)
  have hP : va_P (dC, dI) vwCl (b_m cB cC cI cJ cZ oA rA σ_9 ++ b_w cB cC cI cJ cZ oA rA σ_9 ++ b_s cB cC cI cJ cZ oA rA σ_9 ++ b_c cB cC cI cJ cZ oA rA σ_9 ++ b_t cB cC cI cJ cZ oA rA σ_9 ++ b_d cB cC cI cJ cZ oA rA σ_9) H := by rw [eσ_9]; exact cs_mwsctd_m_7 ▸ hP'
  clear hP'
  have h9 := Option.some.inj hF_10
  subst h9
  exact W.vret hx hb hr (fun t ht hW => ⟨⟨(), rfl, trivial, m_end ht hP, hDD _⟩, hS.F ht⟩) hS.2.2 dX4_see_44
theorem dX4_shutBlock_0 : decode cX4_shutBlock 0 = .ok (.aload_n 0, 1) := by decide +kernel
theorem dX4_shutBlock_1 : decode cX4_shutBlock 1 = .ok (.dup, 1) := by decide +kernel
theorem dX4_shutBlock_2 : decode cX4_shutBlock 2 = .ok (.getfield 66, 3) := by decide +kernel
theorem dX4_shutBlock_5 : decode cX4_shutBlock 5 = .ok (.iconst 1, 1) := by decide +kernel
theorem dX4_shutBlock_6 : decode cX4_shutBlock 6 = .ok (.isub, 1) := by decide +kernel
theorem dX4_shutBlock_7 : decode cX4_shutBlock 7 = .ok (.putfield 66, 3) := by decide +kernel
theorem dX4_shutBlock_10 : decode cX4_shutBlock 10 = .ok (.aload_n 0, 1) := by decide +kernel
theorem dX4_shutBlock_11 : decode cX4_shutBlock 11 = .ok (.getfield 66, 3) := by decide +kernel
theorem dX4_shutBlock_14 : decode cX4_shutBlock 14 = .ok (.ifCond .le 17, 3) := by decide +kernel
theorem dX4_shutBlock_17 : decode cX4_shutBlock 17 = .ok (.aload_n 0, 1) := by decide +kernel
theorem dX4_shutBlock_18 : decode cX4_shutBlock 18 = .ok (.getfield 29, 3) := by decide +kernel
theorem dX4_shutBlock_21 : decode cX4_shutBlock 21 = .ok (.aload_n 0, 1) := by decide +kernel
theorem dX4_shutBlock_22 : decode cX4_shutBlock 22 = .ok (.getfield 66, 3) := by decide +kernel
theorem dX4_shutBlock_25 : decode cX4_shutBlock 25 = .ok (.invokestatic 122, 3) := by decide +kernel
theorem dX4_shutBlock_28 : decode cX4_shutBlock 28 = .ok (.goto 4, 3) := by decide +kernel
theorem dX4_shutBlock_31 : decode cX4_shutBlock 31 = .ok (.iconst 0, 1) := by decide +kernel
theorem dX4_shutBlock_32 : decode cX4_shutBlock 32 = .ok (.istore_n 1, 1) := by decide +kernel
theorem dX4_shutBlock_33 : decode cX4_shutBlock 33 = .ok (.iload_n 1, 1) := by decide +kernel
theorem dX4_shutBlock_34 : decode cX4_shutBlock 34 = .ok (.istore_n 2, 1) := by decide +kernel
theorem dX4_shutBlock_35 : decode cX4_shutBlock 35 = .ok (.iload_n 2, 1) := by decide +kernel
theorem dX4_shutBlock_36 : decode cX4_shutBlock 36 = .ok (.aload_n 0, 1) := by decide +kernel
theorem dX4_shutBlock_37 : decode cX4_shutBlock 37 = .ok (.getfield 126, 3) := by decide +kernel
theorem dX4_shutBlock_40 : decode cX4_shutBlock 40 = .ok (.if_icmp .ge 25, 3) := by decide +kernel
theorem dX4_shutBlock_43 : decode cX4_shutBlock 43 = .ok (.aload_n 0, 1) := by decide +kernel
theorem dX4_shutBlock_44 : decode cX4_shutBlock 44 = .ok (.getfield 23, 3) := by decide +kernel
theorem dX4_shutBlock_47 : decode cX4_shutBlock 47 = .ok (.aload_n 0, 1) := by decide +kernel
theorem dX4_shutBlock_48 : decode cX4_shutBlock 48 = .ok (.getfield 26, 3) := by decide +kernel
theorem dX4_shutBlock_51 : decode cX4_shutBlock 51 = .ok (.iload_n 2, 1) := by decide +kernel
theorem dX4_shutBlock_52 : decode cX4_shutBlock 52 = .ok (.invokestatic 122, 3) := by decide +kernel
theorem dX4_shutBlock_55 : decode cX4_shutBlock 55 = .ok (.iconst 0, 1) := by decide +kernel
theorem dX4_shutBlock_56 : decode cX4_shutBlock 56 = .ok (.invokestatic 112, 3) := by decide +kernel
theorem dX4_shutBlock_59 : decode cX4_shutBlock 59 = .ok (.iinc 2 1, 3) := by decide +kernel
theorem dX4_shutBlock_62 : decode cX4_shutBlock 62 = .ok (.goto (-27), 3) := by decide +kernel
theorem dX4_shutBlock_65 : decode cX4_shutBlock 65 = .ok (.aload_n 0, 1) := by decide +kernel
theorem dX4_shutBlock_66 : decode cX4_shutBlock 66 = .ok (.iload_n 1, 1) := by decide +kernel
theorem dX4_shutBlock_67 : decode cX4_shutBlock 67 = .ok (.putfield 126, 3) := by decide +kernel
theorem dX4_shutBlock_70 : decode cX4_shutBlock 70 = .ok (.aload_n 0, 1) := by decide +kernel
theorem dX4_shutBlock_71 : decode cX4_shutBlock 71 = .ok (.getfield 66, 3) := by decide +kernel
theorem dX4_shutBlock_74 : decode cX4_shutBlock 74 = .ok (.ifCond .ne 13, 3) := by decide +kernel
theorem dX4_shutBlock_77 : decode cX4_shutBlock 77 = .ok (.aload_n 0, 1) := by decide +kernel
theorem dX4_shutBlock_78 : decode cX4_shutBlock 78 = .ok (.iconst 0, 1) := by decide +kernel
theorem dX4_shutBlock_79 : decode cX4_shutBlock 79 = .ok (.putfield 63, 3) := by decide +kernel
theorem dX4_shutBlock_82 : decode cX4_shutBlock 82 = .ok (.aload_n 0, 1) := by decide +kernel
theorem dX4_shutBlock_83 : decode cX4_shutBlock 83 = .ok (.iconst 0, 1) := by decide +kernel
theorem dX4_shutBlock_84 : decode cX4_shutBlock 84 = .ok (.putfield 129, 3) := by decide +kernel
theorem dX4_shutBlock_87 : decode cX4_shutBlock 87 = .ok (.return_, 1) := by decide +kernel
def F_X4_shutBlock  (Γ : HS) : HR :=
  bnd (cI' Γ 3 11 (((Γ 3).1 11) - 1)) fun σ_1 =>
  bnd (fun (t_3 : Int32) (σ_4 : HS) => (
    loopF (fun (again_9 : (Int32 × HS) → HR) (s_8 : Int32 × HS) => (
      if ((s_8.2 3).1 7) ≤ s_8.1 then (
        bnd (cI' s_8.2 3 7 t_3) fun σ_14 =>
        if ((σ_14 3).1 11) = 0 then (
          bnd (cI' σ_14 3 12 0) fun σ_18 =>
          bnd (cI' σ_18 3 8 0) fun σ_20 =>
          some (0, σ_20)
        ) else (
          some (0, σ_14)
        )
      ) else (
        bnd ((g_at 14 ((s_8.2 3).2.1 6) s_8.1)) fun (x_24 : Int32) =>
        bnd (cA' s_8.2 3 5 (g_put 4500 ((s_8.2 3).2.1 5) x_24 0)) fun σ_26 =>
        bnd (s_8.1 + 1) fun (x_28 : Int32) =>
        again_9 (x_28, σ_26)
      )
    )) FU (t_3, σ_4)
  ) : Int32 → HS → HR) fun j_5 =>
  if ((σ_1 3).1 11) ≤ 0 then (
    j_5 0 σ_1
  ) else (
    bnd (((σ_1 3).1 11)) fun (x_33 : Int32) =>
    bnd ((g_at 31 ((σ_1 3).2.1 10) x_33)) fun (x_35 : Int32) =>
    j_5 x_35 σ_1
  )
set_option maxHeartbeats 4000000 in
set_option maxRecDepth 100000 in
theorem k_X4_shutBlock (l : Launch) (dC : Nat → ClassId) (dI : Nat → Nat → Nat) (cB cC cI cJ cZ cP : ClassId) (oA : Nat → Nat) (rA : Nat → Nat → Nat) (sz : Nat)   (Γ : HS) (res : Int32 × HS) (hF : F_X4_shutBlock  Γ = some res) : Met l yX4_shutBlock (g_ws yX4_shutBlock cX4_shutBlock 3 none) ({ frames := 3, cells := 0, slots := 0, locals := 82 }) (va_Pc [.ref (oA 3)] (g_B (dC, dI) [(cB, .byte), (cC, .char), (cI, .int), (cJ, .long), (cZ, .boolean), (cP, .object "StoryHouse$Play")] sz (b_m cB cC cI cJ cZ oA rA Γ ++ b_w cB cC cI cJ cZ oA rA Γ ++ b_s cB cC cI cJ cZ oA rA Γ ++ b_c cB cC cI cJ cZ oA rA Γ ++ b_t cB cC cI cJ cZ oA rA Γ ++ b_d cB cC cI cJ cZ oA rA Γ) g_0)) (va_Qv (fun (_ : Unit) => True) (g_Bo (dC, dI) (va_A (b_m cB cC cI cJ cZ oA rA Γ ++ b_w cB cC cI cJ cZ oA rA Γ ++ b_s cB cC cI cJ cZ oA rA Γ ++ b_c cB cC cI cJ cZ oA rA Γ ++ b_t cB cC cI cJ cZ oA rA Γ ++ b_d cB cC cI cJ cZ oA rA Γ) sz) (fun (_ : Unit) => (b_m cB cC cI cJ cZ oA rA res.2 ++ b_w cB cC cI cJ cZ oA rA res.2 ++ b_s cB cC cI cJ cZ oA rA res.2 ++ b_c cB cC cI cJ cZ oA rA res.2 ++ b_t cB cC cI cJ cZ oA rA res.2 ++ b_d cB cC cI cJ cZ oA rA res.2))) (va_A (b_m cB cC cI cJ cZ oA rA Γ ++ b_w cB cC cI cJ cZ oA rA Γ ++ b_s cB cC cI cJ cZ oA rA Γ ++ b_c cB cC cI cJ cZ oA rA Γ ++ b_t cB cC cI cJ cZ oA rA Γ ++ b_d cB cC cI cJ cZ oA rA Γ) sz)) 0 0 (va_A (b_m cB cC cI cJ cZ oA rA Γ ++ b_w cB cC cI cJ cZ oA rA Γ ++ b_s cB cC cI cJ cZ oA rA Γ ++ b_c cB cC cI cJ cZ oA rA Γ ++ b_t cB cC cI cJ cZ oA rA Γ ++ b_d cB cC cI cJ cZ oA rA Γ) sz) := by
  refine Met.ofW (cc := cX4_shutBlock) (maxL := 3) (ret := none) (by decide) rfl ?_
  intro p e s m args below meth c s₁ B hml hv
  obtain ⟨rfl, hsz, hP, hK, hD0, hE, hX⟩ := hv
  have hx := B.exec
  have hb := B.bytes
  have hr := B.returns
  have hts0 := atoms_spec (ws := g_ws yX4_shutBlock cX4_shutBlock 3 none) B.pre
  have hts : ∀ w ∈ lw_good, w.before ([.ref (oA 3)] : List Value).toArray s = true := fun w z => hts0 w (List.mem_cons_of_mem _ z)
  have hown : s.vm.findClass RX4 = some m.cls := findClass_of_methodNamed B.named
  have hlocks := B.notSynchronized
  subst hsz
  have hD1 := hD0.self (sz := s.heap.size)
  generalize hAe : va_A (b_m cB cC cI cJ cZ oA rA Γ ++ b_w cB cC cI cJ cZ oA rA Γ ++ b_s cB cC cI cJ cZ oA rA Γ ++ b_c cB cC cI cJ cZ oA rA Γ ++ b_t cB cC cI cJ cZ oA rA Γ ++ b_d cB cC cI cJ cZ oA rA Γ) s.heap.size = A at hD1 hE hX ⊢
  have hA : ∀ q : Nat, s.heap.size ≤ q → A q := fun q z => by rw [← hAe]; exact Or.inr z
  have hDD : ∀ Γ : HS, va_D A (b_m cB cC cI cJ cZ oA rA Γ ++ b_w cB cC cI cJ cZ oA rA Γ ++ b_s cB cC cI cJ cZ oA rA Γ ++ b_c cB cC cI cJ cZ oA rA Γ ++ b_t cB cC cI cJ cZ oA rA Γ ++ b_d cB cC cI cJ cZ oA rA Γ) := fun Γ9 => va_D_fst (ws := (b_m cB cC cI cJ cZ oA rA Γ ++ b_w cB cC cI cJ cZ oA rA Γ ++ b_s cB cC cI cJ cZ oA rA Γ ++ b_c cB cC cI cJ cZ oA rA Γ ++ b_t cB cC cI cJ cZ oA rA Γ ++ b_d cB cC cI cJ cZ oA rA Γ)) (ws' := (b_m cB cC cI cJ cZ oA rA Γ9 ++ b_w cB cC cI cJ cZ oA rA Γ9 ++ b_s cB cC cI cJ cZ oA rA Γ9 ++ b_c cB cC cI cJ cZ oA rA Γ9 ++ b_t cB cC cI cJ cZ oA rA Γ9 ++ b_d cB cC cI cJ cZ oA rA Γ9)) rfl hD1
  have hN := hE.1
  have hS : va_S A s.heap s.heap [] := va_S.rf
  have hl := lv_entry ([.ref (oA 3)]) (n := 3) (Nat.le_of_ble_eq_true rfl)
  rw [lg_entry_eq]
  generalize (lg_sl ([.ref (oA 3)]) ++ List.replicate (3 - (lg_sl ([.ref (oA 3)])).length) Slot.unset).toArray = ls at hl ⊢
  have hl : lv_has ls 3 [(0, .ref (oA 3))] := hl
  unfold F_X4_shutBlock at hF
  refine lv_aload_n hx hb dX4_shutBlock_0 rfl (lv_at hl 0 rfl) ?_
  refine lv_dup hx hb dX4_shutBlock_1 rfl ?_
  refine va_get (D := (dC, dI)) (ci := 4) (v := .int ((Γ 3).1 11)) (C := RX4) (T := TX4) (N := 18) hx hb hts ii_X4 hown hK hP 0 rfl rfl 11 (by decide) (hts (.fieldLink RX4 66 "StoryHouse$Meanings" "depth" "I") wq_97) (fun _ h9 => h9) rfl dX4_shutBlock_2 ?_
  refine lv_iconst (v := 1) hx hb dX4_shutBlock_5 (by decide +kernel) ?_
  refine lv_isub hx hb dX4_shutBlock_6 ?_
  obtain ⟨σ_1, eσ_1, hF_2⟩ := bnd_e hF
  clear hF
  refine va_put (D := (dC, dI)) (ci := 4) (v := .int (((Γ 3).1 11) - 1)) (ty := .int) (C := RX4) (T := TX4) (N := 18) hx hb hts ii_X4 tyX4 tyX4_ok nmX4 hown hK hP (hDD _) hS 0 rfl rfl 11 (by decide) (hts (.fieldLink RX4 66 "StoryHouse$Meanings" "depth" "I") wq_97) (fun _ h9 => h9) rfl (by decide +kernel) rfl rfl (Nat.le_of_ble_eq_true rfl) dX4_shutBlock_7 (fun H locs hP' _ hS => ?_)
  have hP : va_P (dC, dI) vwCl (b_m cB cC cI cJ cZ oA rA σ_1 ++ b_w cB cC cI cJ cZ oA rA σ_1 ++ b_s cB cC cI cJ cZ oA rA σ_1 ++ b_c cB cC cI cJ cZ oA rA σ_1 ++ b_t cB cC cI cJ cZ oA rA σ_1 ++ b_d cB cC cI cJ cZ oA rA σ_1) H := by rw [eσ_1]; exact cs_mwsctd_m_11 ▸ hP'
  clear hP'
  refine lv_aload_n hx hb dX4_shutBlock_10 rfl (lv_at hl 0 rfl) ?_
  refine va_get (D := (dC, dI)) (ci := 4) (v := .int ((σ_1 3).1 11)) (C := RX4) (T := TX4) (N := 18) hx hb hts ii_X4 hown hK hP 0 rfl rfl 11 (by decide) (hts (.fieldLink RX4 66 "StoryHouse$Meanings" "depth" "I") wq_97) (fun _ h9 => h9) rfl dX4_shutBlock_11 ?_
  obtain ⟨j_5, ej_5, hF_6⟩ := bnd_e hF_2
  clear hF_2
  have Jj_5 : ∀ (t_3 : Int32) (σ_4 : HS), j_5 t_3 σ_4 = some res → ∀ (H : Heap) (locs : List Loc), va_P (dC, dI) vwCl (b_m cB cC cI cJ cZ oA rA σ_4 ++ b_w cB cC cI cJ cZ oA rA σ_4 ++ b_s cB cC cI cJ cZ oA rA σ_4 ++ b_c cB cC cI cJ cZ oA rA σ_4 ++ b_t cB cC cI cJ cZ oA rA σ_4 ++ b_d cB cC cI cJ cZ oA rA σ_4) H → va_S A s.heap H locs → ∀ ls : Array Slot, lv_has ls 3 [(0, .ref (oA 3))] → W p l e (headSpec (g_ws yX4_shutBlock cX4_shutBlock 3 none) { frames := 3, cells := 0, slots := 0, locals := 82 }).room s m ([.ref (oA 3)] : List Value).toArray below meth c H locs 0 0 (MQ below (va_Qv (fun (_ : Unit) => True) (g_Bo (dC, dI) A (fun (_ : Unit) => (b_m cB cC cI cJ cZ oA rA res.2 ++ b_w cB cC cI cJ cZ oA rA res.2 ++ b_s cB cC cI cJ cZ oA rA res.2 ++ b_c cB cC cI cJ cZ oA rA res.2 ++ b_t cB cC cI cJ cZ oA rA res.2 ++ b_d cB cC cI cJ cZ oA rA res.2))) A) ([.ref (oA 3)] : List Value).toArray s 0 0 A) (F0 m 32 ls [.int t_3]) := by
    intro t_3 σ_4 hF0 H locs hP hS ls hl
    subst ej_5
    have hF_7 := hF0
    clear hF0
    refine lv_istore_n (lv' := [(1, .int t_3), (0, .ref (oA 3))]) hx hb dX4_shutBlock_32 rfl hl (by decide) rfl (fun ls hl => ?_)
    refine lv_iload_n hx hb dX4_shutBlock_33 rfl (lv_at hl 0 rfl) ?_
    refine lv_istore_n (lv' := [(2, .int t_3), (1, .int t_3), (0, .ref (oA 3))]) hx hb dX4_shutBlock_34 rfl hl (by decide) rfl (fun ls hl => ?_)
    refine loopF_ind (P := fun (s_8 : Int32 × HS) => ∀ (H : Heap) (locs : List Loc), va_P (dC, dI) vwCl (b_m cB cC cI cJ cZ oA rA s_8.2 ++ b_w cB cC cI cJ cZ oA rA s_8.2 ++ b_s cB cC cI cJ cZ oA rA s_8.2 ++ b_c cB cC cI cJ cZ oA rA s_8.2 ++ b_t cB cC cI cJ cZ oA rA s_8.2 ++ b_d cB cC cI cJ cZ oA rA s_8.2) H → va_S A s.heap H locs → ∀ ls : Array Slot, lv_has ls 3 [(0, .ref (oA 3)), (1, .int t_3), (2, .int s_8.1)] → W p l e (headSpec (g_ws yX4_shutBlock cX4_shutBlock 3 none) { frames := 3, cells := 0, slots := 0, locals := 82 }).room s m ([.ref (oA 3)] : List Value).toArray below meth c H locs 0 0 (MQ below (va_Qv (fun (_ : Unit) => True) (g_Bo (dC, dI) A (fun (_ : Unit) => (b_m cB cC cI cJ cZ oA rA res.2 ++ b_w cB cC cI cJ cZ oA rA res.2 ++ b_s cB cC cI cJ cZ oA rA res.2 ++ b_c cB cC cI cJ cZ oA rA res.2 ++ b_t cB cC cI cJ cZ oA rA res.2 ++ b_d cB cC cI cJ cZ oA rA res.2))) A) ([.ref (oA 3)] : List Value).toArray s 0 0 A) (F0 m 35 ls [])) ?_ _ _ hF_7 _ _ hP hS ls (lv_sub hl [2, 1, 0] rfl)
    intro again_9 s_8 ih_10 hF_11
    intro H locs hP hS ls hl
    refine lv_iload_n hx hb dX4_shutBlock_35 rfl (lv_at hl 2 rfl) ?_
    refine lv_aload_n hx hb dX4_shutBlock_36 rfl (lv_at hl 0 rfl) ?_
    refine va_get (D := (dC, dI)) (ci := 4) (v := .int ((s_8.2 3).1 7)) (C := RX4) (T := TX4) (N := 18) hx hb hts ii_X4 hown hK hP 0 rfl rfl 7 (by decide) (hts (.fieldLink RX4 126 "StoryHouse$Meanings" "seenCount" "I") wq_93) (fun _ h9 => h9) rfl dX4_shutBlock_37 ?_
    refine lv_icmp_ge (tgt := 65) hx hb dX4_shutBlock_40 (by decide) (fun c_12 => ?_) (fun c_12 => ?_)
    · have hF_13 := ipos c_12 hF_11
      clear hF_11
      refine lv_aload_n hx hb dX4_shutBlock_65 rfl (lv_at hl 0 rfl) ?_
      refine lv_iload_n hx hb dX4_shutBlock_66 rfl (lv_at hl 1 rfl) ?_
      obtain ⟨σ_14, eσ_14, hF_15⟩ := bnd_e hF_13
      clear hF_13
      refine va_put (D := (dC, dI)) (ci := 4) (v := .int t_3) (ty := .int) (C := RX4) (T := TX4) (N := 18) hx hb hts ii_X4 tyX4 tyX4_ok nmX4 hown hK hP (hDD _) hS 0 rfl rfl 7 (by decide) (hts (.fieldLink RX4 126 "StoryHouse$Meanings" "seenCount" "I") wq_93) (fun _ h9 => h9) rfl (by decide +kernel) rfl rfl (Nat.le_of_ble_eq_true rfl) dX4_shutBlock_67 (fun H locs hP' _ hS => ?_)
      have hP : va_P (dC, dI) vwCl (b_m cB cC cI cJ cZ oA rA σ_14 ++ b_w cB cC cI cJ cZ oA rA σ_14 ++ b_s cB cC cI cJ cZ oA rA σ_14 ++ b_c cB cC cI cJ cZ oA rA σ_14 ++ b_t cB cC cI cJ cZ oA rA σ_14 ++ b_d cB cC cI cJ cZ oA rA σ_14) H := by rw [eσ_14]; exact cs_mwsctd_m_7 ▸ hP'
      clear hP'
      refine lv_aload_n hx hb dX4_shutBlock_70 rfl (lv_at hl 0 rfl) ?_
      refine va_get (D := (dC, dI)) (ci := 4) (v := .int ((σ_14 3).1 11)) (C := RX4) (T := TX4) (N := 18) hx hb hts ii_X4 hown hK hP 0 rfl rfl 11 (by decide) (hts (.fieldLink RX4 66 "StoryHouse$Meanings" "depth" "I") wq_97) (fun _ h9 => h9) rfl dX4_shutBlock_71 ?_
      refine lv_if_ne (tgt := 87) hx hb dX4_shutBlock_74 (by decide) (fun c_16 => ?_) (fun c_16 => ?_)
      · have hF_22 := ineg c_16 hF_15
        clear hF_15
        have h9 := Option.some.inj hF_22
        subst h9
        exact W.vret hx hb hr (fun t ht hW => ⟨⟨(), rfl, trivial, m_end ht hP, hDD _⟩, hS.F ht⟩) hS.2.2 dX4_shutBlock_87
      · have hF_17 := ipos c_16 hF_15
        clear hF_15
        refine lv_aload_n hx hb dX4_shutBlock_77 rfl (lv_at hl 0 rfl) ?_
        refine lv_iconst (v := 0) hx hb dX4_shutBlock_78 (by decide +kernel) ?_
        obtain ⟨σ_18, eσ_18, hF_19⟩ := bnd_e hF_17
        clear hF_17
        refine va_put (D := (dC, dI)) (ci := 4) (v := .int 0) (ty := .int) (C := RX4) (T := TX4) (N := 18) hx hb hts ii_X4 tyX4 tyX4_ok nmX4 hown hK hP (hDD _) hS 0 rfl rfl 12 (by decide) (hts (.fieldLink RX4 63 "StoryHouse$Meanings" "routine" "I") wq_98) (fun _ h9 => h9) rfl (by decide +kernel) rfl rfl (Nat.le_of_ble_eq_true rfl) dX4_shutBlock_79 (fun H locs hP' _ hS => ?_)
        have hP : va_P (dC, dI) vwCl (b_m cB cC cI cJ cZ oA rA σ_18 ++ b_w cB cC cI cJ cZ oA rA σ_18 ++ b_s cB cC cI cJ cZ oA rA σ_18 ++ b_c cB cC cI cJ cZ oA rA σ_18 ++ b_t cB cC cI cJ cZ oA rA σ_18 ++ b_d cB cC cI cJ cZ oA rA σ_18) H := by rw [eσ_18]; exact cs_mwsctd_m_12 ▸ hP'
        clear hP'
        refine lv_aload_n hx hb dX4_shutBlock_82 rfl (lv_at hl 0 rfl) ?_
        refine lv_iconst (v := 0) hx hb dX4_shutBlock_83 (by decide +kernel) ?_
        obtain ⟨σ_20, eσ_20, hF_21⟩ := bnd_e hF_19
        clear hF_19
        refine va_put (D := (dC, dI)) (ci := 4) (v := .int 0) (ty := .int) (C := RX4) (T := TX4) (N := 18) hx hb hts ii_X4 tyX4 tyX4_ok nmX4 hown hK hP (hDD _) hS 0 rfl rfl 8 (by decide) (hts (.fieldLink RX4 129 "StoryHouse$Meanings" "slots" "I") wq_94) (fun _ h9 => h9) rfl (by decide +kernel) rfl rfl (Nat.le_of_ble_eq_true rfl) dX4_shutBlock_84 (fun H locs hP' _ hS => ?_)
        have hP : va_P (dC, dI) vwCl (b_m cB cC cI cJ cZ oA rA σ_20 ++ b_w cB cC cI cJ cZ oA rA σ_20 ++ b_s cB cC cI cJ cZ oA rA σ_20 ++ b_c cB cC cI cJ cZ oA rA σ_20 ++ b_t cB cC cI cJ cZ oA rA σ_20 ++ b_d cB cC cI cJ cZ oA rA σ_20) H := by rw [eσ_20]; exact cs_mwsctd_m_8 ▸ hP'
        clear hP'
        have h9 := Option.some.inj hF_21
        subst h9
        exact W.vret hx hb hr (fun t ht hW => ⟨⟨(), rfl, trivial, m_end ht hP, hDD _⟩, hS.F ht⟩) hS.2.2 dX4_shutBlock_87
    · have hF_23 := ineg c_12 hF_11
      clear hF_11
      refine lv_aload_n hx hb dX4_shutBlock_43 rfl (lv_at hl 0 rfl) ?_
      refine va_get (D := (dC, dI)) (ci := 4) (v := .ref (rA 3 5)) (C := RX4) (T := TX4) (N := 18) hx hb hts ii_X4 hown hK hP 0 rfl rfl 5 (by decide) (hts (.fieldLink RX4 23 "StoryHouse$Meanings" "seen" "[I") wq_91) (fun _ h9 => h9) rfl dX4_shutBlock_44 ?_
      refine lv_aload_n hx hb dX4_shutBlock_47 rfl (lv_at hl 0 rfl) ?_
      refine va_get (D := (dC, dI)) (ci := 4) (v := .ref (rA 3 6)) (C := RX4) (T := TX4) (N := 18) hx hb hts ii_X4 hown hK hP 0 rfl rfl 6 (by decide) (hts (.fieldLink RX4 26 "StoryHouse$Meanings" "seenNames" "[I") wq_92) (fun _ h9 => h9) rfl dX4_shutBlock_48 ?_
      refine lv_iload_n hx hb dX4_shutBlock_51 rfl (lv_at hl 2 rfl) ?_
      have hPc := hP.sub (ws' := [(rA 3 6, .inl (cI, 14, .inl ((s_8.2 3).2.1 6)))]) [5] rfl
      have hDc := (hDD s_8.2).sub (ws' := [(rA 3 6, .inl (cI, 14, .inl ((s_8.2 3).2.1 6)))]) [5] (by decide +kernel) rfl
      have hFc := va_free (wc := [(rA 3 6, .inl (cI, 14, .inl ((s_8.2 3).2.1 6)))]) (hDD s_8.2) hS hA [5] rfl
      refine g_ofi (wc := [(rA 3 6, .inl (cI, 14, .inl ((s_8.2 3).2.1 6)))]) (wr := (((b_m cB cC cI cJ cZ oA rA s_8.2 ++ b_w cB cC cI cJ cZ oA rA s_8.2 ++ b_s cB cC cI cJ cZ oA rA s_8.2 ++ b_c cB cC cI cJ cZ oA rA s_8.2 ++ b_t cB cC cI cJ cZ oA rA s_8.2 ++ b_d cB cC cI cJ cZ oA rA s_8.2)).eraseIdx 5)) hP (hDD s_8.2) hS hFc [5] [0, 1, 2, 3, 4, 6, 7, 8, 9, 10, 11, 12, 13, 14, 15, 16, 17, 18, 19, 20, 21, 22, 23, 24, 25, 26, 27, 28, 29, 30, 31, 32, 33, 34, 35, 36, 37, 38, 39, 40, 41, 42, 43, 44, 45, 46] rfl rfl (by decide +kernel) (by decide +kernel) (va_runSN (As := [.ref (rA 3 6), .int s_8.1]) (rest := [.ref (rA 3 5)]) ⟨hx, hb, hml, hown, hts⟩ (c_X11_at l dC dI cB cC cI cJ cZ cP H.size (rA 3 6) s_8.1 14 ((s_8.2 3).2.1 6) (by decide)) ⟨va_cnB 2 hts (g_gA wq_407) rfl rfl rfl (hN.at 24 rfl) (hts (.initialized RX11) wq_1) (by decide +kernel) ⟨Nat.le_of_ble_eq_true rfl, Nat.le_of_ble_eq_true rfl⟩, (hts (.static yX11_at) wq_406), trivial⟩ (g_preS g_bl0 hK hPc hDc hS hE hFc g_to0) rfl rfl hl.1 rfl (lv_room (Nat.le_of_ble_eq_true rfl)) dX4_shutBlock_52 ⟨Nat.le_of_ble_eq_true rfl, Nat.le_of_ble_eq_true rfl⟩) (fun r9 u9 H locs hw9 hP' hD' hS => ?_)
      clear hPc hDc hFc hD'
      have hP : va_P (dC, dI) vwCl (b_m cB cC cI cJ cZ oA rA s_8.2 ++ b_w cB cC cI cJ cZ oA rA s_8.2 ++ b_s cB cC cI cJ cZ oA rA s_8.2 ++ b_c cB cC cI cJ cZ oA rA s_8.2 ++ b_t cB cC cI cJ cZ oA rA s_8.2 ++ b_d cB cC cI cJ cZ oA rA s_8.2) H := hP'.sub [0, 1, 2, 3, 4, 46, 5, 6, 7, 8, 9, 10, 11, 12, 13, 14, 15, 16, 17, 18, 19, 20, 21, 22, 23, 24, 25, 26, 27, 28, 29, 30, 31, 32, 33, 34, 35, 36, 37, 38, 39, 40, 41, 42, 43, 44, 45] rfl
      clear hP'
      subst hw9
      obtain ⟨x_24, ex_24, hF_25⟩ := bnd_e hF_23
      clear hF_23
      refine m_top ex_24 ?_
      refine lv_iconst (v := 0) hx hb dX4_shutBlock_55 (by decide +kernel) ?_
      have hPc := hP.sub (ws' := [(rA 3 5, .inl (cI, 4500, .inl ((s_8.2 3).2.1 5)))]) [4] rfl
      have hDc := (hDD s_8.2).sub (ws' := [(rA 3 5, .inl (cI, 4500, .inl ((s_8.2 3).2.1 5)))]) [4] (by decide +kernel) rfl
      have hFc := va_free (wc := [(rA 3 5, .inl (cI, 4500, .inl ((s_8.2 3).2.1 5)))]) (hDD s_8.2) hS hA [4] rfl
      refine g_ofv (wc := [(rA 3 5, .inl (cI, 4500, .inl ((s_8.2 3).2.1 5)))]) (wr := (((b_m cB cC cI cJ cZ oA rA s_8.2 ++ b_w cB cC cI cJ cZ oA rA s_8.2 ++ b_s cB cC cI cJ cZ oA rA s_8.2 ++ b_c cB cC cI cJ cZ oA rA s_8.2 ++ b_t cB cC cI cJ cZ oA rA s_8.2 ++ b_d cB cC cI cJ cZ oA rA s_8.2)).eraseIdx 4)) hP (hDD s_8.2) hS hFc [4] [0, 1, 2, 3, 5, 6, 7, 8, 9, 10, 11, 12, 13, 14, 15, 16, 17, 18, 19, 20, 21, 22, 23, 24, 25, 26, 27, 28, 29, 30, 31, 32, 33, 34, 35, 36, 37, 38, 39, 40, 41, 42, 43, 44, 45, 46] rfl rfl (by decide +kernel) (by decide +kernel) (va_runSN (As := [.ref (rA 3 5), .int x_24, .int 0]) (rest := []) ⟨hx, hb, hml, hown, hts⟩ (c_X11_put l dC dI cB cC cI cJ cZ cP H.size (rA 3 5) x_24 0 4500 ((s_8.2 3).2.1 5) (by decide)) ⟨va_cnB 3 hts (g_gA wq_412) rfl rfl rfl (hN.at 23 rfl) (hts (.initialized RX11) wq_1) (by decide +kernel) ⟨Nat.le_of_ble_eq_true rfl, Nat.le_of_ble_eq_true rfl⟩, (hts (.static yX11_put) wq_411), trivial⟩ (g_preS g_bl0 hK hPc hDc hS hE hFc g_to0) rfl rfl hl.1 rfl (lv_room (Nat.le_of_ble_eq_true rfl)) dX4_shutBlock_56 ⟨Nat.le_of_ble_eq_true rfl, Nat.le_of_ble_eq_true rfl⟩) (fun g9 H locs hw9 hP' hD' hS => ?_)
      clear hPc hDc hFc hD'
      obtain ⟨σ_26, eσ_26, hF_27⟩ := bnd_e hF_25
      clear hF_25
      subst hw9
      have hP : va_P (dC, dI) vwCl (b_m cB cC cI cJ cZ oA rA σ_26 ++ b_w cB cC cI cJ cZ oA rA σ_26 ++ b_s cB cC cI cJ cZ oA rA σ_26 ++ b_c cB cC cI cJ cZ oA rA σ_26 ++ b_t cB cC cI cJ cZ oA rA σ_26 ++ b_d cB cC cI cJ cZ oA rA σ_26) H := by rw [eσ_26]; exact hP'.sub [0, 1, 2, 3, 46, 4, 5, 6, 7, 8, 9, 10, 11, 12, 13, 14, 15, 16, 17, 18, 19, 20, 21, 22, 23, 24, 25, 26, 27, 28, 29, 30, 31, 32, 33, 34, 35, 36, 37, 38, 39, 40, 41, 42, 43, 44, 45] rfl
      clear hP'
      obtain ⟨x_28, ex_28, hF_29⟩ := bnd_e hF_27
      clear hF_27
      refine lv_iinc (v := x_28) (lv' := [(2, .int x_28), (0, .ref (oA 3)), (1, .int t_3)]) hx hb dX4_shutBlock_59 hl (k := 2) rfl (by rw [ex_28]; rfl) (by decide) rfl (fun ls hl => ?_)
      refine lv_goto (tgt := 35) hx hb dX4_shutBlock_62 (by decide) ?_
      exact ih_10 (x_28, σ_26) hF_29 _ _ hP hS ls (lv_sub hl [1, 2, 0] rfl)
  refine lv_if_le (tgt := 31) hx hb dX4_shutBlock_14 (by decide) (fun c_30 => ?_) (fun c_30 => ?_)
  · have hF_31 := ipos c_30 hF_6
    clear hF_6
    refine lv_iconst (v := 0) hx hb dX4_shutBlock_31 (by decide +kernel) ?_
    exact Jj_5 0 σ_1 hF_31 _ _ hP hS ls (lv_sub hl [0] rfl)
  · have hF_32 := ineg c_30 hF_6
    clear hF_6
    refine lv_aload_n hx hb dX4_shutBlock_17 rfl (lv_at hl 0 rfl) ?_
    refine va_get (D := (dC, dI)) (ci := 4) (v := .ref (rA 3 10)) (C := RX4) (T := TX4) (N := 18) hx hb hts ii_X4 hown hK hP 0 rfl rfl 10 (by decide) (hts (.fieldLink RX4 29 "StoryHouse$Meanings" "marks" "[I") wq_96) (fun _ h9 => h9) rfl dX4_shutBlock_18 ?_
    refine lv_aload_n hx hb dX4_shutBlock_21 rfl (lv_at hl 0 rfl) ?_
    refine va_get (D := (dC, dI)) (ci := 4) (v := .int ((σ_1 3).1 11)) (C := RX4) (T := TX4) (N := 18) hx hb hts ii_X4 hown hK hP 0 rfl rfl 11 (by decide) (hts (.fieldLink RX4 66 "StoryHouse$Meanings" "depth" "I") wq_97) (fun _ h9 => h9) rfl dX4_shutBlock_22 ?_
    obtain ⟨x_33, ex_33, hF_34⟩ := bnd_e hF_32
    clear hF_32
    refine m_top ex_33 ?_
    have hPc := hP.sub (ws' := [(rA 3 10, .inl (cI, 31, .inl ((σ_1 3).2.1 10)))]) [6] rfl
    have hDc := (hDD σ_1).sub (ws' := [(rA 3 10, .inl (cI, 31, .inl ((σ_1 3).2.1 10)))]) [6] (by decide +kernel) rfl
    have hFc := va_free (wc := [(rA 3 10, .inl (cI, 31, .inl ((σ_1 3).2.1 10)))]) (hDD σ_1) hS hA [6] rfl
    refine g_ofi (wc := [(rA 3 10, .inl (cI, 31, .inl ((σ_1 3).2.1 10)))]) (wr := (((b_m cB cC cI cJ cZ oA rA σ_1 ++ b_w cB cC cI cJ cZ oA rA σ_1 ++ b_s cB cC cI cJ cZ oA rA σ_1 ++ b_c cB cC cI cJ cZ oA rA σ_1 ++ b_t cB cC cI cJ cZ oA rA σ_1 ++ b_d cB cC cI cJ cZ oA rA σ_1)).eraseIdx 6)) hP (hDD σ_1) hS hFc [6] [0, 1, 2, 3, 4, 5, 7, 8, 9, 10, 11, 12, 13, 14, 15, 16, 17, 18, 19, 20, 21, 22, 23, 24, 25, 26, 27, 28, 29, 30, 31, 32, 33, 34, 35, 36, 37, 38, 39, 40, 41, 42, 43, 44, 45, 46] rfl rfl (by decide +kernel) (by decide +kernel) (va_runSN (As := [.ref (rA 3 10), .int x_33]) (rest := []) ⟨hx, hb, hml, hown, hts⟩ (c_X11_at l dC dI cB cC cI cJ cZ cP H.size (rA 3 10) x_33 31 ((σ_1 3).2.1 10) (by decide)) ⟨va_cnB 2 hts (g_gA wq_407) rfl rfl rfl (hN.at 24 rfl) (hts (.initialized RX11) wq_1) (by decide +kernel) ⟨Nat.le_of_ble_eq_true rfl, Nat.le_of_ble_eq_true rfl⟩, (hts (.static yX11_at) wq_406), trivial⟩ (g_preS g_bl0 hK hPc hDc hS hE hFc g_to0) rfl rfl hl.1 rfl (lv_room (Nat.le_of_ble_eq_true rfl)) dX4_shutBlock_25 ⟨Nat.le_of_ble_eq_true rfl, Nat.le_of_ble_eq_true rfl⟩) (fun r9 u9 H locs hw9 hP' hD' hS => ?_)
    clear hPc hDc hFc hD'
    have hP : va_P (dC, dI) vwCl (b_m cB cC cI cJ cZ oA rA σ_1 ++ b_w cB cC cI cJ cZ oA rA σ_1 ++ b_s cB cC cI cJ cZ oA rA σ_1 ++ b_c cB cC cI cJ cZ oA rA σ_1 ++ b_t cB cC cI cJ cZ oA rA σ_1 ++ b_d cB cC cI cJ cZ oA rA σ_1) H := hP'.sub [0, 1, 2, 3, 4, 5, 46, 6, 7, 8, 9, 10, 11, 12, 13, 14, 15, 16, 17, 18, 19, 20, 21, 22, 23, 24, 25, 26, 27, 28, 29, 30, 31, 32, 33, 34, 35, 36, 37, 38, 39, 40, 41, 42, 43, 44, 45] rfl
    clear hP'
    subst hw9
    obtain ⟨x_35, ex_35, hF_36⟩ := bnd_e hF_34
    clear hF_34
    refine m_top ex_35 ?_
    refine lv_goto (tgt := 32) hx hb dX4_shutBlock_28 (by decide) ?_
    exact Jj_5 x_35 σ_1 hF_36 _ _ hP hS ls (lv_sub hl [0] rfl)
theorem dX4_followScope_0 : decode cX4_followScope 0 = .ok (.aload_n 0, 1) := by decide +kernel
theorem dX4_followScope_1 : decode cX4_followScope 1 = .ok (.getfield 32, 3) := by decide +kernel
theorem dX4_followScope_4 : decode cX4_followScope 4 = .ok (.iload_n 1, 1) := by decide +kernel
theorem dX4_followScope_5 : decode cX4_followScope 5 = .ok (.invokevirtual 116, 3) := by decide +kernel
theorem dX4_followScope_8 : decode cX4_followScope 8 = .ok (.lookupswitch 159 #[(59, 100), (123, 124), (125, 152), (235, 68), (236, 68), (237, 68), (242, 83)], 68) := by decide +kernel
theorem dX4_followScope_76 : decode cX4_followScope 76 = .ok (.aload_n 0, 1) := by decide +kernel
theorem dX4_followScope_77 : decode cX4_followScope 77 = .ok (.aload_n 0, 1) := by decide +kernel
theorem dX4_followScope_78 : decode cX4_followScope 78 = .ok (.getfield 32, 3) := by decide +kernel
theorem dX4_followScope_81 : decode cX4_followScope 81 = .ok (.iload_n 1, 1) := by decide +kernel
theorem dX4_followScope_82 : decode cX4_followScope 82 = .ok (.invokevirtual 116, 3) := by decide +kernel
theorem dX4_followScope_85 : decode cX4_followScope 85 = .ok (.putfield 63, 3) := by decide +kernel
theorem dX4_followScope_88 : decode cX4_followScope 88 = .ok (.goto 79, 3) := by decide +kernel
theorem dX4_followScope_91 : decode cX4_followScope 91 = .ok (.aload_n 0, 1) := by decide +kernel
theorem dX4_followScope_92 : decode cX4_followScope 92 = .ok (.aload_n 0, 1) := by decide +kernel
theorem dX4_followScope_93 : decode cX4_followScope 93 = .ok (.getfield 32, 3) := by decide +kernel
theorem dX4_followScope_96 : decode cX4_followScope 96 = .ok (.iload_n 1, 1) := by decide +kernel
theorem dX4_followScope_97 : decode cX4_followScope 97 = .ok (.iconst 1, 1) := by decide +kernel
theorem dX4_followScope_98 : decode cX4_followScope 98 = .ok (.iadd, 1) := by decide +kernel
theorem dX4_followScope_99 : decode cX4_followScope 99 = .ok (.invokevirtual 119, 3) := by decide +kernel
theorem dX4_followScope_102 : decode cX4_followScope 102 = .ok (.putfield 132, 3) := by decide +kernel
theorem dX4_followScope_105 : decode cX4_followScope 105 = .ok (.goto 62, 3) := by decide +kernel
theorem dX4_followScope_108 : decode cX4_followScope 108 = .ok (.aload_n 0, 1) := by decide +kernel
theorem dX4_followScope_109 : decode cX4_followScope 109 = .ok (.getfield 132, 3) := by decide +kernel
theorem dX4_followScope_112 : decode cX4_followScope 112 = .ok (.iconst (-1), 1) := by decide +kernel
theorem dX4_followScope_113 : decode cX4_followScope 113 = .ok (.if_icmp .eq 11, 3) := by decide +kernel
theorem dX4_followScope_116 : decode cX4_followScope 116 = .ok (.aload_n 0, 1) := by decide +kernel
theorem dX4_followScope_117 : decode cX4_followScope 117 = .ok (.aload_n 0, 1) := by decide +kernel
theorem dX4_followScope_118 : decode cX4_followScope 118 = .ok (.getfield 132, 3) := by decide +kernel
theorem dX4_followScope_121 : decode cX4_followScope 121 = .ok (.invokevirtual 178, 3) := by decide +kernel
theorem dX4_followScope_124 : decode cX4_followScope 124 = .ok (.aload_n 0, 1) := by decide +kernel
theorem dX4_followScope_125 : decode cX4_followScope 125 = .ok (.iconst (-1), 1) := by decide +kernel
theorem dX4_followScope_126 : decode cX4_followScope 126 = .ok (.putfield 132, 3) := by decide +kernel
theorem dX4_followScope_129 : decode cX4_followScope 129 = .ok (.goto 38, 3) := by decide +kernel
theorem dX4_followScope_132 : decode cX4_followScope 132 = .ok (.aload_n 0, 1) := by decide +kernel
theorem dX4_followScope_133 : decode cX4_followScope 133 = .ok (.getfield 29, 3) := by decide +kernel
theorem dX4_followScope_136 : decode cX4_followScope 136 = .ok (.aload_n 0, 1) := by decide +kernel
theorem dX4_followScope_137 : decode cX4_followScope 137 = .ok (.getfield 66, 3) := by decide +kernel
theorem dX4_followScope_140 : decode cX4_followScope 140 = .ok (.aload_n 0, 1) := by decide +kernel
theorem dX4_followScope_141 : decode cX4_followScope 141 = .ok (.getfield 126, 3) := by decide +kernel
theorem dX4_followScope_144 : decode cX4_followScope 144 = .ok (.invokestatic 112, 3) := by decide +kernel
theorem dX4_followScope_147 : decode cX4_followScope 147 = .ok (.aload_n 0, 1) := by decide +kernel
theorem dX4_followScope_148 : decode cX4_followScope 148 = .ok (.dup, 1) := by decide +kernel
theorem dX4_followScope_149 : decode cX4_followScope 149 = .ok (.getfield 66, 3) := by decide +kernel
theorem dX4_followScope_152 : decode cX4_followScope 152 = .ok (.iconst 1, 1) := by decide +kernel
theorem dX4_followScope_153 : decode cX4_followScope 153 = .ok (.iadd, 1) := by decide +kernel
theorem dX4_followScope_154 : decode cX4_followScope 154 = .ok (.putfield 66, 3) := by decide +kernel
theorem dX4_followScope_157 : decode cX4_followScope 157 = .ok (.goto 10, 3) := by decide +kernel
theorem dX4_followScope_160 : decode cX4_followScope 160 = .ok (.aload_n 0, 1) := by decide +kernel
theorem dX4_followScope_161 : decode cX4_followScope 161 = .ok (.invokevirtual 184, 3) := by decide +kernel
theorem dX4_followScope_164 : decode cX4_followScope 164 = .ok (.goto 3, 3) := by decide +kernel
theorem dX4_followScope_167 : decode cX4_followScope 167 = .ok (.return_, 1) := by decide +kernel
def F_X4_followScope (p0 : Int32) (Γ : HS) : HR :=
  (F_X10_kindOf p0 Γ).bind fun u_1 =>
  bnd (mrg (fun j => j == 1) Γ u_1.2) fun σ_3 =>
  if u_1.1 = 59 then (
    bnd (fun  (σ_7 : HS) => (
      bnd (cI' σ_7 3 9 (-1)) fun σ_11 =>
      some (0, σ_11)
    ) : HS → HR) fun j_8 =>
    if ((σ_3 3).1 9) = (-1) then (
      j_8  σ_3
    ) else (
      (F_X4_see ((σ_3 3).1 9) σ_3).bind fun u_16 =>
      j_8  u_16.2
    )
  ) else
  if u_1.1 = 123 then (
    bnd (((σ_3 3).1 7)) fun (x_21 : Int32) =>
    bnd (cA' σ_3 3 10 (g_put 31 ((σ_3 3).2.1 10) ((σ_3 3).1 11) x_21)) fun σ_23 =>
    bnd (cI' σ_23 3 11 (((σ_23 3).1 11) + 1)) fun σ_25 =>
    some (0, σ_25)
  ) else
  if u_1.1 = 125 then (
    (F_X4_shutBlock σ_3).bind fun u_30 =>
    some (0, u_30.2)
  ) else
  if u_1.1 = 235 ∨ u_1.1 = 236 ∨ u_1.1 = 237 then (
    (F_X10_kindOf p0 σ_3).bind fun u_35 =>
    bnd (mrg (fun j => j == 1) σ_3 u_35.2) fun σ_37 =>
    bnd (cI' σ_37 3 12 u_35.1) fun σ_39 =>
    some (0, σ_39)
  ) else
  if u_1.1 = 242 then (
    (F_X10_worthOf (p0 + 1) σ_3).bind fun u_44 =>
    bnd (mrg (fun j => j == 1) σ_3 u_44.2) fun σ_46 =>
    bnd (cI' σ_46 3 9 u_44.1) fun σ_48 =>
    some (0, σ_48)
  ) else
  (
    some (0, σ_3)
  )
set_option maxHeartbeats 4000000 in
set_option maxRecDepth 100000 in
theorem k_X4_followScope (l : Launch) (dC : Nat → ClassId) (dI : Nat → Nat → Nat) (cB cC cI cJ cZ cP : ClassId) (oA : Nat → Nat) (rA : Nat → Nat → Nat) (sz : Nat)  (p0 : Int32) (Γ : HS) (res : Int32 × HS) (hF : F_X4_followScope p0 Γ = some res) : Met l yX4_followScope (g_ws yX4_followScope cX4_followScope 2 none) ({ frames := 4, cells := 0, slots := 0, locals := 104 }) (va_Pc [.ref (oA 3), .int p0] (g_B (dC, dI) [(cB, .byte), (cC, .char), (cI, .int), (cJ, .long), (cZ, .boolean), (cP, .object "StoryHouse$Play")] sz (b_m cB cC cI cJ cZ oA rA Γ ++ b_w cB cC cI cJ cZ oA rA Γ ++ b_s cB cC cI cJ cZ oA rA Γ ++ b_c cB cC cI cJ cZ oA rA Γ ++ b_t cB cC cI cJ cZ oA rA Γ ++ b_d cB cC cI cJ cZ oA rA Γ) g_0)) (va_Qv (fun (_ : Unit) => True) (g_Bo (dC, dI) (va_A (b_m cB cC cI cJ cZ oA rA Γ ++ b_w cB cC cI cJ cZ oA rA Γ ++ b_s cB cC cI cJ cZ oA rA Γ ++ b_c cB cC cI cJ cZ oA rA Γ ++ b_t cB cC cI cJ cZ oA rA Γ ++ b_d cB cC cI cJ cZ oA rA Γ) sz) (fun (_ : Unit) => (b_m cB cC cI cJ cZ oA rA res.2 ++ b_w cB cC cI cJ cZ oA rA res.2 ++ b_s cB cC cI cJ cZ oA rA res.2 ++ b_c cB cC cI cJ cZ oA rA res.2 ++ b_t cB cC cI cJ cZ oA rA res.2 ++ b_d cB cC cI cJ cZ oA rA res.2))) (va_A (b_m cB cC cI cJ cZ oA rA Γ ++ b_w cB cC cI cJ cZ oA rA Γ ++ b_s cB cC cI cJ cZ oA rA Γ ++ b_c cB cC cI cJ cZ oA rA Γ ++ b_t cB cC cI cJ cZ oA rA Γ ++ b_d cB cC cI cJ cZ oA rA Γ) sz)) 0 0 (va_A (b_m cB cC cI cJ cZ oA rA Γ ++ b_w cB cC cI cJ cZ oA rA Γ ++ b_s cB cC cI cJ cZ oA rA Γ ++ b_c cB cC cI cJ cZ oA rA Γ ++ b_t cB cC cI cJ cZ oA rA Γ ++ b_d cB cC cI cJ cZ oA rA Γ) sz) := by
  refine Met.ofW (cc := cX4_followScope) (maxL := 2) (ret := none) (by decide) rfl ?_
  intro p e s m args below meth c s₁ B hml hv
  obtain ⟨rfl, hsz, hP, hK, hD0, hE, hX⟩ := hv
  have hx := B.exec
  have hb := B.bytes
  have hr := B.returns
  have hts0 := atoms_spec (ws := g_ws yX4_followScope cX4_followScope 2 none) B.pre
  have hts : ∀ w ∈ lw_good, w.before ([.ref (oA 3), .int p0] : List Value).toArray s = true := fun w z => hts0 w (List.mem_cons_of_mem _ z)
  have hown : s.vm.findClass RX4 = some m.cls := findClass_of_methodNamed B.named
  have hlocks := B.notSynchronized
  subst hsz
  have hD1 := hD0.self (sz := s.heap.size)
  generalize hAe : va_A (b_m cB cC cI cJ cZ oA rA Γ ++ b_w cB cC cI cJ cZ oA rA Γ ++ b_s cB cC cI cJ cZ oA rA Γ ++ b_c cB cC cI cJ cZ oA rA Γ ++ b_t cB cC cI cJ cZ oA rA Γ ++ b_d cB cC cI cJ cZ oA rA Γ) s.heap.size = A at hD1 hE hX ⊢
  have hA : ∀ q : Nat, s.heap.size ≤ q → A q := fun q z => by rw [← hAe]; exact Or.inr z
  have hDD : ∀ Γ : HS, va_D A (b_m cB cC cI cJ cZ oA rA Γ ++ b_w cB cC cI cJ cZ oA rA Γ ++ b_s cB cC cI cJ cZ oA rA Γ ++ b_c cB cC cI cJ cZ oA rA Γ ++ b_t cB cC cI cJ cZ oA rA Γ ++ b_d cB cC cI cJ cZ oA rA Γ) := fun Γ9 => va_D_fst (ws := (b_m cB cC cI cJ cZ oA rA Γ ++ b_w cB cC cI cJ cZ oA rA Γ ++ b_s cB cC cI cJ cZ oA rA Γ ++ b_c cB cC cI cJ cZ oA rA Γ ++ b_t cB cC cI cJ cZ oA rA Γ ++ b_d cB cC cI cJ cZ oA rA Γ)) (ws' := (b_m cB cC cI cJ cZ oA rA Γ9 ++ b_w cB cC cI cJ cZ oA rA Γ9 ++ b_s cB cC cI cJ cZ oA rA Γ9 ++ b_c cB cC cI cJ cZ oA rA Γ9 ++ b_t cB cC cI cJ cZ oA rA Γ9 ++ b_d cB cC cI cJ cZ oA rA Γ9)) rfl hD1
  have hN := hE.1
  have hS : va_S A s.heap s.heap [] := va_S.rf
  have hl := lv_entry ([.ref (oA 3), .int p0]) (n := 2) (Nat.le_of_ble_eq_true rfl)
  rw [lg_entry_eq]
  generalize (lg_sl ([.ref (oA 3), .int p0]) ++ List.replicate (2 - (lg_sl ([.ref (oA 3), .int p0])).length) Slot.unset).toArray = ls at hl ⊢
  have hl : lv_has ls 2 [(0, .ref (oA 3)), (1, .int p0)] := hl
  unfold F_X4_followScope at hF
  refine lv_aload_n hx hb dX4_followScope_0 rfl (lv_at hl 0 rfl) ?_
  refine va_get (D := (dC, dI)) (ci := 4) (v := .ref (oA 1)) (C := RX4) (T := TX4) (N := 18) hx hb hts ii_X4 hown hK hP 0 rfl rfl 0 (by decide) (hts (.fieldLink RX4 32 "StoryHouse$Meanings" "words" "LStoryHouse$Words;") wq_86) (fun _ h9 => h9) rfl dX4_followScope_1 ?_
  refine lv_iload_n hx hb dX4_followScope_4 rfl (lv_at hl 1 rfl) ?_
  obtain ⟨u_1, hu_1, hF_2⟩ := Option.bind_eq_some_iff.mp hF
  clear hF
  have hPc := hP.sub (ws' := (b_w cB cC cI cJ cZ oA rA Γ)) [7, 8, 9, 10, 11, 12, 13, 14, 15] rfl
  have hDc := (hDD Γ).sub (ws' := (b_w cB cC cI cJ cZ oA rA Γ)) [7, 8, 9, 10, 11, 12, 13, 14, 15] (by decide +kernel) rfl
  have hFc := va_free (wc := (b_w cB cC cI cJ cZ oA rA Γ)) (hDD Γ) hS hA [7, 8, 9, 10, 11, 12, 13, 14, 15] rfl
  refine g_ofi (wc := (b_w cB cC cI cJ cZ oA rA Γ)) (wr := (b_m cB cC cI cJ cZ oA rA Γ ++ b_s cB cC cI cJ cZ oA rA Γ ++ b_c cB cC cI cJ cZ oA rA Γ ++ b_t cB cC cI cJ cZ oA rA Γ ++ b_d cB cC cI cJ cZ oA rA Γ)) hP (hDD Γ) hS hFc [7, 8, 9, 10, 11, 12, 13, 14, 15] [0, 1, 2, 3, 4, 5, 6, 16, 17, 18, 19, 20, 21, 22, 23, 24, 25, 26, 27, 28, 29, 30, 31, 32, 33, 34, 35, 36, 37, 38, 39, 40, 41, 42, 43, 44, 45, 46] rfl rfl (by decide +kernel) (by decide +kernel) (va_runV (As := [.int p0]) (rest := []) ⟨hx, hb, hml, hown, hts⟩ (k_X10_kindOf l dC dI cB cC cI cJ cZ cP oA rA s.heap.size  p0 Γ _ hu_1) (cwV 1 hts (g_gV wq_714 wq_543 wq_544 wq_2 wq_545) rfl rfl rfl (by decide +kernel) ⟨Nat.le_of_ble_eq_true rfl, Nat.le_of_ble_eq_true rfl⟩) (g_preV g_bl0 hK hPc hDc hS hE hFc g_to0 (q0 := 0) (ci := 10) rfl rfl) rfl rfl hl.1 rfl (lv_room (Nat.le_of_ble_eq_true rfl)) dX4_followScope_5 ⟨Nat.le_of_ble_eq_true rfl, Nat.le_of_ble_eq_true rfl⟩) (fun r9 u9 H locs hw9 hP' hD' hS => ?_)
  clear hPc hDc hFc
  subst hw9
  obtain ⟨σ_3, eσ_3, hF_4⟩ := bnd_e hF_2
  clear hF_2
  have hP : va_P (dC, dI) vwCl (b_m cB cC cI cJ cZ oA rA σ_3 ++ b_w cB cC cI cJ cZ oA rA σ_3 ++ b_s cB cC cI cJ cZ oA rA σ_3 ++ b_c cB cC cI cJ cZ oA rA σ_3 ++ b_t cB cC cI cJ cZ oA rA σ_3 ++ b_d cB cC cI cJ cZ oA rA σ_3) H := by rw [eσ_3]; exact hP'.sub [0, 1, 2, 3, 4, 5, 6, 38, 39, 40, 41, 42, 43, 44, 45, 46, 7, 8, 9, 10, 11, 12, 13, 14, 15, 16, 17, 18, 19, 20, 21, 22, 23, 24, 25, 26, 27, 28, 29, 30, 31, 32, 33, 34, 35, 36, 37] rfl
  clear hP' hD'
  by_cases c_5 : u_1.1 = 59
  · have hF_6 := ipos c_5 hF_4
    clear hF_4
    refine lv_lookup (off := 100) (tgt := 108) hx hb dX4_followScope_8 (by decide +kernel) (by rw [c_5]; decide +kernel) (by decide) ?_
    refine lv_aload_n hx hb dX4_followScope_108 rfl (lv_at hl 0 rfl) ?_
    refine va_get (D := (dC, dI)) (ci := 4) (v := .int ((σ_3 3).1 9)) (C := RX4) (T := TX4) (N := 18) hx hb hts ii_X4 hown hK hP 0 rfl rfl 9 (by decide) (hts (.fieldLink RX4 132 "StoryHouse$Meanings" "pendingLet" "I") wq_95) (fun _ h9 => h9) rfl dX4_followScope_109 ?_
    refine lv_iconst (v := (-1)) hx hb dX4_followScope_112 (by decide +kernel) ?_
    obtain ⟨j_8, ej_8, hF_9⟩ := bnd_e hF_6
    clear hF_6
    have Jj_8 : ∀  (σ_7 : HS), j_8  σ_7 = some res → ∀ (H : Heap) (locs : List Loc), va_P (dC, dI) vwCl (b_m cB cC cI cJ cZ oA rA σ_7 ++ b_w cB cC cI cJ cZ oA rA σ_7 ++ b_s cB cC cI cJ cZ oA rA σ_7 ++ b_c cB cC cI cJ cZ oA rA σ_7 ++ b_t cB cC cI cJ cZ oA rA σ_7 ++ b_d cB cC cI cJ cZ oA rA σ_7) H → va_S A s.heap H locs → ∀ ls : Array Slot, lv_has ls 2 [(0, .ref (oA 3))] → W p l e (headSpec (g_ws yX4_followScope cX4_followScope 2 none) { frames := 4, cells := 0, slots := 0, locals := 104 }).room s m ([.ref (oA 3), .int p0] : List Value).toArray below meth c H locs 0 0 (MQ below (va_Qv (fun (_ : Unit) => True) (g_Bo (dC, dI) A (fun (_ : Unit) => (b_m cB cC cI cJ cZ oA rA res.2 ++ b_w cB cC cI cJ cZ oA rA res.2 ++ b_s cB cC cI cJ cZ oA rA res.2 ++ b_c cB cC cI cJ cZ oA rA res.2 ++ b_t cB cC cI cJ cZ oA rA res.2 ++ b_d cB cC cI cJ cZ oA rA res.2))) A) ([.ref (oA 3), .int p0] : List Value).toArray s 0 0 A) (F0 m 124 ls []) := by
      intro  σ_7 hF0 H locs hP hS ls hl
      subst ej_8
      have hF_10 := hF0
      clear hF0
      refine lv_aload_n hx hb dX4_followScope_124 rfl (lv_at hl 0 rfl) ?_
      refine lv_iconst (v := (-1)) hx hb dX4_followScope_125 (by decide +kernel) ?_
      obtain ⟨σ_11, eσ_11, hF_12⟩ := bnd_e hF_10
      clear hF_10
      refine va_put (D := (dC, dI)) (ci := 4) (v := .int (-1)) (ty := .int) (C := RX4) (T := TX4) (N := 18) hx hb hts ii_X4 tyX4 tyX4_ok nmX4 hown hK hP (hDD _) hS 0 rfl rfl 9 (by decide) (hts (.fieldLink RX4 132 "StoryHouse$Meanings" "pendingLet" "I") wq_95) (fun _ h9 => h9) rfl (by decide +kernel) rfl rfl (Nat.le_of_ble_eq_true rfl) dX4_followScope_126 (fun H locs hP' _ hS => ?_)
      have hP : va_P (dC, dI) vwCl (b_m cB cC cI cJ cZ oA rA σ_11 ++ b_w cB cC cI cJ cZ oA rA σ_11 ++ b_s cB cC cI cJ cZ oA rA σ_11 ++ b_c cB cC cI cJ cZ oA rA σ_11 ++ b_t cB cC cI cJ cZ oA rA σ_11 ++ b_d cB cC cI cJ cZ oA rA σ_11) H := by rw [eσ_11]; exact cs_mwsctd_m_9 ▸ hP'
      clear hP'
      refine lv_goto (tgt := 167) hx hb dX4_followScope_129 (by decide) ?_
      have h9 := Option.some.inj hF_12
      subst h9
      exact W.vret hx hb hr (fun t ht hW => ⟨⟨(), rfl, trivial, m_end ht hP, hDD _⟩, hS.F ht⟩) hS.2.2 dX4_followScope_167
    refine lv_icmp_eq (tgt := 124) hx hb dX4_followScope_113 (by decide) (fun c_13 => ?_) (fun c_13 => ?_)
    · have hF_14 := ipos c_13 hF_9
      clear hF_9
      exact Jj_8  σ_3 hF_14 _ _ hP hS ls (lv_sub hl [0] rfl)
    · have hF_15 := ineg c_13 hF_9
      clear hF_9
      refine lv_aload_n hx hb dX4_followScope_116 rfl (lv_at hl 0 rfl) ?_
      refine lv_aload_n hx hb dX4_followScope_117 rfl (lv_at hl 0 rfl) ?_
      refine va_get (D := (dC, dI)) (ci := 4) (v := .int ((σ_3 3).1 9)) (C := RX4) (T := TX4) (N := 18) hx hb hts ii_X4 hown hK hP 0 rfl rfl 9 (by decide) (hts (.fieldLink RX4 132 "StoryHouse$Meanings" "pendingLet" "I") wq_95) (fun _ h9 => h9) rfl dX4_followScope_118 ?_
      obtain ⟨u_16, hu_16, hF_17⟩ := Option.bind_eq_some_iff.mp hF_15
      clear hF_15
      have hPc := hP.sub (ws' := (b_m cB cC cI cJ cZ oA rA σ_3 ++ b_w cB cC cI cJ cZ oA rA σ_3 ++ b_s cB cC cI cJ cZ oA rA σ_3 ++ b_c cB cC cI cJ cZ oA rA σ_3 ++ b_t cB cC cI cJ cZ oA rA σ_3 ++ b_d cB cC cI cJ cZ oA rA σ_3)) [0, 1, 2, 3, 4, 5, 6, 7, 8, 9, 10, 11, 12, 13, 14, 15, 16, 17, 18, 19, 20, 21, 22, 23, 24, 25, 26, 27, 28, 29, 30, 31, 32, 33, 34, 35, 36, 37, 38, 39, 40, 41, 42, 43, 44, 45, 46] rfl
      have hDc := (hDD σ_3).sub (ws' := (b_m cB cC cI cJ cZ oA rA σ_3 ++ b_w cB cC cI cJ cZ oA rA σ_3 ++ b_s cB cC cI cJ cZ oA rA σ_3 ++ b_c cB cC cI cJ cZ oA rA σ_3 ++ b_t cB cC cI cJ cZ oA rA σ_3 ++ b_d cB cC cI cJ cZ oA rA σ_3)) [0, 1, 2, 3, 4, 5, 6, 7, 8, 9, 10, 11, 12, 13, 14, 15, 16, 17, 18, 19, 20, 21, 22, 23, 24, 25, 26, 27, 28, 29, 30, 31, 32, 33, 34, 35, 36, 37, 38, 39, 40, 41, 42, 43, 44, 45, 46] (by decide +kernel) rfl
      have hFc := va_free (wc := (b_m cB cC cI cJ cZ oA rA σ_3 ++ b_w cB cC cI cJ cZ oA rA σ_3 ++ b_s cB cC cI cJ cZ oA rA σ_3 ++ b_c cB cC cI cJ cZ oA rA σ_3 ++ b_t cB cC cI cJ cZ oA rA σ_3 ++ b_d cB cC cI cJ cZ oA rA σ_3)) (hDD σ_3) hS hA [0, 1, 2, 3, 4, 5, 6, 7, 8, 9, 10, 11, 12, 13, 14, 15, 16, 17, 18, 19, 20, 21, 22, 23, 24, 25, 26, 27, 28, 29, 30, 31, 32, 33, 34, 35, 36, 37, 38, 39, 40, 41, 42, 43, 44, 45, 46] rfl
      refine g_ofv (wc := (b_m cB cC cI cJ cZ oA rA σ_3 ++ b_w cB cC cI cJ cZ oA rA σ_3 ++ b_s cB cC cI cJ cZ oA rA σ_3 ++ b_c cB cC cI cJ cZ oA rA σ_3 ++ b_t cB cC cI cJ cZ oA rA σ_3 ++ b_d cB cC cI cJ cZ oA rA σ_3)) (wr := ([] : va_W)) hP (hDD σ_3) hS hFc [0, 1, 2, 3, 4, 5, 6, 7, 8, 9, 10, 11, 12, 13, 14, 15, 16, 17, 18, 19, 20, 21, 22, 23, 24, 25, 26, 27, 28, 29, 30, 31, 32, 33, 34, 35, 36, 37, 38, 39, 40, 41, 42, 43, 44, 45, 46] [] rfl rfl (by decide +kernel) (by decide +kernel) (va_runV (As := [.int ((σ_3 3).1 9)]) (rest := []) ⟨hx, hb, hml, hown, hts⟩ (k_X4_see l dC dI cB cC cI cJ cZ cP oA rA H.size  ((σ_3 3).1 9) σ_3 _ hu_16) (cwV 1 hts (g_gV wq_747 wq_748 wq_2044 wq_4 wq_749) rfl rfl rfl (by decide +kernel) ⟨Nat.le_of_ble_eq_true rfl, Nat.le_of_ble_eq_true rfl⟩) (g_preV g_bl0 hK hPc hDc hS hE hFc g_to0 (q0 := 0) (ci := 4) rfl rfl) rfl rfl hl.1 rfl (lv_room (Nat.le_of_ble_eq_true rfl)) dX4_followScope_121 ⟨Nat.le_of_ble_eq_true rfl, Nat.le_of_ble_eq_true rfl⟩) (fun u9 H locs hw9 hP' hD' hS => ?_)
      clear hPc hDc hFc
      have hP : va_P (dC, dI) vwCl (b_m cB cC cI cJ cZ oA rA u_16.2 ++ b_w cB cC cI cJ cZ oA rA u_16.2 ++ b_s cB cC cI cJ cZ oA rA u_16.2 ++ b_c cB cC cI cJ cZ oA rA u_16.2 ++ b_t cB cC cI cJ cZ oA rA u_16.2 ++ b_d cB cC cI cJ cZ oA rA u_16.2) H := hP'
      clear hP' hD'
      exact Jj_8  u_16.2 hF_17 _ _ hP hS ls (lv_sub hl [0] rfl)
  have hF_18 := ineg c_5 hF_4
  clear hF_4
  by_cases c_19 : u_1.1 = 123
  · have hF_20 := ipos c_19 hF_18
    clear hF_18
    refine lv_lookup (off := 124) (tgt := 132) hx hb dX4_followScope_8 (by decide +kernel) (by rw [c_19]; decide +kernel) (by decide) ?_
    refine lv_aload_n hx hb dX4_followScope_132 rfl (lv_at hl 0 rfl) ?_
    refine va_get (D := (dC, dI)) (ci := 4) (v := .ref (rA 3 10)) (C := RX4) (T := TX4) (N := 18) hx hb hts ii_X4 hown hK hP 0 rfl rfl 10 (by decide) (hts (.fieldLink RX4 29 "StoryHouse$Meanings" "marks" "[I") wq_96) (fun _ h9 => h9) rfl dX4_followScope_133 ?_
    refine lv_aload_n hx hb dX4_followScope_136 rfl (lv_at hl 0 rfl) ?_
    refine va_get (D := (dC, dI)) (ci := 4) (v := .int ((σ_3 3).1 11)) (C := RX4) (T := TX4) (N := 18) hx hb hts ii_X4 hown hK hP 0 rfl rfl 11 (by decide) (hts (.fieldLink RX4 66 "StoryHouse$Meanings" "depth" "I") wq_97) (fun _ h9 => h9) rfl dX4_followScope_137 ?_
    refine lv_aload_n hx hb dX4_followScope_140 rfl (lv_at hl 0 rfl) ?_
    refine va_get (D := (dC, dI)) (ci := 4) (v := .int ((σ_3 3).1 7)) (C := RX4) (T := TX4) (N := 18) hx hb hts ii_X4 hown hK hP 0 rfl rfl 7 (by decide) (hts (.fieldLink RX4 126 "StoryHouse$Meanings" "seenCount" "I") wq_93) (fun _ h9 => h9) rfl dX4_followScope_141 ?_
    obtain ⟨x_21, ex_21, hF_22⟩ := bnd_e hF_20
    clear hF_20
    refine m_top ex_21 ?_
    have hPc := hP.sub (ws' := [(rA 3 10, .inl (cI, 31, .inl ((σ_3 3).2.1 10)))]) [6] rfl
    have hDc := (hDD σ_3).sub (ws' := [(rA 3 10, .inl (cI, 31, .inl ((σ_3 3).2.1 10)))]) [6] (by decide +kernel) rfl
    have hFc := va_free (wc := [(rA 3 10, .inl (cI, 31, .inl ((σ_3 3).2.1 10)))]) (hDD σ_3) hS hA [6] rfl
    refine g_ofv (wc := [(rA 3 10, .inl (cI, 31, .inl ((σ_3 3).2.1 10)))]) (wr := (((b_m cB cC cI cJ cZ oA rA σ_3 ++ b_w cB cC cI cJ cZ oA rA σ_3 ++ b_s cB cC cI cJ cZ oA rA σ_3 ++ b_c cB cC cI cJ cZ oA rA σ_3 ++ b_t cB cC cI cJ cZ oA rA σ_3 ++ b_d cB cC cI cJ cZ oA rA σ_3)).eraseIdx 6)) hP (hDD σ_3) hS hFc [6] [0, 1, 2, 3, 4, 5, 7, 8, 9, 10, 11, 12, 13, 14, 15, 16, 17, 18, 19, 20, 21, 22, 23, 24, 25, 26, 27, 28, 29, 30, 31, 32, 33, 34, 35, 36, 37, 38, 39, 40, 41, 42, 43, 44, 45, 46] rfl rfl (by decide +kernel) (by decide +kernel) (va_runSN (As := [.ref (rA 3 10), .int ((σ_3 3).1 11), .int x_21]) (rest := []) ⟨hx, hb, hml, hown, hts⟩ (c_X11_put l dC dI cB cC cI cJ cZ cP H.size (rA 3 10) ((σ_3 3).1 11) x_21 31 ((σ_3 3).2.1 10) (by decide)) ⟨va_cnB 3 hts (g_gA wq_412) rfl rfl rfl (hN.at 23 rfl) (hts (.initialized RX11) wq_1) (by decide +kernel) ⟨Nat.le_of_ble_eq_true rfl, Nat.le_of_ble_eq_true rfl⟩, (hts (.static yX11_put) wq_411), trivial⟩ (g_preS g_bl0 hK hPc hDc hS hE hFc g_to0) rfl rfl hl.1 rfl (lv_room (Nat.le_of_ble_eq_true rfl)) dX4_followScope_144 ⟨Nat.le_of_ble_eq_true rfl, Nat.le_of_ble_eq_true rfl⟩) (fun g9 H locs hw9 hP' hD' hS => ?_)
    clear hPc hDc hFc hD'
    obtain ⟨σ_23, eσ_23, hF_24⟩ := bnd_e hF_22
    clear hF_22
    subst hw9
    have hP : va_P (dC, dI) vwCl (b_m cB cC cI cJ cZ oA rA σ_23 ++ b_w cB cC cI cJ cZ oA rA σ_23 ++ b_s cB cC cI cJ cZ oA rA σ_23 ++ b_c cB cC cI cJ cZ oA rA σ_23 ++ b_t cB cC cI cJ cZ oA rA σ_23 ++ b_d cB cC cI cJ cZ oA rA σ_23) H := by rw [eσ_23]; exact hP'.sub [0, 1, 2, 3, 4, 5, 46, 6, 7, 8, 9, 10, 11, 12, 13, 14, 15, 16, 17, 18, 19, 20, 21, 22, 23, 24, 25, 26, 27, 28, 29, 30, 31, 32, 33, 34, 35, 36, 37, 38, 39, 40, 41, 42, 43, 44, 45] rfl
    clear hP'
    refine lv_aload_n hx hb dX4_followScope_147 rfl (lv_at hl 0 rfl) ?_
    refine lv_dup hx hb dX4_followScope_148 rfl ?_
    refine va_get (D := (dC, dI)) (ci := 4) (v := .int ((σ_23 3).1 11)) (C := RX4) (T := TX4) (N := 18) hx hb hts ii_X4 hown hK hP 0 rfl rfl 11 (by decide) (hts (.fieldLink RX4 66 "StoryHouse$Meanings" "depth" "I") wq_97) (fun _ h9 => h9) rfl dX4_followScope_149 ?_
    refine lv_iconst (v := 1) hx hb dX4_followScope_152 (by decide +kernel) ?_
    refine lv_iadd hx hb dX4_followScope_153 ?_
    obtain ⟨σ_25, eσ_25, hF_26⟩ := bnd_e hF_24
    clear hF_24
    refine va_put (D := (dC, dI)) (ci := 4) (v := .int (((σ_23 3).1 11) + 1)) (ty := .int) (C := RX4) (T := TX4) (N := 18) hx hb hts ii_X4 tyX4 tyX4_ok nmX4 hown hK hP (hDD _) hS 0 rfl rfl 11 (by decide) (hts (.fieldLink RX4 66 "StoryHouse$Meanings" "depth" "I") wq_97) (fun _ h9 => h9) rfl (by decide +kernel) rfl rfl (Nat.le_of_ble_eq_true rfl) dX4_followScope_154 (fun H locs hP' _ hS => ?_)
    have hP : va_P (dC, dI) vwCl (b_m cB cC cI cJ cZ oA rA σ_25 ++ b_w cB cC cI cJ cZ oA rA σ_25 ++ b_s cB cC cI cJ cZ oA rA σ_25 ++ b_c cB cC cI cJ cZ oA rA σ_25 ++ b_t cB cC cI cJ cZ oA rA σ_25 ++ b_d cB cC cI cJ cZ oA rA σ_25) H := by rw [eσ_25]; exact cs_mwsctd_m_11 ▸ hP'
    clear hP'
    refine lv_goto (tgt := 167) hx hb dX4_followScope_157 (by decide) ?_
    have h9 := Option.some.inj hF_26
    subst h9
    exact W.vret hx hb hr (fun t ht hW => ⟨⟨(), rfl, trivial, m_end ht hP, hDD _⟩, hS.F ht⟩) hS.2.2 dX4_followScope_167
  have hF_27 := ineg c_19 hF_18
  clear hF_18
  by_cases c_28 : u_1.1 = 125
  · have hF_29 := ipos c_28 hF_27
    clear hF_27
    refine lv_lookup (off := 152) (tgt := 160) hx hb dX4_followScope_8 (by decide +kernel) (by rw [c_28]; decide +kernel) (by decide) ?_
    refine lv_aload_n hx hb dX4_followScope_160 rfl (lv_at hl 0 rfl) ?_
    obtain ⟨u_30, hu_30, hF_31⟩ := Option.bind_eq_some_iff.mp hF_29
    clear hF_29
    have hPc := hP.sub (ws' := (b_m cB cC cI cJ cZ oA rA σ_3 ++ b_w cB cC cI cJ cZ oA rA σ_3 ++ b_s cB cC cI cJ cZ oA rA σ_3 ++ b_c cB cC cI cJ cZ oA rA σ_3 ++ b_t cB cC cI cJ cZ oA rA σ_3 ++ b_d cB cC cI cJ cZ oA rA σ_3)) [0, 1, 2, 3, 4, 5, 6, 7, 8, 9, 10, 11, 12, 13, 14, 15, 16, 17, 18, 19, 20, 21, 22, 23, 24, 25, 26, 27, 28, 29, 30, 31, 32, 33, 34, 35, 36, 37, 38, 39, 40, 41, 42, 43, 44, 45, 46] rfl
    have hDc := (hDD σ_3).sub (ws' := (b_m cB cC cI cJ cZ oA rA σ_3 ++ b_w cB cC cI cJ cZ oA rA σ_3 ++ b_s cB cC cI cJ cZ oA rA σ_3 ++ b_c cB cC cI cJ cZ oA rA σ_3 ++ b_t cB cC cI cJ cZ oA rA σ_3 ++ b_d cB cC cI cJ cZ oA rA σ_3)) [0, 1, 2, 3, 4, 5, 6, 7, 8, 9, 10, 11, 12, 13, 14, 15, 16, 17, 18, 19, 20, 21, 22, 23, 24, 25, 26, 27, 28, 29, 30, 31, 32, 33, 34, 35, 36, 37, 38, 39, 40, 41, 42, 43, 44, 45, 46] (by decide +kernel) rfl
    have hFc := va_free (wc := (b_m cB cC cI cJ cZ oA rA σ_3 ++ b_w cB cC cI cJ cZ oA rA σ_3 ++ b_s cB cC cI cJ cZ oA rA σ_3 ++ b_c cB cC cI cJ cZ oA rA σ_3 ++ b_t cB cC cI cJ cZ oA rA σ_3 ++ b_d cB cC cI cJ cZ oA rA σ_3)) (hDD σ_3) hS hA [0, 1, 2, 3, 4, 5, 6, 7, 8, 9, 10, 11, 12, 13, 14, 15, 16, 17, 18, 19, 20, 21, 22, 23, 24, 25, 26, 27, 28, 29, 30, 31, 32, 33, 34, 35, 36, 37, 38, 39, 40, 41, 42, 43, 44, 45, 46] rfl
    refine g_ofv (wc := (b_m cB cC cI cJ cZ oA rA σ_3 ++ b_w cB cC cI cJ cZ oA rA σ_3 ++ b_s cB cC cI cJ cZ oA rA σ_3 ++ b_c cB cC cI cJ cZ oA rA σ_3 ++ b_t cB cC cI cJ cZ oA rA σ_3 ++ b_d cB cC cI cJ cZ oA rA σ_3)) (wr := ([] : va_W)) hP (hDD σ_3) hS hFc [0, 1, 2, 3, 4, 5, 6, 7, 8, 9, 10, 11, 12, 13, 14, 15, 16, 17, 18, 19, 20, 21, 22, 23, 24, 25, 26, 27, 28, 29, 30, 31, 32, 33, 34, 35, 36, 37, 38, 39, 40, 41, 42, 43, 44, 45, 46] [] rfl rfl (by decide +kernel) (by decide +kernel) (va_runV (As := []) (rest := []) ⟨hx, hb, hml, hown, hts⟩ (k_X4_shutBlock l dC dI cB cC cI cJ cZ cP oA rA H.size  σ_3 _ hu_30) (cwV 0 hts (g_gV wq_756 wq_757 wq_2047 wq_4 wq_758) rfl rfl rfl (by decide +kernel) ⟨Nat.le_of_ble_eq_true rfl, Nat.le_of_ble_eq_true rfl⟩) (g_preV g_bl0 hK hPc hDc hS hE hFc g_to0 (q0 := 0) (ci := 4) rfl rfl) rfl rfl hl.1 rfl (lv_room (Nat.le_of_ble_eq_true rfl)) dX4_followScope_161 ⟨Nat.le_of_ble_eq_true rfl, Nat.le_of_ble_eq_true rfl⟩) (fun u9 H locs hw9 hP' hD' hS => ?_)
    clear hPc hDc hFc
    have hP : va_P (dC, dI) vwCl (b_m cB cC cI cJ cZ oA rA u_30.2 ++ b_w cB cC cI cJ cZ oA rA u_30.2 ++ b_s cB cC cI cJ cZ oA rA u_30.2 ++ b_c cB cC cI cJ cZ oA rA u_30.2 ++ b_t cB cC cI cJ cZ oA rA u_30.2 ++ b_d cB cC cI cJ cZ oA rA u_30.2) H := hP'
    clear hP' hD'
    refine lv_goto (tgt := 167) hx hb dX4_followScope_164 (by decide) ?_
    have h9 := Option.some.inj hF_31
    subst h9
    exact W.vret hx hb hr (fun t ht hW => ⟨⟨(), rfl, trivial, m_end ht hP, hDD _⟩, hS.F ht⟩) hS.2.2 dX4_followScope_167
  have hF_32 := ineg c_28 hF_27
  clear hF_27
  by_cases c_33 : u_1.1 = 235 ∨ u_1.1 = 236 ∨ u_1.1 = 237
  · have hF_34 := ipos c_33 hF_32
    clear hF_32
    refine lv_lookup (off := 68) (tgt := 76) hx hb dX4_followScope_8 (by decide +kernel) (by rcases c_33 with q9 | q9 | q9 <;> (rw [q9]; decide +kernel)) (by decide) ?_
    refine lv_aload_n hx hb dX4_followScope_76 rfl (lv_at hl 0 rfl) ?_
    refine lv_aload_n hx hb dX4_followScope_77 rfl (lv_at hl 0 rfl) ?_
    refine va_get (D := (dC, dI)) (ci := 4) (v := .ref (oA 1)) (C := RX4) (T := TX4) (N := 18) hx hb hts ii_X4 hown hK hP 0 rfl rfl 0 (by decide) (hts (.fieldLink RX4 32 "StoryHouse$Meanings" "words" "LStoryHouse$Words;") wq_86) (fun _ h9 => h9) rfl dX4_followScope_78 ?_
    refine lv_iload_n hx hb dX4_followScope_81 rfl (lv_at hl 1 rfl) ?_
    obtain ⟨u_35, hu_35, hF_36⟩ := Option.bind_eq_some_iff.mp hF_34
    clear hF_34
    have hPc := hP.sub (ws' := (b_w cB cC cI cJ cZ oA rA σ_3)) [7, 8, 9, 10, 11, 12, 13, 14, 15] rfl
    have hDc := (hDD σ_3).sub (ws' := (b_w cB cC cI cJ cZ oA rA σ_3)) [7, 8, 9, 10, 11, 12, 13, 14, 15] (by decide +kernel) rfl
    have hFc := va_free (wc := (b_w cB cC cI cJ cZ oA rA σ_3)) (hDD σ_3) hS hA [7, 8, 9, 10, 11, 12, 13, 14, 15] rfl
    refine g_ofi (wc := (b_w cB cC cI cJ cZ oA rA σ_3)) (wr := (b_m cB cC cI cJ cZ oA rA σ_3 ++ b_s cB cC cI cJ cZ oA rA σ_3 ++ b_c cB cC cI cJ cZ oA rA σ_3 ++ b_t cB cC cI cJ cZ oA rA σ_3 ++ b_d cB cC cI cJ cZ oA rA σ_3)) hP (hDD σ_3) hS hFc [7, 8, 9, 10, 11, 12, 13, 14, 15] [0, 1, 2, 3, 4, 5, 6, 16, 17, 18, 19, 20, 21, 22, 23, 24, 25, 26, 27, 28, 29, 30, 31, 32, 33, 34, 35, 36, 37, 38, 39, 40, 41, 42, 43, 44, 45, 46] rfl rfl (by decide +kernel) (by decide +kernel) (va_runV (As := [.int p0]) (rest := [.ref (oA 3)]) ⟨hx, hb, hml, hown, hts⟩ (k_X10_kindOf l dC dI cB cC cI cJ cZ cP oA rA H.size  p0 σ_3 _ hu_35) (cwV 1 hts (g_gV wq_714 wq_543 wq_544 wq_2 wq_545) rfl rfl rfl (by decide +kernel) ⟨Nat.le_of_ble_eq_true rfl, Nat.le_of_ble_eq_true rfl⟩) (g_preV g_bl0 hK hPc hDc hS hE hFc g_to0 (q0 := 0) (ci := 10) rfl rfl) rfl rfl hl.1 rfl (lv_room (Nat.le_of_ble_eq_true rfl)) dX4_followScope_82 ⟨Nat.le_of_ble_eq_true rfl, Nat.le_of_ble_eq_true rfl⟩) (fun r9 u9 H locs hw9 hP' hD' hS => ?_)
    clear hPc hDc hFc
    subst hw9
    obtain ⟨σ_37, eσ_37, hF_38⟩ := bnd_e hF_36
    clear hF_36
    have hP : va_P (dC, dI) vwCl (b_m cB cC cI cJ cZ oA rA σ_37 ++ b_w cB cC cI cJ cZ oA rA σ_37 ++ b_s cB cC cI cJ cZ oA rA σ_37 ++ b_c cB cC cI cJ cZ oA rA σ_37 ++ b_t cB cC cI cJ cZ oA rA σ_37 ++ b_d cB cC cI cJ cZ oA rA σ_37) H := by rw [eσ_37]; exact hP'.sub [0, 1, 2, 3, 4, 5, 6, 38, 39, 40, 41, 42, 43, 44, 45, 46, 7, 8, 9, 10, 11, 12, 13, 14, 15, 16, 17, 18, 19, 20, 21, 22, 23, 24, 25, 26, 27, 28, 29, 30, 31, 32, 33, 34, 35, 36, 37] rfl
    clear hP' hD'
    obtain ⟨σ_39, eσ_39, hF_40⟩ := bnd_e hF_38
    clear hF_38
    refine va_put (D := (dC, dI)) (ci := 4) (v := .int u_35.1) (ty := .int) (C := RX4) (T := TX4) (N := 18) hx hb hts ii_X4 tyX4 tyX4_ok nmX4 hown hK hP (hDD _) hS 0 rfl rfl 12 (by decide) (hts (.fieldLink RX4 63 "StoryHouse$Meanings" "routine" "I") wq_98) (fun _ h9 => h9) rfl (by decide +kernel) rfl rfl (Nat.le_of_ble_eq_true rfl) dX4_followScope_85 (fun H locs hP' _ hS => ?_)
    have hP : va_P (dC, dI) vwCl (b_m cB cC cI cJ cZ oA rA σ_39 ++ b_w cB cC cI cJ cZ oA rA σ_39 ++ b_s cB cC cI cJ cZ oA rA σ_39 ++ b_c cB cC cI cJ cZ oA rA σ_39 ++ b_t cB cC cI cJ cZ oA rA σ_39 ++ b_d cB cC cI cJ cZ oA rA σ_39) H := by rw [eσ_39]; exact cs_mwsctd_m_12 ▸ hP'
    clear hP'
    refine lv_goto (tgt := 167) hx hb dX4_followScope_88 (by decide) ?_
    have h9 := Option.some.inj hF_40
    subst h9
    exact W.vret hx hb hr (fun t ht hW => ⟨⟨(), rfl, trivial, m_end ht hP, hDD _⟩, hS.F ht⟩) hS.2.2 dX4_followScope_167
  have hF_41 := ineg c_33 hF_32
  clear hF_32
  by_cases c_42 : u_1.1 = 242
  · have hF_43 := ipos c_42 hF_41
    clear hF_41
    refine lv_lookup (off := 83) (tgt := 91) hx hb dX4_followScope_8 (by decide +kernel) (by rw [c_42]; decide +kernel) (by decide) ?_
    refine lv_aload_n hx hb dX4_followScope_91 rfl (lv_at hl 0 rfl) ?_
    refine lv_aload_n hx hb dX4_followScope_92 rfl (lv_at hl 0 rfl) ?_
    refine va_get (D := (dC, dI)) (ci := 4) (v := .ref (oA 1)) (C := RX4) (T := TX4) (N := 18) hx hb hts ii_X4 hown hK hP 0 rfl rfl 0 (by decide) (hts (.fieldLink RX4 32 "StoryHouse$Meanings" "words" "LStoryHouse$Words;") wq_86) (fun _ h9 => h9) rfl dX4_followScope_93 ?_
    refine lv_iload_n hx hb dX4_followScope_96 rfl (lv_at hl 1 rfl) ?_
    refine lv_iconst (v := 1) hx hb dX4_followScope_97 (by decide +kernel) ?_
    refine lv_iadd hx hb dX4_followScope_98 ?_
    obtain ⟨u_44, hu_44, hF_45⟩ := Option.bind_eq_some_iff.mp hF_43
    clear hF_43
    have hPc := hP.sub (ws' := (b_w cB cC cI cJ cZ oA rA σ_3)) [7, 8, 9, 10, 11, 12, 13, 14, 15] rfl
    have hDc := (hDD σ_3).sub (ws' := (b_w cB cC cI cJ cZ oA rA σ_3)) [7, 8, 9, 10, 11, 12, 13, 14, 15] (by decide +kernel) rfl
    have hFc := va_free (wc := (b_w cB cC cI cJ cZ oA rA σ_3)) (hDD σ_3) hS hA [7, 8, 9, 10, 11, 12, 13, 14, 15] rfl
    refine g_ofi (wc := (b_w cB cC cI cJ cZ oA rA σ_3)) (wr := (b_m cB cC cI cJ cZ oA rA σ_3 ++ b_s cB cC cI cJ cZ oA rA σ_3 ++ b_c cB cC cI cJ cZ oA rA σ_3 ++ b_t cB cC cI cJ cZ oA rA σ_3 ++ b_d cB cC cI cJ cZ oA rA σ_3)) hP (hDD σ_3) hS hFc [7, 8, 9, 10, 11, 12, 13, 14, 15] [0, 1, 2, 3, 4, 5, 6, 16, 17, 18, 19, 20, 21, 22, 23, 24, 25, 26, 27, 28, 29, 30, 31, 32, 33, 34, 35, 36, 37, 38, 39, 40, 41, 42, 43, 44, 45, 46] rfl rfl (by decide +kernel) (by decide +kernel) (va_runV (As := [.int (p0 + 1)]) (rest := [.ref (oA 3)]) ⟨hx, hb, hml, hown, hts⟩ (k_X10_worthOf l dC dI cB cC cI cJ cZ cP oA rA H.size  (p0 + 1) σ_3 _ hu_44) (cwV 1 hts (g_gV wq_715 wq_653 wq_654 wq_2 wq_655) rfl rfl rfl (by decide +kernel) ⟨Nat.le_of_ble_eq_true rfl, Nat.le_of_ble_eq_true rfl⟩) (g_preV g_bl0 hK hPc hDc hS hE hFc g_to0 (q0 := 0) (ci := 10) rfl rfl) rfl rfl hl.1 rfl (lv_room (Nat.le_of_ble_eq_true rfl)) dX4_followScope_99 ⟨Nat.le_of_ble_eq_true rfl, Nat.le_of_ble_eq_true rfl⟩) (fun r9 u9 H locs hw9 hP' hD' hS => ?_)
    clear hPc hDc hFc
    subst hw9
    obtain ⟨σ_46, eσ_46, hF_47⟩ := bnd_e hF_45
    clear hF_45
    have hP : va_P (dC, dI) vwCl (b_m cB cC cI cJ cZ oA rA σ_46 ++ b_w cB cC cI cJ cZ oA rA σ_46 ++ b_s cB cC cI cJ cZ oA rA σ_46 ++ b_c cB cC cI cJ cZ oA rA σ_46 ++ b_t cB cC cI cJ cZ oA rA σ_46 ++ b_d cB cC cI cJ cZ oA rA σ_46) H := by rw [eσ_46]; exact hP'.sub [0, 1, 2, 3, 4, 5, 6, 38, 39, 40, 41, 42, 43, 44, 45, 46, 7, 8, 9, 10, 11, 12, 13, 14, 15, 16, 17, 18, 19, 20, 21, 22, 23, 24, 25, 26, 27, 28, 29, 30, 31, 32, 33, 34, 35, 36, 37] rfl
    clear hP' hD'
    obtain ⟨σ_48, eσ_48, hF_49⟩ := bnd_e hF_47
    clear hF_47
    refine va_put (D := (dC, dI)) (ci := 4) (v := .int u_44.1) (ty := .int) (C := RX4) (T := TX4) (N := 18) hx hb hts ii_X4 tyX4 tyX4_ok nmX4 hown hK hP (hDD _) hS 0 rfl rfl 9 (by decide) (hts (.fieldLink RX4 132 "StoryHouse$Meanings" "pendingLet" "I") wq_95) (fun _ h9 => h9) rfl (by decide +kernel) rfl rfl (Nat.le_of_ble_eq_true rfl) dX4_followScope_102 (fun H locs hP' _ hS => ?_)
    have hP : va_P (dC, dI) vwCl (b_m cB cC cI cJ cZ oA rA σ_48 ++ b_w cB cC cI cJ cZ oA rA σ_48 ++ b_s cB cC cI cJ cZ oA rA σ_48 ++ b_c cB cC cI cJ cZ oA rA σ_48 ++ b_t cB cC cI cJ cZ oA rA σ_48 ++ b_d cB cC cI cJ cZ oA rA σ_48) H := by rw [eσ_48]; exact cs_mwsctd_m_9 ▸ hP'
    clear hP'
    refine lv_goto (tgt := 167) hx hb dX4_followScope_105 (by decide) ?_
    have h9 := Option.some.inj hF_49
    subst h9
    exact W.vret hx hb hr (fun t ht hW => ⟨⟨(), rfl, trivial, m_end ht hP, hDD _⟩, hS.F ht⟩) hS.2.2 dX4_followScope_167
  have hF_50 := ineg c_42 hF_41
  clear hF_41
  refine lv_lookup (off := 159) (tgt := 167) hx hb dX4_followScope_8 (by decide +kernel) ((lv_osw (k := 59) c_5 (by decide +kernel)).trans ((lv_osw (k := 123) c_19 (by decide +kernel)).trans ((lv_osw (k := 125) c_28 (by decide +kernel)).trans ((lv_osw (k := 235) (fun z9 => c_33 (Or.inl z9)) (by decide +kernel)).trans ((lv_osw (k := 236) (fun z9 => c_33 (Or.inr (Or.inl z9))) (by decide +kernel)).trans ((lv_osw (k := 237) (fun z9 => c_33 (Or.inr (Or.inr (z9)))) (by decide +kernel)).trans ((lv_osw (k := 242) c_42 (by decide +kernel)).trans rfl))))))) (by decide) ?_
  have h9 := Option.some.inj hF_50
  subst h9
  exact W.vret hx hb hr (fun t ht hW => ⟨⟨(), rfl, trivial, m_end ht hP, hDD _⟩, hS.F ht⟩) hS.2.2 dX4_followScope_167
theorem dX10_rememberName_0 : decode cX10_rememberName 0 = .ok (.aload_n 0, 1) := by decide +kernel
theorem dX10_rememberName_1 : decode cX10_rememberName 1 = .ok (.getfield 63, 3) := by decide +kernel
theorem dX10_rememberName_4 : decode cX10_rememberName 4 = .ok (.aload_n 0, 1) := by decide +kernel
theorem dX10_rememberName_5 : decode cX10_rememberName 5 = .ok (.getfield 31, 3) := by decide +kernel
theorem dX10_rememberName_8 : decode cX10_rememberName 8 = .ok (.arraylength, 1) := by decide +kernel
theorem dX10_rememberName_9 : decode cX10_rememberName 9 = .ok (.if_icmp .lt 5, 3) := by decide +kernel
theorem dX10_rememberName_12 : decode cX10_rememberName 12 = .ok (.iconst 0, 1) := by decide +kernel
theorem dX10_rememberName_13 : decode cX10_rememberName 13 = .ok (.ireturn, 1) := by decide +kernel
theorem dX10_rememberName_14 : decode cX10_rememberName 14 = .ok (.aload_n 0, 1) := by decide +kernel
theorem dX10_rememberName_15 : decode cX10_rememberName 15 = .ok (.getfield 31, 3) := by decide +kernel
theorem dX10_rememberName_18 : decode cX10_rememberName 18 = .ok (.aload_n 0, 1) := by decide +kernel
theorem dX10_rememberName_19 : decode cX10_rememberName 19 = .ok (.getfield 63, 3) := by decide +kernel
theorem dX10_rememberName_22 : decode cX10_rememberName 22 = .ok (.lload_n 2, 1) := by decide +kernel
theorem dX10_rememberName_23 : decode cX10_rememberName 23 = .ok (.lastore, 1) := by decide +kernel
theorem dX10_rememberName_24 : decode cX10_rememberName 24 = .ok (.aload_n 0, 1) := by decide +kernel
theorem dX10_rememberName_25 : decode cX10_rememberName 25 = .ok (.dup, 1) := by decide +kernel
theorem dX10_rememberName_26 : decode cX10_rememberName 26 = .ok (.getfield 63, 3) := by decide +kernel
theorem dX10_rememberName_29 : decode cX10_rememberName 29 = .ok (.iconst 1, 1) := by decide +kernel
theorem dX10_rememberName_30 : decode cX10_rememberName 30 = .ok (.iadd, 1) := by decide +kernel
theorem dX10_rememberName_31 : decode cX10_rememberName 31 = .ok (.putfield 63, 3) := by decide +kernel
theorem dX10_rememberName_34 : decode cX10_rememberName 34 = .ok (.aload_n 0, 1) := by decide +kernel
theorem dX10_rememberName_35 : decode cX10_rememberName 35 = .ok (.getfield 35, 3) := by decide +kernel
theorem dX10_rememberName_38 : decode cX10_rememberName 38 = .ok (.iload_n 1, 1) := by decide +kernel
theorem dX10_rememberName_39 : decode cX10_rememberName 39 = .ok (.aload_n 0, 1) := by decide +kernel
theorem dX10_rememberName_40 : decode cX10_rememberName 40 = .ok (.getfield 63, 3) := by decide +kernel
theorem dX10_rememberName_43 : decode cX10_rememberName 43 = .ok (.invokestatic 109, 3) := by decide +kernel
theorem dX10_rememberName_46 : decode cX10_rememberName 46 = .ok (.aload_n 0, 1) := by decide +kernel
theorem dX10_rememberName_47 : decode cX10_rememberName 47 = .ok (.getfield 63, 3) := by decide +kernel
theorem dX10_rememberName_50 : decode cX10_rememberName 50 = .ok (.iconst 1, 1) := by decide +kernel
theorem dX10_rememberName_51 : decode cX10_rememberName 51 = .ok (.isub, 1) := by decide +kernel
theorem dX10_rememberName_52 : decode cX10_rememberName 52 = .ok (.ireturn, 1) := by decide +kernel
def F_X10_rememberName (p0 : Int32) (p1 : Int64) (Γ : HS) : HR :=
  if ((Γ 1).1 10) < 4500 then (
    if ((Γ 1).1 10) < 0 ∨ 4500 ≤ ((Γ 1).1 10).toNatClampNeg then none else
    bnd (cL' Γ 1 8 (vp_updL ((Γ 1).2.2 8) ((Γ 1).1 10).toNatClampNeg p1)) fun σ_5 =>
    bnd (cI' σ_5 1 10 (((σ_5 1).1 10) + 1)) fun σ_7 =>
    bnd (((σ_7 1).1 10)) fun (x_9 : Int32) =>
    bnd (cA' σ_7 1 9 (g_put 8192 ((σ_7 1).2.1 9) p0 x_9)) fun σ_11 =>
    some ((((σ_11 1).1 10) - 1), σ_11)
  ) else (
    some (0, Γ)
  )
set_option maxHeartbeats 4000000 in
set_option maxRecDepth 100000 in
theorem k_X10_rememberName (l : Launch) (dC : Nat → ClassId) (dI : Nat → Nat → Nat) (cB cC cI cJ cZ cP : ClassId) (oA : Nat → Nat) (rA : Nat → Nat → Nat) (sz : Nat)  (p0 : Int32) (p1 : Int64) (Γ : HS) (res : Int32 × HS) (hF : F_X10_rememberName p0 p1 Γ = some res) : Met l yX10_rememberName (g_ws yX10_rememberName cX10_rememberName 4 (some .int)) ({ frames := 3, cells := 0, slots := 0, locals := 82 }) (va_Pc [.ref (oA 1), .int p0, .long p1] (g_B (dC, dI) [(cB, .byte), (cC, .char), (cI, .int), (cJ, .long), (cZ, .boolean), (cP, .object "StoryHouse$Play")] sz (b_w cB cC cI cJ cZ oA rA Γ) g_0)) (va_Qi (fun r (_ : Unit) => r = res.1) (g_Bo (dC, dI) (va_A (b_w cB cC cI cJ cZ oA rA Γ) sz) (fun (_ : Unit) => (b_w cB cC cI cJ cZ oA rA res.2))) (va_A (b_w cB cC cI cJ cZ oA rA Γ) sz)) 0 0 (va_A (b_w cB cC cI cJ cZ oA rA Γ) sz) := by
  refine Met.ofW (cc := cX10_rememberName) (maxL := 4) (ret := (some .int)) (by decide) rfl ?_
  intro p e s m args below meth c s₁ B hml hv
  obtain ⟨rfl, hsz, hP, hK, hD0, hE, hX⟩ := hv
  have hx := B.exec
  have hb := B.bytes
  have hr := B.returns
  have hts0 := atoms_spec (ws := g_ws yX10_rememberName cX10_rememberName 4 (some .int)) B.pre
  have hts : ∀ w ∈ lw_good, w.before ([.ref (oA 1), .int p0, .long p1] : List Value).toArray s = true := fun w z => hts0 w (List.mem_cons_of_mem _ z)
  have hown : s.vm.findClass RX10 = some m.cls := findClass_of_methodNamed B.named
  have hlocks := B.notSynchronized
  subst hsz
  have hD1 := hD0.self (sz := s.heap.size)
  generalize hAe : va_A (b_w cB cC cI cJ cZ oA rA Γ) s.heap.size = A at hD1 hE hX ⊢
  have hA : ∀ q : Nat, s.heap.size ≤ q → A q := fun q z => by rw [← hAe]; exact Or.inr z
  have hDD : ∀ Γ : HS, va_D A (b_w cB cC cI cJ cZ oA rA Γ) := fun Γ9 => va_D_fst (ws := (b_w cB cC cI cJ cZ oA rA Γ)) (ws' := (b_w cB cC cI cJ cZ oA rA Γ9)) rfl hD1
  have hN := hE.1
  have hS : va_S A s.heap s.heap [] := va_S.rf
  have hl := lv_entry ([.ref (oA 1), .int p0, .long p1]) (n := 4) (Nat.le_of_ble_eq_true rfl)
  rw [lg_entry_eq]
  generalize (lg_sl ([.ref (oA 1), .int p0, .long p1]) ++ List.replicate (4 - (lg_sl ([.ref (oA 1), .int p0, .long p1])).length) Slot.unset).toArray = ls at hl ⊢
  have hl : lv_has ls 4 [(0, .ref (oA 1)), (1, .int p0), (2, .long p1)] := hl
  unfold F_X10_rememberName at hF
  refine lv_aload_n hx hb dX10_rememberName_0 rfl (lv_at hl 0 rfl) ?_
  refine va_get (D := (dC, dI)) (ci := 10) (v := .int ((Γ 1).1 10)) (C := RX10) (T := TX10) (N := 12) hx hb hts ii_X10 hown hK hP 0 rfl rfl 10 (by decide) (hts (.fieldLink RX10 63 "StoryHouse$Words" "named" "I") wq_60) (fun _ h9 => h9) rfl dX10_rememberName_1 ?_
  refine lv_aload_n hx hb dX10_rememberName_4 rfl (lv_at hl 0 rfl) ?_
  refine va_get (D := (dC, dI)) (ci := 10) (v := .ref (rA 1 8)) (C := RX10) (T := TX10) (N := 12) hx hb hts ii_X10 hown hK hP 0 rfl rfl 8 (by decide) (hts (.fieldLink RX10 31 "StoryHouse$Words" "names" "[J") wq_58) (fun _ h9 => h9) rfl dX10_rememberName_5 ?_
  refine va_alen (v := 4500) hx hb hK hP 7 3 rfl rfl (by first | rfl | decide +kernel) dX10_rememberName_8 ?_
  refine lv_icmp_lt (tgt := 14) hx hb dX10_rememberName_9 (by decide) (fun c_1 => ?_) (fun c_1 => ?_)
  · have hF_2 := ipos c_1 hF
    clear hF
    refine lv_aload_n hx hb dX10_rememberName_14 rfl (lv_at hl 0 rfl) ?_
    refine va_get (D := (dC, dI)) (ci := 10) (v := .ref (rA 1 8)) (C := RX10) (T := TX10) (N := 12) hx hb hts ii_X10 hown hK hP 0 rfl rfl 8 (by decide) (hts (.fieldLink RX10 31 "StoryHouse$Words" "names" "[J") wq_58) (fun _ h9 => h9) rfl dX10_rememberName_15 ?_
    refine lv_aload_n hx hb dX10_rememberName_18 rfl (lv_at hl 0 rfl) ?_
    refine va_get (D := (dC, dI)) (ci := 10) (v := .int ((Γ 1).1 10)) (C := RX10) (T := TX10) (N := 12) hx hb hts ii_X10 hown hK hP 0 rfl rfl 10 (by decide) (hts (.fieldLink RX10 63 "StoryHouse$Words" "named" "I") wq_60) (fun _ h9 => h9) rfl dX10_rememberName_19 ?_
    refine lv_lload_n hx hb dX10_rememberName_22 rfl (lv_at hl 2 rfl) ?_
    obtain ⟨g_3, hF_4⟩ := nif_e hF_2
    clear hF_2
    obtain ⟨σ_5, eσ_5, hF_6⟩ := bnd_e hF_4
    clear hF_4
    refine va_last (f := (Γ 1).2.2 8) hx hb hK hP (hDD _) hS 7 3 rfl rfl g_3 dX10_rememberName_23 (fun H locs hP' _ hS => ?_)
    have hP : va_P (dC, dI) vwCl (b_w cB cC cI cJ cZ oA rA σ_5) H := by rw [eσ_5]; exact cs_w_w_8 ▸ hP'
    clear hP'
    refine lv_aload_n hx hb dX10_rememberName_24 rfl (lv_at hl 0 rfl) ?_
    refine lv_dup hx hb dX10_rememberName_25 rfl ?_
    refine va_get (D := (dC, dI)) (ci := 10) (v := .int ((σ_5 1).1 10)) (C := RX10) (T := TX10) (N := 12) hx hb hts ii_X10 hown hK hP 0 rfl rfl 10 (by decide) (hts (.fieldLink RX10 63 "StoryHouse$Words" "named" "I") wq_60) (fun _ h9 => h9) rfl dX10_rememberName_26 ?_
    refine lv_iconst (v := 1) hx hb dX10_rememberName_29 (by decide +kernel) ?_
    refine lv_iadd hx hb dX10_rememberName_30 ?_
    obtain ⟨σ_7, eσ_7, hF_8⟩ := bnd_e hF_6
    clear hF_6
    refine va_put (D := (dC, dI)) (ci := 10) (v := .int (((σ_5 1).1 10) + 1)) (ty := .int) (C := RX10) (T := TX10) (N := 12) hx hb hts ii_X10 tyX10 tyX10_ok nmX10 hown hK hP (hDD _) hS 0 rfl rfl 10 (by decide) (hts (.fieldLink RX10 63 "StoryHouse$Words" "named" "I") wq_60) (fun _ h9 => h9) rfl (by decide +kernel) rfl rfl (Nat.le_of_ble_eq_true rfl) dX10_rememberName_31 (fun H locs hP' _ hS => ?_)
    have hP : va_P (dC, dI) vwCl (b_w cB cC cI cJ cZ oA rA σ_7) H := by rw [eσ_7]; exact cs_w_w_10 ▸ hP'
    clear hP'
    refine lv_aload_n hx hb dX10_rememberName_34 rfl (lv_at hl 0 rfl) ?_
    refine va_get (D := (dC, dI)) (ci := 10) (v := .ref (rA 1 9)) (C := RX10) (T := TX10) (N := 12) hx hb hts ii_X10 hown hK hP 0 rfl rfl 9 (by decide) (hts (.fieldLink RX10 35 "StoryHouse$Words" "slots" "[I") wq_59) (fun _ h9 => h9) rfl dX10_rememberName_35 ?_
    refine lv_iload_n hx hb dX10_rememberName_38 rfl (lv_at hl 1 rfl) ?_
    refine lv_aload_n hx hb dX10_rememberName_39 rfl (lv_at hl 0 rfl) ?_
    refine va_get (D := (dC, dI)) (ci := 10) (v := .int ((σ_7 1).1 10)) (C := RX10) (T := TX10) (N := 12) hx hb hts ii_X10 hown hK hP 0 rfl rfl 10 (by decide) (hts (.fieldLink RX10 63 "StoryHouse$Words" "named" "I") wq_60) (fun _ h9 => h9) rfl dX10_rememberName_40 ?_
    obtain ⟨x_9, ex_9, hF_10⟩ := bnd_e hF_8
    clear hF_8
    refine m_top ex_9 ?_
    have hPc := hP.sub (ws' := [(rA 1 9, .inl (cI, 8192, .inl ((σ_7 1).2.1 9)))]) [8] rfl
    have hDc := (hDD σ_7).sub (ws' := [(rA 1 9, .inl (cI, 8192, .inl ((σ_7 1).2.1 9)))]) [8] (by decide +kernel) rfl
    have hFc := va_free (wc := [(rA 1 9, .inl (cI, 8192, .inl ((σ_7 1).2.1 9)))]) (hDD σ_7) hS hA [8] rfl
    refine g_ofv (wc := [(rA 1 9, .inl (cI, 8192, .inl ((σ_7 1).2.1 9)))]) (wr := (((b_w cB cC cI cJ cZ oA rA σ_7)).eraseIdx 8)) hP (hDD σ_7) hS hFc [8] [0, 1, 2, 3, 4, 5, 6, 7] rfl rfl (by decide +kernel) (by decide +kernel) (va_runSN (As := [.ref (rA 1 9), .int p0, .int x_9]) (rest := []) ⟨hx, hb, hml, hown, hts⟩ (c_X11_put l dC dI cB cC cI cJ cZ cP H.size (rA 1 9) p0 x_9 8192 ((σ_7 1).2.1 9) (by decide)) ⟨va_cnB 3 hts (g_gA wq_412) rfl rfl rfl (hN.at 10 rfl) (hts (.initialized RX11) wq_1) (by decide +kernel) ⟨Nat.le_of_ble_eq_true rfl, Nat.le_of_ble_eq_true rfl⟩, (hts (.static yX11_put) wq_411), trivial⟩ (g_preS g_bl0 hK hPc hDc hS hE hFc g_to0) rfl rfl hl.1 rfl (lv_room (Nat.le_of_ble_eq_true rfl)) dX10_rememberName_43 ⟨Nat.le_of_ble_eq_true rfl, Nat.le_of_ble_eq_true rfl⟩) (fun g9 H locs hw9 hP' hD' hS => ?_)
    clear hPc hDc hFc hD'
    obtain ⟨σ_11, eσ_11, hF_12⟩ := bnd_e hF_10
    clear hF_10
    subst hw9
    have hP : va_P (dC, dI) vwCl (b_w cB cC cI cJ cZ oA rA σ_11) H := by rw [eσ_11]; exact hP'.sub [0, 1, 2, 3, 4, 5, 6, 7, 8] rfl
    clear hP'
    refine lv_aload_n hx hb dX10_rememberName_46 rfl (lv_at hl 0 rfl) ?_
    refine va_get (D := (dC, dI)) (ci := 10) (v := .int ((σ_11 1).1 10)) (C := RX10) (T := TX10) (N := 12) hx hb hts ii_X10 hown hK hP 0 rfl rfl 10 (by decide) (hts (.fieldLink RX10 63 "StoryHouse$Words" "named" "I") wq_60) (fun _ h9 => h9) rfl dX10_rememberName_47 ?_
    refine lv_iconst (v := 1) hx hb dX10_rememberName_50 (by decide +kernel) ?_
    refine lv_isub hx hb dX10_rememberName_51 ?_
    have h9 := Option.some.inj hF_12
    subst h9
    exact W.iret (v := (((σ_11 1).1 10) - 1)) hx hb hr (fun t ht hW => ⟨⟨(((σ_11 1).1 10) - 1), (), rfl, rfl, m_end ht hP, hDD _⟩, hS.F ht⟩) hS.2.2 dX10_rememberName_52
  · have hF_13 := ineg c_1 hF
    clear hF
    refine lv_iconst (v := 0) hx hb dX10_rememberName_12 (by decide +kernel) ?_
    have h9 := Option.some.inj hF_13
    subst h9
    exact W.iret (v := 0) hx hb hr (fun t ht hW => ⟨⟨0, (), rfl, rfl, m_end ht hP, hDD _⟩, hS.F ht⟩) hS.2.2 dX10_rememberName_13
theorem dX10_numberOf_0 : decode cX10_numberOf 0 = .ok (.lload_n 1, 1) := by decide +kernel
theorem dX10_numberOf_1 : decode cX10_numberOf 1 = .ok (.ldc2_w 103, 3) := by decide +kernel
theorem dX10_numberOf_4 : decode cX10_numberOf 4 = .ok (.lmul, 1) := by decide +kernel
theorem dX10_numberOf_5 : decode cX10_numberOf 5 = .ok (.bipush 40, 2) := by decide +kernel
theorem dX10_numberOf_7 : decode cX10_numberOf 7 = .ok (.lushr, 1) := by decide +kernel
theorem dX10_numberOf_8 : decode cX10_numberOf 8 = .ok (.l2i, 1) := by decide +kernel
theorem dX10_numberOf_9 : decode cX10_numberOf 9 = .ok (.sipush 8191, 3) := by decide +kernel
theorem dX10_numberOf_12 : decode cX10_numberOf 12 = .ok (.iand, 1) := by decide +kernel
theorem dX10_numberOf_13 : decode cX10_numberOf 13 = .ok (.istore_n 3, 1) := by decide +kernel
theorem dX10_numberOf_14 : decode cX10_numberOf 14 = .ok (.iconst 0, 1) := by decide +kernel
theorem dX10_numberOf_15 : decode cX10_numberOf 15 = .ok (.istore 4, 2) := by decide +kernel
theorem dX10_numberOf_17 : decode cX10_numberOf 17 = .ok (.iload 4, 2) := by decide +kernel
theorem dX10_numberOf_19 : decode cX10_numberOf 19 = .ok (.sipush 8192, 3) := by decide +kernel
theorem dX10_numberOf_22 : decode cX10_numberOf 22 = .ok (.if_icmp .ge 70, 3) := by decide +kernel
theorem dX10_numberOf_25 : decode cX10_numberOf 25 = .ok (.iload_n 3, 1) := by decide +kernel
theorem dX10_numberOf_26 : decode cX10_numberOf 26 = .ok (.iload 4, 2) := by decide +kernel
theorem dX10_numberOf_28 : decode cX10_numberOf 28 = .ok (.iadd, 1) := by decide +kernel
theorem dX10_numberOf_29 : decode cX10_numberOf 29 = .ok (.sipush 8191, 3) := by decide +kernel
theorem dX10_numberOf_32 : decode cX10_numberOf 32 = .ok (.iand, 1) := by decide +kernel
theorem dX10_numberOf_33 : decode cX10_numberOf 33 = .ok (.istore 5, 2) := by decide +kernel
theorem dX10_numberOf_35 : decode cX10_numberOf 35 = .ok (.aload_n 0, 1) := by decide +kernel
theorem dX10_numberOf_36 : decode cX10_numberOf 36 = .ok (.getfield 35, 3) := by decide +kernel
theorem dX10_numberOf_39 : decode cX10_numberOf 39 = .ok (.iload 5, 2) := by decide +kernel
theorem dX10_numberOf_41 : decode cX10_numberOf 41 = .ok (.invokestatic 97, 3) := by decide +kernel
theorem dX10_numberOf_44 : decode cX10_numberOf 44 = .ok (.iconst 1, 1) := by decide +kernel
theorem dX10_numberOf_45 : decode cX10_numberOf 45 = .ok (.isub, 1) := by decide +kernel
theorem dX10_numberOf_46 : decode cX10_numberOf 46 = .ok (.istore 6, 2) := by decide +kernel
theorem dX10_numberOf_48 : decode cX10_numberOf 48 = .ok (.iload 6, 2) := by decide +kernel
theorem dX10_numberOf_50 : decode cX10_numberOf 50 = .ok (.ifCond .ge 11, 3) := by decide +kernel
theorem dX10_numberOf_53 : decode cX10_numberOf 53 = .ok (.aload_n 0, 1) := by decide +kernel
theorem dX10_numberOf_54 : decode cX10_numberOf 54 = .ok (.iload 5, 2) := by decide +kernel
theorem dX10_numberOf_56 : decode cX10_numberOf 56 = .ok (.lload_n 1, 1) := by decide +kernel
theorem dX10_numberOf_57 : decode cX10_numberOf 57 = .ok (.invokevirtual 105, 3) := by decide +kernel
theorem dX10_numberOf_60 : decode cX10_numberOf 60 = .ok (.ireturn, 1) := by decide +kernel
theorem dX10_numberOf_61 : decode cX10_numberOf 61 = .ok (.iload 6, 2) := by decide +kernel
theorem dX10_numberOf_63 : decode cX10_numberOf 63 = .ok (.aload_n 0, 1) := by decide +kernel
theorem dX10_numberOf_64 : decode cX10_numberOf 64 = .ok (.getfield 31, 3) := by decide +kernel
theorem dX10_numberOf_67 : decode cX10_numberOf 67 = .ok (.arraylength, 1) := by decide +kernel
theorem dX10_numberOf_68 : decode cX10_numberOf 68 = .ok (.if_icmp .ge 18, 3) := by decide +kernel
theorem dX10_numberOf_71 : decode cX10_numberOf 71 = .ok (.aload_n 0, 1) := by decide +kernel
theorem dX10_numberOf_72 : decode cX10_numberOf 72 = .ok (.getfield 31, 3) := by decide +kernel
theorem dX10_numberOf_75 : decode cX10_numberOf 75 = .ok (.iload 6, 2) := by decide +kernel
theorem dX10_numberOf_77 : decode cX10_numberOf 77 = .ok (.laload, 1) := by decide +kernel
theorem dX10_numberOf_78 : decode cX10_numberOf 78 = .ok (.lload_n 1, 1) := by decide +kernel
theorem dX10_numberOf_79 : decode cX10_numberOf 79 = .ok (.lcmp, 1) := by decide +kernel
theorem dX10_numberOf_80 : decode cX10_numberOf 80 = .ok (.ifCond .ne 6, 3) := by decide +kernel
theorem dX10_numberOf_83 : decode cX10_numberOf 83 = .ok (.iload 6, 2) := by decide +kernel
theorem dX10_numberOf_85 : decode cX10_numberOf 85 = .ok (.ireturn, 1) := by decide +kernel
theorem dX10_numberOf_86 : decode cX10_numberOf 86 = .ok (.iinc 4 1, 3) := by decide +kernel
theorem dX10_numberOf_89 : decode cX10_numberOf 89 = .ok (.goto (-72), 3) := by decide +kernel
theorem dX10_numberOf_92 : decode cX10_numberOf 92 = .ok (.iconst 0, 1) := by decide +kernel
theorem dX10_numberOf_93 : decode cX10_numberOf 93 = .ok (.ireturn, 1) := by decide +kernel
def F_X10_numberOf (p0 : Int64) (Γ : HS) : HR :=
  bnd (((((p0 * (-7046029254386353131)).toUInt64 >>> ((40 : Int32).toInt64.toUInt64 &&& Int64.toUInt64 63)).toInt64).toInt32 &&& 8191)) fun (x_1 : Int32) =>
  loopF (fun (again_4 : (Int32 × HS) → HR) (s_3 : Int32 × HS) => (
    if 8192 ≤ s_3.1 then (
      some (0, s_3.2)
    ) else (
      bnd (((x_1 + s_3.1) &&& 8191)) fun (x_10 : Int32) =>
      bnd ((g_at 8192 ((s_3.2 1).2.1 9) x_10)) fun (x_12 : Int32) =>
      if 0 ≤ (x_12 - 1) then (
        bnd (fun  (σ_16 : HS) => (
          bnd (s_3.1 + 1) fun (x_20 : Int32) =>
          again_4 (x_20, σ_16)
        ) : HS → HR) fun j_17 =>
        if 4500 ≤ (x_12 - 1) then (
          j_17  s_3.2
        ) else (
          bnd ((x_12 - 1)) fun (x_25 : Int32) =>
          if x_25 < 0 ∨ 4500 ≤ x_25.toNatClampNeg then none else
          bnd ((lg_cmp ((s_3.2 1).2.2 8 x_25.toNatClampNeg) p0)) fun (x_29 : Int32) =>
          if x_29 = 0 then (
            some ((x_12 - 1), s_3.2)
          ) else (
            j_17  s_3.2
          )
        )
      ) else (
        (F_X10_rememberName x_10 p0 s_3.2).bind fun u_35 =>
        some (u_35.1, u_35.2)
      )
    )
  )) FU (0, Γ)
set_option maxHeartbeats 4000000 in
set_option maxRecDepth 100000 in
theorem k_X10_numberOf (l : Launch) (dC : Nat → ClassId) (dI : Nat → Nat → Nat) (cB cC cI cJ cZ cP : ClassId) (oA : Nat → Nat) (rA : Nat → Nat → Nat) (sz : Nat)  (p0 : Int64) (Γ : HS) (res : Int32 × HS) (hF : F_X10_numberOf p0 Γ = some res) : Met l yX10_numberOf (g_ws yX10_numberOf cX10_numberOf 7 (some .int)) ({ frames := 4, cells := 0, slots := 0, locals := 105 }) (va_Pc [.ref (oA 1), .long p0] (g_B (dC, dI) [(cB, .byte), (cC, .char), (cI, .int), (cJ, .long), (cZ, .boolean), (cP, .object "StoryHouse$Play")] sz (b_w cB cC cI cJ cZ oA rA Γ) g_0)) (va_Qi (fun r (_ : Unit) => r = res.1) (g_Bo (dC, dI) (va_A (b_w cB cC cI cJ cZ oA rA Γ) sz) (fun (_ : Unit) => (b_w cB cC cI cJ cZ oA rA res.2))) (va_A (b_w cB cC cI cJ cZ oA rA Γ) sz)) 0 0 (va_A (b_w cB cC cI cJ cZ oA rA Γ) sz) := by
  refine Met.ofW (cc := cX10_numberOf) (maxL := 7) (ret := (some .int)) (by decide) rfl ?_
  intro p e s m args below meth c s₁ B hml hv
  obtain ⟨rfl, hsz, hP, hK, hD0, hE, hX⟩ := hv
  have hx := B.exec
  have hb := B.bytes
  have hr := B.returns
  have hts0 := atoms_spec (ws := g_ws yX10_numberOf cX10_numberOf 7 (some .int)) B.pre
  have hts : ∀ w ∈ lw_good, w.before ([.ref (oA 1), .long p0] : List Value).toArray s = true := fun w z => hts0 w (List.mem_cons_of_mem _ z)
  have hown : s.vm.findClass RX10 = some m.cls := findClass_of_methodNamed B.named
  have hlocks := B.notSynchronized
  subst hsz
  have hD1 := hD0.self (sz := s.heap.size)
  generalize hAe : va_A (b_w cB cC cI cJ cZ oA rA Γ) s.heap.size = A at hD1 hE hX ⊢
  have hA : ∀ q : Nat, s.heap.size ≤ q → A q := fun q z => by rw [← hAe]; exact Or.inr z
  have hDD : ∀ Γ : HS, va_D A (b_w cB cC cI cJ cZ oA rA Γ) := fun Γ9 => va_D_fst (ws := (b_w cB cC cI cJ cZ oA rA Γ)) (ws' := (b_w cB cC cI cJ cZ oA rA Γ9)) rfl hD1
  have hN := hE.1
  have hS : va_S A s.heap s.heap [] := va_S.rf
  have hl := lv_entry ([.ref (oA 1), .long p0]) (n := 7) (Nat.le_of_ble_eq_true rfl)
  rw [lg_entry_eq]
  generalize (lg_sl ([.ref (oA 1), .long p0]) ++ List.replicate (7 - (lg_sl ([.ref (oA 1), .long p0])).length) Slot.unset).toArray = ls at hl ⊢
  have hl : lv_has ls 7 [(0, .ref (oA 1)), (1, .long p0)] := hl
  unfold F_X10_numberOf at hF
  refine lv_lload_n hx hb dX10_numberOf_0 rfl (lv_at hl 1 rfl) ?_
  refine lv_ldc2 (v := (-7046029254386353131)) hx hb hown (hts (.constantLong RX10 103 (-7046029254386353131)) wq_405) dX10_numberOf_1 ?_
  refine lv_lmul hx hb dX10_numberOf_4 ?_
  refine lv_bipush (v := 40) hx hb dX10_numberOf_5 (by decide +kernel) ?_
  refine lv_lushr hx hb dX10_numberOf_7 rfl ?_
  refine lv_l2i hx hb dX10_numberOf_8 rfl ?_
  refine lv_sipush (v := 8191) hx hb dX10_numberOf_9 (by decide +kernel) ?_
  refine lv_iand hx hb dX10_numberOf_12 ?_
  obtain ⟨x_1, ex_1, hF_2⟩ := bnd_e hF
  clear hF
  refine m_top ex_1 ?_
  refine lv_istore_n (lv' := [(3, .int x_1), (0, .ref (oA 1)), (1, .long p0)]) hx hb dX10_numberOf_13 rfl hl (by decide) rfl (fun ls hl => ?_)
  refine lv_iconst (v := 0) hx hb dX10_numberOf_14 (by decide +kernel) ?_
  refine lv_istore (lv' := [(4, .int 0), (3, .int x_1), (0, .ref (oA 1)), (1, .long p0)]) hx hb dX10_numberOf_15 hl (by decide) rfl (fun ls hl => ?_)
  refine loopF_ind (P := fun (s_3 : Int32 × HS) => ∀ (H : Heap) (locs : List Loc), va_P (dC, dI) vwCl (b_w cB cC cI cJ cZ oA rA s_3.2) H → va_S A s.heap H locs → ∀ ls : Array Slot, lv_has ls 7 [(0, .ref (oA 1)), (1, .long p0), (3, .int x_1), (4, .int s_3.1)] → W p l e (headSpec (g_ws yX10_numberOf cX10_numberOf 7 (some .int)) { frames := 4, cells := 0, slots := 0, locals := 105 }).room s m ([.ref (oA 1), .long p0] : List Value).toArray below meth c H locs 0 0 (MQ below (va_Qi (fun r (_ : Unit) => r = res.1) (g_Bo (dC, dI) A (fun (_ : Unit) => (b_w cB cC cI cJ cZ oA rA res.2))) A) ([.ref (oA 1), .long p0] : List Value).toArray s 0 0 A) (F0 m 17 ls [])) ?_ _ _ hF_2 _ _ hP hS ls (lv_sub hl [2, 3, 1, 0] rfl)
  intro again_4 s_3 ih_5 hF_6
  intro H locs hP hS ls hl
  refine lv_iload hx hb dX10_numberOf_17 (lv_at hl 3 rfl) ?_
  refine lv_sipush (v := 8192) hx hb dX10_numberOf_19 (by decide +kernel) ?_
  refine lv_icmp_ge (tgt := 92) hx hb dX10_numberOf_22 (by decide) (fun c_7 => ?_) (fun c_7 => ?_)
  · have hF_8 := ipos c_7 hF_6
    clear hF_6
    refine lv_iconst (v := 0) hx hb dX10_numberOf_92 (by decide +kernel) ?_
    have h9 := Option.some.inj hF_8
    subst h9
    exact W.iret (v := 0) hx hb hr (fun t ht hW => ⟨⟨0, (), rfl, rfl, m_end ht hP, hDD _⟩, hS.F ht⟩) hS.2.2 dX10_numberOf_93
  · have hF_9 := ineg c_7 hF_6
    clear hF_6
    refine lv_iload_n hx hb dX10_numberOf_25 rfl (lv_at hl 2 rfl) ?_
    refine lv_iload hx hb dX10_numberOf_26 (lv_at hl 3 rfl) ?_
    refine lv_iadd hx hb dX10_numberOf_28 ?_
    refine lv_sipush (v := 8191) hx hb dX10_numberOf_29 (by decide +kernel) ?_
    refine lv_iand hx hb dX10_numberOf_32 ?_
    obtain ⟨x_10, ex_10, hF_11⟩ := bnd_e hF_9
    clear hF_9
    refine m_top ex_10 ?_
    refine lv_istore (lv' := [(5, .int x_10), (0, .ref (oA 1)), (1, .long p0), (3, .int x_1), (4, .int s_3.1)]) hx hb dX10_numberOf_33 hl (by decide) rfl (fun ls hl => ?_)
    refine lv_aload_n hx hb dX10_numberOf_35 rfl (lv_at hl 1 rfl) ?_
    refine va_get (D := (dC, dI)) (ci := 10) (v := .ref (rA 1 9)) (C := RX10) (T := TX10) (N := 12) hx hb hts ii_X10 hown hK hP 0 rfl rfl 9 (by decide) (hts (.fieldLink RX10 35 "StoryHouse$Words" "slots" "[I") wq_59) (fun _ h9 => h9) rfl dX10_numberOf_36 ?_
    refine lv_iload hx hb dX10_numberOf_39 (lv_at hl 0 rfl) ?_
    have hPc := hP.sub (ws' := [(rA 1 9, .inl (cI, 8192, .inl ((s_3.2 1).2.1 9)))]) [8] rfl
    have hDc := (hDD s_3.2).sub (ws' := [(rA 1 9, .inl (cI, 8192, .inl ((s_3.2 1).2.1 9)))]) [8] (by decide +kernel) rfl
    have hFc := va_free (wc := [(rA 1 9, .inl (cI, 8192, .inl ((s_3.2 1).2.1 9)))]) (hDD s_3.2) hS hA [8] rfl
    refine g_ofi (wc := [(rA 1 9, .inl (cI, 8192, .inl ((s_3.2 1).2.1 9)))]) (wr := (((b_w cB cC cI cJ cZ oA rA s_3.2)).eraseIdx 8)) hP (hDD s_3.2) hS hFc [8] [0, 1, 2, 3, 4, 5, 6, 7] rfl rfl (by decide +kernel) (by decide +kernel) (va_runSN (As := [.ref (rA 1 9), .int x_10]) (rest := []) ⟨hx, hb, hml, hown, hts⟩ (c_X11_at l dC dI cB cC cI cJ cZ cP H.size (rA 1 9) x_10 8192 ((s_3.2 1).2.1 9) (by decide)) ⟨va_cnB 2 hts (g_gA wq_407) rfl rfl rfl (hN.at 9 rfl) (hts (.initialized RX11) wq_1) (by decide +kernel) ⟨Nat.le_of_ble_eq_true rfl, Nat.le_of_ble_eq_true rfl⟩, (hts (.static yX11_at) wq_406), trivial⟩ (g_preS g_bl0 hK hPc hDc hS hE hFc g_to0) rfl rfl hl.1 rfl (lv_room (Nat.le_of_ble_eq_true rfl)) dX10_numberOf_41 ⟨Nat.le_of_ble_eq_true rfl, Nat.le_of_ble_eq_true rfl⟩) (fun r9 u9 H locs hw9 hP' hD' hS => ?_)
    clear hPc hDc hFc hD'
    have hP : va_P (dC, dI) vwCl (b_w cB cC cI cJ cZ oA rA s_3.2) H := hP'.sub [0, 1, 2, 3, 4, 5, 6, 7, 8] rfl
    clear hP'
    subst hw9
    obtain ⟨x_12, ex_12, hF_13⟩ := bnd_e hF_11
    clear hF_11
    refine m_top ex_12 ?_
    refine lv_iconst (v := 1) hx hb dX10_numberOf_44 (by decide +kernel) ?_
    refine lv_isub hx hb dX10_numberOf_45 ?_
    refine lv_istore (lv' := [(6, .int (x_12 - 1)), (5, .int x_10), (0, .ref (oA 1)), (1, .long p0), (3, .int x_1), (4, .int s_3.1)]) hx hb dX10_numberOf_46 hl (by decide) rfl (fun ls hl => ?_)
    refine lv_iload hx hb dX10_numberOf_48 (lv_at hl 0 rfl) ?_
    refine lv_if_ge (tgt := 61) hx hb dX10_numberOf_50 (by decide) (fun c_14 => ?_) (fun c_14 => ?_)
    · have hF_15 := ipos c_14 hF_13
      clear hF_13
      refine lv_iload hx hb dX10_numberOf_61 (lv_at hl 0 rfl) ?_
      refine lv_aload_n hx hb dX10_numberOf_63 rfl (lv_at hl 2 rfl) ?_
      refine va_get (D := (dC, dI)) (ci := 10) (v := .ref (rA 1 8)) (C := RX10) (T := TX10) (N := 12) hx hb hts ii_X10 hown hK hP 0 rfl rfl 8 (by decide) (hts (.fieldLink RX10 31 "StoryHouse$Words" "names" "[J") wq_58) (fun _ h9 => h9) rfl dX10_numberOf_64 ?_
      refine va_alen (v := 4500) hx hb hK hP 7 3 rfl rfl (by first | rfl | decide +kernel) dX10_numberOf_67 ?_
      obtain ⟨j_17, ej_17, hF_18⟩ := bnd_e hF_15
      clear hF_15
      have Jj_17 : ∀  (σ_16 : HS), j_17  σ_16 = some res → ∀ (H : Heap) (locs : List Loc), va_P (dC, dI) vwCl (b_w cB cC cI cJ cZ oA rA σ_16) H → va_S A s.heap H locs → ∀ ls : Array Slot, lv_has ls 7 [(0, .ref (oA 1)), (1, .long p0), (3, .int x_1), (4, .int s_3.1)] → W p l e (headSpec (g_ws yX10_numberOf cX10_numberOf 7 (some .int)) { frames := 4, cells := 0, slots := 0, locals := 105 }).room s m ([.ref (oA 1), .long p0] : List Value).toArray below meth c H locs 0 0 (MQ below (va_Qi (fun r (_ : Unit) => r = res.1) (g_Bo (dC, dI) A (fun (_ : Unit) => (b_w cB cC cI cJ cZ oA rA res.2))) A) ([.ref (oA 1), .long p0] : List Value).toArray s 0 0 A) (F0 m 86 ls []) := by
        intro  σ_16 hF0 H locs hP hS ls hl
        subst ej_17
        have hF_19 := hF0
        clear hF0
        obtain ⟨x_20, ex_20, hF_21⟩ := bnd_e hF_19
        clear hF_19
        refine lv_iinc (v := x_20) (lv' := [(4, .int x_20), (0, .ref (oA 1)), (1, .long p0), (3, .int x_1)]) hx hb dX10_numberOf_86 hl (k := 3) rfl (by rw [ex_20]; rfl) (by decide) rfl (fun ls hl => ?_)
        refine lv_goto (tgt := 17) hx hb dX10_numberOf_89 (by decide) ?_
        exact ih_5 (x_20, σ_16) hF_21 _ _ hP hS ls (lv_sub hl [1, 2, 3, 0] rfl)
      refine lv_icmp_ge (tgt := 86) hx hb dX10_numberOf_68 (by decide) (fun c_22 => ?_) (fun c_22 => ?_)
      · have hF_23 := ipos c_22 hF_18
        clear hF_18
        exact Jj_17  s_3.2 hF_23 _ _ hP hS ls (lv_sub hl [2, 3, 4, 5] rfl)
      · have hF_24 := ineg c_22 hF_18
        clear hF_18
        refine lv_aload_n hx hb dX10_numberOf_71 rfl (lv_at hl 2 rfl) ?_
        refine va_get (D := (dC, dI)) (ci := 10) (v := .ref (rA 1 8)) (C := RX10) (T := TX10) (N := 12) hx hb hts ii_X10 hown hK hP 0 rfl rfl 8 (by decide) (hts (.fieldLink RX10 31 "StoryHouse$Words" "names" "[J") wq_58) (fun _ h9 => h9) rfl dX10_numberOf_72 ?_
        refine lv_iload hx hb dX10_numberOf_75 (lv_at hl 0 rfl) ?_
        obtain ⟨x_25, ex_25, hF_26⟩ := bnd_e hF_24
        clear hF_24
        refine m_top ex_25 ?_
        obtain ⟨g_27, hF_28⟩ := nif_e hF_26
        clear hF_26
        refine va_lald (f := (s_3.2 1).2.2 8) hx hb hK hP 7 3 rfl rfl g_27 dX10_numberOf_77 ?_
        refine lv_lload_n hx hb dX10_numberOf_78 rfl (lv_at hl 3 rfl) ?_
        refine W.lcmp hx hb dX10_numberOf_79 ?_
        obtain ⟨x_29, ex_29, hF_30⟩ := bnd_e hF_28
        clear hF_28
        refine m_top ex_29 ?_
        refine lv_if_ne (tgt := 86) hx hb dX10_numberOf_80 (by decide) (fun c_31 => ?_) (fun c_31 => ?_)
        · have hF_33 := ineg c_31 hF_30
          clear hF_30
          exact Jj_17  s_3.2 hF_33 _ _ hP hS ls (lv_sub hl [2, 3, 4, 5] rfl)
        · have hF_32 := ipos c_31 hF_30
          clear hF_30
          refine lv_iload hx hb dX10_numberOf_83 (lv_at hl 0 rfl) ?_
          have h9 := Option.some.inj hF_32
          subst h9
          exact W.iret (v := (x_12 - 1)) hx hb hr (fun t ht hW => ⟨⟨(x_12 - 1), (), rfl, rfl, m_end ht hP, hDD _⟩, hS.F ht⟩) hS.2.2 dX10_numberOf_85
    · have hF_34 := ineg c_14 hF_13
      clear hF_13
      refine lv_aload_n hx hb dX10_numberOf_53 rfl (lv_at hl 2 rfl) ?_
      refine lv_iload hx hb dX10_numberOf_54 (lv_at hl 1 rfl) ?_
      refine lv_lload_n hx hb dX10_numberOf_56 rfl (lv_at hl 3 rfl) ?_
      obtain ⟨u_35, hu_35, hF_36⟩ := Option.bind_eq_some_iff.mp hF_34
      clear hF_34
      have hPc := hP.sub (ws' := (b_w cB cC cI cJ cZ oA rA s_3.2)) [0, 1, 2, 3, 4, 5, 6, 7, 8] rfl
      have hDc := (hDD s_3.2).sub (ws' := (b_w cB cC cI cJ cZ oA rA s_3.2)) [0, 1, 2, 3, 4, 5, 6, 7, 8] (by decide +kernel) rfl
      have hFc := va_free (wc := (b_w cB cC cI cJ cZ oA rA s_3.2)) (hDD s_3.2) hS hA [0, 1, 2, 3, 4, 5, 6, 7, 8] rfl
      refine g_ofi (wc := (b_w cB cC cI cJ cZ oA rA s_3.2)) (wr := ([] : va_W)) hP (hDD s_3.2) hS hFc [0, 1, 2, 3, 4, 5, 6, 7, 8] [] rfl rfl (by decide +kernel) (by decide +kernel) (va_runV (As := [.int x_10, .long p0]) (rest := []) ⟨hx, hb, hml, hown, hts⟩ (k_X10_rememberName l dC dI cB cC cI cJ cZ cP oA rA H.size  x_10 p0 s_3.2 _ hu_35) (cwV 2 hts (g_gV wq_408 wq_409 wq_1980 wq_2 wq_410) rfl rfl rfl (by decide +kernel) ⟨Nat.le_of_ble_eq_true rfl, Nat.le_of_ble_eq_true rfl⟩) (g_preV g_bl0 hK hPc hDc hS hE hFc g_to0 (q0 := 0) (ci := 10) rfl rfl) rfl rfl hl.1 rfl (lv_room (Nat.le_of_ble_eq_true rfl)) dX10_numberOf_57 ⟨Nat.le_of_ble_eq_true rfl, Nat.le_of_ble_eq_true rfl⟩) (fun r9 u9 H locs hw9 hP' hD' hS => ?_)
      clear hPc hDc hFc
      subst hw9
      have hP : va_P (dC, dI) vwCl (b_w cB cC cI cJ cZ oA rA u_35.2) H := hP'
      clear hP' hD'
      have h9 := Option.some.inj hF_36
      subst h9
      exact W.iret (v := u_35.1) hx hb hr (fun t ht hW => ⟨⟨u_35.1, (), rfl, rfl, m_end ht hP, hDD _⟩, hS.F ht⟩) hS.2.2 dX10_numberOf_60
theorem dX4_gatherItems_0 : decode cX4_gatherItems 0 = .ok (.aload_n 0, 1) := by decide +kernel
theorem dX4_gatherItems_1 : decode cX4_gatherItems 1 = .ok (.getfield 11, 3) := by decide +kernel
theorem dX4_gatherItems_4 : decode cX4_gatherItems 4 = .ok (.sipush 16001, 3) := by decide +kernel
theorem dX4_gatherItems_7 : decode cX4_gatherItems 7 = .ok (.invokestatic 92, 3) := by decide +kernel
theorem dX4_gatherItems_10 : decode cX4_gatherItems 10 = .ok (.aload_n 0, 1) := by decide +kernel
theorem dX4_gatherItems_11 : decode cX4_gatherItems 11 = .ok (.getfield 17, 3) := by decide +kernel
theorem dX4_gatherItems_14 : decode cX4_gatherItems 14 = .ok (.iconst 0, 1) := by decide +kernel
theorem dX4_gatherItems_15 : decode cX4_gatherItems 15 = .ok (.invokestatic 92, 3) := by decide +kernel
theorem dX4_gatherItems_18 : decode cX4_gatherItems 18 = .ok (.aload_n 0, 1) := by decide +kernel
theorem dX4_gatherItems_19 : decode cX4_gatherItems 19 = .ok (.getfield 23, 3) := by decide +kernel
theorem dX4_gatherItems_22 : decode cX4_gatherItems 22 = .ok (.iconst 0, 1) := by decide +kernel
theorem dX4_gatherItems_23 : decode cX4_gatherItems 23 = .ok (.invokestatic 92, 3) := by decide +kernel
theorem dX4_gatherItems_26 : decode cX4_gatherItems 26 = .ok (.iconst 0, 1) := by decide +kernel
theorem dX4_gatherItems_27 : decode cX4_gatherItems 27 = .ok (.istore_n 1, 1) := by decide +kernel
theorem dX4_gatherItems_28 : decode cX4_gatherItems 28 = .ok (.iconst 1, 1) := by decide +kernel
theorem dX4_gatherItems_29 : decode cX4_gatherItems 29 = .ok (.istore_n 2, 1) := by decide +kernel
theorem dX4_gatherItems_30 : decode cX4_gatherItems 30 = .ok (.iload_n 2, 1) := by decide +kernel
theorem dX4_gatherItems_31 : decode cX4_gatherItems 31 = .ok (.bipush 11, 2) := by decide +kernel
theorem dX4_gatherItems_33 : decode cX4_gatherItems 33 = .ok (.if_icmp .gt 68, 3) := by decide +kernel
theorem dX4_gatherItems_36 : decode cX4_gatherItems 36 = .ok (.ldc 98, 2) := by decide +kernel
theorem dX4_gatherItems_38 : decode cX4_gatherItems 38 = .ok (.iload_n 1, 1) := by decide +kernel
theorem dX4_gatherItems_39 : decode cX4_gatherItems 39 = .ok (.invokestatic 100, 3) := by decide +kernel
theorem dX4_gatherItems_42 : decode cX4_gatherItems 42 = .ok (.istore_n 3, 1) := by decide +kernel
theorem dX4_gatherItems_43 : decode cX4_gatherItems 43 = .ok (.aload_n 0, 1) := by decide +kernel
theorem dX4_gatherItems_44 : decode cX4_gatherItems 44 = .ok (.getfield 32, 3) := by decide +kernel
theorem dX4_gatherItems_47 : decode cX4_gatherItems 47 = .ok (.ldc 98, 2) := by decide +kernel
theorem dX4_gatherItems_49 : decode cX4_gatherItems 49 = .ok (.iload_n 1, 1) := by decide +kernel
theorem dX4_gatherItems_50 : decode cX4_gatherItems 50 = .ok (.iload_n 3, 1) := by decide +kernel
theorem dX4_gatherItems_51 : decode cX4_gatherItems 51 = .ok (.bipush 12, 2) := by decide +kernel
theorem dX4_gatherItems_53 : decode cX4_gatherItems 53 = .ok (.invokestatic 104, 3) := by decide +kernel
theorem dX4_gatherItems_56 : decode cX4_gatherItems 56 = .ok (.invokevirtual 108, 3) := by decide +kernel
theorem dX4_gatherItems_59 : decode cX4_gatherItems 59 = .ok (.istore 4, 2) := by decide +kernel
theorem dX4_gatherItems_61 : decode cX4_gatherItems 61 = .ok (.aload_n 0, 1) := by decide +kernel
theorem dX4_gatherItems_62 : decode cX4_gatherItems 62 = .ok (.getfield 11, 3) := by decide +kernel
theorem dX4_gatherItems_65 : decode cX4_gatherItems 65 = .ok (.iload 4, 2) := by decide +kernel
theorem dX4_gatherItems_67 : decode cX4_gatherItems 67 = .ok (.iconst 0, 1) := by decide +kernel
theorem dX4_gatherItems_68 : decode cX4_gatherItems 68 = .ok (.invokestatic 112, 3) := by decide +kernel
theorem dX4_gatherItems_71 : decode cX4_gatherItems 71 = .ok (.aload_n 0, 1) := by decide +kernel
theorem dX4_gatherItems_72 : decode cX4_gatherItems 72 = .ok (.getfield 17, 3) := by decide +kernel
theorem dX4_gatherItems_75 : decode cX4_gatherItems 75 = .ok (.iload 4, 2) := by decide +kernel
theorem dX4_gatherItems_77 : decode cX4_gatherItems 77 = .ok (.iconst 3, 1) := by decide +kernel
theorem dX4_gatherItems_78 : decode cX4_gatherItems 78 = .ok (.invokestatic 112, 3) := by decide +kernel
theorem dX4_gatherItems_81 : decode cX4_gatherItems 81 = .ok (.aload_n 0, 1) := by decide +kernel
theorem dX4_gatherItems_82 : decode cX4_gatherItems 82 = .ok (.getfield 20, 3) := by decide +kernel
theorem dX4_gatherItems_85 : decode cX4_gatherItems 85 = .ok (.iload 4, 2) := by decide +kernel
theorem dX4_gatherItems_87 : decode cX4_gatherItems 87 = .ok (.iload_n 2, 1) := by decide +kernel
theorem dX4_gatherItems_88 : decode cX4_gatherItems 88 = .ok (.invokestatic 112, 3) := by decide +kernel
theorem dX4_gatherItems_91 : decode cX4_gatherItems 91 = .ok (.iload_n 3, 1) := by decide +kernel
theorem dX4_gatherItems_92 : decode cX4_gatherItems 92 = .ok (.iconst 1, 1) := by decide +kernel
theorem dX4_gatherItems_93 : decode cX4_gatherItems 93 = .ok (.iadd, 1) := by decide +kernel
theorem dX4_gatherItems_94 : decode cX4_gatherItems 94 = .ok (.istore_n 1, 1) := by decide +kernel
theorem dX4_gatherItems_95 : decode cX4_gatherItems 95 = .ok (.iinc 2 1, 3) := by decide +kernel
theorem dX4_gatherItems_98 : decode cX4_gatherItems 98 = .ok (.goto (-68), 3) := by decide +kernel
theorem dX4_gatherItems_101 : decode cX4_gatherItems 101 = .ok (.iconst 0, 1) := by decide +kernel
theorem dX4_gatherItems_102 : decode cX4_gatherItems 102 = .ok (.istore_n 2, 1) := by decide +kernel
theorem dX4_gatherItems_103 : decode cX4_gatherItems 103 = .ok (.iload_n 2, 1) := by decide +kernel
theorem dX4_gatherItems_104 : decode cX4_gatherItems 104 = .ok (.aload_n 0, 1) := by decide +kernel
theorem dX4_gatherItems_105 : decode cX4_gatherItems 105 = .ok (.getfield 32, 3) := by decide +kernel
theorem dX4_gatherItems_108 : decode cX4_gatherItems 108 = .ok (.getfield 53, 3) := by decide +kernel
theorem dX4_gatherItems_111 : decode cX4_gatherItems 111 = .ok (.if_icmp .ge 71, 3) := by decide +kernel
theorem dX4_gatherItems_114 : decode cX4_gatherItems 114 = .ok (.aload_n 0, 1) := by decide +kernel
theorem dX4_gatherItems_115 : decode cX4_gatherItems 115 = .ok (.getfield 32, 3) := by decide +kernel
theorem dX4_gatherItems_118 : decode cX4_gatherItems 118 = .ok (.iload_n 2, 1) := by decide +kernel
theorem dX4_gatherItems_119 : decode cX4_gatherItems 119 = .ok (.invokevirtual 116, 3) := by decide +kernel
theorem dX4_gatherItems_122 : decode cX4_gatherItems 122 = .ok (.istore_n 3, 1) := by decide +kernel
theorem dX4_gatherItems_123 : decode cX4_gatherItems 123 = .ok (.aload_n 0, 1) := by decide +kernel
theorem dX4_gatherItems_124 : decode cX4_gatherItems 124 = .ok (.getfield 32, 3) := by decide +kernel
theorem dX4_gatherItems_127 : decode cX4_gatherItems 127 = .ok (.iload_n 2, 1) := by decide +kernel
theorem dX4_gatherItems_128 : decode cX4_gatherItems 128 = .ok (.iconst 1, 1) := by decide +kernel
theorem dX4_gatherItems_129 : decode cX4_gatherItems 129 = .ok (.iadd, 1) := by decide +kernel
theorem dX4_gatherItems_130 : decode cX4_gatherItems 130 = .ok (.invokevirtual 119, 3) := by decide +kernel
theorem dX4_gatherItems_133 : decode cX4_gatherItems 133 = .ok (.istore 4, 2) := by decide +kernel
theorem dX4_gatherItems_135 : decode cX4_gatherItems 135 = .ok (.iload_n 3, 1) := by decide +kernel
theorem dX4_gatherItems_136 : decode cX4_gatherItems 136 = .ok (.sipush 230, 3) := by decide +kernel
theorem dX4_gatherItems_139 : decode cX4_gatherItems 139 = .ok (.if_icmp .lt 37, 3) := by decide +kernel
theorem dX4_gatherItems_142 : decode cX4_gatherItems 142 = .ok (.iload_n 3, 1) := by decide +kernel
theorem dX4_gatherItems_143 : decode cX4_gatherItems 143 = .ok (.sipush 235, 3) := by decide +kernel
theorem dX4_gatherItems_146 : decode cX4_gatherItems 146 = .ok (.if_icmp .gt 30, 3) := by decide +kernel
theorem dX4_gatherItems_149 : decode cX4_gatherItems 149 = .ok (.aload_n 0, 1) := by decide +kernel
theorem dX4_gatherItems_150 : decode cX4_gatherItems 150 = .ok (.getfield 11, 3) := by decide +kernel
theorem dX4_gatherItems_153 : decode cX4_gatherItems 153 = .ok (.iload 4, 2) := by decide +kernel
theorem dX4_gatherItems_155 : decode cX4_gatherItems 155 = .ok (.invokestatic 122, 3) := by decide +kernel
theorem dX4_gatherItems_158 : decode cX4_gatherItems 158 = .ok (.sipush 16001, 3) := by decide +kernel
theorem dX4_gatherItems_161 : decode cX4_gatherItems 161 = .ok (.if_icmp .ne 15, 3) := by decide +kernel
theorem dX4_gatherItems_164 : decode cX4_gatherItems 164 = .ok (.aload_n 0, 1) := by decide +kernel
theorem dX4_gatherItems_165 : decode cX4_gatherItems 165 = .ok (.getfield 11, 3) := by decide +kernel
theorem dX4_gatherItems_168 : decode cX4_gatherItems 168 = .ok (.iload 4, 2) := by decide +kernel
theorem dX4_gatherItems_170 : decode cX4_gatherItems 170 = .ok (.iload_n 2, 1) := by decide +kernel
theorem dX4_gatherItems_171 : decode cX4_gatherItems 171 = .ok (.iconst 1, 1) := by decide +kernel
theorem dX4_gatherItems_172 : decode cX4_gatherItems 172 = .ok (.iadd, 1) := by decide +kernel
theorem dX4_gatherItems_173 : decode cX4_gatherItems 173 = .ok (.invokestatic 112, 3) := by decide +kernel
theorem dX4_gatherItems_176 : decode cX4_gatherItems 176 = .ok (.iinc 2 1, 3) := by decide +kernel
theorem dX4_gatherItems_179 : decode cX4_gatherItems 179 = .ok (.goto (-76), 3) := by decide +kernel
theorem dX4_gatherItems_182 : decode cX4_gatherItems 182 = .ok (.return_, 1) := by decide +kernel
def F_X4_gatherItems  (Γ : HS) : HR :=
  bnd (cA' Γ 3 2 (g_fill 4500 ((Γ 3).2.1 2) 16001)) fun σ_1 =>
  bnd (cA' σ_1 3 3 (g_fill 4500 ((σ_1 3).2.1 3) 0)) fun σ_3 =>
  bnd (cA' σ_3 3 5 (g_fill 4500 ((σ_3 3).2.1 5) 0)) fun σ_5 =>
  loopF (fun (again_8 : (Int32 × Int32 × HS) → HR) (s_7 : Int32 × Int32 × HS) => (
    if 11 < s_7.2.1 then (
      loopF (fun (again_14 : (Int32 × HS) → HR) (s_13 : Int32 × HS) => (
        if ((s_13.2 1).1 2) ≤ s_13.1 then (
          some (0, s_13.2)
        ) else (
          (F_X10_kindOf s_13.1 s_13.2).bind fun u_20 =>
          bnd (mrg (fun j => j == 1) s_13.2 u_20.2) fun σ_22 =>
          (F_X10_worthOf (s_13.1 + 1) σ_22).bind fun u_24 =>
          bnd (mrg (fun j => j == 1) σ_22 u_24.2) fun σ_26 =>
          bnd (fun  (σ_28 : HS) => (
            bnd (s_13.1 + 1) fun (x_32 : Int32) =>
            again_14 (x_32, σ_28)
          ) : HS → HR) fun j_29 =>
          if u_20.1 < 230 then (
            j_29  σ_26
          ) else (
            if 235 < u_20.1 then (
              j_29  σ_26
            ) else (
              bnd ((g_at 4500 ((σ_26 3).2.1 2) u_24.1)) fun (x_40 : Int32) =>
              if x_40 = 16001 then (
                bnd ((s_13.1 + 1)) fun (x_44 : Int32) =>
                bnd (cA' σ_26 3 2 (g_put 4500 ((σ_26 3).2.1 2) u_24.1 x_44)) fun σ_46 =>
                j_29  σ_46
              ) else (
                j_29  σ_26
              )
            )
          )
        )
      )) FU (0, s_7.2.2)
    ) else (
      (F_X11_wordEnd ([108, 111, 111, 107, 32, 105, 110, 118, 101, 110, 116, 111, 114, 121, 32, 119, 97, 105, 116, 32, 116, 97, 107, 101, 32, 100, 114, 111, 112, 32, 101, 120, 97, 109, 105, 110, 101, 32, 111, 112, 101, 110, 32, 99, 108, 111, 115, 101, 32, 112, 117, 116, 105, 110, 32, 112, 117, 116, 111, 110, 32, 103, 111, 32] : List Int32) s_7.1 s_7.2.2).bind fun u_51 =>
      (F_X11_packed ([108, 111, 111, 107, 32, 105, 110, 118, 101, 110, 116, 111, 114, 121, 32, 119, 97, 105, 116, 32, 116, 97, 107, 101, 32, 100, 114, 111, 112, 32, 101, 120, 97, 109, 105, 110, 101, 32, 111, 112, 101, 110, 32, 99, 108, 111, 115, 101, 32, 112, 117, 116, 105, 110, 32, 112, 117, 116, 111, 110, 32, 103, 111, 32] : List Int32) s_7.1 u_51.1 12 s_7.2.2).bind fun u_54 =>
      (F_X10_numberOf u_54.1 s_7.2.2).bind fun u_56 =>
      bnd (mrg (fun j => j == 1) s_7.2.2 u_56.2) fun σ_58 =>
      bnd (cA' σ_58 3 2 (g_put 4500 ((σ_58 3).2.1 2) u_56.1 0)) fun σ_60 =>
      bnd (cA' σ_60 3 3 (g_put 4500 ((σ_60 3).2.1 3) u_56.1 3)) fun σ_62 =>
      bnd (cA' σ_62 3 4 (g_put 4500 ((σ_62 3).2.1 4) u_56.1 s_7.2.1)) fun σ_64 =>
      bnd ((u_51.1 + 1)) fun (x_66 : Int32) =>
      bnd (s_7.2.1 + 1) fun (x_68 : Int32) =>
      again_8 (x_66, x_68, σ_64)
    )
  )) FU (0, 1, σ_5)
set_option maxHeartbeats 4000000 in
set_option maxRecDepth 100000 in
theorem k_X4_gatherItems (l : Launch) (dC : Nat → ClassId) (dI : Nat → Nat → Nat) (cB cC cI cJ cZ cP : ClassId) (oA : Nat → Nat) (rA : Nat → Nat → Nat) (sz : Nat)   (Γ : HS) (res : Int32 × HS) (hF : F_X4_gatherItems  Γ = some res) : Met l yX4_gatherItems (g_ws yX4_gatherItems cX4_gatherItems 5 none) ({ frames := 6, cells := 0, slots := 0, locals := 153 }) (va_Pc [.ref (oA 3)] (g_B (dC, dI) [(cB, .byte), (cC, .char), (cI, .int), (cJ, .long), (cZ, .boolean), (cP, .object "StoryHouse$Play")] sz (b_m cB cC cI cJ cZ oA rA Γ ++ b_w cB cC cI cJ cZ oA rA Γ ++ b_s cB cC cI cJ cZ oA rA Γ ++ b_c cB cC cI cJ cZ oA rA Γ ++ b_t cB cC cI cJ cZ oA rA Γ ++ b_d cB cC cI cJ cZ oA rA Γ) g_0)) (va_Qv (fun (_ : Unit) => True) (g_Bo (dC, dI) (va_A (b_m cB cC cI cJ cZ oA rA Γ ++ b_w cB cC cI cJ cZ oA rA Γ ++ b_s cB cC cI cJ cZ oA rA Γ ++ b_c cB cC cI cJ cZ oA rA Γ ++ b_t cB cC cI cJ cZ oA rA Γ ++ b_d cB cC cI cJ cZ oA rA Γ) sz) (fun (_ : Unit) => (b_m cB cC cI cJ cZ oA rA res.2 ++ b_w cB cC cI cJ cZ oA rA res.2 ++ b_s cB cC cI cJ cZ oA rA res.2 ++ b_c cB cC cI cJ cZ oA rA res.2 ++ b_t cB cC cI cJ cZ oA rA res.2 ++ b_d cB cC cI cJ cZ oA rA res.2))) (va_A (b_m cB cC cI cJ cZ oA rA Γ ++ b_w cB cC cI cJ cZ oA rA Γ ++ b_s cB cC cI cJ cZ oA rA Γ ++ b_c cB cC cI cJ cZ oA rA Γ ++ b_t cB cC cI cJ cZ oA rA Γ ++ b_d cB cC cI cJ cZ oA rA Γ) sz)) 0 0 (va_A (b_m cB cC cI cJ cZ oA rA Γ ++ b_w cB cC cI cJ cZ oA rA Γ ++ b_s cB cC cI cJ cZ oA rA Γ ++ b_c cB cC cI cJ cZ oA rA Γ ++ b_t cB cC cI cJ cZ oA rA Γ ++ b_d cB cC cI cJ cZ oA rA Γ) sz) := by
  refine Met.ofW (cc := cX4_gatherItems) (maxL := 5) (ret := none) (by decide) rfl ?_
  intro p e s m args below meth c s₁ B hml hv
  obtain ⟨rfl, hsz, hP, hK, hD0, hE, hX⟩ := hv
  have hx := B.exec
  have hb := B.bytes
  have hr := B.returns
  have hts0 := atoms_spec (ws := g_ws yX4_gatherItems cX4_gatherItems 5 none) B.pre
  have hts : ∀ w ∈ lw_good, w.before ([.ref (oA 3)] : List Value).toArray s = true := fun w z => hts0 w (List.mem_cons_of_mem _ z)
  have hown : s.vm.findClass RX4 = some m.cls := findClass_of_methodNamed B.named
  have hlocks := B.notSynchronized
  subst hsz
  have hD1 := hD0.self (sz := s.heap.size)
  generalize hAe : va_A (b_m cB cC cI cJ cZ oA rA Γ ++ b_w cB cC cI cJ cZ oA rA Γ ++ b_s cB cC cI cJ cZ oA rA Γ ++ b_c cB cC cI cJ cZ oA rA Γ ++ b_t cB cC cI cJ cZ oA rA Γ ++ b_d cB cC cI cJ cZ oA rA Γ) s.heap.size = A at hD1 hE hX ⊢
  have hA : ∀ q : Nat, s.heap.size ≤ q → A q := fun q z => by rw [← hAe]; exact Or.inr z
  have hDD : ∀ Γ : HS, va_D A (b_m cB cC cI cJ cZ oA rA Γ ++ b_w cB cC cI cJ cZ oA rA Γ ++ b_s cB cC cI cJ cZ oA rA Γ ++ b_c cB cC cI cJ cZ oA rA Γ ++ b_t cB cC cI cJ cZ oA rA Γ ++ b_d cB cC cI cJ cZ oA rA Γ) := fun Γ9 => va_D_fst (ws := (b_m cB cC cI cJ cZ oA rA Γ ++ b_w cB cC cI cJ cZ oA rA Γ ++ b_s cB cC cI cJ cZ oA rA Γ ++ b_c cB cC cI cJ cZ oA rA Γ ++ b_t cB cC cI cJ cZ oA rA Γ ++ b_d cB cC cI cJ cZ oA rA Γ)) (ws' := (b_m cB cC cI cJ cZ oA rA Γ9 ++ b_w cB cC cI cJ cZ oA rA Γ9 ++ b_s cB cC cI cJ cZ oA rA Γ9 ++ b_c cB cC cI cJ cZ oA rA Γ9 ++ b_t cB cC cI cJ cZ oA rA Γ9 ++ b_d cB cC cI cJ cZ oA rA Γ9)) rfl hD1
  have hN := hE.1
  have hS : va_S A s.heap s.heap [] := va_S.rf
  have hl := lv_entry ([.ref (oA 3)]) (n := 5) (Nat.le_of_ble_eq_true rfl)
  rw [lg_entry_eq]
  generalize (lg_sl ([.ref (oA 3)]) ++ List.replicate (5 - (lg_sl ([.ref (oA 3)])).length) Slot.unset).toArray = ls at hl ⊢
  have hl : lv_has ls 5 [(0, .ref (oA 3))] := hl
  unfold F_X4_gatherItems at hF
  refine lv_aload_n hx hb dX4_gatherItems_0 rfl (lv_at hl 0 rfl) ?_
  refine va_get (D := (dC, dI)) (ci := 4) (v := .ref (rA 3 2)) (C := RX4) (T := TX4) (N := 18) hx hb hts ii_X4 hown hK hP 0 rfl rfl 2 (by decide) (hts (.fieldLink RX4 11 "StoryHouse$Meanings" "toldAt" "[I") wq_88) (fun _ h9 => h9) rfl dX4_gatherItems_1 ?_
  refine lv_sipush (v := 16001) hx hb dX4_gatherItems_4 (by decide +kernel) ?_
  have hPc := hP.sub (ws' := [(rA 3 2, .inl (cI, 4500, .inl ((Γ 3).2.1 2)))]) [1] rfl
  have hDc := (hDD Γ).sub (ws' := [(rA 3 2, .inl (cI, 4500, .inl ((Γ 3).2.1 2)))]) [1] (by decide +kernel) rfl
  have hFc := va_free (wc := [(rA 3 2, .inl (cI, 4500, .inl ((Γ 3).2.1 2)))]) (hDD Γ) hS hA [1] rfl
  refine g_ofv (wc := [(rA 3 2, .inl (cI, 4500, .inl ((Γ 3).2.1 2)))]) (wr := (((b_m cB cC cI cJ cZ oA rA Γ ++ b_w cB cC cI cJ cZ oA rA Γ ++ b_s cB cC cI cJ cZ oA rA Γ ++ b_c cB cC cI cJ cZ oA rA Γ ++ b_t cB cC cI cJ cZ oA rA Γ ++ b_d cB cC cI cJ cZ oA rA Γ)).eraseIdx 1)) hP (hDD Γ) hS hFc [1] [0, 2, 3, 4, 5, 6, 7, 8, 9, 10, 11, 12, 13, 14, 15, 16, 17, 18, 19, 20, 21, 22, 23, 24, 25, 26, 27, 28, 29, 30, 31, 32, 33, 34, 35, 36, 37, 38, 39, 40, 41, 42, 43, 44, 45, 46] rfl rfl (by decide +kernel) (by decide +kernel) (va_runS (As := [.ref (rA 3 2), .int 16001]) (rest := []) ⟨hx, hb, hml, hown, hts⟩ (c_fill l dC dI cB cC cI cJ cZ cP s.heap.size (rA 3 2) 16001 4500 ((Γ 3).2.1 2) (by decide)) (va_cwS 2 hts (g_gS wq_712 wq_340 wq_21 wq_341) rfl rfl rfl (by decide +kernel) ⟨Nat.le_of_ble_eq_true rfl, Nat.le_of_ble_eq_true rfl⟩) (g_preS g_bl0 hK hPc hDc hS hE hFc g_to0) rfl rfl hl.1 rfl (lv_room (Nat.le_of_ble_eq_true rfl)) dX4_gatherItems_7 ⟨Nat.le_of_ble_eq_true rfl, Nat.le_of_ble_eq_true rfl⟩) (fun g9 H locs hw9 hP' hD' hS => ?_)
  clear hPc hDc hFc hD'
  obtain ⟨σ_1, eσ_1, hF_2⟩ := bnd_e hF
  clear hF
  subst hw9
  have hP : va_P (dC, dI) vwCl (b_m cB cC cI cJ cZ oA rA σ_1 ++ b_w cB cC cI cJ cZ oA rA σ_1 ++ b_s cB cC cI cJ cZ oA rA σ_1 ++ b_c cB cC cI cJ cZ oA rA σ_1 ++ b_t cB cC cI cJ cZ oA rA σ_1 ++ b_d cB cC cI cJ cZ oA rA σ_1) H := by rw [eσ_1]; exact hP'.sub [0, 46, 1, 2, 3, 4, 5, 6, 7, 8, 9, 10, 11, 12, 13, 14, 15, 16, 17, 18, 19, 20, 21, 22, 23, 24, 25, 26, 27, 28, 29, 30, 31, 32, 33, 34, 35, 36, 37, 38, 39, 40, 41, 42, 43, 44, 45] rfl
  clear hP'
  refine lv_aload_n hx hb dX4_gatherItems_10 rfl (lv_at hl 0 rfl) ?_
  refine va_get (D := (dC, dI)) (ci := 4) (v := .ref (rA 3 3)) (C := RX4) (T := TX4) (N := 18) hx hb hts ii_X4 hown hK hP 0 rfl rfl 3 (by decide) (hts (.fieldLink RX4 17 "StoryHouse$Meanings" "sorts" "[I") wq_89) (fun _ h9 => h9) rfl dX4_gatherItems_11 ?_
  refine lv_iconst (v := 0) hx hb dX4_gatherItems_14 (by decide +kernel) ?_
  have hPc := hP.sub (ws' := [(rA 3 3, .inl (cI, 4500, .inl ((σ_1 3).2.1 3)))]) [2] rfl
  have hDc := (hDD σ_1).sub (ws' := [(rA 3 3, .inl (cI, 4500, .inl ((σ_1 3).2.1 3)))]) [2] (by decide +kernel) rfl
  have hFc := va_free (wc := [(rA 3 3, .inl (cI, 4500, .inl ((σ_1 3).2.1 3)))]) (hDD σ_1) hS hA [2] rfl
  refine g_ofv (wc := [(rA 3 3, .inl (cI, 4500, .inl ((σ_1 3).2.1 3)))]) (wr := (((b_m cB cC cI cJ cZ oA rA σ_1 ++ b_w cB cC cI cJ cZ oA rA σ_1 ++ b_s cB cC cI cJ cZ oA rA σ_1 ++ b_c cB cC cI cJ cZ oA rA σ_1 ++ b_t cB cC cI cJ cZ oA rA σ_1 ++ b_d cB cC cI cJ cZ oA rA σ_1)).eraseIdx 2)) hP (hDD σ_1) hS hFc [2] [0, 1, 3, 4, 5, 6, 7, 8, 9, 10, 11, 12, 13, 14, 15, 16, 17, 18, 19, 20, 21, 22, 23, 24, 25, 26, 27, 28, 29, 30, 31, 32, 33, 34, 35, 36, 37, 38, 39, 40, 41, 42, 43, 44, 45, 46] rfl rfl (by decide +kernel) (by decide +kernel) (va_runS (As := [.ref (rA 3 3), .int 0]) (rest := []) ⟨hx, hb, hml, hown, hts⟩ (c_fill l dC dI cB cC cI cJ cZ cP H.size (rA 3 3) 0 4500 ((σ_1 3).2.1 3) (by decide)) (va_cwS 2 hts (g_gS wq_712 wq_340 wq_21 wq_341) rfl rfl rfl (by decide +kernel) ⟨Nat.le_of_ble_eq_true rfl, Nat.le_of_ble_eq_true rfl⟩) (g_preS g_bl0 hK hPc hDc hS hE hFc g_to0) rfl rfl hl.1 rfl (lv_room (Nat.le_of_ble_eq_true rfl)) dX4_gatherItems_15 ⟨Nat.le_of_ble_eq_true rfl, Nat.le_of_ble_eq_true rfl⟩) (fun g9 H locs hw9 hP' hD' hS => ?_)
  clear hPc hDc hFc hD'
  obtain ⟨σ_3, eσ_3, hF_4⟩ := bnd_e hF_2
  clear hF_2
  subst hw9
  have hP : va_P (dC, dI) vwCl (b_m cB cC cI cJ cZ oA rA σ_3 ++ b_w cB cC cI cJ cZ oA rA σ_3 ++ b_s cB cC cI cJ cZ oA rA σ_3 ++ b_c cB cC cI cJ cZ oA rA σ_3 ++ b_t cB cC cI cJ cZ oA rA σ_3 ++ b_d cB cC cI cJ cZ oA rA σ_3) H := by rw [eσ_3]; exact hP'.sub [0, 1, 46, 2, 3, 4, 5, 6, 7, 8, 9, 10, 11, 12, 13, 14, 15, 16, 17, 18, 19, 20, 21, 22, 23, 24, 25, 26, 27, 28, 29, 30, 31, 32, 33, 34, 35, 36, 37, 38, 39, 40, 41, 42, 43, 44, 45] rfl
  clear hP'
  refine lv_aload_n hx hb dX4_gatherItems_18 rfl (lv_at hl 0 rfl) ?_
  refine va_get (D := (dC, dI)) (ci := 4) (v := .ref (rA 3 5)) (C := RX4) (T := TX4) (N := 18) hx hb hts ii_X4 hown hK hP 0 rfl rfl 5 (by decide) (hts (.fieldLink RX4 23 "StoryHouse$Meanings" "seen" "[I") wq_91) (fun _ h9 => h9) rfl dX4_gatherItems_19 ?_
  refine lv_iconst (v := 0) hx hb dX4_gatherItems_22 (by decide +kernel) ?_
  have hPc := hP.sub (ws' := [(rA 3 5, .inl (cI, 4500, .inl ((σ_3 3).2.1 5)))]) [4] rfl
  have hDc := (hDD σ_3).sub (ws' := [(rA 3 5, .inl (cI, 4500, .inl ((σ_3 3).2.1 5)))]) [4] (by decide +kernel) rfl
  have hFc := va_free (wc := [(rA 3 5, .inl (cI, 4500, .inl ((σ_3 3).2.1 5)))]) (hDD σ_3) hS hA [4] rfl
  refine g_ofv (wc := [(rA 3 5, .inl (cI, 4500, .inl ((σ_3 3).2.1 5)))]) (wr := (((b_m cB cC cI cJ cZ oA rA σ_3 ++ b_w cB cC cI cJ cZ oA rA σ_3 ++ b_s cB cC cI cJ cZ oA rA σ_3 ++ b_c cB cC cI cJ cZ oA rA σ_3 ++ b_t cB cC cI cJ cZ oA rA σ_3 ++ b_d cB cC cI cJ cZ oA rA σ_3)).eraseIdx 4)) hP (hDD σ_3) hS hFc [4] [0, 1, 2, 3, 5, 6, 7, 8, 9, 10, 11, 12, 13, 14, 15, 16, 17, 18, 19, 20, 21, 22, 23, 24, 25, 26, 27, 28, 29, 30, 31, 32, 33, 34, 35, 36, 37, 38, 39, 40, 41, 42, 43, 44, 45, 46] rfl rfl (by decide +kernel) (by decide +kernel) (va_runS (As := [.ref (rA 3 5), .int 0]) (rest := []) ⟨hx, hb, hml, hown, hts⟩ (c_fill l dC dI cB cC cI cJ cZ cP H.size (rA 3 5) 0 4500 ((σ_3 3).2.1 5) (by decide)) (va_cwS 2 hts (g_gS wq_712 wq_340 wq_21 wq_341) rfl rfl rfl (by decide +kernel) ⟨Nat.le_of_ble_eq_true rfl, Nat.le_of_ble_eq_true rfl⟩) (g_preS g_bl0 hK hPc hDc hS hE hFc g_to0) rfl rfl hl.1 rfl (lv_room (Nat.le_of_ble_eq_true rfl)) dX4_gatherItems_23 ⟨Nat.le_of_ble_eq_true rfl, Nat.le_of_ble_eq_true rfl⟩) (fun g9 H locs hw9 hP' hD' hS => ?_)
  clear hPc hDc hFc hD'
  obtain ⟨σ_5, eσ_5, hF_6⟩ := bnd_e hF_4
  clear hF_4
  subst hw9
  have hP : va_P (dC, dI) vwCl (b_m cB cC cI cJ cZ oA rA σ_5 ++ b_w cB cC cI cJ cZ oA rA σ_5 ++ b_s cB cC cI cJ cZ oA rA σ_5 ++ b_c cB cC cI cJ cZ oA rA σ_5 ++ b_t cB cC cI cJ cZ oA rA σ_5 ++ b_d cB cC cI cJ cZ oA rA σ_5) H := by rw [eσ_5]; exact hP'.sub [0, 1, 2, 3, 46, 4, 5, 6, 7, 8, 9, 10, 11, 12, 13, 14, 15, 16, 17, 18, 19, 20, 21, 22, 23, 24, 25, 26, 27, 28, 29, 30, 31, 32, 33, 34, 35, 36, 37, 38, 39, 40, 41, 42, 43, 44, 45] rfl
  clear hP'
  refine lv_iconst (v := 0) hx hb dX4_gatherItems_26 (by decide +kernel) ?_
  refine lv_istore_n (lv' := [(1, .int 0), (0, .ref (oA 3))]) hx hb dX4_gatherItems_27 rfl hl (by decide) rfl (fun ls hl => ?_)
  refine lv_iconst (v := 1) hx hb dX4_gatherItems_28 (by decide +kernel) ?_
  refine lv_istore_n (lv' := [(2, .int 1), (1, .int 0), (0, .ref (oA 3))]) hx hb dX4_gatherItems_29 rfl hl (by decide) rfl (fun ls hl => ?_)
  refine loopF_ind (P := fun (s_7 : Int32 × Int32 × HS) => ∀ (H : Heap) (locs : List Loc), va_P (dC, dI) vwCl (b_m cB cC cI cJ cZ oA rA s_7.2.2 ++ b_w cB cC cI cJ cZ oA rA s_7.2.2 ++ b_s cB cC cI cJ cZ oA rA s_7.2.2 ++ b_c cB cC cI cJ cZ oA rA s_7.2.2 ++ b_t cB cC cI cJ cZ oA rA s_7.2.2 ++ b_d cB cC cI cJ cZ oA rA s_7.2.2) H → va_S A s.heap H locs → ∀ ls : Array Slot, lv_has ls 5 [(0, .ref (oA 3)), (1, .int s_7.1), (2, .int s_7.2.1)] → W p l e (headSpec (g_ws yX4_gatherItems cX4_gatherItems 5 none) { frames := 6, cells := 0, slots := 0, locals := 153 }).room s m ([.ref (oA 3)] : List Value).toArray below meth c H locs 0 0 (MQ below (va_Qv (fun (_ : Unit) => True) (g_Bo (dC, dI) A (fun (_ : Unit) => (b_m cB cC cI cJ cZ oA rA res.2 ++ b_w cB cC cI cJ cZ oA rA res.2 ++ b_s cB cC cI cJ cZ oA rA res.2 ++ b_c cB cC cI cJ cZ oA rA res.2 ++ b_t cB cC cI cJ cZ oA rA res.2 ++ b_d cB cC cI cJ cZ oA rA res.2))) A) ([.ref (oA 3)] : List Value).toArray s 0 0 A) (F0 m 30 ls [])) ?_ _ _ hF_6 _ _ hP hS ls (lv_sub hl [2, 1, 0] rfl)
  intro again_8 s_7 ih_9 hF_10
  intro H locs hP hS ls hl
  refine lv_iload_n hx hb dX4_gatherItems_30 rfl (lv_at hl 2 rfl) ?_
  refine lv_bipush (v := 11) hx hb dX4_gatherItems_31 (by decide +kernel) ?_
  refine lv_icmp_gt (tgt := 101) hx hb dX4_gatherItems_33 (by decide) (fun c_11 => ?_) (fun c_11 => ?_)
  · have hF_12 := ipos c_11 hF_10
    clear hF_10
    refine lv_iconst (v := 0) hx hb dX4_gatherItems_101 (by decide +kernel) ?_
    refine lv_istore_n (lv' := [(2, .int 0), (0, .ref (oA 3)), (1, .int s_7.1)]) hx hb dX4_gatherItems_102 rfl hl (by decide) rfl (fun ls hl => ?_)
    refine loopF_ind (P := fun (s_13 : Int32 × HS) => ∀ (H : Heap) (locs : List Loc), va_P (dC, dI) vwCl (b_m cB cC cI cJ cZ oA rA s_13.2 ++ b_w cB cC cI cJ cZ oA rA s_13.2 ++ b_s cB cC cI cJ cZ oA rA s_13.2 ++ b_c cB cC cI cJ cZ oA rA s_13.2 ++ b_t cB cC cI cJ cZ oA rA s_13.2 ++ b_d cB cC cI cJ cZ oA rA s_13.2) H → va_S A s.heap H locs → ∀ ls : Array Slot, lv_has ls 5 [(0, .ref (oA 3)), (2, .int s_13.1)] → W p l e (headSpec (g_ws yX4_gatherItems cX4_gatherItems 5 none) { frames := 6, cells := 0, slots := 0, locals := 153 }).room s m ([.ref (oA 3)] : List Value).toArray below meth c H locs 0 0 (MQ below (va_Qv (fun (_ : Unit) => True) (g_Bo (dC, dI) A (fun (_ : Unit) => (b_m cB cC cI cJ cZ oA rA res.2 ++ b_w cB cC cI cJ cZ oA rA res.2 ++ b_s cB cC cI cJ cZ oA rA res.2 ++ b_c cB cC cI cJ cZ oA rA res.2 ++ b_t cB cC cI cJ cZ oA rA res.2 ++ b_d cB cC cI cJ cZ oA rA res.2))) A) ([.ref (oA 3)] : List Value).toArray s 0 0 A) (F0 m 103 ls [])) ?_ _ _ hF_12 _ _ hP hS ls (lv_sub hl [1, 0] rfl)
    intro again_14 s_13 ih_15 hF_16
    intro H locs hP hS ls hl
    refine lv_iload_n hx hb dX4_gatherItems_103 rfl (lv_at hl 1 rfl) ?_
    refine lv_aload_n hx hb dX4_gatherItems_104 rfl (lv_at hl 0 rfl) ?_
    refine va_get (D := (dC, dI)) (ci := 4) (v := .ref (oA 1)) (C := RX4) (T := TX4) (N := 18) hx hb hts ii_X4 hown hK hP 0 rfl rfl 0 (by decide) (hts (.fieldLink RX4 32 "StoryHouse$Meanings" "words" "LStoryHouse$Words;") wq_86) (fun _ h9 => h9) rfl dX4_gatherItems_105 ?_
    refine va_get (D := (dC, dI)) (ci := 10) (v := .int ((s_13.2 1).1 2)) (C := RX10) (T := TX10) (N := 12) hx hb hts ii_X10 hown hK hP 7 rfl rfl 2 (by decide) (hts (.fieldLink RX4 53 "StoryHouse$Words" "count" "I") wq_45) (fun _ h9 => h9) rfl dX4_gatherItems_108 ?_
    refine lv_icmp_ge (tgt := 182) hx hb dX4_gatherItems_111 (by decide) (fun c_17 => ?_) (fun c_17 => ?_)
    · have hF_18 := ipos c_17 hF_16
      clear hF_16
      have h9 := Option.some.inj hF_18
      subst h9
      exact W.vret hx hb hr (fun t ht hW => ⟨⟨(), rfl, trivial, m_end ht hP, hDD _⟩, hS.F ht⟩) hS.2.2 dX4_gatherItems_182
    · have hF_19 := ineg c_17 hF_16
      clear hF_16
      refine lv_aload_n hx hb dX4_gatherItems_114 rfl (lv_at hl 0 rfl) ?_
      refine va_get (D := (dC, dI)) (ci := 4) (v := .ref (oA 1)) (C := RX4) (T := TX4) (N := 18) hx hb hts ii_X4 hown hK hP 0 rfl rfl 0 (by decide) (hts (.fieldLink RX4 32 "StoryHouse$Meanings" "words" "LStoryHouse$Words;") wq_86) (fun _ h9 => h9) rfl dX4_gatherItems_115 ?_
      refine lv_iload_n hx hb dX4_gatherItems_118 rfl (lv_at hl 1 rfl) ?_
      obtain ⟨u_20, hu_20, hF_21⟩ := Option.bind_eq_some_iff.mp hF_19
      clear hF_19
      have hPc := hP.sub (ws' := (b_w cB cC cI cJ cZ oA rA s_13.2)) [7, 8, 9, 10, 11, 12, 13, 14, 15] rfl
      have hDc := (hDD s_13.2).sub (ws' := (b_w cB cC cI cJ cZ oA rA s_13.2)) [7, 8, 9, 10, 11, 12, 13, 14, 15] (by decide +kernel) rfl
      have hFc := va_free (wc := (b_w cB cC cI cJ cZ oA rA s_13.2)) (hDD s_13.2) hS hA [7, 8, 9, 10, 11, 12, 13, 14, 15] rfl
      refine g_ofi (wc := (b_w cB cC cI cJ cZ oA rA s_13.2)) (wr := (b_m cB cC cI cJ cZ oA rA s_13.2 ++ b_s cB cC cI cJ cZ oA rA s_13.2 ++ b_c cB cC cI cJ cZ oA rA s_13.2 ++ b_t cB cC cI cJ cZ oA rA s_13.2 ++ b_d cB cC cI cJ cZ oA rA s_13.2)) hP (hDD s_13.2) hS hFc [7, 8, 9, 10, 11, 12, 13, 14, 15] [0, 1, 2, 3, 4, 5, 6, 16, 17, 18, 19, 20, 21, 22, 23, 24, 25, 26, 27, 28, 29, 30, 31, 32, 33, 34, 35, 36, 37, 38, 39, 40, 41, 42, 43, 44, 45, 46] rfl rfl (by decide +kernel) (by decide +kernel) (va_runV (As := [.int s_13.1]) (rest := []) ⟨hx, hb, hml, hown, hts⟩ (k_X10_kindOf l dC dI cB cC cI cJ cZ cP oA rA H.size  s_13.1 s_13.2 _ hu_20) (cwV 1 hts (g_gV wq_714 wq_543 wq_544 wq_2 wq_545) rfl rfl rfl (by decide +kernel) ⟨Nat.le_of_ble_eq_true rfl, Nat.le_of_ble_eq_true rfl⟩) (g_preV g_bl0 hK hPc hDc hS hE hFc g_to0 (q0 := 0) (ci := 10) rfl rfl) rfl rfl hl.1 rfl (lv_room (Nat.le_of_ble_eq_true rfl)) dX4_gatherItems_119 ⟨Nat.le_of_ble_eq_true rfl, Nat.le_of_ble_eq_true rfl⟩) (fun r9 u9 H locs hw9 hP' hD' hS => ?_)
      clear hPc hDc hFc
      subst hw9
      obtain ⟨σ_22, eσ_22, hF_23⟩ := bnd_e hF_21
      clear hF_21
      have hP : va_P (dC, dI) vwCl (b_m cB cC cI cJ cZ oA rA σ_22 ++ b_w cB cC cI cJ cZ oA rA σ_22 ++ b_s cB cC cI cJ cZ oA rA σ_22 ++ b_c cB cC cI cJ cZ oA rA σ_22 ++ b_t cB cC cI cJ cZ oA rA σ_22 ++ b_d cB cC cI cJ cZ oA rA σ_22) H := by rw [eσ_22]; exact hP'.sub [0, 1, 2, 3, 4, 5, 6, 38, 39, 40, 41, 42, 43, 44, 45, 46, 7, 8, 9, 10, 11, 12, 13, 14, 15, 16, 17, 18, 19, 20, 21, 22, 23, 24, 25, 26, 27, 28, 29, 30, 31, 32, 33, 34, 35, 36, 37] rfl
      clear hP' hD'
      refine lv_istore_n (lv' := [(3, .int u_20.1), (0, .ref (oA 3)), (2, .int s_13.1)]) hx hb dX4_gatherItems_122 rfl hl (by decide) rfl (fun ls hl => ?_)
      refine lv_aload_n hx hb dX4_gatherItems_123 rfl (lv_at hl 1 rfl) ?_
      refine va_get (D := (dC, dI)) (ci := 4) (v := .ref (oA 1)) (C := RX4) (T := TX4) (N := 18) hx hb hts ii_X4 hown hK hP 0 rfl rfl 0 (by decide) (hts (.fieldLink RX4 32 "StoryHouse$Meanings" "words" "LStoryHouse$Words;") wq_86) (fun _ h9 => h9) rfl dX4_gatherItems_124 ?_
      refine lv_iload_n hx hb dX4_gatherItems_127 rfl (lv_at hl 2 rfl) ?_
      refine lv_iconst (v := 1) hx hb dX4_gatherItems_128 (by decide +kernel) ?_
      refine lv_iadd hx hb dX4_gatherItems_129 ?_
      obtain ⟨u_24, hu_24, hF_25⟩ := Option.bind_eq_some_iff.mp hF_23
      clear hF_23
      have hPc := hP.sub (ws' := (b_w cB cC cI cJ cZ oA rA σ_22)) [7, 8, 9, 10, 11, 12, 13, 14, 15] rfl
      have hDc := (hDD σ_22).sub (ws' := (b_w cB cC cI cJ cZ oA rA σ_22)) [7, 8, 9, 10, 11, 12, 13, 14, 15] (by decide +kernel) rfl
      have hFc := va_free (wc := (b_w cB cC cI cJ cZ oA rA σ_22)) (hDD σ_22) hS hA [7, 8, 9, 10, 11, 12, 13, 14, 15] rfl
      refine g_ofi (wc := (b_w cB cC cI cJ cZ oA rA σ_22)) (wr := (b_m cB cC cI cJ cZ oA rA σ_22 ++ b_s cB cC cI cJ cZ oA rA σ_22 ++ b_c cB cC cI cJ cZ oA rA σ_22 ++ b_t cB cC cI cJ cZ oA rA σ_22 ++ b_d cB cC cI cJ cZ oA rA σ_22)) hP (hDD σ_22) hS hFc [7, 8, 9, 10, 11, 12, 13, 14, 15] [0, 1, 2, 3, 4, 5, 6, 16, 17, 18, 19, 20, 21, 22, 23, 24, 25, 26, 27, 28, 29, 30, 31, 32, 33, 34, 35, 36, 37, 38, 39, 40, 41, 42, 43, 44, 45, 46] rfl rfl (by decide +kernel) (by decide +kernel) (va_runV (As := [.int (s_13.1 + 1)]) (rest := []) ⟨hx, hb, hml, hown, hts⟩ (k_X10_worthOf l dC dI cB cC cI cJ cZ cP oA rA H.size  (s_13.1 + 1) σ_22 _ hu_24) (cwV 1 hts (g_gV wq_715 wq_653 wq_654 wq_2 wq_655) rfl rfl rfl (by decide +kernel) ⟨Nat.le_of_ble_eq_true rfl, Nat.le_of_ble_eq_true rfl⟩) (g_preV g_bl0 hK hPc hDc hS hE hFc g_to0 (q0 := 0) (ci := 10) rfl rfl) rfl rfl hl.1 rfl (lv_room (Nat.le_of_ble_eq_true rfl)) dX4_gatherItems_130 ⟨Nat.le_of_ble_eq_true rfl, Nat.le_of_ble_eq_true rfl⟩) (fun r9 u9 H locs hw9 hP' hD' hS => ?_)
      clear hPc hDc hFc
      subst hw9
      obtain ⟨σ_26, eσ_26, hF_27⟩ := bnd_e hF_25
      clear hF_25
      have hP : va_P (dC, dI) vwCl (b_m cB cC cI cJ cZ oA rA σ_26 ++ b_w cB cC cI cJ cZ oA rA σ_26 ++ b_s cB cC cI cJ cZ oA rA σ_26 ++ b_c cB cC cI cJ cZ oA rA σ_26 ++ b_t cB cC cI cJ cZ oA rA σ_26 ++ b_d cB cC cI cJ cZ oA rA σ_26) H := by rw [eσ_26]; exact hP'.sub [0, 1, 2, 3, 4, 5, 6, 38, 39, 40, 41, 42, 43, 44, 45, 46, 7, 8, 9, 10, 11, 12, 13, 14, 15, 16, 17, 18, 19, 20, 21, 22, 23, 24, 25, 26, 27, 28, 29, 30, 31, 32, 33, 34, 35, 36, 37] rfl
      clear hP' hD'
      refine lv_istore (lv' := [(4, .int u_24.1), (3, .int u_20.1), (0, .ref (oA 3)), (2, .int s_13.1)]) hx hb dX4_gatherItems_133 hl (by decide) rfl (fun ls hl => ?_)
      refine lv_iload_n hx hb dX4_gatherItems_135 rfl (lv_at hl 1 rfl) ?_
      refine lv_sipush (v := 230) hx hb dX4_gatherItems_136 (by decide +kernel) ?_
      obtain ⟨j_29, ej_29, hF_30⟩ := bnd_e hF_27
      clear hF_27
      have Jj_29 : ∀  (σ_28 : HS), j_29  σ_28 = some res → ∀ (H : Heap) (locs : List Loc), va_P (dC, dI) vwCl (b_m cB cC cI cJ cZ oA rA σ_28 ++ b_w cB cC cI cJ cZ oA rA σ_28 ++ b_s cB cC cI cJ cZ oA rA σ_28 ++ b_c cB cC cI cJ cZ oA rA σ_28 ++ b_t cB cC cI cJ cZ oA rA σ_28 ++ b_d cB cC cI cJ cZ oA rA σ_28) H → va_S A s.heap H locs → ∀ ls : Array Slot, lv_has ls 5 [(0, .ref (oA 3)), (2, .int s_13.1)] → W p l e (headSpec (g_ws yX4_gatherItems cX4_gatherItems 5 none) { frames := 6, cells := 0, slots := 0, locals := 153 }).room s m ([.ref (oA 3)] : List Value).toArray below meth c H locs 0 0 (MQ below (va_Qv (fun (_ : Unit) => True) (g_Bo (dC, dI) A (fun (_ : Unit) => (b_m cB cC cI cJ cZ oA rA res.2 ++ b_w cB cC cI cJ cZ oA rA res.2 ++ b_s cB cC cI cJ cZ oA rA res.2 ++ b_c cB cC cI cJ cZ oA rA res.2 ++ b_t cB cC cI cJ cZ oA rA res.2 ++ b_d cB cC cI cJ cZ oA rA res.2))) A) ([.ref (oA 3)] : List Value).toArray s 0 0 A) (F0 m 176 ls []) := by
        intro  σ_28 hF0 H locs hP hS ls hl
        subst ej_29
        have hF_31 := hF0
        clear hF0
        obtain ⟨x_32, ex_32, hF_33⟩ := bnd_e hF_31
        clear hF_31
        refine lv_iinc (v := x_32) (lv' := [(2, .int x_32), (0, .ref (oA 3))]) hx hb dX4_gatherItems_176 hl (k := 1) rfl (by rw [ex_32]; rfl) (by decide) rfl (fun ls hl => ?_)
        refine lv_goto (tgt := 103) hx hb dX4_gatherItems_179 (by decide) ?_
        exact ih_15 (x_32, σ_28) hF_33 _ _ hP hS ls (lv_sub hl [1, 0] rfl)
      refine lv_icmp_lt (tgt := 176) hx hb dX4_gatherItems_139 (by decide) (fun c_34 => ?_) (fun c_34 => ?_)
      · have hF_35 := ipos c_34 hF_30
        clear hF_30
        exact Jj_29  σ_26 hF_35 _ _ hP hS ls (lv_sub hl [2, 3] rfl)
      · have hF_36 := ineg c_34 hF_30
        clear hF_30
        refine lv_iload_n hx hb dX4_gatherItems_142 rfl (lv_at hl 1 rfl) ?_
        refine lv_sipush (v := 235) hx hb dX4_gatherItems_143 (by decide +kernel) ?_
        refine lv_icmp_gt (tgt := 176) hx hb dX4_gatherItems_146 (by decide) (fun c_37 => ?_) (fun c_37 => ?_)
        · have hF_38 := ipos c_37 hF_36
          clear hF_36
          exact Jj_29  σ_26 hF_38 _ _ hP hS ls (lv_sub hl [2, 3] rfl)
        · have hF_39 := ineg c_37 hF_36
          clear hF_36
          refine lv_aload_n hx hb dX4_gatherItems_149 rfl (lv_at hl 2 rfl) ?_
          refine va_get (D := (dC, dI)) (ci := 4) (v := .ref (rA 3 2)) (C := RX4) (T := TX4) (N := 18) hx hb hts ii_X4 hown hK hP 0 rfl rfl 2 (by decide) (hts (.fieldLink RX4 11 "StoryHouse$Meanings" "toldAt" "[I") wq_88) (fun _ h9 => h9) rfl dX4_gatherItems_150 ?_
          refine lv_iload hx hb dX4_gatherItems_153 (lv_at hl 0 rfl) ?_
          have hPc := hP.sub (ws' := [(rA 3 2, .inl (cI, 4500, .inl ((σ_26 3).2.1 2)))]) [1] rfl
          have hDc := (hDD σ_26).sub (ws' := [(rA 3 2, .inl (cI, 4500, .inl ((σ_26 3).2.1 2)))]) [1] (by decide +kernel) rfl
          have hFc := va_free (wc := [(rA 3 2, .inl (cI, 4500, .inl ((σ_26 3).2.1 2)))]) (hDD σ_26) hS hA [1] rfl
          refine g_ofi (wc := [(rA 3 2, .inl (cI, 4500, .inl ((σ_26 3).2.1 2)))]) (wr := (((b_m cB cC cI cJ cZ oA rA σ_26 ++ b_w cB cC cI cJ cZ oA rA σ_26 ++ b_s cB cC cI cJ cZ oA rA σ_26 ++ b_c cB cC cI cJ cZ oA rA σ_26 ++ b_t cB cC cI cJ cZ oA rA σ_26 ++ b_d cB cC cI cJ cZ oA rA σ_26)).eraseIdx 1)) hP (hDD σ_26) hS hFc [1] [0, 2, 3, 4, 5, 6, 7, 8, 9, 10, 11, 12, 13, 14, 15, 16, 17, 18, 19, 20, 21, 22, 23, 24, 25, 26, 27, 28, 29, 30, 31, 32, 33, 34, 35, 36, 37, 38, 39, 40, 41, 42, 43, 44, 45, 46] rfl rfl (by decide +kernel) (by decide +kernel) (va_runSN (As := [.ref (rA 3 2), .int u_24.1]) (rest := []) ⟨hx, hb, hml, hown, hts⟩ (c_X11_at l dC dI cB cC cI cJ cZ cP H.size (rA 3 2) u_24.1 4500 ((σ_26 3).2.1 2) (by decide)) ⟨va_cnB 2 hts (g_gA wq_407) rfl rfl rfl (hN.at 24 rfl) (hts (.initialized RX11) wq_1) (by decide +kernel) ⟨Nat.le_of_ble_eq_true rfl, Nat.le_of_ble_eq_true rfl⟩, (hts (.static yX11_at) wq_406), trivial⟩ (g_preS g_bl0 hK hPc hDc hS hE hFc g_to0) rfl rfl hl.1 rfl (lv_room (Nat.le_of_ble_eq_true rfl)) dX4_gatherItems_155 ⟨Nat.le_of_ble_eq_true rfl, Nat.le_of_ble_eq_true rfl⟩) (fun r9 u9 H locs hw9 hP' hD' hS => ?_)
          clear hPc hDc hFc hD'
          have hP : va_P (dC, dI) vwCl (b_m cB cC cI cJ cZ oA rA σ_26 ++ b_w cB cC cI cJ cZ oA rA σ_26 ++ b_s cB cC cI cJ cZ oA rA σ_26 ++ b_c cB cC cI cJ cZ oA rA σ_26 ++ b_t cB cC cI cJ cZ oA rA σ_26 ++ b_d cB cC cI cJ cZ oA rA σ_26) H := hP'.sub [0, 46, 1, 2, 3, 4, 5, 6, 7, 8, 9, 10, 11, 12, 13, 14, 15, 16, 17, 18, 19, 20, 21, 22, 23, 24, 25, 26, 27, 28, 29, 30, 31, 32, 33, 34, 35, 36, 37, 38, 39, 40, 41, 42, 43, 44, 45] rfl
          clear hP'
          subst hw9
          obtain ⟨x_40, ex_40, hF_41⟩ := bnd_e hF_39
          clear hF_39
          refine m_top ex_40 ?_
          refine lv_sipush (v := 16001) hx hb dX4_gatherItems_158 (by decide +kernel) ?_
          refine lv_icmp_ne (tgt := 176) hx hb dX4_gatherItems_161 (by decide) (fun c_42 => ?_) (fun c_42 => ?_)
          · have hF_48 := ineg c_42 hF_41
            clear hF_41
            exact Jj_29  σ_26 hF_48 _ _ hP hS ls (lv_sub hl [2, 3] rfl)
          · have hF_43 := ipos c_42 hF_41
            clear hF_41
            refine lv_aload_n hx hb dX4_gatherItems_164 rfl (lv_at hl 2 rfl) ?_
            refine va_get (D := (dC, dI)) (ci := 4) (v := .ref (rA 3 2)) (C := RX4) (T := TX4) (N := 18) hx hb hts ii_X4 hown hK hP 0 rfl rfl 2 (by decide) (hts (.fieldLink RX4 11 "StoryHouse$Meanings" "toldAt" "[I") wq_88) (fun _ h9 => h9) rfl dX4_gatherItems_165 ?_
            refine lv_iload hx hb dX4_gatherItems_168 (lv_at hl 0 rfl) ?_
            refine lv_iload_n hx hb dX4_gatherItems_170 rfl (lv_at hl 3 rfl) ?_
            refine lv_iconst (v := 1) hx hb dX4_gatherItems_171 (by decide +kernel) ?_
            refine lv_iadd hx hb dX4_gatherItems_172 ?_
            obtain ⟨x_44, ex_44, hF_45⟩ := bnd_e hF_43
            clear hF_43
            refine m_top ex_44 ?_
            have hPc := hP.sub (ws' := [(rA 3 2, .inl (cI, 4500, .inl ((σ_26 3).2.1 2)))]) [1] rfl
            have hDc := (hDD σ_26).sub (ws' := [(rA 3 2, .inl (cI, 4500, .inl ((σ_26 3).2.1 2)))]) [1] (by decide +kernel) rfl
            have hFc := va_free (wc := [(rA 3 2, .inl (cI, 4500, .inl ((σ_26 3).2.1 2)))]) (hDD σ_26) hS hA [1] rfl
            refine g_ofv (wc := [(rA 3 2, .inl (cI, 4500, .inl ((σ_26 3).2.1 2)))]) (wr := (((b_m cB cC cI cJ cZ oA rA σ_26 ++ b_w cB cC cI cJ cZ oA rA σ_26 ++ b_s cB cC cI cJ cZ oA rA σ_26 ++ b_c cB cC cI cJ cZ oA rA σ_26 ++ b_t cB cC cI cJ cZ oA rA σ_26 ++ b_d cB cC cI cJ cZ oA rA σ_26)).eraseIdx 1)) hP (hDD σ_26) hS hFc [1] [0, 2, 3, 4, 5, 6, 7, 8, 9, 10, 11, 12, 13, 14, 15, 16, 17, 18, 19, 20, 21, 22, 23, 24, 25, 26, 27, 28, 29, 30, 31, 32, 33, 34, 35, 36, 37, 38, 39, 40, 41, 42, 43, 44, 45, 46] rfl rfl (by decide +kernel) (by decide +kernel) (va_runSN (As := [.ref (rA 3 2), .int u_24.1, .int x_44]) (rest := []) ⟨hx, hb, hml, hown, hts⟩ (c_X11_put l dC dI cB cC cI cJ cZ cP H.size (rA 3 2) u_24.1 x_44 4500 ((σ_26 3).2.1 2) (by decide)) ⟨va_cnB 3 hts (g_gA wq_412) rfl rfl rfl (hN.at 23 rfl) (hts (.initialized RX11) wq_1) (by decide +kernel) ⟨Nat.le_of_ble_eq_true rfl, Nat.le_of_ble_eq_true rfl⟩, (hts (.static yX11_put) wq_411), trivial⟩ (g_preS g_bl0 hK hPc hDc hS hE hFc g_to0) rfl rfl hl.1 rfl (lv_room (Nat.le_of_ble_eq_true rfl)) dX4_gatherItems_173 ⟨Nat.le_of_ble_eq_true rfl, Nat.le_of_ble_eq_true rfl⟩) (fun g9 H locs hw9 hP' hD' hS => ?_)
            clear hPc hDc hFc hD'
            obtain ⟨σ_46, eσ_46, hF_47⟩ := bnd_e hF_45
            clear hF_45
            subst hw9
            have hP : va_P (dC, dI) vwCl (b_m cB cC cI cJ cZ oA rA σ_46 ++ b_w cB cC cI cJ cZ oA rA σ_46 ++ b_s cB cC cI cJ cZ oA rA σ_46 ++ b_c cB cC cI cJ cZ oA rA σ_46 ++ b_t cB cC cI cJ cZ oA rA σ_46 ++ b_d cB cC cI cJ cZ oA rA σ_46) H := by rw [eσ_46]; exact hP'.sub [0, 46, 1, 2, 3, 4, 5, 6, 7, 8, 9, 10, 11, 12, 13, 14, 15, 16, 17, 18, 19, 20, 21, 22, 23, 24, 25, 26, 27, 28, 29, 30, 31, 32, 33, 34, 35, 36, 37, 38, 39, 40, 41, 42, 43, 44, 45] rfl
            clear hP'
            exact Jj_29  σ_46 hF_47 _ _ hP hS ls (lv_sub hl [2, 3] rfl)
  · have hF_49 := ineg c_11 hF_10
    clear hF_10
    obtain ⟨q_50, vq_50, hRq_50, hSq_50⟩ := hE.2.2.2.2 _ (List.mem_of_getElem? (i := 20) rfl)
    refine va_ldcS (own := RX4) (tx := "look inventory wait take drop examine open close putin puton go ") hx hb hown hRq_50 dX4_gatherItems_36 ?_
    refine lv_iload_n hx hb dX4_gatherItems_38 rfl (lv_at hl 1 rfl) ?_
    obtain ⟨u_51, hu_51, hF_52⟩ := Option.bind_eq_some_iff.mp hF_49
    clear hF_49
    have hPc : va_P (dC, dI) vwCl [] H := fun k q z => by simp at z
    have hDc : va_D A [] := ⟨fun i j p q z => by simp at z, fun k q z => by simp at z⟩
    have hFc := c_nil hA hS
    refine c_cs (v := u_51.1) hA hP hS (va_runSN (As := [.ref q_50, .int s_7.1]) (rest := []) ⟨hx, hb, hml, hown, hts⟩ (k_X11_wordEnd l dC dI cB cC cI cJ cZ cP oA rA H.size q_50 _ ([108, 111, 111, 107, 32, 105, 110, 118, 101, 110, 116, 111, 114, 121, 32, 119, 97, 105, 116, 32, 116, 97, 107, 101, 32, 100, 114, 111, 112, 32, 101, 120, 97, 109, 105, 110, 101, 32, 111, 112, 101, 110, 32, 99, 108, 111, 115, 101, 32, 112, 117, 116, 105, 110, 32, 112, 117, 116, 111, 110, 32, 103, 111, 32] : List Int32) s_7.1 s_7.2.2 _ hu_51) ⟨va_cnB 2 hts (g_gA wq_355) rfl rfl rfl (hN.at 21 rfl) (hts (.initialized RX11) wq_1) (by decide +kernel) ⟨Nat.le_of_ble_eq_true rfl, Nat.le_of_ble_eq_true rfl⟩, (hts (.static yX11_wordEnd) wq_354), trivial⟩ (g_preS g_blS hK hPc hDc hS hE hFc (g_toS hSq_50 hS hFc)) rfl rfl hl.1 rfl (lv_room (Nat.le_of_ble_eq_true rfl)) dX4_gatherItems_39 ⟨Nat.le_of_ble_eq_true rfl, Nat.le_of_ble_eq_true rfl⟩) (fun H locs hP hS => ?_)
    clear hPc hDc hFc
    refine lv_istore_n (lv' := [(3, .int u_51.1), (0, .ref (oA 3)), (1, .int s_7.1), (2, .int s_7.2.1)]) hx hb dX4_gatherItems_42 rfl hl (by decide) rfl (fun ls hl => ?_)
    refine lv_aload_n hx hb dX4_gatherItems_43 rfl (lv_at hl 1 rfl) ?_
    refine va_get (D := (dC, dI)) (ci := 4) (v := .ref (oA 1)) (C := RX4) (T := TX4) (N := 18) hx hb hts ii_X4 hown hK hP 0 rfl rfl 0 (by decide) (hts (.fieldLink RX4 32 "StoryHouse$Meanings" "words" "LStoryHouse$Words;") wq_86) (fun _ h9 => h9) rfl dX4_gatherItems_44 ?_
    obtain ⟨q_53, vq_53, hRq_53, hSq_53⟩ := hE.2.2.2.2 _ (List.mem_of_getElem? (i := 20) rfl)
    refine va_ldcS (own := RX4) (tx := "look inventory wait take drop examine open close putin puton go ") hx hb hown hRq_53 dX4_gatherItems_47 ?_
    refine lv_iload_n hx hb dX4_gatherItems_49 rfl (lv_at hl 2 rfl) ?_
    refine lv_iload_n hx hb dX4_gatherItems_50 rfl (lv_at hl 0 rfl) ?_
    refine lv_bipush (v := 12) hx hb dX4_gatherItems_51 (by decide +kernel) ?_
    obtain ⟨u_54, hu_54, hF_55⟩ := Option.bind_eq_some_iff.mp hF_52
    clear hF_52
    have hPc : va_P (dC, dI) vwCl [] H := fun k q z => by simp at z
    have hDc : va_D A [] := ⟨fun i j p q z => by simp at z, fun k q z => by simp at z⟩
    have hFc := c_nil hA hS
    refine c_csl (v := u_54.1) hA hP hS (va_runSN (As := [.ref q_53, .int s_7.1, .int u_51.1, .int 12]) (rest := [.ref (oA 1)]) ⟨hx, hb, hml, hown, hts⟩ (k_X11_packed l dC dI cB cC cI cJ cZ cP oA rA H.size q_53 _ ([108, 111, 111, 107, 32, 105, 110, 118, 101, 110, 116, 111, 114, 121, 32, 119, 97, 105, 116, 32, 116, 97, 107, 101, 32, 100, 114, 111, 112, 32, 101, 120, 97, 109, 105, 110, 101, 32, 111, 112, 101, 110, 32, 99, 108, 111, 115, 101, 32, 112, 117, 116, 105, 110, 32, 112, 117, 116, 111, 110, 32, 103, 111, 32] : List Int32) s_7.1 u_51.1 12 s_7.2.2 _ hu_54) ⟨va_cnB 4 hts (g_gA wq_393) rfl rfl rfl (hN.at 22 rfl) (hts (.initialized RX11) wq_1) (by decide +kernel) ⟨Nat.le_of_ble_eq_true rfl, Nat.le_of_ble_eq_true rfl⟩, (hts (.static yX11_packed) wq_392), trivial⟩ (g_preS g_blS hK hPc hDc hS hE hFc (g_toS hSq_53 hS hFc)) rfl rfl hl.1 rfl (lv_room (Nat.le_of_ble_eq_true rfl)) dX4_gatherItems_53 ⟨Nat.le_of_ble_eq_true rfl, Nat.le_of_ble_eq_true rfl⟩) (fun H locs hP hS => ?_)
    clear hPc hDc hFc
    obtain ⟨u_56, hu_56, hF_57⟩ := Option.bind_eq_some_iff.mp hF_55
    clear hF_55
    have hPc := hP.sub (ws' := (b_w cB cC cI cJ cZ oA rA s_7.2.2)) [7, 8, 9, 10, 11, 12, 13, 14, 15] rfl
    have hDc := (hDD s_7.2.2).sub (ws' := (b_w cB cC cI cJ cZ oA rA s_7.2.2)) [7, 8, 9, 10, 11, 12, 13, 14, 15] (by decide +kernel) rfl
    have hFc := va_free (wc := (b_w cB cC cI cJ cZ oA rA s_7.2.2)) (hDD s_7.2.2) hS hA [7, 8, 9, 10, 11, 12, 13, 14, 15] rfl
    refine g_ofi (wc := (b_w cB cC cI cJ cZ oA rA s_7.2.2)) (wr := (b_m cB cC cI cJ cZ oA rA s_7.2.2 ++ b_s cB cC cI cJ cZ oA rA s_7.2.2 ++ b_c cB cC cI cJ cZ oA rA s_7.2.2 ++ b_t cB cC cI cJ cZ oA rA s_7.2.2 ++ b_d cB cC cI cJ cZ oA rA s_7.2.2)) hP (hDD s_7.2.2) hS hFc [7, 8, 9, 10, 11, 12, 13, 14, 15] [0, 1, 2, 3, 4, 5, 6, 16, 17, 18, 19, 20, 21, 22, 23, 24, 25, 26, 27, 28, 29, 30, 31, 32, 33, 34, 35, 36, 37, 38, 39, 40, 41, 42, 43, 44, 45, 46] rfl rfl (by decide +kernel) (by decide +kernel) (va_runV (As := [.long u_54.1]) (rest := []) ⟨hx, hb, hml, hown, hts⟩ (k_X10_numberOf l dC dI cB cC cI cJ cZ cP oA rA H.size  u_54.1 s_7.2.2 _ hu_56) (cwV 1 hts (g_gV wq_713 wq_402 wq_403 wq_2 wq_404) rfl rfl rfl (by decide +kernel) ⟨Nat.le_of_ble_eq_true rfl, Nat.le_of_ble_eq_true rfl⟩) (g_preV g_bl0 hK hPc hDc hS hE hFc g_to0 (q0 := 0) (ci := 10) rfl rfl) rfl rfl hl.1 rfl (lv_room (Nat.le_of_ble_eq_true rfl)) dX4_gatherItems_56 ⟨Nat.le_of_ble_eq_true rfl, Nat.le_of_ble_eq_true rfl⟩) (fun r9 u9 H locs hw9 hP' hD' hS => ?_)
    clear hPc hDc hFc
    subst hw9
    obtain ⟨σ_58, eσ_58, hF_59⟩ := bnd_e hF_57
    clear hF_57
    have hP : va_P (dC, dI) vwCl (b_m cB cC cI cJ cZ oA rA σ_58 ++ b_w cB cC cI cJ cZ oA rA σ_58 ++ b_s cB cC cI cJ cZ oA rA σ_58 ++ b_c cB cC cI cJ cZ oA rA σ_58 ++ b_t cB cC cI cJ cZ oA rA σ_58 ++ b_d cB cC cI cJ cZ oA rA σ_58) H := by rw [eσ_58]; exact hP'.sub [0, 1, 2, 3, 4, 5, 6, 38, 39, 40, 41, 42, 43, 44, 45, 46, 7, 8, 9, 10, 11, 12, 13, 14, 15, 16, 17, 18, 19, 20, 21, 22, 23, 24, 25, 26, 27, 28, 29, 30, 31, 32, 33, 34, 35, 36, 37] rfl
    clear hP' hD'
    refine lv_istore (lv' := [(4, .int u_56.1), (3, .int u_51.1), (0, .ref (oA 3)), (1, .int s_7.1), (2, .int s_7.2.1)]) hx hb dX4_gatherItems_59 hl (by decide) rfl (fun ls hl => ?_)
    refine lv_aload_n hx hb dX4_gatherItems_61 rfl (lv_at hl 2 rfl) ?_
    refine va_get (D := (dC, dI)) (ci := 4) (v := .ref (rA 3 2)) (C := RX4) (T := TX4) (N := 18) hx hb hts ii_X4 hown hK hP 0 rfl rfl 2 (by decide) (hts (.fieldLink RX4 11 "StoryHouse$Meanings" "toldAt" "[I") wq_88) (fun _ h9 => h9) rfl dX4_gatherItems_62 ?_
    refine lv_iload hx hb dX4_gatherItems_65 (lv_at hl 0 rfl) ?_
    refine lv_iconst (v := 0) hx hb dX4_gatherItems_67 (by decide +kernel) ?_
    have hPc := hP.sub (ws' := [(rA 3 2, .inl (cI, 4500, .inl ((σ_58 3).2.1 2)))]) [1] rfl
    have hDc := (hDD σ_58).sub (ws' := [(rA 3 2, .inl (cI, 4500, .inl ((σ_58 3).2.1 2)))]) [1] (by decide +kernel) rfl
    have hFc := va_free (wc := [(rA 3 2, .inl (cI, 4500, .inl ((σ_58 3).2.1 2)))]) (hDD σ_58) hS hA [1] rfl
    refine g_ofv (wc := [(rA 3 2, .inl (cI, 4500, .inl ((σ_58 3).2.1 2)))]) (wr := (((b_m cB cC cI cJ cZ oA rA σ_58 ++ b_w cB cC cI cJ cZ oA rA σ_58 ++ b_s cB cC cI cJ cZ oA rA σ_58 ++ b_c cB cC cI cJ cZ oA rA σ_58 ++ b_t cB cC cI cJ cZ oA rA σ_58 ++ b_d cB cC cI cJ cZ oA rA σ_58)).eraseIdx 1)) hP (hDD σ_58) hS hFc [1] [0, 2, 3, 4, 5, 6, 7, 8, 9, 10, 11, 12, 13, 14, 15, 16, 17, 18, 19, 20, 21, 22, 23, 24, 25, 26, 27, 28, 29, 30, 31, 32, 33, 34, 35, 36, 37, 38, 39, 40, 41, 42, 43, 44, 45, 46] rfl rfl (by decide +kernel) (by decide +kernel) (va_runSN (As := [.ref (rA 3 2), .int u_56.1, .int 0]) (rest := []) ⟨hx, hb, hml, hown, hts⟩ (c_X11_put l dC dI cB cC cI cJ cZ cP H.size (rA 3 2) u_56.1 0 4500 ((σ_58 3).2.1 2) (by decide)) ⟨va_cnB 3 hts (g_gA wq_412) rfl rfl rfl (hN.at 23 rfl) (hts (.initialized RX11) wq_1) (by decide +kernel) ⟨Nat.le_of_ble_eq_true rfl, Nat.le_of_ble_eq_true rfl⟩, (hts (.static yX11_put) wq_411), trivial⟩ (g_preS g_bl0 hK hPc hDc hS hE hFc g_to0) rfl rfl hl.1 rfl (lv_room (Nat.le_of_ble_eq_true rfl)) dX4_gatherItems_68 ⟨Nat.le_of_ble_eq_true rfl, Nat.le_of_ble_eq_true rfl⟩) (fun g9 H locs hw9 hP' hD' hS => ?_)
    clear hPc hDc hFc hD'
    obtain ⟨σ_60, eσ_60, hF_61⟩ := bnd_e hF_59
    clear hF_59
    subst hw9
    have hP : va_P (dC, dI) vwCl (b_m cB cC cI cJ cZ oA rA σ_60 ++ b_w cB cC cI cJ cZ oA rA σ_60 ++ b_s cB cC cI cJ cZ oA rA σ_60 ++ b_c cB cC cI cJ cZ oA rA σ_60 ++ b_t cB cC cI cJ cZ oA rA σ_60 ++ b_d cB cC cI cJ cZ oA rA σ_60) H := by rw [eσ_60]; exact hP'.sub [0, 46, 1, 2, 3, 4, 5, 6, 7, 8, 9, 10, 11, 12, 13, 14, 15, 16, 17, 18, 19, 20, 21, 22, 23, 24, 25, 26, 27, 28, 29, 30, 31, 32, 33, 34, 35, 36, 37, 38, 39, 40, 41, 42, 43, 44, 45] rfl
    clear hP'
    refine lv_aload_n hx hb dX4_gatherItems_71 rfl (lv_at hl 2 rfl) ?_
    refine va_get (D := (dC, dI)) (ci := 4) (v := .ref (rA 3 3)) (C := RX4) (T := TX4) (N := 18) hx hb hts ii_X4 hown hK hP 0 rfl rfl 3 (by decide) (hts (.fieldLink RX4 17 "StoryHouse$Meanings" "sorts" "[I") wq_89) (fun _ h9 => h9) rfl dX4_gatherItems_72 ?_
    refine lv_iload hx hb dX4_gatherItems_75 (lv_at hl 0 rfl) ?_
    refine lv_iconst (v := 3) hx hb dX4_gatherItems_77 (by decide +kernel) ?_
    have hPc := hP.sub (ws' := [(rA 3 3, .inl (cI, 4500, .inl ((σ_60 3).2.1 3)))]) [2] rfl
    have hDc := (hDD σ_60).sub (ws' := [(rA 3 3, .inl (cI, 4500, .inl ((σ_60 3).2.1 3)))]) [2] (by decide +kernel) rfl
    have hFc := va_free (wc := [(rA 3 3, .inl (cI, 4500, .inl ((σ_60 3).2.1 3)))]) (hDD σ_60) hS hA [2] rfl
    refine g_ofv (wc := [(rA 3 3, .inl (cI, 4500, .inl ((σ_60 3).2.1 3)))]) (wr := (((b_m cB cC cI cJ cZ oA rA σ_60 ++ b_w cB cC cI cJ cZ oA rA σ_60 ++ b_s cB cC cI cJ cZ oA rA σ_60 ++ b_c cB cC cI cJ cZ oA rA σ_60 ++ b_t cB cC cI cJ cZ oA rA σ_60 ++ b_d cB cC cI cJ cZ oA rA σ_60)).eraseIdx 2)) hP (hDD σ_60) hS hFc [2] [0, 1, 3, 4, 5, 6, 7, 8, 9, 10, 11, 12, 13, 14, 15, 16, 17, 18, 19, 20, 21, 22, 23, 24, 25, 26, 27, 28, 29, 30, 31, 32, 33, 34, 35, 36, 37, 38, 39, 40, 41, 42, 43, 44, 45, 46] rfl rfl (by decide +kernel) (by decide +kernel) (va_runSN (As := [.ref (rA 3 3), .int u_56.1, .int 3]) (rest := []) ⟨hx, hb, hml, hown, hts⟩ (c_X11_put l dC dI cB cC cI cJ cZ cP H.size (rA 3 3) u_56.1 3 4500 ((σ_60 3).2.1 3) (by decide)) ⟨va_cnB 3 hts (g_gA wq_412) rfl rfl rfl (hN.at 23 rfl) (hts (.initialized RX11) wq_1) (by decide +kernel) ⟨Nat.le_of_ble_eq_true rfl, Nat.le_of_ble_eq_true rfl⟩, (hts (.static yX11_put) wq_411), trivial⟩ (g_preS g_bl0 hK hPc hDc hS hE hFc g_to0) rfl rfl hl.1 rfl (lv_room (Nat.le_of_ble_eq_true rfl)) dX4_gatherItems_78 ⟨Nat.le_of_ble_eq_true rfl, Nat.le_of_ble_eq_true rfl⟩) (fun g9 H locs hw9 hP' hD' hS => ?_)
    clear hPc hDc hFc hD'
    obtain ⟨σ_62, eσ_62, hF_63⟩ := bnd_e hF_61
    clear hF_61
    subst hw9
    have hP : va_P (dC, dI) vwCl (b_m cB cC cI cJ cZ oA rA σ_62 ++ b_w cB cC cI cJ cZ oA rA σ_62 ++ b_s cB cC cI cJ cZ oA rA σ_62 ++ b_c cB cC cI cJ cZ oA rA σ_62 ++ b_t cB cC cI cJ cZ oA rA σ_62 ++ b_d cB cC cI cJ cZ oA rA σ_62) H := by rw [eσ_62]; exact hP'.sub [0, 1, 46, 2, 3, 4, 5, 6, 7, 8, 9, 10, 11, 12, 13, 14, 15, 16, 17, 18, 19, 20, 21, 22, 23, 24, 25, 26, 27, 28, 29, 30, 31, 32, 33, 34, 35, 36, 37, 38, 39, 40, 41, 42, 43, 44, 45] rfl
    clear hP'
    refine lv_aload_n hx hb dX4_gatherItems_81 rfl (lv_at hl 2 rfl) ?_
    refine va_get (D := (dC, dI)) (ci := 4) (v := .ref (rA 3 4)) (C := RX4) (T := TX4) (N := 18) hx hb hts ii_X4 hown hK hP 0 rfl rfl 4 (by decide) (hts (.fieldLink RX4 20 "StoryHouse$Meanings" "numbers" "[I") wq_90) (fun _ h9 => h9) rfl dX4_gatherItems_82 ?_
    refine lv_iload hx hb dX4_gatherItems_85 (lv_at hl 0 rfl) ?_
    refine lv_iload_n hx hb dX4_gatherItems_87 rfl (lv_at hl 4 rfl) ?_
    have hPc := hP.sub (ws' := [(rA 3 4, .inl (cI, 4500, .inl ((σ_62 3).2.1 4)))]) [3] rfl
    have hDc := (hDD σ_62).sub (ws' := [(rA 3 4, .inl (cI, 4500, .inl ((σ_62 3).2.1 4)))]) [3] (by decide +kernel) rfl
    have hFc := va_free (wc := [(rA 3 4, .inl (cI, 4500, .inl ((σ_62 3).2.1 4)))]) (hDD σ_62) hS hA [3] rfl
    refine g_ofv (wc := [(rA 3 4, .inl (cI, 4500, .inl ((σ_62 3).2.1 4)))]) (wr := (((b_m cB cC cI cJ cZ oA rA σ_62 ++ b_w cB cC cI cJ cZ oA rA σ_62 ++ b_s cB cC cI cJ cZ oA rA σ_62 ++ b_c cB cC cI cJ cZ oA rA σ_62 ++ b_t cB cC cI cJ cZ oA rA σ_62 ++ b_d cB cC cI cJ cZ oA rA σ_62)).eraseIdx 3)) hP (hDD σ_62) hS hFc [3] [0, 1, 2, 4, 5, 6, 7, 8, 9, 10, 11, 12, 13, 14, 15, 16, 17, 18, 19, 20, 21, 22, 23, 24, 25, 26, 27, 28, 29, 30, 31, 32, 33, 34, 35, 36, 37, 38, 39, 40, 41, 42, 43, 44, 45, 46] rfl rfl (by decide +kernel) (by decide +kernel) (va_runSN (As := [.ref (rA 3 4), .int u_56.1, .int s_7.2.1]) (rest := []) ⟨hx, hb, hml, hown, hts⟩ (c_X11_put l dC dI cB cC cI cJ cZ cP H.size (rA 3 4) u_56.1 s_7.2.1 4500 ((σ_62 3).2.1 4) (by decide)) ⟨va_cnB 3 hts (g_gA wq_412) rfl rfl rfl (hN.at 23 rfl) (hts (.initialized RX11) wq_1) (by decide +kernel) ⟨Nat.le_of_ble_eq_true rfl, Nat.le_of_ble_eq_true rfl⟩, (hts (.static yX11_put) wq_411), trivial⟩ (g_preS g_bl0 hK hPc hDc hS hE hFc g_to0) rfl rfl hl.1 rfl (lv_room (Nat.le_of_ble_eq_true rfl)) dX4_gatherItems_88 ⟨Nat.le_of_ble_eq_true rfl, Nat.le_of_ble_eq_true rfl⟩) (fun g9 H locs hw9 hP' hD' hS => ?_)
    clear hPc hDc hFc hD'
    obtain ⟨σ_64, eσ_64, hF_65⟩ := bnd_e hF_63
    clear hF_63
    subst hw9
    have hP : va_P (dC, dI) vwCl (b_m cB cC cI cJ cZ oA rA σ_64 ++ b_w cB cC cI cJ cZ oA rA σ_64 ++ b_s cB cC cI cJ cZ oA rA σ_64 ++ b_c cB cC cI cJ cZ oA rA σ_64 ++ b_t cB cC cI cJ cZ oA rA σ_64 ++ b_d cB cC cI cJ cZ oA rA σ_64) H := by rw [eσ_64]; exact hP'.sub [0, 1, 2, 46, 3, 4, 5, 6, 7, 8, 9, 10, 11, 12, 13, 14, 15, 16, 17, 18, 19, 20, 21, 22, 23, 24, 25, 26, 27, 28, 29, 30, 31, 32, 33, 34, 35, 36, 37, 38, 39, 40, 41, 42, 43, 44, 45] rfl
    clear hP'
    refine lv_iload_n hx hb dX4_gatherItems_91 rfl (lv_at hl 1 rfl) ?_
    refine lv_iconst (v := 1) hx hb dX4_gatherItems_92 (by decide +kernel) ?_
    refine lv_iadd hx hb dX4_gatherItems_93 ?_
    obtain ⟨x_66, ex_66, hF_67⟩ := bnd_e hF_65
    clear hF_65
    refine m_top ex_66 ?_
    refine lv_istore_n (lv' := [(1, .int x_66), (4, .int u_56.1), (3, .int u_51.1), (0, .ref (oA 3)), (2, .int s_7.2.1)]) hx hb dX4_gatherItems_94 rfl hl (by decide) rfl (fun ls hl => ?_)
    obtain ⟨x_68, ex_68, hF_69⟩ := bnd_e hF_67
    clear hF_67
    refine lv_iinc (v := x_68) (lv' := [(2, .int x_68), (1, .int x_66), (4, .int u_56.1), (3, .int u_51.1), (0, .ref (oA 3))]) hx hb dX4_gatherItems_95 hl (k := 4) rfl (by rw [ex_68]; rfl) (by decide) rfl (fun ls hl => ?_)
    refine lv_goto (tgt := 30) hx hb dX4_gatherItems_98 (by decide) ?_
    exact ih_9 (x_66, x_68, σ_64) hF_69 _ _ hP hS ls (lv_sub hl [4, 1, 0] rfl)
