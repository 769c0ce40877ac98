/-! methods of the class: what each does is its function -/
theorem dX7_clear_0 : decode cX7_clear 0 = .ok (.aload_n 0, 1) := by decide +kernel
theorem dX7_clear_1 : decode cX7_clear 1 = .ok (.getfield 9, 3) := by decide +kernel
theorem dX7_clear_4 : decode cX7_clear 4 = .ok (.iconst 0, 1) := by decide +kernel
theorem dX7_clear_5 : decode cX7_clear 5 = .ok (.invokestatic 82, 3) := by decide +kernel
theorem dX7_clear_8 : decode cX7_clear 8 = .ok (.aload_n 0, 1) := by decide +kernel
theorem dX7_clear_9 : decode cX7_clear 9 = .ok (.getfield 9, 3) := by decide +kernel
theorem dX7_clear_12 : decode cX7_clear 12 = .ok (.iconst 0, 1) := by decide +kernel
theorem dX7_clear_13 : decode cX7_clear 13 = .ok (.iconst 1, 1) := by decide +kernel
theorem dX7_clear_14 : decode cX7_clear 14 = .ok (.iastore, 1) := by decide +kernel
theorem dX7_clear_15 : decode cX7_clear 15 = .ok (.aload_n 0, 1) := by decide +kernel
theorem dX7_clear_16 : decode cX7_clear 16 = .ok (.getfield 9, 3) := by decide +kernel
theorem dX7_clear_19 : decode cX7_clear 19 = .ok (.iconst 1, 1) := by decide +kernel
theorem dX7_clear_20 : decode cX7_clear 20 = .ok (.bipush 11, 2) := by decide +kernel
theorem dX7_clear_22 : decode cX7_clear 22 = .ok (.iastore, 1) := by decide +kernel
theorem dX7_clear_23 : decode cX7_clear 23 = .ok (.aload_n 0, 1) := by decide +kernel
theorem dX7_clear_24 : decode cX7_clear 24 = .ok (.getfield 19, 3) := by decide +kernel
theorem dX7_clear_27 : decode cX7_clear 27 = .ok (.iconst (-1), 1) := by decide +kernel
theorem dX7_clear_28 : decode cX7_clear 28 = .ok (.invokestatic 82, 3) := by decide +kernel
theorem dX7_clear_31 : decode cX7_clear 31 = .ok (.aload_n 0, 1) := by decide +kernel
theorem dX7_clear_32 : decode cX7_clear 32 = .ok (.getfield 22, 3) := by decide +kernel
theorem dX7_clear_35 : decode cX7_clear 35 = .ok (.iconst (-1), 1) := by decide +kernel
theorem dX7_clear_36 : decode cX7_clear 36 = .ok (.invokestatic 82, 3) := by decide +kernel
theorem dX7_clear_39 : decode cX7_clear 39 = .ok (.aload_n 0, 1) := by decide +kernel
theorem dX7_clear_40 : decode cX7_clear 40 = .ok (.getfield 25, 3) := by decide +kernel
theorem dX7_clear_43 : decode cX7_clear 43 = .ok (.iconst 0, 1) := by decide +kernel
theorem dX7_clear_44 : decode cX7_clear 44 = .ok (.invokestatic 82, 3) := by decide +kernel
theorem dX7_clear_47 : decode cX7_clear 47 = .ok (.aload_n 0, 1) := by decide +kernel
theorem dX7_clear_48 : decode cX7_clear 48 = .ok (.getfield 28, 3) := by decide +kernel
theorem dX7_clear_51 : decode cX7_clear 51 = .ok (.iconst 0, 1) := by decide +kernel
theorem dX7_clear_52 : decode cX7_clear 52 = .ok (.invokestatic 82, 3) := by decide +kernel
theorem dX7_clear_55 : decode cX7_clear 55 = .ok (.aload_n 0, 1) := by decide +kernel
theorem dX7_clear_56 : decode cX7_clear 56 = .ok (.getfield 31, 3) := by decide +kernel
theorem dX7_clear_59 : decode cX7_clear 59 = .ok (.iconst 0, 1) := by decide +kernel
theorem dX7_clear_60 : decode cX7_clear 60 = .ok (.invokestatic 82, 3) := by decide +kernel
theorem dX7_clear_63 : decode cX7_clear 63 = .ok (.aload_n 0, 1) := by decide +kernel
theorem dX7_clear_64 : decode cX7_clear 64 = .ok (.getfield 43, 3) := by decide +kernel
theorem dX7_clear_67 : decode cX7_clear 67 = .ok (.iconst 0, 1) := by decide +kernel
theorem dX7_clear_68 : decode cX7_clear 68 = .ok (.invokestatic 82, 3) := by decide +kernel
theorem dX7_clear_71 : decode cX7_clear 71 = .ok (.iconst 0, 1) := by decide +kernel
theorem dX7_clear_72 : decode cX7_clear 72 = .ok (.istore_n 1, 1) := by decide +kernel
theorem dX7_clear_73 : decode cX7_clear 73 = .ok (.iload_n 1, 1) := by decide +kernel
theorem dX7_clear_74 : decode cX7_clear 74 = .ok (.aload_n 0, 1) := by decide +kernel
theorem dX7_clear_75 : decode cX7_clear 75 = .ok (.getfield 15, 3) := by decide +kernel
theorem dX7_clear_78 : decode cX7_clear 78 = .ok (.arraylength, 1) := by decide +kernel
theorem dX7_clear_79 : decode cX7_clear 79 = .ok (.if_icmp .ge 16, 3) := by decide +kernel
theorem dX7_clear_82 : decode cX7_clear 82 = .ok (.aload_n 0, 1) := by decide +kernel
theorem dX7_clear_83 : decode cX7_clear 83 = .ok (.getfield 15, 3) := by decide +kernel
theorem dX7_clear_86 : decode cX7_clear 86 = .ok (.iload_n 1, 1) := by decide +kernel
theorem dX7_clear_87 : decode cX7_clear 87 = .ok (.iconst 0, 1) := by decide +kernel
theorem dX7_clear_88 : decode cX7_clear 88 = .ok (.bastore, 1) := by decide +kernel
theorem dX7_clear_89 : decode cX7_clear 89 = .ok (.iinc 1 1, 3) := by decide +kernel
theorem dX7_clear_92 : decode cX7_clear 92 = .ok (.goto (-19), 3) := by decide +kernel
theorem dX7_clear_95 : decode cX7_clear 95 = .ok (.aload_n 0, 1) := by decide +kernel
theorem dX7_clear_96 : decode cX7_clear 96 = .ok (.getfield 64, 3) := by decide +kernel
theorem dX7_clear_99 : decode cX7_clear 99 = .ok (.invokevirtual 88, 3) := by decide +kernel
theorem dX7_clear_102 : decode cX7_clear 102 = .ok (.aload_n 0, 1) := by decide +kernel
theorem dX7_clear_103 : decode cX7_clear 103 = .ok (.getfield 71, 3) := by decide +kernel
theorem dX7_clear_106 : decode cX7_clear 106 = .ok (.invokevirtual 91, 3) := by decide +kernel
theorem dX7_clear_109 : decode cX7_clear 109 = .ok (.aload_n 0, 1) := by decide +kernel
theorem dX7_clear_110 : decode cX7_clear 110 = .ok (.getfield 78, 3) := by decide +kernel
theorem dX7_clear_113 : decode cX7_clear 113 = .ok (.invokevirtual 92, 3) := by decide +kernel
theorem dX7_clear_116 : decode cX7_clear 116 = .ok (.aload_n 0, 1) := by decide +kernel
theorem dX7_clear_117 : decode cX7_clear 117 = .ok (.iconst 0, 1) := by decide +kernel
theorem dX7_clear_118 : decode cX7_clear 118 = .ok (.ldc 93, 2) := by decide +kernel
theorem dX7_clear_120 : decode cX7_clear 120 = .ok (.invokevirtual 95, 3) := by decide +kernel
theorem dX7_clear_123 : decode cX7_clear 123 = .ok (.aload_n 0, 1) := by decide +kernel
theorem dX7_clear_124 : decode cX7_clear 124 = .ok (.iconst 1, 1) := by decide +kernel
theorem dX7_clear_125 : decode cX7_clear 125 = .ok (.ldc 99, 2) := by decide +kernel
theorem dX7_clear_127 : decode cX7_clear 127 = .ok (.iconst 0, 1) := by decide +kernel
theorem dX7_clear_128 : decode cX7_clear 128 = .ok (.iconst 2, 1) := by decide +kernel
theorem dX7_clear_129 : decode cX7_clear 129 = .ok (.bipush 9, 2) := by decide +kernel
theorem dX7_clear_131 : decode cX7_clear 131 = .ok (.invokestatic 101, 3) := by decide +kernel
theorem dX7_clear_134 : decode cX7_clear 134 = .ok (.invokevirtual 105, 3) := by decide +kernel
theorem dX7_clear_137 : decode cX7_clear 137 = .ok (.aload_n 0, 1) := by decide +kernel
theorem dX7_clear_138 : decode cX7_clear 138 = .ok (.iconst 1, 1) := by decide +kernel
theorem dX7_clear_139 : decode cX7_clear 139 = .ok (.iconst 0, 1) := by decide +kernel
theorem dX7_clear_140 : decode cX7_clear 140 = .ok (.ldc 109, 2) := by decide +kernel
theorem dX7_clear_142 : decode cX7_clear 142 = .ok (.invokevirtual 111, 3) := by decide +kernel
theorem dX7_clear_145 : decode cX7_clear 145 = .ok (.aload_n 0, 1) := by decide +kernel
theorem dX7_clear_146 : decode cX7_clear 146 = .ok (.iconst 2, 1) := by decide +kernel
theorem dX7_clear_147 : decode cX7_clear 147 = .ok (.iconst 0, 1) := by decide +kernel
theorem dX7_clear_148 : decode cX7_clear 148 = .ok (.ldc 115, 2) := by decide +kernel
theorem dX7_clear_150 : decode cX7_clear 150 = .ok (.invokevirtual 111, 3) := by decide +kernel
theorem dX7_clear_153 : decode cX7_clear 153 = .ok (.aload_n 0, 1) := by decide +kernel
theorem dX7_clear_154 : decode cX7_clear 154 = .ok (.iconst 3, 1) := by decide +kernel
theorem dX7_clear_155 : decode cX7_clear 155 = .ok (.iconst 0, 1) := by decide +kernel
theorem dX7_clear_156 : decode cX7_clear 156 = .ok (.ldc 117, 2) := by decide +kernel
theorem dX7_clear_158 : decode cX7_clear 158 = .ok (.invokevirtual 111, 3) := by decide +kernel
theorem dX7_clear_161 : decode cX7_clear 161 = .ok (.aload_n 0, 1) := by decide +kernel
theorem dX7_clear_162 : decode cX7_clear 162 = .ok (.iconst 4, 1) := by decide +kernel
theorem dX7_clear_163 : decode cX7_clear 163 = .ok (.iconst 1, 1) := by decide +kernel
theorem dX7_clear_164 : decode cX7_clear 164 = .ok (.ldc 119, 2) := by decide +kernel
theorem dX7_clear_166 : decode cX7_clear 166 = .ok (.invokevirtual 111, 3) := by decide +kernel
theorem dX7_clear_169 : decode cX7_clear 169 = .ok (.aload_n 0, 1) := by decide +kernel
theorem dX7_clear_170 : decode cX7_clear 170 = .ok (.iconst 5, 1) := by decide +kernel
theorem dX7_clear_171 : decode cX7_clear 171 = .ok (.iconst 1, 1) := by decide +kernel
theorem dX7_clear_172 : decode cX7_clear 172 = .ok (.ldc 121, 2) := by decide +kernel
theorem dX7_clear_174 : decode cX7_clear 174 = .ok (.invokevirtual 111, 3) := by decide +kernel
theorem dX7_clear_177 : decode cX7_clear 177 = .ok (.aload_n 0, 1) := by decide +kernel
theorem dX7_clear_178 : decode cX7_clear 178 = .ok (.bipush 6, 2) := by decide +kernel
theorem dX7_clear_180 : decode cX7_clear 180 = .ok (.iconst 1, 1) := by decide +kernel
theorem dX7_clear_181 : decode cX7_clear 181 = .ok (.ldc 123, 2) := by decide +kernel
theorem dX7_clear_183 : decode cX7_clear 183 = .ok (.invokevirtual 111, 3) := by decide +kernel
theorem dX7_clear_186 : decode cX7_clear 186 = .ok (.aload_n 0, 1) := by decide +kernel
theorem dX7_clear_187 : decode cX7_clear 187 = .ok (.bipush 7, 2) := by decide +kernel
theorem dX7_clear_189 : decode cX7_clear 189 = .ok (.iconst 1, 1) := by decide +kernel
theorem dX7_clear_190 : decode cX7_clear 190 = .ok (.ldc 125, 2) := by decide +kernel
theorem dX7_clear_192 : decode cX7_clear 192 = .ok (.invokevirtual 111, 3) := by decide +kernel
theorem dX7_clear_195 : decode cX7_clear 195 = .ok (.aload_n 0, 1) := by decide +kernel
theorem dX7_clear_196 : decode cX7_clear 196 = .ok (.bipush 8, 2) := by decide +kernel
theorem dX7_clear_198 : decode cX7_clear 198 = .ok (.iconst 1, 1) := by decide +kernel
theorem dX7_clear_199 : decode cX7_clear 199 = .ok (.ldc 127, 2) := by decide +kernel
theorem dX7_clear_201 : decode cX7_clear 201 = .ok (.invokevirtual 111, 3) := by decide +kernel
theorem dX7_clear_204 : decode cX7_clear 204 = .ok (.aload_n 0, 1) := by decide +kernel
theorem dX7_clear_205 : decode cX7_clear 205 = .ok (.bipush 9, 2) := by decide +kernel
theorem dX7_clear_207 : decode cX7_clear 207 = .ok (.iconst 2, 1) := by decide +kernel
theorem dX7_clear_208 : decode cX7_clear 208 = .ok (.ldc 129, 2) := by decide +kernel
theorem dX7_clear_210 : decode cX7_clear 210 = .ok (.invokevirtual 111, 3) := by decide +kernel
theorem dX7_clear_213 : decode cX7_clear 213 = .ok (.aload_n 0, 1) := by decide +kernel
theorem dX7_clear_214 : decode cX7_clear 214 = .ok (.bipush 10, 2) := by decide +kernel
theorem dX7_clear_216 : decode cX7_clear 216 = .ok (.iconst 2, 1) := by decide +kernel
theorem dX7_clear_217 : decode cX7_clear 217 = .ok (.ldc 129, 2) := by decide +kernel
theorem dX7_clear_219 : decode cX7_clear 219 = .ok (.invokevirtual 111, 3) := by decide +kernel
theorem dX7_clear_222 : decode cX7_clear 222 = .ok (.aload_n 0, 1) := by decide +kernel
theorem dX7_clear_223 : decode cX7_clear 223 = .ok (.getfield 37, 3) := by decide +kernel
theorem dX7_clear_226 : decode cX7_clear 226 = .ok (.bipush 9, 2) := by decide +kernel
theorem dX7_clear_228 : decode cX7_clear 228 = .ok (.aload_n 0, 1) := by decide +kernel
theorem dX7_clear_229 : decode cX7_clear 229 = .ok (.getfield 78, 3) := by decide +kernel
theorem dX7_clear_232 : decode cX7_clear 232 = .ok (.ldc 131, 2) := by decide +kernel
theorem dX7_clear_234 : decode cX7_clear 234 = .ok (.iconst 0, 1) := by decide +kernel
theorem dX7_clear_235 : decode cX7_clear 235 = .ok (.iconst 2, 1) := by decide +kernel
theorem dX7_clear_236 : decode cX7_clear 236 = .ok (.bipush 9, 2) := by decide +kernel
theorem dX7_clear_238 : decode cX7_clear 238 = .ok (.invokestatic 101, 3) := by decide +kernel
theorem dX7_clear_241 : decode cX7_clear 241 = .ok (.invokevirtual 133, 3) := by decide +kernel
theorem dX7_clear_244 : decode cX7_clear 244 = .ok (.iastore, 1) := by decide +kernel
theorem dX7_clear_245 : decode cX7_clear 245 = .ok (.aload_n 0, 1) := by decide +kernel
theorem dX7_clear_246 : decode cX7_clear 246 = .ok (.getfield 37, 3) := by decide +kernel
theorem dX7_clear_249 : decode cX7_clear 249 = .ok (.bipush 10, 2) := by decide +kernel
theorem dX7_clear_251 : decode cX7_clear 251 = .ok (.aload_n 0, 1) := by decide +kernel
theorem dX7_clear_252 : decode cX7_clear 252 = .ok (.getfield 78, 3) := by decide +kernel
theorem dX7_clear_255 : decode cX7_clear 255 = .ok (.ldc 137, 2) := by decide +kernel
theorem dX7_clear_257 : decode cX7_clear 257 = .ok (.iconst 0, 1) := by decide +kernel
theorem dX7_clear_258 : decode cX7_clear 258 = .ok (.iconst 2, 1) := by decide +kernel
theorem dX7_clear_259 : decode cX7_clear 259 = .ok (.bipush 9, 2) := by decide +kernel
theorem dX7_clear_261 : decode cX7_clear 261 = .ok (.invokestatic 101, 3) := by decide +kernel
theorem dX7_clear_264 : decode cX7_clear 264 = .ok (.invokevirtual 133, 3) := by decide +kernel
theorem dX7_clear_267 : decode cX7_clear 267 = .ok (.iastore, 1) := by decide +kernel
theorem dX7_clear_268 : decode cX7_clear 268 = .ok (.aload_n 0, 1) := by decide +kernel
theorem dX7_clear_269 : decode cX7_clear 269 = .ok (.bipush 11, 2) := by decide +kernel
theorem dX7_clear_271 : decode cX7_clear 271 = .ok (.iconst 1, 1) := by decide +kernel
theorem dX7_clear_272 : decode cX7_clear 272 = .ok (.ldc 139, 2) := by decide +kernel
theorem dX7_clear_274 : decode cX7_clear 274 = .ok (.invokevirtual 111, 3) := by decide +kernel
theorem dX7_clear_277 : decode cX7_clear 277 = .ok (.return_, 1) := by decide +kernel
def F_X7_clear  (Γ : HS) : HR :=
  bnd (cA' Γ 4 0 (g_fill 7 ((Γ 4).2.1 0) 0)) fun σ_1 =>
  bnd (cA' σ_1 4 0 (upd ((σ_1 4).2.1 0) (0 : Int32).toNatClampNeg 1)) fun σ_3 =>
  bnd (cA' σ_3 4 0 (upd ((σ_3 4).2.1 0) (1 : Int32).toNatClampNeg 11)) fun σ_5 =>
  bnd (cA' σ_5 4 2 (g_fill 121 ((σ_5 4).2.1 2) (-1))) fun σ_7 =>
  bnd (cA' σ_7 4 3 (g_fill 121 ((σ_7 4).2.1 3) (-1))) fun σ_9 =>
  bnd (cA' σ_9 4 4 (g_fill 121 ((σ_9 4).2.1 4) 0)) fun σ_11 =>
  bnd (cA' σ_11 4 5 (g_fill 121 ((σ_11 4).2.1 5) 0)) fun σ_13 =>
  bnd (cA' σ_13 4 6 (g_fill 726 ((σ_13 4).2.1 6) 0)) fun σ_15 =>
  bnd (cA' σ_15 4 10 (g_fill 181 ((σ_15 4).2.1 10) 0)) fun σ_17 =>
  loopF (fun (again_20 : (Int32 × HS) → HR) (s_19 : Int32 × HS) => (
    if 121 ≤ s_19.1 then (
      (F_X0_wipe s_19.2).bind fun u_25 =>
      bnd (mrg (fun j => j == 5) s_19.2 u_25.2) fun σ_27 =>
      (F_X9_wipe σ_27).bind fun u_29 =>
      bnd (mrg (fun j => j == 6) σ_27 u_29.2) fun σ_31 =>
      (F_X1_wipe σ_31).bind fun u_33 =>
      bnd (mrg (fun j => j == 7) σ_31 u_33.2) fun σ_35 =>
      (F_X7_learnOwned 0 ([97, 103, 97, 105, 110, 32, 103, 32, 105, 116, 32, 97, 108, 108, 32, 116, 104, 101, 32, 97, 32, 97, 110, 32, 109, 101, 32, 103, 111, 32, 110, 111, 114, 116, 104, 32, 115, 111, 117, 116, 104, 32, 101, 97, 115, 116, 32, 119, 101, 115, 116, 32, 117, 112, 32, 100, 111, 119, 110, 32, 110, 32, 115, 32, 101, 32, 119, 32, 117, 32, 100, 32] : List Int32) σ_35).bind fun u_38 =>
      (F_X11_packed ([109, 101] : List Int32) 0 2 9 u_38.2).bind fun u_41 =>
      (F_X7_addWord 1 u_41.1 u_38.2).bind fun u_43 =>
      (F_X7_addVerb 1 0 ([108, 111, 111, 107, 32, 108, 32] : List Int32) u_43.2).bind fun u_46 =>
      (F_X7_addVerb 2 0 ([105, 110, 118, 101, 110, 116, 111, 114, 121, 32, 105, 32] : List Int32) u_46.2).bind fun u_49 =>
      (F_X7_addVerb 3 0 ([119, 97, 105, 116, 32, 122, 32] : List Int32) u_49.2).bind fun u_52 =>
      (F_X7_addVerb 4 1 ([116, 97, 107, 101, 32, 103, 101, 116, 32] : List Int32) u_52.2).bind fun u_55 =>
      (F_X7_addVerb 5 1 ([100, 114, 111, 112, 32] : List Int32) u_55.2).bind fun u_58 =>
      (F_X7_addVerb 6 1 ([101, 120, 97, 109, 105, 110, 101, 32, 120, 32] : List Int32) u_58.2).bind fun u_61 =>
      (F_X7_addVerb 7 1 ([111, 112, 101, 110, 32] : List Int32) u_61.2).bind fun u_64 =>
      (F_X7_addVerb 8 1 ([99, 108, 111, 115, 101, 32] : List Int32) u_64.2).bind fun u_67 =>
      (F_X7_addVerb 9 2 ([112, 117, 116, 32] : List Int32) u_67.2).bind fun u_70 =>
      (F_X7_addVerb 10 2 ([112, 117, 116, 32] : List Int32) u_70.2).bind fun u_73 =>
      (F_X11_packed ([105, 110] : List Int32) 0 2 9 u_73.2).bind fun u_76 =>
      (F_X1_learn u_76.1 u_73.2).bind fun u_78 =>
      bnd (mrg (fun j => j == 7) u_73.2 u_78.2) fun σ_80 =>
      bnd (cA' σ_80 4 8 (upd ((σ_80 4).2.1 8) (9 : Int32).toNatClampNeg u_78.1)) fun σ_82 =>
      (F_X11_packed ([111, 110] : List Int32) 0 2 9 σ_82).bind fun u_85 =>
      (F_X1_learn u_85.1 σ_82).bind fun u_87 =>
      bnd (mrg (fun j => j == 7) σ_82 u_87.2) fun σ_89 =>
      bnd (cA' σ_89 4 8 (upd ((σ_89 4).2.1 8) (10 : Int32).toNatClampNeg u_87.1)) fun σ_91 =>
      (F_X7_addVerb 11 1 ([] : List Int32) σ_91).bind fun u_94 =>
      some (0, u_94.2)
    ) else (
      if s_19.1 < 0 ∨ 121 ≤ s_19.1.toNatClampNeg then none else
      bnd (cA' s_19.2 4 1 (upd ((s_19.2 4).2.1 1) s_19.1.toNatClampNeg (vp_nar .boolean 0))) fun σ_99 =>
      bnd (s_19.1 + 1) fun (x_101 : Int32) =>
      again_20 (x_101, σ_99)
    )
  )) FU (0, σ_17)
set_option maxHeartbeats 4000000 in
set_option maxRecDepth 100000 in
theorem k_X7_clear (l : Launch) (dC : Nat → ClassId) (dI : Nat → Nat → Nat) (cB cC cI cJ cZ cP : ClassId) (oA : Nat → Nat) (rA : Nat → Nat → Nat) (sz : Nat)   (Γ : HS) (res : Int32 × HS) (hF : F_X7_clear  Γ = some res) : Met l yX7_clear (g_ws yX7_clear cX7_clear 2 none) ({ frames := 8, cells := 0, slots := 0, locals := 201 }) (va_Pc [.ref (oA 4)] (g_B (dC, dI) [(cB, .byte), (cC, .char), (cI, .int), (cJ, .long), (cZ, .boolean), (cP, .object "StoryHouse$Play")] sz (b_s cB cC cI cJ cZ oA rA Γ ++ b_c cB cC cI cJ cZ oA rA Γ ++ b_t cB cC cI cJ cZ oA rA Γ ++ b_d cB cC cI cJ cZ oA rA Γ) g_0)) (va_Qv (fun (_ : Unit) => True) (g_Bo (dC, dI) (va_A (b_s cB cC cI cJ cZ oA rA Γ ++ b_c cB cC cI cJ cZ oA rA Γ ++ b_t cB cC cI cJ cZ oA rA Γ ++ b_d cB cC cI cJ cZ oA rA Γ) sz) (fun (_ : Unit) => (b_s cB cC cI cJ cZ oA rA res.2 ++ b_c cB cC cI cJ cZ oA rA res.2 ++ b_t cB cC cI cJ cZ oA rA res.2 ++ b_d cB cC cI cJ cZ oA rA res.2))) (va_A (b_s cB cC cI cJ cZ oA rA Γ ++ b_c cB cC cI cJ cZ oA rA Γ ++ b_t cB cC cI cJ cZ oA rA Γ ++ b_d cB cC cI cJ cZ oA rA Γ) sz)) 0 0 (va_A (b_s cB cC cI cJ cZ oA rA Γ ++ b_c cB cC cI cJ cZ oA rA Γ ++ b_t cB cC cI cJ cZ oA rA Γ ++ b_d cB cC cI cJ cZ oA rA Γ) sz) := by
  refine Met.ofW (cc := cX7_clear) (maxL := 2) (ret := none) (by decide) rfl ?_
  intro p e s m args below meth c s₁ B hml hv
  obtain ⟨rfl, hsz, hP, hK, hD0, hE, hX⟩ := hv
  have hx := B.exec
  have hb := B.bytes
  have hr := B.returns
  have hts0 := atoms_spec (ws := g_ws yX7_clear cX7_clear 2 none) B.pre
  have hts : ∀ w ∈ lw_good, w.before ([.ref (oA 4)] : List Value).toArray s = true := fun w z => hts0 w (List.mem_cons_of_mem _ z)
  have hown : s.vm.findClass RX7 = some m.cls := findClass_of_methodNamed B.named
  have hlocks := B.notSynchronized
  subst hsz
  have hD1 := hD0.self (sz := s.heap.size)
  generalize hAe : va_A (b_s cB cC cI cJ cZ oA rA Γ ++ b_c cB cC cI cJ cZ oA rA Γ ++ b_t cB cC cI cJ cZ oA rA Γ ++ b_d cB cC cI cJ cZ oA rA Γ) s.heap.size = A at hD1 hE hX ⊢
  have hA : ∀ q : Nat, s.heap.size ≤ q → A q := fun q z => by rw [← hAe]; exact Or.inr z
  have hDD : ∀ Γ : HS, va_D A (b_s cB cC cI cJ cZ oA rA Γ ++ b_c cB cC cI cJ cZ oA rA Γ ++ b_t cB cC cI cJ cZ oA rA Γ ++ b_d cB cC cI cJ cZ oA rA Γ) := fun Γ9 => va_D_fst (ws := (b_s cB cC cI cJ cZ oA rA Γ ++ b_c cB cC cI cJ cZ oA rA Γ ++ b_t cB cC cI cJ cZ oA rA Γ ++ b_d cB cC cI cJ cZ oA rA Γ)) (ws' := (b_s cB cC cI cJ cZ oA rA Γ9 ++ b_c cB cC cI cJ cZ oA rA Γ9 ++ b_t cB cC cI cJ cZ oA rA Γ9 ++ b_d cB cC cI cJ cZ oA rA Γ9)) rfl hD1
  have hN := hE.1
  have hS : va_S A s.heap s.heap [] := va_S.rf
  have hl := lv_entry ([.ref (oA 4)]) (n := 2) (Nat.le_of_ble_eq_true rfl)
  rw [lg_entry_eq]
  generalize (lg_sl ([.ref (oA 4)]) ++ List.replicate (2 - (lg_sl ([.ref (oA 4)])).length) Slot.unset).toArray = ls at hl ⊢
  have hl : lv_has ls 2 [(0, .ref (oA 4))] := hl
  unfold F_X7_clear at hF
  refine lv_aload_n hx hb dX7_clear_0 rfl (lv_at hl 0 rfl) ?_
  refine va_get (D := (dC, dI)) (ci := 7) (v := .ref (rA 4 0)) (C := RX7) (T := TX7) (N := 19) hx hb hts ii_X7 hown hK hP 0 rfl rfl 0 (by decide) (hts (.fieldLink RX7 9 "StoryHouse$Story" "counts" "[I") wq_152) (fun _ h9 => h9) rfl dX7_clear_1 ?_
  refine lv_iconst (v := 0) hx hb dX7_clear_4 (by decide +kernel) ?_
  have hq9 : ((b_s cB cC cI cJ cZ oA rA Γ ++ b_c cB cC cI cJ cZ oA rA Γ ++ b_t cB cC cI cJ cZ oA rA Γ ++ b_d cB cC cI cJ cZ oA rA Γ))[1]? = some (rA 4 0, .inl (cI, 7, .inl ((Γ 4).2.1 0))) := rfl
  have hPc := hP.sub (ws' := [(rA 4 0, .inl (cI, 7, .inl ((Γ 4).2.1 0)))]) [1] (pk_fm (er_C hq9))
  have hDc := (hDD Γ).sub (ws' := [(rA 4 0, .inl (cI, 7, .inl ((Γ 4).2.1 0)))]) [1] (by decide +kernel) (er_C hq9)
  have hFc := va_free (wc := [(rA 4 0, .inl (cI, 7, .inl ((Γ 4).2.1 0)))]) (hDD Γ) hS hA [1] (er_C hq9)
  refine g_ofv (wc := [(rA 4 0, .inl (cI, 7, .inl ((Γ 4).2.1 0)))]) (wr := (((b_s cB cC cI cJ cZ oA rA Γ ++ b_c cB cC cI cJ cZ oA rA Γ ++ b_t cB cC cI cJ cZ oA rA Γ ++ b_d cB cC cI cJ cZ oA rA Γ)).eraseIdx 1)) hP (hDD Γ) hS hFc [1] ((List.range ((b_s cB cC cI cJ cZ oA rA Γ ++ b_c cB cC cI cJ cZ oA rA Γ ++ b_t cB cC cI cJ cZ oA rA Γ ++ b_d cB cC cI cJ cZ oA rA Γ)).length).eraseIdx 1) (er_C hq9) er_R er_n er_d (va_runS (As := [.ref (rA 4 0), .int 0]) (rest := []) ⟨hx, hb, hml, hown, hts⟩ (c_fill l dC dI cB cC cI cJ cZ cP s.heap.size (rA 4 0) 0 7 ((Γ 4).2.1 0) (by decide)) (va_cwS 2 hts (g_gS wq_503 wq_340 wq_21 wq_341) rfl rfl rfl (by decide +kernel) ⟨Nat.le_of_ble_eq_true rfl, Nat.le_of_ble_eq_true rfl⟩) (g_preS g_bl0 hK hPc hDc hS hE hFc g_to0) rfl rfl hl.1 rfl (lv_room (Nat.le_of_ble_eq_true rfl)) dX7_clear_5 ⟨Nat.le_of_ble_eq_true rfl, Nat.le_of_ble_eq_true rfl⟩) (fun g9 H locs hw9 hP' hD' hS => ?_)
  clear hPc hDc hFc hD'
  obtain ⟨σ_1, eσ_1, hF_2⟩ := bnd_e hF
  clear hF
  subst hw9
  have hP : va_P (dC, dI) vwCl (b_s cB cC cI cJ cZ oA rA σ_1 ++ b_c cB cC cI cJ cZ oA rA σ_1 ++ b_t cB cC cI cJ cZ oA rA σ_1 ++ b_d cB cC cI cJ cZ oA rA σ_1) H := by rw [eσ_1]; exact cs_sctd_s_0 ▸ er_P hP' (er_lt hq9)
  clear hP' hq9
  refine lv_aload_n hx hb dX7_clear_8 rfl (lv_at hl 0 rfl) ?_
  refine va_get (D := (dC, dI)) (ci := 7) (v := .ref (rA 4 0)) (C := RX7) (T := TX7) (N := 19) hx hb hts ii_X7 hown hK hP 0 rfl rfl 0 (by decide) (hts (.fieldLink RX7 9 "StoryHouse$Story" "counts" "[I") wq_152) (fun _ h9 => h9) rfl dX7_clear_9 ?_
  refine lv_iconst (v := 0) hx hb dX7_clear_12 (by decide +kernel) ?_
  refine lv_iconst (v := 1) hx hb dX7_clear_13 (by decide +kernel) ?_
  obtain ⟨σ_3, eσ_3, hF_4⟩ := bnd_e hF_2
  clear hF_2
  refine va_iast (f := (σ_1 4).2.1 0) hx hb hK hP (hDD _) hS 1 2 rfl rfl (vp_in_iff.mpr (by decide +kernel)) dX7_clear_14 (fun H locs hP' _ hS => ?_)
  have hP : va_P (dC, dI) vwCl (b_s cB cC cI cJ cZ oA rA σ_3 ++ b_c cB cC cI cJ cZ oA rA σ_3 ++ b_t cB cC cI cJ cZ oA rA σ_3 ++ b_d cB cC cI cJ cZ oA rA σ_3) H := by rw [eσ_3]; exact cs_sctd_s_0 ▸ hP'
  clear hP'
  refine lv_aload_n hx hb dX7_clear_15 rfl (lv_at hl 0 rfl) ?_
  refine va_get (D := (dC, dI)) (ci := 7) (v := .ref (rA 4 0)) (C := RX7) (T := TX7) (N := 19) hx hb hts ii_X7 hown hK hP 0 rfl rfl 0 (by decide) (hts (.fieldLink RX7 9 "StoryHouse$Story" "counts" "[I") wq_152) (fun _ h9 => h9) rfl dX7_clear_16 ?_
  refine lv_iconst (v := 1) hx hb dX7_clear_19 (by decide +kernel) ?_
  refine lv_bipush (v := 11) hx hb dX7_clear_20 (by decide +kernel) ?_
  obtain ⟨σ_5, eσ_5, hF_6⟩ := bnd_e hF_4
  clear hF_4
  refine va_iast (f := (σ_3 4).2.1 0) hx hb hK hP (hDD _) hS 1 2 rfl rfl (vp_in_iff.mpr (by decide +kernel)) dX7_clear_22 (fun H locs hP' _ hS => ?_)
  have hP : va_P (dC, dI) vwCl (b_s cB cC cI cJ cZ oA rA σ_5 ++ b_c cB cC cI cJ cZ oA rA σ_5 ++ b_t cB cC cI cJ cZ oA rA σ_5 ++ b_d cB cC cI cJ cZ oA rA σ_5) H := by rw [eσ_5]; exact cs_sctd_s_0 ▸ hP'
  clear hP'
  refine lv_aload_n hx hb dX7_clear_23 rfl (lv_at hl 0 rfl) ?_
  refine va_get (D := (dC, dI)) (ci := 7) (v := .ref (rA 4 2)) (C := RX7) (T := TX7) (N := 19) hx hb hts ii_X7 hown hK hP 0 rfl rfl 2 (by decide) (hts (.fieldLink RX7 19 "StoryHouse$Story" "called" "[I") wq_157) (fun _ h9 => h9) rfl dX7_clear_24 ?_
  refine lv_iconst (v := (-1)) hx hb dX7_clear_27 (by decide +kernel) ?_
  have hq9 : ((b_s cB cC cI cJ cZ oA rA σ_5 ++ b_c cB cC cI cJ cZ oA rA σ_5 ++ b_t cB cC cI cJ cZ oA rA σ_5 ++ b_d cB cC cI cJ cZ oA rA σ_5))[3]? = some (rA 4 2, .inl (cI, 121, .inl ((σ_5 4).2.1 2))) := rfl
  have hPc := hP.sub (ws' := [(rA 4 2, .inl (cI, 121, .inl ((σ_5 4).2.1 2)))]) [3] (pk_fm (er_C hq9))
  have hDc := (hDD σ_5).sub (ws' := [(rA 4 2, .inl (cI, 121, .inl ((σ_5 4).2.1 2)))]) [3] (by decide +kernel) (er_C hq9)
  have hFc := va_free (wc := [(rA 4 2, .inl (cI, 121, .inl ((σ_5 4).2.1 2)))]) (hDD σ_5) hS hA [3] (er_C hq9)
  refine g_ofv (wc := [(rA 4 2, .inl (cI, 121, .inl ((σ_5 4).2.1 2)))]) (wr := (((b_s cB cC cI cJ cZ oA rA σ_5 ++ b_c cB cC cI cJ cZ oA rA σ_5 ++ b_t cB cC cI cJ cZ oA rA σ_5 ++ b_d cB cC cI cJ cZ oA rA σ_5)).eraseIdx 3)) hP (hDD σ_5) hS hFc [3] ((List.range ((b_s cB cC cI cJ cZ oA rA σ_5 ++ b_c cB cC cI cJ cZ oA rA σ_5 ++ b_t cB cC cI cJ cZ oA rA σ_5 ++ b_d cB cC cI cJ cZ oA rA σ_5)).length).eraseIdx 3) (er_C hq9) er_R er_n er_d (va_runS (As := [.ref (rA 4 2), .int (-1)]) (rest := []) ⟨hx, hb, hml, hown, hts⟩ (c_fill l dC dI cB cC cI cJ cZ cP H.size (rA 4 2) (-1) 121 ((σ_5 4).2.1 2) (by decide)) (va_cwS 2 hts (g_gS wq_503 wq_340 wq_21 wq_341) rfl rfl rfl (by decide +kernel) ⟨Nat.le_of_ble_eq_true rfl, Nat.le_of_ble_eq_true rfl⟩) (g_preS g_bl0 hK hPc hDc hS hE hFc g_to0) rfl rfl hl.1 rfl (lv_room (Nat.le_of_ble_eq_true rfl)) dX7_clear_28 ⟨Nat.le_of_ble_eq_true rfl, Nat.le_of_ble_eq_true rfl⟩) (fun g9 H locs hw9 hP' hD' hS => ?_)
  clear hPc hDc hFc hD'
  obtain ⟨σ_7, eσ_7, hF_8⟩ := bnd_e hF_6
  clear hF_6
  subst hw9
  have hP : va_P (dC, dI) vwCl (b_s cB cC cI cJ cZ oA rA σ_7 ++ b_c cB cC cI cJ cZ oA rA σ_7 ++ b_t cB cC cI cJ cZ oA rA σ_7 ++ b_d cB cC cI cJ cZ oA rA σ_7) H := by rw [eσ_7]; exact cs_sctd_s_2 ▸ er_P hP' (er_lt hq9)
  clear hP' hq9
  refine lv_aload_n hx hb dX7_clear_31 rfl (lv_at hl 0 rfl) ?_
  refine va_get (D := (dC, dI)) (ci := 7) (v := .ref (rA 4 3)) (C := RX7) (T := TX7) (N := 19) hx hb hts ii_X7 hown hK hP 0 rfl rfl 3 (by decide) (hts (.fieldLink RX7 22 "StoryHouse$Story" "described" "[I") wq_159) (fun _ h9 => h9) rfl dX7_clear_32 ?_
  refine lv_iconst (v := (-1)) hx hb dX7_clear_35 (by decide +kernel) ?_
  have hq9 : ((b_s cB cC cI cJ cZ oA rA σ_7 ++ b_c cB cC cI cJ cZ oA rA σ_7 ++ b_t cB cC cI cJ cZ oA rA σ_7 ++ b_d cB cC cI cJ cZ oA rA σ_7))[4]? = some (rA 4 3, .inl (cI, 121, .inl ((σ_7 4).2.1 3))) := rfl
  have hPc := hP.sub (ws' := [(rA 4 3, .inl (cI, 121, .inl ((σ_7 4).2.1 3)))]) [4] (pk_fm (er_C hq9))
  have hDc := (hDD σ_7).sub (ws' := [(rA 4 3, .inl (cI, 121, .inl ((σ_7 4).2.1 3)))]) [4] (by decide +kernel) (er_C hq9)
  have hFc := va_free (wc := [(rA 4 3, .inl (cI, 121, .inl ((σ_7 4).2.1 3)))]) (hDD σ_7) hS hA [4] (er_C hq9)
  refine g_ofv (wc := [(rA 4 3, .inl (cI, 121, .inl ((σ_7 4).2.1 3)))]) (wr := (((b_s cB cC cI cJ cZ oA rA σ_7 ++ b_c cB cC cI cJ cZ oA rA σ_7 ++ b_t cB cC cI cJ cZ oA rA σ_7 ++ b_d cB cC cI cJ cZ oA rA σ_7)).eraseIdx 4)) hP (hDD σ_7) hS hFc [4] ((List.range ((b_s cB cC cI cJ cZ oA rA σ_7 ++ b_c cB cC cI cJ cZ oA rA σ_7 ++ b_t cB cC cI cJ cZ oA rA σ_7 ++ b_d cB cC cI cJ cZ oA rA σ_7)).length).eraseIdx 4) (er_C hq9) er_R er_n er_d (va_runS (As := [.ref (rA 4 3), .int (-1)]) (rest := []) ⟨hx, hb, hml, hown, hts⟩ (c_fill l dC dI cB cC cI cJ cZ cP H.size (rA 4 3) (-1) 121 ((σ_7 4).2.1 3) (by decide)) (va_cwS 2 hts (g_gS wq_503 wq_340 wq_21 wq_341) rfl rfl rfl (by decide +kernel) ⟨Nat.le_of_ble_eq_true rfl, Nat.le_of_ble_eq_true rfl⟩) (g_preS g_bl0 hK hPc hDc hS hE hFc g_to0) rfl rfl hl.1 rfl (lv_room (Nat.le_of_ble_eq_true rfl)) dX7_clear_36 ⟨Nat.le_of_ble_eq_true rfl, Nat.le_of_ble_eq_true rfl⟩) (fun g9 H locs hw9 hP' hD' hS => ?_)
  clear hPc hDc hFc hD'
  obtain ⟨σ_9, eσ_9, hF_10⟩ := bnd_e hF_8
  clear hF_8
  subst hw9
  have hP : va_P (dC, dI) vwCl (b_s cB cC cI cJ cZ oA rA σ_9 ++ b_c cB cC cI cJ cZ oA rA σ_9 ++ b_t cB cC cI cJ cZ oA rA σ_9 ++ b_d cB cC cI cJ cZ oA rA σ_9) H := by rw [eσ_9]; exact cs_sctd_s_3 ▸ er_P hP' (er_lt hq9)
  clear hP' hq9
  refine lv_aload_n hx hb dX7_clear_39 rfl (lv_at hl 0 rfl) ?_
  refine va_get (D := (dC, dI)) (ci := 7) (v := .ref (rA 4 4)) (C := RX7) (T := TX7) (N := 19) hx hb hts ii_X7 hown hK hP 0 rfl rfl 4 (by decide) (hts (.fieldLink RX7 25 "StoryHouse$Story" "starts" "[I") wq_162) (fun _ h9 => h9) rfl dX7_clear_40 ?_
  refine lv_iconst (v := 0) hx hb dX7_clear_43 (by decide +kernel) ?_
  have hq9 : ((b_s cB cC cI cJ cZ oA rA σ_9 ++ b_c cB cC cI cJ cZ oA rA σ_9 ++ b_t cB cC cI cJ cZ oA rA σ_9 ++ b_d cB cC cI cJ cZ oA rA σ_9))[5]? = some (rA 4 4, .inl (cI, 121, .inl ((σ_9 4).2.1 4))) := rfl
  have hPc := hP.sub (ws' := [(rA 4 4, .inl (cI, 121, .inl ((σ_9 4).2.1 4)))]) [5] (pk_fm (er_C hq9))
  have hDc := (hDD σ_9).sub (ws' := [(rA 4 4, .inl (cI, 121, .inl ((σ_9 4).2.1 4)))]) [5] (by decide +kernel) (er_C hq9)
  have hFc := va_free (wc := [(rA 4 4, .inl (cI, 121, .inl ((σ_9 4).2.1 4)))]) (hDD σ_9) hS hA [5] (er_C hq9)
  refine g_ofv (wc := [(rA 4 4, .inl (cI, 121, .inl ((σ_9 4).2.1 4)))]) (wr := (((b_s cB cC cI cJ cZ oA rA σ_9 ++ b_c cB cC cI cJ cZ oA rA σ_9 ++ b_t cB cC cI cJ cZ oA rA σ_9 ++ b_d cB cC cI cJ cZ oA rA σ_9)).eraseIdx 5)) hP (hDD σ_9) hS hFc [5] ((List.range ((b_s cB cC cI cJ cZ oA rA σ_9 ++ b_c cB cC cI cJ cZ oA rA σ_9 ++ b_t cB cC cI cJ cZ oA rA σ_9 ++ b_d cB cC cI cJ cZ oA rA σ_9)).length).eraseIdx 5) (er_C hq9) er_R er_n er_d (va_runS (As := [.ref (rA 4 4), .int 0]) (rest := []) ⟨hx, hb, hml, hown, hts⟩ (c_fill l dC dI cB cC cI cJ cZ cP H.size (rA 4 4) 0 121 ((σ_9 4).2.1 4) (by decide)) (va_cwS 2 hts (g_gS wq_503 wq_340 wq_21 wq_341) rfl rfl rfl (by decide +kernel) ⟨Nat.le_of_ble_eq_true rfl, Nat.le_of_ble_eq_true rfl⟩) (g_preS g_bl0 hK hPc hDc hS hE hFc g_to0) rfl rfl hl.1 rfl (lv_room (Nat.le_of_ble_eq_true rfl)) dX7_clear_44 ⟨Nat.le_of_ble_eq_true rfl, Nat.le_of_ble_eq_true rfl⟩) (fun g9 H locs hw9 hP' hD' hS => ?_)
  clear hPc hDc hFc hD'
  obtain ⟨σ_11, eσ_11, hF_12⟩ := bnd_e hF_10
  clear hF_10
  subst hw9
  have hP : va_P (dC, dI) vwCl (b_s cB cC cI cJ cZ oA rA σ_11 ++ b_c cB cC cI cJ cZ oA rA σ_11 ++ b_t cB cC cI cJ cZ oA rA σ_11 ++ b_d cB cC cI cJ cZ oA rA σ_11) H := by rw [eσ_11]; exact cs_sctd_s_4 ▸ er_P hP' (er_lt hq9)
  clear hP' hq9
  refine lv_aload_n hx hb dX7_clear_47 rfl (lv_at hl 0 rfl) ?_
  refine va_get (D := (dC, dI)) (ci := 7) (v := .ref (rA 4 5)) (C := RX7) (T := TX7) (N := 19) hx hb hts ii_X7 hown hK hP 0 rfl rfl 5 (by decide) (hts (.fieldLink RX7 28 "StoryHouse$Story" "traits" "[I") wq_165) (fun _ h9 => h9) rfl dX7_clear_48 ?_
  refine lv_iconst (v := 0) hx hb dX7_clear_51 (by decide +kernel) ?_
  have hq9 : ((b_s cB cC cI cJ cZ oA rA σ_11 ++ b_c cB cC cI cJ cZ oA rA σ_11 ++ b_t cB cC cI cJ cZ oA rA σ_11 ++ b_d cB cC cI cJ cZ oA rA σ_11))[6]? = some (rA 4 5, .inl (cI, 121, .inl ((σ_11 4).2.1 5))) := rfl
  have hPc := hP.sub (ws' := [(rA 4 5, .inl (cI, 121, .inl ((σ_11 4).2.1 5)))]) [6] (pk_fm (er_C hq9))
  have hDc := (hDD σ_11).sub (ws' := [(rA 4 5, .inl (cI, 121, .inl ((σ_11 4).2.1 5)))]) [6] (by decide +kernel) (er_C hq9)
  have hFc := va_free (wc := [(rA 4 5, .inl (cI, 121, .inl ((σ_11 4).2.1 5)))]) (hDD σ_11) hS hA [6] (er_C hq9)
  refine g_ofv (wc := [(rA 4 5, .inl (cI, 121, .inl ((σ_11 4).2.1 5)))]) (wr := (((b_s cB cC cI cJ cZ oA rA σ_11 ++ b_c cB cC cI cJ cZ oA rA σ_11 ++ b_t cB cC cI cJ cZ oA rA σ_11 ++ b_d cB cC cI cJ cZ oA rA σ_11)).eraseIdx 6)) hP (hDD σ_11) hS hFc [6] ((List.range ((b_s cB cC cI cJ cZ oA rA σ_11 ++ b_c cB cC cI cJ cZ oA rA σ_11 ++ b_t cB cC cI cJ cZ oA rA σ_11 ++ b_d cB cC cI cJ cZ oA rA σ_11)).length).eraseIdx 6) (er_C hq9) er_R er_n er_d (va_runS (As := [.ref (rA 4 5), .int 0]) (rest := []) ⟨hx, hb, hml, hown, hts⟩ (c_fill l dC dI cB cC cI cJ cZ cP H.size (rA 4 5) 0 121 ((σ_11 4).2.1 5) (by decide)) (va_cwS 2 hts (g_gS wq_503 wq_340 wq_21 wq_341) rfl rfl rfl (by decide +kernel) ⟨Nat.le_of_ble_eq_true rfl, Nat.le_of_ble_eq_true rfl⟩) (g_preS g_bl0 hK hPc hDc hS hE hFc g_to0) rfl rfl hl.1 rfl (lv_room (Nat.le_of_ble_eq_true rfl)) dX7_clear_52 ⟨Nat.le_of_ble_eq_true rfl, Nat.le_of_ble_eq_true rfl⟩) (fun g9 H locs hw9 hP' hD' hS => ?_)
  clear hPc hDc hFc hD'
  obtain ⟨σ_13, eσ_13, hF_14⟩ := bnd_e hF_12
  clear hF_12
  subst hw9
  have hP : va_P (dC, dI) vwCl (b_s cB cC cI cJ cZ oA rA σ_13 ++ b_c cB cC cI cJ cZ oA rA σ_13 ++ b_t cB cC cI cJ cZ oA rA σ_13 ++ b_d cB cC cI cJ cZ oA rA σ_13) H := by rw [eσ_13]; exact cs_sctd_s_5 ▸ er_P hP' (er_lt hq9)
  clear hP' hq9
  refine lv_aload_n hx hb dX7_clear_55 rfl (lv_at hl 0 rfl) ?_
  refine va_get (D := (dC, dI)) (ci := 7) (v := .ref (rA 4 6)) (C := RX7) (T := TX7) (N := 19) hx hb hts ii_X7 hown hK hP 0 rfl rfl 6 (by decide) (hts (.fieldLink RX7 31 "StoryHouse$Story" "exits" "[I") wq_168) (fun _ h9 => h9) rfl dX7_clear_56 ?_
  refine lv_iconst (v := 0) hx hb dX7_clear_59 (by decide +kernel) ?_
  have hq9 : ((b_s cB cC cI cJ cZ oA rA σ_13 ++ b_c cB cC cI cJ cZ oA rA σ_13 ++ b_t cB cC cI cJ cZ oA rA σ_13 ++ b_d cB cC cI cJ cZ oA rA σ_13))[7]? = some (rA 4 6, .inl (cI, 726, .inl ((σ_13 4).2.1 6))) := rfl
  have hPc := hP.sub (ws' := [(rA 4 6, .inl (cI, 726, .inl ((σ_13 4).2.1 6)))]) [7] (pk_fm (er_C hq9))
  have hDc := (hDD σ_13).sub (ws' := [(rA 4 6, .inl (cI, 726, .inl ((σ_13 4).2.1 6)))]) [7] (by decide +kernel) (er_C hq9)
  have hFc := va_free (wc := [(rA 4 6, .inl (cI, 726, .inl ((σ_13 4).2.1 6)))]) (hDD σ_13) hS hA [7] (er_C hq9)
  refine g_ofv (wc := [(rA 4 6, .inl (cI, 726, .inl ((σ_13 4).2.1 6)))]) (wr := (((b_s cB cC cI cJ cZ oA rA σ_13 ++ b_c cB cC cI cJ cZ oA rA σ_13 ++ b_t cB cC cI cJ cZ oA rA σ_13 ++ b_d cB cC cI cJ cZ oA rA σ_13)).eraseIdx 7)) hP (hDD σ_13) hS hFc [7] ((List.range ((b_s cB cC cI cJ cZ oA rA σ_13 ++ b_c cB cC cI cJ cZ oA rA σ_13 ++ b_t cB cC cI cJ cZ oA rA σ_13 ++ b_d cB cC cI cJ cZ oA rA σ_13)).length).eraseIdx 7) (er_C hq9) er_R er_n er_d (va_runS (As := [.ref (rA 4 6), .int 0]) (rest := []) ⟨hx, hb, hml, hown, hts⟩ (c_fill l dC dI cB cC cI cJ cZ cP H.size (rA 4 6) 0 726 ((σ_13 4).2.1 6) (by decide)) (va_cwS 2 hts (g_gS wq_503 wq_340 wq_21 wq_341) rfl rfl rfl (by decide +kernel) ⟨Nat.le_of_ble_eq_true rfl, Nat.le_of_ble_eq_true rfl⟩) (g_preS g_bl0 hK hPc hDc hS hE hFc g_to0) rfl rfl hl.1 rfl (lv_room (Nat.le_of_ble_eq_true rfl)) dX7_clear_60 ⟨Nat.le_of_ble_eq_true rfl, Nat.le_of_ble_eq_true rfl⟩) (fun g9 H locs hw9 hP' hD' hS => ?_)
  clear hPc hDc hFc hD'
  obtain ⟨σ_15, eσ_15, hF_16⟩ := bnd_e hF_14
  clear hF_14
  subst hw9
  have hP : va_P (dC, dI) vwCl (b_s cB cC cI cJ cZ oA rA σ_15 ++ b_c cB cC cI cJ cZ oA rA σ_15 ++ b_t cB cC cI cJ cZ oA rA σ_15 ++ b_d cB cC cI cJ cZ oA rA σ_15) H := by rw [eσ_15]; exact cs_sctd_s_6 ▸ er_P hP' (er_lt hq9)
  clear hP' hq9
  refine lv_aload_n hx hb dX7_clear_63 rfl (lv_at hl 0 rfl) ?_
  refine va_get (D := (dC, dI)) (ci := 7) (v := .ref (rA 4 10)) (C := RX7) (T := TX7) (N := 19) hx hb hts ii_X7 hown hK hP 0 rfl rfl 10 (by decide) (hts (.fieldLink RX7 43 "StoryHouse$Story" "ownedCounts" "[I") wq_177) (fun _ h9 => h9) rfl dX7_clear_64 ?_
  refine lv_iconst (v := 0) hx hb dX7_clear_67 (by decide +kernel) ?_
  have hq9 : ((b_s cB cC cI cJ cZ oA rA σ_15 ++ b_c cB cC cI cJ cZ oA rA σ_15 ++ b_t cB cC cI cJ cZ oA rA σ_15 ++ b_d cB cC cI cJ cZ oA rA σ_15))[11]? = some (rA 4 10, .inl (cI, 181, .inl ((σ_15 4).2.1 10))) := rfl
  have hPc := hP.sub (ws' := [(rA 4 10, .inl (cI, 181, .inl ((σ_15 4).2.1 10)))]) [11] (pk_fm (er_C hq9))
  have hDc := (hDD σ_15).sub (ws' := [(rA 4 10, .inl (cI, 181, .inl ((σ_15 4).2.1 10)))]) [11] (by decide +kernel) (er_C hq9)
  have hFc := va_free (wc := [(rA 4 10, .inl (cI, 181, .inl ((σ_15 4).2.1 10)))]) (hDD σ_15) hS hA [11] (er_C hq9)
  refine g_ofv (wc := [(rA 4 10, .inl (cI, 181, .inl ((σ_15 4).2.1 10)))]) (wr := (((b_s cB cC cI cJ cZ oA rA σ_15 ++ b_c cB cC cI cJ cZ oA rA σ_15 ++ b_t cB cC cI cJ cZ oA rA σ_15 ++ b_d cB cC cI cJ cZ oA rA σ_15)).eraseIdx 11)) hP (hDD σ_15) hS hFc [11] ((List.range ((b_s cB cC cI cJ cZ oA rA σ_15 ++ b_c cB cC cI cJ cZ oA rA σ_15 ++ b_t cB cC cI cJ cZ oA rA σ_15 ++ b_d cB cC cI cJ cZ oA rA σ_15)).length).eraseIdx 11) (er_C hq9) er_R er_n er_d (va_runS (As := [.ref (rA 4 10), .int 0]) (rest := []) ⟨hx, hb, hml, hown, hts⟩ (c_fill l dC dI cB cC cI cJ cZ cP H.size (rA 4 10) 0 181 ((σ_15 4).2.1 10) (by decide)) (va_cwS 2 hts (g_gS wq_503 wq_340 wq_21 wq_341) rfl rfl rfl (by decide +kernel) ⟨Nat.le_of_ble_eq_true rfl, Nat.le_of_ble_eq_true rfl⟩) (g_preS g_bl0 hK hPc hDc hS hE hFc g_to0) rfl rfl hl.1 rfl (lv_room (Nat.le_of_ble_eq_true rfl)) dX7_clear_68 ⟨Nat.le_of_ble_eq_true rfl, Nat.le_of_ble_eq_true rfl⟩) (fun g9 H locs hw9 hP' hD' hS => ?_)
  clear hPc hDc hFc hD'
  obtain ⟨σ_17, eσ_17, hF_18⟩ := bnd_e hF_16
  clear hF_16
  subst hw9
  have hP : va_P (dC, dI) vwCl (b_s cB cC cI cJ cZ oA rA σ_17 ++ b_c cB cC cI cJ cZ oA rA σ_17 ++ b_t cB cC cI cJ cZ oA rA σ_17 ++ b_d cB cC cI cJ cZ oA rA σ_17) H := by rw [eσ_17]; exact cs_sctd_s_10 ▸ er_P hP' (er_lt hq9)
  clear hP' hq9
  refine lv_iconst (v := 0) hx hb dX7_clear_71 (by decide +kernel) ?_
  refine lv_istore_n (lv' := [(1, .int 0), (0, .ref (oA 4))]) hx hb dX7_clear_72 rfl hl (by decide) rfl (fun ls hl => ?_)
  refine loopF_ind (P := fun (s_19 : Int32 × HS) => ∀ (H : Heap) (locs : List Loc), va_P (dC, dI) vwCl (b_s cB cC cI cJ cZ oA rA s_19.2 ++ b_c cB cC cI cJ cZ oA rA s_19.2 ++ b_t cB cC cI cJ cZ oA rA s_19.2 ++ b_d cB cC cI cJ cZ oA rA s_19.2) H → va_S A s.heap H locs → ∀ ls : Array Slot, lv_has ls 2 [(0, .ref (oA 4)), (1, .int s_19.1)] → W p l e (headSpec (g_ws yX7_clear cX7_clear 2 none) { frames := 8, cells := 0, slots := 0, locals := 201 }).room s m ([.ref (oA 4)] : List Value).toArray below meth c H locs 0 0 (MQ below (va_Qv (fun (_ : Unit) => True) (g_Bo (dC, dI) A (fun (_ : Unit) => (b_s cB cC cI cJ cZ oA rA res.2 ++ b_c cB cC cI cJ cZ oA rA res.2 ++ b_t cB cC cI cJ cZ oA rA res.2 ++ b_d cB cC cI cJ cZ oA rA res.2))) A) ([.ref (oA 4)] : List Value).toArray s 0 0 A) (F0 m 73 ls [])) ?_ _ _ hF_18 _ _ hP hS ls (lv_sub hl [1, 0] rfl)
  intro again_20 s_19 ih_21 hF_22
  intro H locs hP hS ls hl
  refine lv_iload_n hx hb dX7_clear_73 rfl (lv_at hl 1 rfl) ?_
  refine lv_aload_n hx hb dX7_clear_74 rfl (lv_at hl 0 rfl) ?_
  refine va_get (D := (dC, dI)) (ci := 7) (v := .ref (rA 4 1)) (C := RX7) (T := TX7) (N := 19) hx hb hts ii_X7 hown hK hP 0 rfl rfl 1 (by decide) (hts (.fieldLink RX7 15 "StoryHouse$Story" "rooms" "[Z") wq_156) (fun _ h9 => h9) rfl dX7_clear_75 ?_
  refine va_alen (v := 121) hx hb hK hP 2 4 rfl rfl (by first | rfl | decide +kernel) dX7_clear_78 ?_
  refine lv_icmp_ge (tgt := 95) hx hb dX7_clear_79 (by decide) (fun c_23 => ?_) (fun c_23 => ?_)
  · have hF_24 := ipos c_23 hF_22
    clear hF_22
    refine lv_aload_n hx hb dX7_clear_95 rfl (lv_at hl 0 rfl) ?_
    refine va_get (D := (dC, dI)) (ci := 7) (v := .ref (oA 5)) (C := RX7) (T := TX7) (N := 19) hx hb hts ii_X7 hown hK hP 0 rfl rfl 16 (by decide) (hts (.fieldLink RX7 64 "StoryHouse$Story" "code" "LStoryHouse$Code;") wq_192) (fun _ h9 => h9) rfl dX7_clear_96 ?_
    obtain ⟨u_25, hu_25, hF_26⟩ := Option.bind_eq_some_iff.mp hF_24
    clear hF_24
    have hPc := bx_P (bs := [b_s cB cC cI cJ cZ oA rA s_19.2, b_c cB cC cI cJ cZ oA rA s_19.2, b_t cB cC cI cJ cZ oA rA s_19.2, b_d cB cC cI cJ cZ oA rA s_19.2]) (bs' := [b_c cB cC cI cJ cZ oA rA s_19.2]) (ws' := (b_c cB cC cI cJ cZ oA rA s_19.2)) hP fl_4 fl_1 [1] rfl
    have hDc := bx_D (bs := [b_s cB cC cI cJ cZ oA rA s_19.2, b_c cB cC cI cJ cZ oA rA s_19.2, b_t cB cC cI cJ cZ oA rA s_19.2, b_d cB cC cI cJ cZ oA rA s_19.2]) (bs' := [b_c cB cC cI cJ cZ oA rA s_19.2]) (ws' := (b_c cB cC cI cJ cZ oA rA s_19.2)) (hDD s_19.2) fl_4 fl_1 [1] (by decide +kernel) rfl
    have hFc := bx_F (bs := [b_s cB cC cI cJ cZ oA rA s_19.2, b_c cB cC cI cJ cZ oA rA s_19.2, b_t cB cC cI cJ cZ oA rA s_19.2, b_d cB cC cI cJ cZ oA rA s_19.2]) (bs' := [b_c cB cC cI cJ cZ oA rA s_19.2]) (wc := (b_c cB cC cI cJ cZ oA rA s_19.2)) (hDD s_19.2) hS hA fl_4 fl_1 [1] rfl
    refine g_ofv (wc := (b_c cB cC cI cJ cZ oA rA s_19.2)) (wr := (b_s cB cC cI cJ cZ oA rA s_19.2 ++ b_t cB cC cI cJ cZ oA rA s_19.2 ++ b_d cB cC cI cJ cZ oA rA s_19.2)) hP (hDD s_19.2) hS hFc (bx_ix [b_s cB cC cI cJ cZ oA rA s_19.2, b_c cB cC cI cJ cZ oA rA s_19.2, b_t cB cC cI cJ cZ oA rA s_19.2, b_d cB cC cI cJ cZ oA rA s_19.2] [1]) (bx_ix [b_s cB cC cI cJ cZ oA rA s_19.2, b_c cB cC cI cJ cZ oA rA s_19.2, b_t cB cC cI cJ cZ oA rA s_19.2, b_d cB cC cI cJ cZ oA rA s_19.2] [0, 2, 3]) (bx_C (bs := [b_s cB cC cI cJ cZ oA rA s_19.2, b_c cB cC cI cJ cZ oA rA s_19.2, b_t cB cC cI cJ cZ oA rA s_19.2, b_d cB cC cI cJ cZ oA rA s_19.2]) (bs' := [b_c cB cC cI cJ cZ oA rA s_19.2]) (is := [1]) fl_4 fl_1 rfl) (bx_C (bs := [b_s cB cC cI cJ cZ oA rA s_19.2, b_c cB cC cI cJ cZ oA rA s_19.2, b_t cB cC cI cJ cZ oA rA s_19.2, b_d cB cC cI cJ cZ oA rA s_19.2]) (bs' := [b_s cB cC cI cJ cZ oA rA s_19.2, b_t cB cC cI cJ cZ oA rA s_19.2, b_d cB cC cI cJ cZ oA rA s_19.2]) (is := [0, 2, 3]) fl_4 fl_3 rfl) (bx_n (by decide +kernel)) (bx_d (by decide +kernel)) (va_runV (As := []) (rest := []) ⟨hx, hb, hml, hown, hts⟩ (k_X0_wipe l dC dI cB cC cI cJ cZ cP oA rA H.size  s_19.2 _ hu_25) (cwV 0 hts (g_gV wq_504 wq_505 wq_506 wq_6 wq_507) rfl rfl rfl (by decide +kernel) ⟨Nat.le_of_ble_eq_true rfl, Nat.le_of_ble_eq_true rfl⟩) (g_preV g_bl0 hK hPc hDc hS hE hFc g_to0 (q0 := 0) (ci := 0) rfl rfl) rfl rfl hl.1 rfl (lv_room (Nat.le_of_ble_eq_true rfl)) dX7_clear_99 ⟨Nat.le_of_ble_eq_true rfl, Nat.le_of_ble_eq_true rfl⟩) (fun u9 H locs hw9 hP' hD' hS => ?_)
    clear hPc hDc hFc
    obtain ⟨σ_27, eσ_27, hF_28⟩ := bnd_e hF_26
    clear hF_26
    have hP : va_P (dC, dI) vwCl (b_s cB cC cI cJ cZ oA rA σ_27 ++ b_c cB cC cI cJ cZ oA rA σ_27 ++ b_t cB cC cI cJ cZ oA rA σ_27 ++ b_d cB cC cI cJ cZ oA rA σ_27) H := by rw [eσ_27]; exact bx_P (bs := [b_s cB cC cI cJ cZ oA rA s_19.2, b_t cB cC cI cJ cZ oA rA s_19.2, b_d cB cC cI cJ cZ oA rA s_19.2] ++ [b_c cB cC cI cJ cZ oA rA u_25.2]) (bs' := [b_s cB cC cI cJ cZ oA rA (mrg (fun j => j == 5) s_19.2 u_25.2), b_c cB cC cI cJ cZ oA rA (mrg (fun j => j == 5) s_19.2 u_25.2), b_t cB cC cI cJ cZ oA rA (mrg (fun j => j == 5) s_19.2 u_25.2), b_d cB cC cI cJ cZ oA rA (mrg (fun j => j == 5) s_19.2 u_25.2)]) hP' (fl_a fl_3 fl_1) fl_4 [0, 3, 1, 2] rfl
    clear hP' hD'
    refine lv_aload_n hx hb dX7_clear_102 rfl (lv_at hl 0 rfl) ?_
    refine va_get (D := (dC, dI)) (ci := 7) (v := .ref (oA 6)) (C := RX7) (T := TX7) (N := 19) hx hb hts ii_X7 hown hK hP 0 rfl rfl 17 (by decide) (hts (.fieldLink RX7 71 "StoryHouse$Story" "texts" "LStoryHouse$Texts;") wq_196) (fun _ h9 => h9) rfl dX7_clear_103 ?_
    obtain ⟨u_29, hu_29, hF_30⟩ := Option.bind_eq_some_iff.mp hF_28
    clear hF_28
    have hPc := bx_P (bs := [b_s cB cC cI cJ cZ oA rA σ_27, b_c cB cC cI cJ cZ oA rA σ_27, b_t cB cC cI cJ cZ oA rA σ_27, b_d cB cC cI cJ cZ oA rA σ_27]) (bs' := [b_t cB cC cI cJ cZ oA rA σ_27]) (ws' := (b_t cB cC cI cJ cZ oA rA σ_27)) hP fl_4 fl_1 [2] rfl
    have hDc := bx_D (bs := [b_s cB cC cI cJ cZ oA rA σ_27, b_c cB cC cI cJ cZ oA rA σ_27, b_t cB cC cI cJ cZ oA rA σ_27, b_d cB cC cI cJ cZ oA rA σ_27]) (bs' := [b_t cB cC cI cJ cZ oA rA σ_27]) (ws' := (b_t cB cC cI cJ cZ oA rA σ_27)) (hDD σ_27) fl_4 fl_1 [2] (by decide +kernel) rfl
    have hFc := bx_F (bs := [b_s cB cC cI cJ cZ oA rA σ_27, b_c cB cC cI cJ cZ oA rA σ_27, b_t cB cC cI cJ cZ oA rA σ_27, b_d cB cC cI cJ cZ oA rA σ_27]) (bs' := [b_t cB cC cI cJ cZ oA rA σ_27]) (wc := (b_t cB cC cI cJ cZ oA rA σ_27)) (hDD σ_27) hS hA fl_4 fl_1 [2] rfl
    refine g_ofv (wc := (b_t cB cC cI cJ cZ oA rA σ_27)) (wr := (b_s cB cC cI cJ cZ oA rA σ_27 ++ b_c cB cC cI cJ cZ oA rA σ_27 ++ b_d cB cC cI cJ cZ oA rA σ_27)) hP (hDD σ_27) hS hFc (bx_ix [b_s cB cC cI cJ cZ oA rA σ_27, b_c cB cC cI cJ cZ oA rA σ_27, b_t cB cC cI cJ cZ oA rA σ_27, b_d cB cC cI cJ cZ oA rA σ_27] [2]) (bx_ix [b_s cB cC cI cJ cZ oA rA σ_27, b_c cB cC cI cJ cZ oA rA σ_27, b_t cB cC cI cJ cZ oA rA σ_27, b_d cB cC cI cJ cZ oA rA σ_27] [0, 1, 3]) (bx_C (bs := [b_s cB cC cI cJ cZ oA rA σ_27, b_c cB cC cI cJ cZ oA rA σ_27, b_t cB cC cI cJ cZ oA rA σ_27, b_d cB cC cI cJ cZ oA rA σ_27]) (bs' := [b_t cB cC cI cJ cZ oA rA σ_27]) (is := [2]) fl_4 fl_1 rfl) (bx_C (bs := [b_s cB cC cI cJ cZ oA rA σ_27, b_c cB cC cI cJ cZ oA rA σ_27, b_t cB cC cI cJ cZ oA rA σ_27, b_d cB cC cI cJ cZ oA rA σ_27]) (bs' := [b_s cB cC cI cJ cZ oA rA σ_27, b_c cB cC cI cJ cZ oA rA σ_27, b_d cB cC cI cJ cZ oA rA σ_27]) (is := [0, 1, 3]) fl_4 fl_3 rfl) (bx_n (by decide +kernel)) (bx_d (by decide +kernel)) (va_runV (As := []) (rest := []) ⟨hx, hb, hml, hown, hts⟩ (k_X9_wipe l dC dI cB cC cI cJ cZ cP oA rA H.size  σ_27 _ hu_29) (cwV 0 hts (g_gV wq_508 wq_509 wq_510 wq_7 wq_511) rfl rfl rfl (by decide +kernel) ⟨Nat.le_of_ble_eq_true rfl, Nat.le_of_ble_eq_true rfl⟩) (g_preV g_bl0 hK hPc hDc hS hE hFc g_to0 (q0 := 0) (ci := 9) rfl rfl) rfl rfl hl.1 rfl (lv_room (Nat.le_of_ble_eq_true rfl)) dX7_clear_106 ⟨Nat.le_of_ble_eq_true rfl, Nat.le_of_ble_eq_true rfl⟩) (fun u9 H locs hw9 hP' hD' hS => ?_)
    clear hPc hDc hFc
    obtain ⟨σ_31, eσ_31, hF_32⟩ := bnd_e hF_30
    clear hF_30
    have hP : va_P (dC, dI) vwCl (b_s cB cC cI cJ cZ oA rA σ_31 ++ b_c cB cC cI cJ cZ oA rA σ_31 ++ b_t cB cC cI cJ cZ oA rA σ_31 ++ b_d cB cC cI cJ cZ oA rA σ_31) H := by rw [eσ_31]; exact bx_P (bs := [b_s cB cC cI cJ cZ oA rA σ_27, b_c cB cC cI cJ cZ oA rA σ_27, b_d cB cC cI cJ cZ oA rA σ_27] ++ [b_t cB cC cI cJ cZ oA rA u_29.2]) (bs' := [b_s cB cC cI cJ cZ oA rA (mrg (fun j => j == 6) σ_27 u_29.2), b_c cB cC cI cJ cZ oA rA (mrg (fun j => j == 6) σ_27 u_29.2), b_t cB cC cI cJ cZ oA rA (mrg (fun j => j == 6) σ_27 u_29.2), b_d cB cC cI cJ cZ oA rA (mrg (fun j => j == 6) σ_27 u_29.2)]) hP' (fl_a fl_3 fl_1) fl_4 [0, 1, 3, 2] rfl
    clear hP' hD'
    refine lv_aload_n hx hb dX7_clear_109 rfl (lv_at hl 0 rfl) ?_
    refine va_get (D := (dC, dI)) (ci := 7) (v := .ref (oA 7)) (C := RX7) (T := TX7) (N := 19) hx hb hts ii_X7 hown hK hP 0 rfl rfl 18 (by decide) (hts (.fieldLink RX7 78 "StoryHouse$Story" "dictionary" "LStoryHouse$Dictionary;") wq_199) (fun _ h9 => h9) rfl dX7_clear_110 ?_
    obtain ⟨u_33, hu_33, hF_34⟩ := Option.bind_eq_some_iff.mp hF_32
    clear hF_32
    have hPc := bx_P (bs := [b_s cB cC cI cJ cZ oA rA σ_31, b_c cB cC cI cJ cZ oA rA σ_31, b_t cB cC cI cJ cZ oA rA σ_31, b_d cB cC cI cJ cZ oA rA σ_31]) (bs' := [b_d cB cC cI cJ cZ oA rA σ_31]) (ws' := (b_d cB cC cI cJ cZ oA rA σ_31)) hP fl_4 fl_1 [3] rfl
    have hDc := bx_D (bs := [b_s cB cC cI cJ cZ oA rA σ_31, b_c cB cC cI cJ cZ oA rA σ_31, b_t cB cC cI cJ cZ oA rA σ_31, b_d cB cC cI cJ cZ oA rA σ_31]) (bs' := [b_d cB cC cI cJ cZ oA rA σ_31]) (ws' := (b_d cB cC cI cJ cZ oA rA σ_31)) (hDD σ_31) fl_4 fl_1 [3] (by decide +kernel) rfl
    have hFc := bx_F (bs := [b_s cB cC cI cJ cZ oA rA σ_31, b_c cB cC cI cJ cZ oA rA σ_31, b_t cB cC cI cJ cZ oA rA σ_31, b_d cB cC cI cJ cZ oA rA σ_31]) (bs' := [b_d cB cC cI cJ cZ oA rA σ_31]) (wc := (b_d cB cC cI cJ cZ oA rA σ_31)) (hDD σ_31) hS hA fl_4 fl_1 [3] rfl
    refine g_ofv (wc := (b_d cB cC cI cJ cZ oA rA σ_31)) (wr := (b_s cB cC cI cJ cZ oA rA σ_31 ++ b_c cB cC cI cJ cZ oA rA σ_31 ++ b_t cB cC cI cJ cZ oA rA σ_31)) hP (hDD σ_31) hS hFc (bx_ix [b_s cB cC cI cJ cZ oA rA σ_31, b_c cB cC cI cJ cZ oA rA σ_31, b_t cB cC cI cJ cZ oA rA σ_31, b_d cB cC cI cJ cZ oA rA σ_31] [3]) (bx_ix [b_s cB cC cI cJ cZ oA rA σ_31, b_c cB cC cI cJ cZ oA rA σ_31, b_t cB cC cI cJ cZ oA rA σ_31, b_d cB cC cI cJ cZ oA rA σ_31] [0, 1, 2]) (bx_C (bs := [b_s cB cC cI cJ cZ oA rA σ_31, b_c cB cC cI cJ cZ oA rA σ_31, b_t cB cC cI cJ cZ oA rA σ_31, b_d cB cC cI cJ cZ oA rA σ_31]) (bs' := [b_d cB cC cI cJ cZ oA rA σ_31]) (is := [3]) fl_4 fl_1 rfl) (bx_C (bs := [b_s cB cC cI cJ cZ oA rA σ_31, b_c cB cC cI cJ cZ oA rA σ_31, b_t cB cC cI cJ cZ oA rA σ_31, b_d cB cC cI cJ cZ oA rA σ_31]) (bs' := [b_s cB cC cI cJ cZ oA rA σ_31, b_c cB cC cI cJ cZ oA rA σ_31, b_t cB cC cI cJ cZ oA rA σ_31]) (is := [0, 1, 2]) fl_4 fl_3 rfl) (bx_n (by decide +kernel)) (bx_d (by decide +kernel)) (va_runV (As := []) (rest := []) ⟨hx, hb, hml, hown, hts⟩ (k_X1_wipe l dC dI cB cC cI cJ cZ cP oA rA H.size  σ_31 _ hu_33) (cwV 0 hts (g_gV wq_512 wq_513 wq_514 wq_8 wq_515) rfl rfl rfl (by decide +kernel) ⟨Nat.le_of_ble_eq_true rfl, Nat.le_of_ble_eq_true rfl⟩) (g_preV g_bl0 hK hPc hDc hS hE hFc g_to0 (q0 := 0) (ci := 1) rfl rfl) rfl rfl hl.1 rfl (lv_room (Nat.le_of_ble_eq_true rfl)) dX7_clear_113 ⟨Nat.le_of_ble_eq_true rfl, Nat.le_of_ble_eq_true rfl⟩) (fun u9 H locs hw9 hP' hD' hS => ?_)
    clear hPc hDc hFc
    obtain ⟨σ_35, eσ_35, hF_36⟩ := bnd_e hF_34
    clear hF_34
    have hP : va_P (dC, dI) vwCl (b_s cB cC cI cJ cZ oA rA σ_35 ++ b_c cB cC cI cJ cZ oA rA σ_35 ++ b_t cB cC cI cJ cZ oA rA σ_35 ++ b_d cB cC cI cJ cZ oA rA σ_35) H := by rw [eσ_35]; exact bx_P (bs := [b_s cB cC cI cJ cZ oA rA σ_31, b_c cB cC cI cJ cZ oA rA σ_31, b_t cB cC cI cJ cZ oA rA σ_31] ++ [b_d cB cC cI cJ cZ oA rA u_33.2]) (bs' := [b_s cB cC cI cJ cZ oA rA (mrg (fun j => j == 7) σ_31 u_33.2), b_c cB cC cI cJ cZ oA rA (mrg (fun j => j == 7) σ_31 u_33.2), b_t cB cC cI cJ cZ oA rA (mrg (fun j => j == 7) σ_31 u_33.2), b_d cB cC cI cJ cZ oA rA (mrg (fun j => j == 7) σ_31 u_33.2)]) hP' (fl_a fl_3 fl_1) fl_4 [0, 1, 2, 3] rfl
    clear hP' hD'
    refine lv_aload_n hx hb dX7_clear_116 rfl (lv_at hl 0 rfl) ?_
    refine lv_iconst (v := 0) hx hb dX7_clear_117 (by decide +kernel) ?_
    obtain ⟨q_37, vq_37, hRq_37, hSq_37⟩ := hE.2.2.2.2 _ (List.mem_of_getElem? (i := 6) rfl)
    refine va_ldcS (own := RX7) (tx := "again g it all the a an me go north south east west up down n s e w u d ") hx hb hown hRq_37 dX7_clear_118 ?_
    obtain ⟨u_38, hu_38, hF_39⟩ := Option.bind_eq_some_iff.mp hF_36
    clear hF_36
    have hPc := bx_P (bs := [b_s cB cC cI cJ cZ oA rA σ_35, b_c cB cC cI cJ cZ oA rA σ_35, b_t cB cC cI cJ cZ oA rA σ_35, b_d cB cC cI cJ cZ oA rA σ_35]) (bs' := [b_s cB cC cI cJ cZ oA rA σ_35, b_c cB cC cI cJ cZ oA rA σ_35, b_t cB cC cI cJ cZ oA rA σ_35, b_d cB cC cI cJ cZ oA rA σ_35]) (ws' := (b_s cB cC cI cJ cZ oA rA σ_35 ++ b_c cB cC cI cJ cZ oA rA σ_35 ++ b_t cB cC cI cJ cZ oA rA σ_35 ++ b_d cB cC cI cJ cZ oA rA σ_35)) hP fl_4 fl_4 [0, 1, 2, 3] rfl
    have hDc := bx_D (bs := [b_s cB cC cI cJ cZ oA rA σ_35, b_c cB cC cI cJ cZ oA rA σ_35, b_t cB cC cI cJ cZ oA rA σ_35, b_d cB cC cI cJ cZ oA rA σ_35]) (bs' := [b_s cB cC cI cJ cZ oA rA σ_35, b_c cB cC cI cJ cZ oA rA σ_35, b_t cB cC cI cJ cZ oA rA σ_35, b_d cB cC cI cJ cZ oA rA σ_35]) (ws' := (b_s cB cC cI cJ cZ oA rA σ_35 ++ b_c cB cC cI cJ cZ oA rA σ_35 ++ b_t cB cC cI cJ cZ oA rA σ_35 ++ b_d cB cC cI cJ cZ oA rA σ_35)) (hDD σ_35) fl_4 fl_4 [0, 1, 2, 3] (by decide +kernel) rfl
    have hFc := bx_F (bs := [b_s cB cC cI cJ cZ oA rA σ_35, b_c cB cC cI cJ cZ oA rA σ_35, b_t cB cC cI cJ cZ oA rA σ_35, b_d cB cC cI cJ cZ oA rA σ_35]) (bs' := [b_s cB cC cI cJ cZ oA rA σ_35, b_c cB cC cI cJ cZ oA rA σ_35, b_t cB cC cI cJ cZ oA rA σ_35, b_d cB cC cI cJ cZ oA rA σ_35]) (wc := (b_s cB cC cI cJ cZ oA rA σ_35 ++ b_c cB cC cI cJ cZ oA rA σ_35 ++ b_t cB cC cI cJ cZ oA rA σ_35 ++ b_d cB cC cI cJ cZ oA rA σ_35)) (hDD σ_35) hS hA fl_4 fl_4 [0, 1, 2, 3] rfl
    refine g_ofv (wc := (b_s cB cC cI cJ cZ oA rA σ_35 ++ b_c cB cC cI cJ cZ oA rA σ_35 ++ b_t cB cC cI cJ cZ oA rA σ_35 ++ b_d cB cC cI cJ cZ oA rA σ_35)) (wr := ([] : va_W)) hP (hDD σ_35) hS hFc (bx_ix [b_s cB cC cI cJ cZ oA rA σ_35, b_c cB cC cI cJ cZ oA rA σ_35, b_t cB cC cI cJ cZ oA rA σ_35, b_d cB cC cI cJ cZ oA rA σ_35] [0, 1, 2, 3]) (bx_ix [b_s cB cC cI cJ cZ oA rA σ_35, b_c cB cC cI cJ cZ oA rA σ_35, b_t cB cC cI cJ cZ oA rA σ_35, b_d cB cC cI cJ cZ oA rA σ_35] []) (bx_C (bs := [b_s cB cC cI cJ cZ oA rA σ_35, b_c cB cC cI cJ cZ oA rA σ_35, b_t cB cC cI cJ cZ oA rA σ_35, b_d cB cC cI cJ cZ oA rA σ_35]) (bs' := [b_s cB cC cI cJ cZ oA rA σ_35, b_c cB cC cI cJ cZ oA rA σ_35, b_t cB cC cI cJ cZ oA rA σ_35, b_d cB cC cI cJ cZ oA rA σ_35]) (is := [0, 1, 2, 3]) fl_4 fl_4 rfl) (bx_C (bs := [b_s cB cC cI cJ cZ oA rA σ_35, b_c cB cC cI cJ cZ oA rA σ_35, b_t cB cC cI cJ cZ oA rA σ_35, b_d cB cC cI cJ cZ oA rA σ_35]) (bs' := []) (is := []) fl_4 fl_0 rfl) (bx_n (by decide +kernel)) (bx_d (by decide +kernel)) (va_runV (As := [.int 0, .ref q_37]) (rest := []) ⟨hx, hb, hml, hown, hts⟩ (k_X7_learnOwned l dC dI cB cC cI cJ cZ cP oA rA H.size q_37 _ 0 ([97, 103, 97, 105, 110, 32, 103, 32, 105, 116, 32, 97, 108, 108, 32, 116, 104, 101, 32, 97, 32, 97, 110, 32, 109, 101, 32, 103, 111, 32, 110, 111, 114, 116, 104, 32, 115, 111, 117, 116, 104, 32, 101, 97, 115, 116, 32, 119, 101, 115, 116, 32, 117, 112, 32, 100, 111, 119, 110, 32, 110, 32, 115, 32, 101, 32, 119, 32, 117, 32, 100, 32] : List Int32) σ_35 _ hu_38) (cwV 2 hts (g_gV wq_516 wq_517 wq_1990 wq_5 wq_518) rfl rfl rfl (by decide +kernel) ⟨Nat.le_of_ble_eq_true rfl, Nat.le_of_ble_eq_true rfl⟩) (g_preV g_blS hK hPc hDc hS hE hFc (g_toS hSq_37 hS hFc) (q0 := 0) (ci := 7) rfl rfl) rfl rfl hl.1 rfl (lv_room (Nat.le_of_ble_eq_true rfl)) dX7_clear_120 ⟨Nat.le_of_ble_eq_true rfl, Nat.le_of_ble_eq_true rfl⟩) (fun u9 H locs hw9 hP' hD' hS => ?_)
    clear hPc hDc hFc
    have hP : va_P (dC, dI) vwCl (b_s cB cC cI cJ cZ oA rA u_38.2 ++ b_c cB cC cI cJ cZ oA rA u_38.2 ++ b_t cB cC cI cJ cZ oA rA u_38.2 ++ b_d cB cC cI cJ cZ oA rA u_38.2) H := hP'
    clear hP' hD'
    refine lv_aload_n hx hb dX7_clear_123 rfl (lv_at hl 0 rfl) ?_
    refine lv_iconst (v := 1) hx hb dX7_clear_124 (by decide +kernel) ?_
    obtain ⟨q_40, vq_40, hRq_40, hSq_40⟩ := hE.2.2.2.2 _ (List.mem_of_getElem? (i := 7) rfl)
    refine va_ldcS (own := RX7) (tx := "me") hx hb hown hRq_40 dX7_clear_125 ?_
    refine lv_iconst (v := 0) hx hb dX7_clear_127 (by decide +kernel) ?_
    refine lv_iconst (v := 2) hx hb dX7_clear_128 (by decide +kernel) ?_
    refine lv_bipush (v := 9) hx hb dX7_clear_129 (by decide +kernel) ?_
    obtain ⟨u_41, hu_41, hF_42⟩ := Option.bind_eq_some_iff.mp hF_39
    clear hF_39
    have hPc : va_P (dC, dI) vwCl [] H := fun k q z => by simp at z
    have hDc : va_D A [] := ⟨fun i j p q z => by simp at z, fun k q z => by simp at z⟩
    have hFc := c_nil hA hS
    refine c_csl (v := u_41.1) hA hP hS (va_runSN (As := [.ref q_40, .int 0, .int 2, .int 9]) (rest := [.int 1, .ref (oA 4)]) ⟨hx, hb, hml, hown, hts⟩ (k_X11_packed l dC dI cB cC cI cJ cZ cP oA rA H.size q_40 _ ([109, 101] : List Int32) 0 2 9 u_38.2 _ hu_41) ⟨va_cnB 4 hts (g_gA wq_393) rfl rfl rfl (nw_15 hN) (hts (.initialized RX11) wq_1) (by decide +kernel) ⟨Nat.le_of_ble_eq_true rfl, Nat.le_of_ble_eq_true rfl⟩, (hts (.static yX11_packed) wq_392), trivial⟩ (g_preS g_blS hK hPc hDc hS hE hFc (g_toS hSq_40 hS hFc)) rfl rfl hl.1 rfl (lv_room (Nat.le_of_ble_eq_true rfl)) dX7_clear_131 ⟨Nat.le_of_ble_eq_true rfl, Nat.le_of_ble_eq_true rfl⟩) (fun H locs hP hS => ?_)
    clear hPc hDc hFc
    obtain ⟨u_43, hu_43, hF_44⟩ := Option.bind_eq_some_iff.mp hF_42
    clear hF_42
    have hPc := bx_P (bs := [b_s cB cC cI cJ cZ oA rA u_38.2, b_c cB cC cI cJ cZ oA rA u_38.2, b_t cB cC cI cJ cZ oA rA u_38.2, b_d cB cC cI cJ cZ oA rA u_38.2]) (bs' := [b_s cB cC cI cJ cZ oA rA u_38.2, b_c cB cC cI cJ cZ oA rA u_38.2, b_t cB cC cI cJ cZ oA rA u_38.2, b_d cB cC cI cJ cZ oA rA u_38.2]) (ws' := (b_s cB cC cI cJ cZ oA rA u_38.2 ++ b_c cB cC cI cJ cZ oA rA u_38.2 ++ b_t cB cC cI cJ cZ oA rA u_38.2 ++ b_d cB cC cI cJ cZ oA rA u_38.2)) hP fl_4 fl_4 [0, 1, 2, 3] rfl
    have hDc := bx_D (bs := [b_s cB cC cI cJ cZ oA rA u_38.2, b_c cB cC cI cJ cZ oA rA u_38.2, b_t cB cC cI cJ cZ oA rA u_38.2, b_d cB cC cI cJ cZ oA rA u_38.2]) (bs' := [b_s cB cC cI cJ cZ oA rA u_38.2, b_c cB cC cI cJ cZ oA rA u_38.2, b_t cB cC cI cJ cZ oA rA u_38.2, b_d cB cC cI cJ cZ oA rA u_38.2]) (ws' := (b_s cB cC cI cJ cZ oA rA u_38.2 ++ b_c cB cC cI cJ cZ oA rA u_38.2 ++ b_t cB cC cI cJ cZ oA rA u_38.2 ++ b_d cB cC cI cJ cZ oA rA u_38.2)) (hDD u_38.2) fl_4 fl_4 [0, 1, 2, 3] (by decide +kernel) rfl
    have hFc := bx_F (bs := [b_s cB cC cI cJ cZ oA rA u_38.2, b_c cB cC cI cJ cZ oA rA u_38.2, b_t cB cC cI cJ cZ oA rA u_38.2, b_d cB cC cI cJ cZ oA rA u_38.2]) (bs' := [b_s cB cC cI cJ cZ oA rA u_38.2, b_c cB cC cI cJ cZ oA rA u_38.2, b_t cB cC cI cJ cZ oA rA u_38.2, b_d cB cC cI cJ cZ oA rA u_38.2]) (wc := (b_s cB cC cI cJ cZ oA rA u_38.2 ++ b_c cB cC cI cJ cZ oA rA u_38.2 ++ b_t cB cC cI cJ cZ oA rA u_38.2 ++ b_d cB cC cI cJ cZ oA rA u_38.2)) (hDD u_38.2) hS hA fl_4 fl_4 [0, 1, 2, 3] rfl
    refine g_ofv (wc := (b_s cB cC cI cJ cZ oA rA u_38.2 ++ b_c cB cC cI cJ cZ oA rA u_38.2 ++ b_t cB cC cI cJ cZ oA rA u_38.2 ++ b_d cB cC cI cJ cZ oA rA u_38.2)) (wr := ([] : va_W)) hP (hDD u_38.2) hS hFc (bx_ix [b_s cB cC cI cJ cZ oA rA u_38.2, b_c cB cC cI cJ cZ oA rA u_38.2, b_t cB cC cI cJ cZ oA rA u_38.2, b_d cB cC cI cJ cZ oA rA u_38.2] [0, 1, 2, 3]) (bx_ix [b_s cB cC cI cJ cZ oA rA u_38.2, b_c cB cC cI cJ cZ oA rA u_38.2, b_t cB cC cI cJ cZ oA rA u_38.2, b_d cB cC cI cJ cZ oA rA u_38.2] []) (bx_C (bs := [b_s cB cC cI cJ cZ oA rA u_38.2, b_c cB cC cI cJ cZ oA rA u_38.2, b_t cB cC cI cJ cZ oA rA u_38.2, b_d cB cC cI cJ cZ oA rA u_38.2]) (bs' := [b_s cB cC cI cJ cZ oA rA u_38.2, b_c cB cC cI cJ cZ oA rA u_38.2, b_t cB cC cI cJ cZ oA rA u_38.2, b_d cB cC cI cJ cZ oA rA u_38.2]) (is := [0, 1, 2, 3]) fl_4 fl_4 rfl) (bx_C (bs := [b_s cB cC cI cJ cZ oA rA u_38.2, b_c cB cC cI cJ cZ oA rA u_38.2, b_t cB cC cI cJ cZ oA rA u_38.2, b_d cB cC cI cJ cZ oA rA u_38.2]) (bs' := []) (is := []) fl_4 fl_0 rfl) (bx_n (by decide +kernel)) (bx_d (by decide +kernel)) (va_runV (As := [.int 1, .long u_41.1]) (rest := []) ⟨hx, hb, hml, hown, hts⟩ (k_X7_addWord l dC dI cB cC cI cJ cZ cP oA rA H.size  1 u_41.1 u_38.2 _ hu_43) (cwV 2 hts (g_gV wq_520 wq_521 wq_522 wq_5 wq_523) rfl rfl rfl (by decide +kernel) ⟨Nat.le_of_ble_eq_true rfl, Nat.le_of_ble_eq_true rfl⟩) (g_preV g_bl0 hK hPc hDc hS hE hFc g_to0 (q0 := 0) (ci := 7) rfl rfl) rfl rfl hl.1 rfl (lv_room (Nat.le_of_ble_eq_true rfl)) dX7_clear_134 ⟨Nat.le_of_ble_eq_true rfl, Nat.le_of_ble_eq_true rfl⟩) (fun u9 H locs hw9 hP' hD' hS => ?_)
    clear hPc hDc hFc
    have hP : va_P (dC, dI) vwCl (b_s cB cC cI cJ cZ oA rA u_43.2 ++ b_c cB cC cI cJ cZ oA rA u_43.2 ++ b_t cB cC cI cJ cZ oA rA u_43.2 ++ b_d cB cC cI cJ cZ oA rA u_43.2) H := hP'
    clear hP' hD'
    refine lv_aload_n hx hb dX7_clear_137 rfl (lv_at hl 0 rfl) ?_
    refine lv_iconst (v := 1) hx hb dX7_clear_138 (by decide +kernel) ?_
    refine lv_iconst (v := 0) hx hb dX7_clear_139 (by decide +kernel) ?_
    obtain ⟨q_45, vq_45, hRq_45, hSq_45⟩ := hE.2.2.2.2 _ (List.mem_of_getElem? (i := 8) rfl)
    refine va_ldcS (own := RX7) (tx := "look l ") hx hb hown hRq_45 dX7_clear_140 ?_
    obtain ⟨u_46, hu_46, hF_47⟩ := Option.bind_eq_some_iff.mp hF_44
    clear hF_44
    have hPc := bx_P (bs := [b_s cB cC cI cJ cZ oA rA u_43.2, b_c cB cC cI cJ cZ oA rA u_43.2, b_t cB cC cI cJ cZ oA rA u_43.2, b_d cB cC cI cJ cZ oA rA u_43.2]) (bs' := [b_s cB cC cI cJ cZ oA rA u_43.2, b_c cB cC cI cJ cZ oA rA u_43.2, b_t cB cC cI cJ cZ oA rA u_43.2, b_d cB cC cI cJ cZ oA rA u_43.2]) (ws' := (b_s cB cC cI cJ cZ oA rA u_43.2 ++ b_c cB cC cI cJ cZ oA rA u_43.2 ++ b_t cB cC cI cJ cZ oA rA u_43.2 ++ b_d cB cC cI cJ cZ oA rA u_43.2)) hP fl_4 fl_4 [0, 1, 2, 3] rfl
    have hDc := bx_D (bs := [b_s cB cC cI cJ cZ oA rA u_43.2, b_c cB cC cI cJ cZ oA rA u_43.2, b_t cB cC cI cJ cZ oA rA u_43.2, b_d cB cC cI cJ cZ oA rA u_43.2]) (bs' := [b_s cB cC cI cJ cZ oA rA u_43.2, b_c cB cC cI cJ cZ oA rA u_43.2, b_t cB cC cI cJ cZ oA rA u_43.2, b_d cB cC cI cJ cZ oA rA u_43.2]) (ws' := (b_s cB cC cI cJ cZ oA rA u_43.2 ++ b_c cB cC cI cJ cZ oA rA u_43.2 ++ b_t cB cC cI cJ cZ oA rA u_43.2 ++ b_d cB cC cI cJ cZ oA rA u_43.2)) (hDD u_43.2) fl_4 fl_4 [0, 1, 2, 3] (by decide +kernel) rfl
    have hFc := bx_F (bs := [b_s cB cC cI cJ cZ oA rA u_43.2, b_c cB cC cI cJ cZ oA rA u_43.2, b_t cB cC cI cJ cZ oA rA u_43.2, b_d cB cC cI cJ cZ oA rA u_43.2]) (bs' := [b_s cB cC cI cJ cZ oA rA u_43.2, b_c cB cC cI cJ cZ oA rA u_43.2, b_t cB cC cI cJ cZ oA rA u_43.2, b_d cB cC cI cJ cZ oA rA u_43.2]) (wc := (b_s cB cC cI cJ cZ oA rA u_43.2 ++ b_c cB cC cI cJ cZ oA rA u_43.2 ++ b_t cB cC cI cJ cZ oA rA u_43.2 ++ b_d cB cC cI cJ cZ oA rA u_43.2)) (hDD u_43.2) hS hA fl_4 fl_4 [0, 1, 2, 3] rfl
    refine g_ofv (wc := (b_s cB cC cI cJ cZ oA rA u_43.2 ++ b_c cB cC cI cJ cZ oA rA u_43.2 ++ b_t cB cC cI cJ cZ oA rA u_43.2 ++ b_d cB cC cI cJ cZ oA rA u_43.2)) (wr := ([] : va_W)) hP (hDD u_43.2) hS hFc (bx_ix [b_s cB cC cI cJ cZ oA rA u_43.2, b_c cB cC cI cJ cZ oA rA u_43.2, b_t cB cC cI cJ cZ oA rA u_43.2, b_d cB cC cI cJ cZ oA rA u_43.2] [0, 1, 2, 3]) (bx_ix [b_s cB cC cI cJ cZ oA rA u_43.2, b_c cB cC cI cJ cZ oA rA u_43.2, b_t cB cC cI cJ cZ oA rA u_43.2, b_d cB cC cI cJ cZ oA rA u_43.2] []) (bx_C (bs := [b_s cB cC cI cJ cZ oA rA u_43.2, b_c cB cC cI cJ cZ oA rA u_43.2, b_t cB cC cI cJ cZ oA rA u_43.2, b_d cB cC cI cJ cZ oA rA u_43.2]) (bs' := [b_s cB cC cI cJ cZ oA rA u_43.2, b_c cB cC cI cJ cZ oA rA u_43.2, b_t cB cC cI cJ cZ oA rA u_43.2, b_d cB cC cI cJ cZ oA rA u_43.2]) (is := [0, 1, 2, 3]) fl_4 fl_4 rfl) (bx_C (bs := [b_s cB cC cI cJ cZ oA rA u_43.2, b_c cB cC cI cJ cZ oA rA u_43.2, b_t cB cC cI cJ cZ oA rA u_43.2, b_d cB cC cI cJ cZ oA rA u_43.2]) (bs' := []) (is := []) fl_4 fl_0 rfl) (bx_n (by decide +kernel)) (bx_d (by decide +kernel)) (va_runV (As := [.int 1, .int 0, .ref q_45]) (rest := []) ⟨hx, hb, hml, hown, hts⟩ (k_X7_addVerb l dC dI cB cC cI cJ cZ cP oA rA H.size q_45 _ 1 0 ([108, 111, 111, 107, 32, 108, 32] : List Int32) u_43.2 _ hu_46) (cwV 3 hts (g_gV wq_535 wq_536 wq_1993 wq_5 wq_537) rfl rfl rfl (by decide +kernel) ⟨Nat.le_of_ble_eq_true rfl, Nat.le_of_ble_eq_true rfl⟩) (g_preV g_blS hK hPc hDc hS hE hFc (g_toS hSq_45 hS hFc) (q0 := 0) (ci := 7) rfl rfl) rfl rfl hl.1 rfl (lv_room (Nat.le_of_ble_eq_true rfl)) dX7_clear_142 ⟨Nat.le_of_ble_eq_true rfl, Nat.le_of_ble_eq_true rfl⟩) (fun u9 H locs hw9 hP' hD' hS => ?_)
    clear hPc hDc hFc
    have hP : va_P (dC, dI) vwCl (b_s cB cC cI cJ cZ oA rA u_46.2 ++ b_c cB cC cI cJ cZ oA rA u_46.2 ++ b_t cB cC cI cJ cZ oA rA u_46.2 ++ b_d cB cC cI cJ cZ oA rA u_46.2) H := hP'
    clear hP' hD'
    refine lv_aload_n hx hb dX7_clear_145 rfl (lv_at hl 0 rfl) ?_
    refine lv_iconst (v := 2) hx hb dX7_clear_146 (by decide +kernel) ?_
    refine lv_iconst (v := 0) hx hb dX7_clear_147 (by decide +kernel) ?_
    obtain ⟨q_48, vq_48, hRq_48, hSq_48⟩ := hE.2.2.2.2 _ (List.mem_of_getElem? (i := 9) rfl)
    refine va_ldcS (own := RX7) (tx := "inventory i ") hx hb hown hRq_48 dX7_clear_148 ?_
    obtain ⟨u_49, hu_49, hF_50⟩ := Option.bind_eq_some_iff.mp hF_47
    clear hF_47
    have hPc := bx_P (bs := [b_s cB cC cI cJ cZ oA rA u_46.2, b_c cB cC cI cJ cZ oA rA u_46.2, b_t cB cC cI cJ cZ oA rA u_46.2, b_d cB cC cI cJ cZ oA rA u_46.2]) (bs' := [b_s cB cC cI cJ cZ oA rA u_46.2, b_c cB cC cI cJ cZ oA rA u_46.2, b_t cB cC cI cJ cZ oA rA u_46.2, b_d cB cC cI cJ cZ oA rA u_46.2]) (ws' := (b_s cB cC cI cJ cZ oA rA u_46.2 ++ b_c cB cC cI cJ cZ oA rA u_46.2 ++ b_t cB cC cI cJ cZ oA rA u_46.2 ++ b_d cB cC cI cJ cZ oA rA u_46.2)) hP fl_4 fl_4 [0, 1, 2, 3] rfl
    have hDc := bx_D (bs := [b_s cB cC cI cJ cZ oA rA u_46.2, b_c cB cC cI cJ cZ oA rA u_46.2, b_t cB cC cI cJ cZ oA rA u_46.2, b_d cB cC cI cJ cZ oA rA u_46.2]) (bs' := [b_s cB cC cI cJ cZ oA rA u_46.2, b_c cB cC cI cJ cZ oA rA u_46.2, b_t cB cC cI cJ cZ oA rA u_46.2, b_d cB cC cI cJ cZ oA rA u_46.2]) (ws' := (b_s cB cC cI cJ cZ oA rA u_46.2 ++ b_c cB cC cI cJ cZ oA rA u_46.2 ++ b_t cB cC cI cJ cZ oA rA u_46.2 ++ b_d cB cC cI cJ cZ oA rA u_46.2)) (hDD u_46.2) fl_4 fl_4 [0, 1, 2, 3] (by decide +kernel) rfl
    have hFc := bx_F (bs := [b_s cB cC cI cJ cZ oA rA u_46.2, b_c cB cC cI cJ cZ oA rA u_46.2, b_t cB cC cI cJ cZ oA rA u_46.2, b_d cB cC cI cJ cZ oA rA u_46.2]) (bs' := [b_s cB cC cI cJ cZ oA rA u_46.2, b_c cB cC cI cJ cZ oA rA u_46.2, b_t cB cC cI cJ cZ oA rA u_46.2, b_d cB cC cI cJ cZ oA rA u_46.2]) (wc := (b_s cB cC cI cJ cZ oA rA u_46.2 ++ b_c cB cC cI cJ cZ oA rA u_46.2 ++ b_t cB cC cI cJ cZ oA rA u_46.2 ++ b_d cB cC cI cJ cZ oA rA u_46.2)) (hDD u_46.2) hS hA fl_4 fl_4 [0, 1, 2, 3] rfl
    refine g_ofv (wc := (b_s cB cC cI cJ cZ oA rA u_46.2 ++ b_c cB cC cI cJ cZ oA rA u_46.2 ++ b_t cB cC cI cJ cZ oA rA u_46.2 ++ b_d cB cC cI cJ cZ oA rA u_46.2)) (wr := ([] : va_W)) hP (hDD u_46.2) hS hFc (bx_ix [b_s cB cC cI cJ cZ oA rA u_46.2, b_c cB cC cI cJ cZ oA rA u_46.2, b_t cB cC cI cJ cZ oA rA u_46.2, b_d cB cC cI cJ cZ oA rA u_46.2] [0, 1, 2, 3]) (bx_ix [b_s cB cC cI cJ cZ oA rA u_46.2, b_c cB cC cI cJ cZ oA rA u_46.2, b_t cB cC cI cJ cZ oA rA u_46.2, b_d cB cC cI cJ cZ oA rA u_46.2] []) (bx_C (bs := [b_s cB cC cI cJ cZ oA rA u_46.2, b_c cB cC cI cJ cZ oA rA u_46.2, b_t cB cC cI cJ cZ oA rA u_46.2, b_d cB cC cI cJ cZ oA rA u_46.2]) (bs' := [b_s cB cC cI cJ cZ oA rA u_46.2, b_c cB cC cI cJ cZ oA rA u_46.2, b_t cB cC cI cJ cZ oA rA u_46.2, b_d cB cC cI cJ cZ oA rA u_46.2]) (is := [0, 1, 2, 3]) fl_4 fl_4 rfl) (bx_C (bs := [b_s cB cC cI cJ cZ oA rA u_46.2, b_c cB cC cI cJ cZ oA rA u_46.2, b_t cB cC cI cJ cZ oA rA u_46.2, b_d cB cC cI cJ cZ oA rA u_46.2]) (bs' := []) (is := []) fl_4 fl_0 rfl) (bx_n (by decide +kernel)) (bx_d (by decide +kernel)) (va_runV (As := [.int 2, .int 0, .ref q_48]) (rest := []) ⟨hx, hb, hml, hown, hts⟩ (k_X7_addVerb l dC dI cB cC cI cJ cZ cP oA rA H.size q_48 _ 2 0 ([105, 110, 118, 101, 110, 116, 111, 114, 121, 32, 105, 32] : List Int32) u_46.2 _ hu_49) (cwV 3 hts (g_gV wq_535 wq_536 wq_1993 wq_5 wq_537) rfl rfl rfl (by decide +kernel) ⟨Nat.le_of_ble_eq_true rfl, Nat.le_of_ble_eq_true rfl⟩) (g_preV g_blS hK hPc hDc hS hE hFc (g_toS hSq_48 hS hFc) (q0 := 0) (ci := 7) rfl rfl) rfl rfl hl.1 rfl (lv_room (Nat.le_of_ble_eq_true rfl)) dX7_clear_150 ⟨Nat.le_of_ble_eq_true rfl, Nat.le_of_ble_eq_true rfl⟩) (fun u9 H locs hw9 hP' hD' hS => ?_)
    clear hPc hDc hFc
    have hP : va_P (dC, dI) vwCl (b_s cB cC cI cJ cZ oA rA u_49.2 ++ b_c cB cC cI cJ cZ oA rA u_49.2 ++ b_t cB cC cI cJ cZ oA rA u_49.2 ++ b_d cB cC cI cJ cZ oA rA u_49.2) H := hP'
    clear hP' hD'
    refine lv_aload_n hx hb dX7_clear_153 rfl (lv_at hl 0 rfl) ?_
    refine lv_iconst (v := 3) hx hb dX7_clear_154 (by decide +kernel) ?_
    refine lv_iconst (v := 0) hx hb dX7_clear_155 (by decide +kernel) ?_
    obtain ⟨q_51, vq_51, hRq_51, hSq_51⟩ := hE.2.2.2.2 _ (List.mem_of_getElem? (i := 10) rfl)
    refine va_ldcS (own := RX7) (tx := "wait z ") hx hb hown hRq_51 dX7_clear_156 ?_
    obtain ⟨u_52, hu_52, hF_53⟩ := Option.bind_eq_some_iff.mp hF_50
    clear hF_50
    have hPc := bx_P (bs := [b_s cB cC cI cJ cZ oA rA u_49.2, b_c cB cC cI cJ cZ oA rA u_49.2, b_t cB cC cI cJ cZ oA rA u_49.2, b_d cB cC cI cJ cZ oA rA u_49.2]) (bs' := [b_s cB cC cI cJ cZ oA rA u_49.2, b_c cB cC cI cJ cZ oA rA u_49.2, b_t cB cC cI cJ cZ oA rA u_49.2, b_d cB cC cI cJ cZ oA rA u_49.2]) (ws' := (b_s cB cC cI cJ cZ oA rA u_49.2 ++ b_c cB cC cI cJ cZ oA rA u_49.2 ++ b_t cB cC cI cJ cZ oA rA u_49.2 ++ b_d cB cC cI cJ cZ oA rA u_49.2)) hP fl_4 fl_4 [0, 1, 2, 3] rfl
    have hDc := bx_D (bs := [b_s cB cC cI cJ cZ oA rA u_49.2, b_c cB cC cI cJ cZ oA rA u_49.2, b_t cB cC cI cJ cZ oA rA u_49.2, b_d cB cC cI cJ cZ oA rA u_49.2]) (bs' := [b_s cB cC cI cJ cZ oA rA u_49.2, b_c cB cC cI cJ cZ oA rA u_49.2, b_t cB cC cI cJ cZ oA rA u_49.2, b_d cB cC cI cJ cZ oA rA u_49.2]) (ws' := (b_s cB cC cI cJ cZ oA rA u_49.2 ++ b_c cB cC cI cJ cZ oA rA u_49.2 ++ b_t cB cC cI cJ cZ oA rA u_49.2 ++ b_d cB cC cI cJ cZ oA rA u_49.2)) (hDD u_49.2) fl_4 fl_4 [0, 1, 2, 3] (by decide +kernel) rfl
    have hFc := bx_F (bs := [b_s cB cC cI cJ cZ oA rA u_49.2, b_c cB cC cI cJ cZ oA rA u_49.2, b_t cB cC cI cJ cZ oA rA u_49.2, b_d cB cC cI cJ cZ oA rA u_49.2]) (bs' := [b_s cB cC cI cJ cZ oA rA u_49.2, b_c cB cC cI cJ cZ oA rA u_49.2, b_t cB cC cI cJ cZ oA rA u_49.2, b_d cB cC cI cJ cZ oA rA u_49.2]) (wc := (b_s cB cC cI cJ cZ oA rA u_49.2 ++ b_c cB cC cI cJ cZ oA rA u_49.2 ++ b_t cB cC cI cJ cZ oA rA u_49.2 ++ b_d cB cC cI cJ cZ oA rA u_49.2)) (hDD u_49.2) hS hA fl_4 fl_4 [0, 1, 2, 3] rfl
    refine g_ofv (wc := (b_s cB cC cI cJ cZ oA rA u_49.2 ++ b_c cB cC cI cJ cZ oA rA u_49.2 ++ b_t cB cC cI cJ cZ oA rA u_49.2 ++ b_d cB cC cI cJ cZ oA rA u_49.2)) (wr := ([] : va_W)) hP (hDD u_49.2) hS hFc (bx_ix [b_s cB cC cI cJ cZ oA rA u_49.2, b_c cB cC cI cJ cZ oA rA u_49.2, b_t cB cC cI cJ cZ oA rA u_49.2, b_d cB cC cI cJ cZ oA rA u_49.2] [0, 1, 2, 3]) (bx_ix [b_s cB cC cI cJ cZ oA rA u_49.2, b_c cB cC cI cJ cZ oA rA u_49.2, b_t cB cC cI cJ cZ oA rA u_49.2, b_d cB cC cI cJ cZ oA rA u_49.2] []) (bx_C (bs := [b_s cB cC cI cJ cZ oA rA u_49.2, b_c cB cC cI cJ cZ oA rA u_49.2, b_t cB cC cI cJ cZ oA rA u_49.2, b_d cB cC cI cJ cZ oA rA u_49.2]) (bs' := [b_s cB cC cI cJ cZ oA rA u_49.2, b_c cB cC cI cJ cZ oA rA u_49.2, b_t cB cC cI cJ cZ oA rA u_49.2, b_d cB cC cI cJ cZ oA rA u_49.2]) (is := [0, 1, 2, 3]) fl_4 fl_4 rfl) (bx_C (bs := [b_s cB cC cI cJ cZ oA rA u_49.2, b_c cB cC cI cJ cZ oA rA u_49.2, b_t cB cC cI cJ cZ oA rA u_49.2, b_d cB cC cI cJ cZ oA rA u_49.2]) (bs' := []) (is := []) fl_4 fl_0 rfl) (bx_n (by decide +kernel)) (bx_d (by decide +kernel)) (va_runV (As := [.int 3, .int 0, .ref q_51]) (rest := []) ⟨hx, hb, hml, hown, hts⟩ (k_X7_addVerb l dC dI cB cC cI cJ cZ cP oA rA H.size q_51 _ 3 0 ([119, 97, 105, 116, 32, 122, 32] : List Int32) u_49.2 _ hu_52) (cwV 3 hts (g_gV wq_535 wq_536 wq_1993 wq_5 wq_537) rfl rfl rfl (by decide +kernel) ⟨Nat.le_of_ble_eq_true rfl, Nat.le_of_ble_eq_true rfl⟩) (g_preV g_blS hK hPc hDc hS hE hFc (g_toS hSq_51 hS hFc) (q0 := 0) (ci := 7) rfl rfl) rfl rfl hl.1 rfl (lv_room (Nat.le_of_ble_eq_true rfl)) dX7_clear_158 ⟨Nat.le_of_ble_eq_true rfl, Nat.le_of_ble_eq_true rfl⟩) (fun u9 H locs hw9 hP' hD' hS => ?_)
    clear hPc hDc hFc
    have hP : va_P (dC, dI) vwCl (b_s cB cC cI cJ cZ oA rA u_52.2 ++ b_c cB cC cI cJ cZ oA rA u_52.2 ++ b_t cB cC cI cJ cZ oA rA u_52.2 ++ b_d cB cC cI cJ cZ oA rA u_52.2) H := hP'
    clear hP' hD'
    refine lv_aload_n hx hb dX7_clear_161 rfl (lv_at hl 0 rfl) ?_
    refine lv_iconst (v := 4) hx hb dX7_clear_162 (by decide +kernel) ?_
    refine lv_iconst (v := 1) hx hb dX7_clear_163 (by decide +kernel) ?_
    obtain ⟨q_54, vq_54, hRq_54, hSq_54⟩ := hE.2.2.2.2 _ (List.mem_of_getElem? (i := 11) rfl)
    refine va_ldcS (own := RX7) (tx := "take get ") hx hb hown hRq_54 dX7_clear_164 ?_
    obtain ⟨u_55, hu_55, hF_56⟩ := Option.bind_eq_some_iff.mp hF_53
    clear hF_53
    have hPc := bx_P (bs := [b_s cB cC cI cJ cZ oA rA u_52.2, b_c cB cC cI cJ cZ oA rA u_52.2, b_t cB cC cI cJ cZ oA rA u_52.2, b_d cB cC cI cJ cZ oA rA u_52.2]) (bs' := [b_s cB cC cI cJ cZ oA rA u_52.2, b_c cB cC cI cJ cZ oA rA u_52.2, b_t cB cC cI cJ cZ oA rA u_52.2, b_d cB cC cI cJ cZ oA rA u_52.2]) (ws' := (b_s cB cC cI cJ cZ oA rA u_52.2 ++ b_c cB cC cI cJ cZ oA rA u_52.2 ++ b_t cB cC cI cJ cZ oA rA u_52.2 ++ b_d cB cC cI cJ cZ oA rA u_52.2)) hP fl_4 fl_4 [0, 1, 2, 3] rfl
    have hDc := bx_D (bs := [b_s cB cC cI cJ cZ oA rA u_52.2, b_c cB cC cI cJ cZ oA rA u_52.2, b_t cB cC cI cJ cZ oA rA u_52.2, b_d cB cC cI cJ cZ oA rA u_52.2]) (bs' := [b_s cB cC cI cJ cZ oA rA u_52.2, b_c cB cC cI cJ cZ oA rA u_52.2, b_t cB cC cI cJ cZ oA rA u_52.2, b_d cB cC cI cJ cZ oA rA u_52.2]) (ws' := (b_s cB cC cI cJ cZ oA rA u_52.2 ++ b_c cB cC cI cJ cZ oA rA u_52.2 ++ b_t cB cC cI cJ cZ oA rA u_52.2 ++ b_d cB cC cI cJ cZ oA rA u_52.2)) (hDD u_52.2) fl_4 fl_4 [0, 1, 2, 3] (by decide +kernel) rfl
    have hFc := bx_F (bs := [b_s cB cC cI cJ cZ oA rA u_52.2, b_c cB cC cI cJ cZ oA rA u_52.2, b_t cB cC cI cJ cZ oA rA u_52.2, b_d cB cC cI cJ cZ oA rA u_52.2]) (bs' := [b_s cB cC cI cJ cZ oA rA u_52.2, b_c cB cC cI cJ cZ oA rA u_52.2, b_t cB cC cI cJ cZ oA rA u_52.2, b_d cB cC cI cJ cZ oA rA u_52.2]) (wc := (b_s cB cC cI cJ cZ oA rA u_52.2 ++ b_c cB cC cI cJ cZ oA rA u_52.2 ++ b_t cB cC cI cJ cZ oA rA u_52.2 ++ b_d cB cC cI cJ cZ oA rA u_52.2)) (hDD u_52.2) hS hA fl_4 fl_4 [0, 1, 2, 3] rfl
    refine g_ofv (wc := (b_s cB cC cI cJ cZ oA rA u_52.2 ++ b_c cB cC cI cJ cZ oA rA u_52.2 ++ b_t cB cC cI cJ cZ oA rA u_52.2 ++ b_d cB cC cI cJ cZ oA rA u_52.2)) (wr := ([] : va_W)) hP (hDD u_52.2) hS hFc (bx_ix [b_s cB cC cI cJ cZ oA rA u_52.2, b_c cB cC cI cJ cZ oA rA u_52.2, b_t cB cC cI cJ cZ oA rA u_52.2, b_d cB cC cI cJ cZ oA rA u_52.2] [0, 1, 2, 3]) (bx_ix [b_s cB cC cI cJ cZ oA rA u_52.2, b_c cB cC cI cJ cZ oA rA u_52.2, b_t cB cC cI cJ cZ oA rA u_52.2, b_d cB cC cI cJ cZ oA rA u_52.2] []) (bx_C (bs := [b_s cB cC cI cJ cZ oA rA u_52.2, b_c cB cC cI cJ cZ oA rA u_52.2, b_t cB cC cI cJ cZ oA rA u_52.2, b_d cB cC cI cJ cZ oA rA u_52.2]) (bs' := [b_s cB cC cI cJ cZ oA rA u_52.2, b_c cB cC cI cJ cZ oA rA u_52.2, b_t cB cC cI cJ cZ oA rA u_52.2, b_d cB cC cI cJ cZ oA rA u_52.2]) (is := [0, 1, 2, 3]) fl_4 fl_4 rfl) (bx_C (bs := [b_s cB cC cI cJ cZ oA rA u_52.2, b_c cB cC cI cJ cZ oA rA u_52.2, b_t cB cC cI cJ cZ oA rA u_52.2, b_d cB cC cI cJ cZ oA rA u_52.2]) (bs' := []) (is := []) fl_4 fl_0 rfl) (bx_n (by decide +kernel)) (bx_d (by decide +kernel)) (va_runV (As := [.int 4, .int 1, .ref q_54]) (rest := []) ⟨hx, hb, hml, hown, hts⟩ (k_X7_addVerb l dC dI cB cC cI cJ cZ cP oA rA H.size q_54 _ 4 1 ([116, 97, 107, 101, 32, 103, 101, 116, 32] : List Int32) u_52.2 _ hu_55) (cwV 3 hts (g_gV wq_535 wq_536 wq_1993 wq_5 wq_537) rfl rfl rfl (by decide +kernel) ⟨Nat.le_of_ble_eq_true rfl, Nat.le_of_ble_eq_true rfl⟩) (g_preV g_blS hK hPc hDc hS hE hFc (g_toS hSq_54 hS hFc) (q0 := 0) (ci := 7) rfl rfl) rfl rfl hl.1 rfl (lv_room (Nat.le_of_ble_eq_true rfl)) dX7_clear_166 ⟨Nat.le_of_ble_eq_true rfl, Nat.le_of_ble_eq_true rfl⟩) (fun u9 H locs hw9 hP' hD' hS => ?_)
    clear hPc hDc hFc
    have hP : va_P (dC, dI) vwCl (b_s cB cC cI cJ cZ oA rA u_55.2 ++ b_c cB cC cI cJ cZ oA rA u_55.2 ++ b_t cB cC cI cJ cZ oA rA u_55.2 ++ b_d cB cC cI cJ cZ oA rA u_55.2) H := hP'
    clear hP' hD'
    refine lv_aload_n hx hb dX7_clear_169 rfl (lv_at hl 0 rfl) ?_
    refine lv_iconst (v := 5) hx hb dX7_clear_170 (by decide +kernel) ?_
    refine lv_iconst (v := 1) hx hb dX7_clear_171 (by decide +kernel) ?_
    obtain ⟨q_57, vq_57, hRq_57, hSq_57⟩ := hE.2.2.2.2 _ (List.mem_of_getElem? (i := 12) rfl)
    refine va_ldcS (own := RX7) (tx := "drop ") hx hb hown hRq_57 dX7_clear_172 ?_
    obtain ⟨u_58, hu_58, hF_59⟩ := Option.bind_eq_some_iff.mp hF_56
    clear hF_56
    have hPc := bx_P (bs := [b_s cB cC cI cJ cZ oA rA u_55.2, b_c cB cC cI cJ cZ oA rA u_55.2, b_t cB cC cI cJ cZ oA rA u_55.2, b_d cB cC cI cJ cZ oA rA u_55.2]) (bs' := [b_s cB cC cI cJ cZ oA rA u_55.2, b_c cB cC cI cJ cZ oA rA u_55.2, b_t cB cC cI cJ cZ oA rA u_55.2, b_d cB cC cI cJ cZ oA rA u_55.2]) (ws' := (b_s cB cC cI cJ cZ oA rA u_55.2 ++ b_c cB cC cI cJ cZ oA rA u_55.2 ++ b_t cB cC cI cJ cZ oA rA u_55.2 ++ b_d cB cC cI cJ cZ oA rA u_55.2)) hP fl_4 fl_4 [0, 1, 2, 3] rfl
    have hDc := bx_D (bs := [b_s cB cC cI cJ cZ oA rA u_55.2, b_c cB cC cI cJ cZ oA rA u_55.2, b_t cB cC cI cJ cZ oA rA u_55.2, b_d cB cC cI cJ cZ oA rA u_55.2]) (bs' := [b_s cB cC cI cJ cZ oA rA u_55.2, b_c cB cC cI cJ cZ oA rA u_55.2, b_t cB cC cI cJ cZ oA rA u_55.2, b_d cB cC cI cJ cZ oA rA u_55.2]) (ws' := (b_s cB cC cI cJ cZ oA rA u_55.2 ++ b_c cB cC cI cJ cZ oA rA u_55.2 ++ b_t cB cC cI cJ cZ oA rA u_55.2 ++ b_d cB cC cI cJ cZ oA rA u_55.2)) (hDD u_55.2) fl_4 fl_4 [0, 1, 2, 3] (by decide +kernel) rfl
    have hFc := bx_F (bs := [b_s cB cC cI cJ cZ oA rA u_55.2, b_c cB cC cI cJ cZ oA rA u_55.2, b_t cB cC cI cJ cZ oA rA u_55.2, b_d cB cC cI cJ cZ oA rA u_55.2]) (bs' := [b_s cB cC cI cJ cZ oA rA u_55.2, b_c cB cC cI cJ cZ oA rA u_55.2, b_t cB cC cI cJ cZ oA rA u_55.2, b_d cB cC cI cJ cZ oA rA u_55.2]) (wc := (b_s cB cC cI cJ cZ oA rA u_55.2 ++ b_c cB cC cI cJ cZ oA rA u_55.2 ++ b_t cB cC cI cJ cZ oA rA u_55.2 ++ b_d cB cC cI cJ cZ oA rA u_55.2)) (hDD u_55.2) hS hA fl_4 fl_4 [0, 1, 2, 3] rfl
    refine g_ofv (wc := (b_s cB cC cI cJ cZ oA rA u_55.2 ++ b_c cB cC cI cJ cZ oA rA u_55.2 ++ b_t cB cC cI cJ cZ oA rA u_55.2 ++ b_d cB cC cI cJ cZ oA rA u_55.2)) (wr := ([] : va_W)) hP (hDD u_55.2) hS hFc (bx_ix [b_s cB cC cI cJ cZ oA rA u_55.2, b_c cB cC cI cJ cZ oA rA u_55.2, b_t cB cC cI cJ cZ oA rA u_55.2, b_d cB cC cI cJ cZ oA rA u_55.2] [0, 1, 2, 3]) (bx_ix [b_s cB cC cI cJ cZ oA rA u_55.2, b_c cB cC cI cJ cZ oA rA u_55.2, b_t cB cC cI cJ cZ oA rA u_55.2, b_d cB cC cI cJ cZ oA rA u_55.2] []) (bx_C (bs := [b_s cB cC cI cJ cZ oA rA u_55.2, b_c cB cC cI cJ cZ oA rA u_55.2, b_t cB cC cI cJ cZ oA rA u_55.2, b_d cB cC cI cJ cZ oA rA u_55.2]) (bs' := [b_s cB cC cI cJ cZ oA rA u_55.2, b_c cB cC cI cJ cZ oA rA u_55.2, b_t cB cC cI cJ cZ oA rA u_55.2, b_d cB cC cI cJ cZ oA rA u_55.2]) (is := [0, 1, 2, 3]) fl_4 fl_4 rfl) (bx_C (bs := [b_s cB cC cI cJ cZ oA rA u_55.2, b_c cB cC cI cJ cZ oA rA u_55.2, b_t cB cC cI cJ cZ oA rA u_55.2, b_d cB cC cI cJ cZ oA rA u_55.2]) (bs' := []) (is := []) fl_4 fl_0 rfl) (bx_n (by decide +kernel)) (bx_d (by decide +kernel)) (va_runV (As := [.int 5, .int 1, .ref q_57]) (rest := []) ⟨hx, hb, hml, hown, hts⟩ (k_X7_addVerb l dC dI cB cC cI cJ cZ cP oA rA H.size q_57 _ 5 1 ([100, 114, 111, 112, 32] : List Int32) u_55.2 _ hu_58) (cwV 3 hts (g_gV wq_535 wq_536 wq_1993 wq_5 wq_537) rfl rfl rfl (by decide +kernel) ⟨Nat.le_of_ble_eq_true rfl, Nat.le_of_ble_eq_true rfl⟩) (g_preV g_blS hK hPc hDc hS hE hFc (g_toS hSq_57 hS hFc) (q0 := 0) (ci := 7) rfl rfl) rfl rfl hl.1 rfl (lv_room (Nat.le_of_ble_eq_true rfl)) dX7_clear_174 ⟨Nat.le_of_ble_eq_true rfl, Nat.le_of_ble_eq_true rfl⟩) (fun u9 H locs hw9 hP' hD' hS => ?_)
    clear hPc hDc hFc
    have hP : va_P (dC, dI) vwCl (b_s cB cC cI cJ cZ oA rA u_58.2 ++ b_c cB cC cI cJ cZ oA rA u_58.2 ++ b_t cB cC cI cJ cZ oA rA u_58.2 ++ b_d cB cC cI cJ cZ oA rA u_58.2) H := hP'
    clear hP' hD'
    refine lv_aload_n hx hb dX7_clear_177 rfl (lv_at hl 0 rfl) ?_
    refine lv_bipush (v := 6) hx hb dX7_clear_178 (by decide +kernel) ?_
    refine lv_iconst (v := 1) hx hb dX7_clear_180 (by decide +kernel) ?_
    obtain ⟨q_60, vq_60, hRq_60, hSq_60⟩ := hE.2.2.2.2 _ (List.mem_of_getElem? (i := 13) rfl)
    refine va_ldcS (own := RX7) (tx := "examine x ") hx hb hown hRq_60 dX7_clear_181 ?_
    obtain ⟨u_61, hu_61, hF_62⟩ := Option.bind_eq_some_iff.mp hF_59
    clear hF_59
    have hPc := bx_P (bs := [b_s cB cC cI cJ cZ oA rA u_58.2, b_c cB cC cI cJ cZ oA rA u_58.2, b_t cB cC cI cJ cZ oA rA u_58.2, b_d cB cC cI cJ cZ oA rA u_58.2]) (bs' := [b_s cB cC cI cJ cZ oA rA u_58.2, b_c cB cC cI cJ cZ oA rA u_58.2, b_t cB cC cI cJ cZ oA rA u_58.2, b_d cB cC cI cJ cZ oA rA u_58.2]) (ws' := (b_s cB cC cI cJ cZ oA rA u_58.2 ++ b_c cB cC cI cJ cZ oA rA u_58.2 ++ b_t cB cC cI cJ cZ oA rA u_58.2 ++ b_d cB cC cI cJ cZ oA rA u_58.2)) hP fl_4 fl_4 [0, 1, 2, 3] rfl
    have hDc := bx_D (bs := [b_s cB cC cI cJ cZ oA rA u_58.2, b_c cB cC cI cJ cZ oA rA u_58.2, b_t cB cC cI cJ cZ oA rA u_58.2, b_d cB cC cI cJ cZ oA rA u_58.2]) (bs' := [b_s cB cC cI cJ cZ oA rA u_58.2, b_c cB cC cI cJ cZ oA rA u_58.2, b_t cB cC cI cJ cZ oA rA u_58.2, b_d cB cC cI cJ cZ oA rA u_58.2]) (ws' := (b_s cB cC cI cJ cZ oA rA u_58.2 ++ b_c cB cC cI cJ cZ oA rA u_58.2 ++ b_t cB cC cI cJ cZ oA rA u_58.2 ++ b_d cB cC cI cJ cZ oA rA u_58.2)) (hDD u_58.2) fl_4 fl_4 [0, 1, 2, 3] (by decide +kernel) rfl
    have hFc := bx_F (bs := [b_s cB cC cI cJ cZ oA rA u_58.2, b_c cB cC cI cJ cZ oA rA u_58.2, b_t cB cC cI cJ cZ oA rA u_58.2, b_d cB cC cI cJ cZ oA rA u_58.2]) (bs' := [b_s cB cC cI cJ cZ oA rA u_58.2, b_c cB cC cI cJ cZ oA rA u_58.2, b_t cB cC cI cJ cZ oA rA u_58.2, b_d cB cC cI cJ cZ oA rA u_58.2]) (wc := (b_s cB cC cI cJ cZ oA rA u_58.2 ++ b_c cB cC cI cJ cZ oA rA u_58.2 ++ b_t cB cC cI cJ cZ oA rA u_58.2 ++ b_d cB cC cI cJ cZ oA rA u_58.2)) (hDD u_58.2) hS hA fl_4 fl_4 [0, 1, 2, 3] rfl
    refine g_ofv (wc := (b_s cB cC cI cJ cZ oA rA u_58.2 ++ b_c cB cC cI cJ cZ oA rA u_58.2 ++ b_t cB cC cI cJ cZ oA rA u_58.2 ++ b_d cB cC cI cJ cZ oA rA u_58.2)) (wr := ([] : va_W)) hP (hDD u_58.2) hS hFc (bx_ix [b_s cB cC cI cJ cZ oA rA u_58.2, b_c cB cC cI cJ cZ oA rA u_58.2, b_t cB cC cI cJ cZ oA rA u_58.2, b_d cB cC cI cJ cZ oA rA u_58.2] [0, 1, 2, 3]) (bx_ix [b_s cB cC cI cJ cZ oA rA u_58.2, b_c cB cC cI cJ cZ oA rA u_58.2, b_t cB cC cI cJ cZ oA rA u_58.2, b_d cB cC cI cJ cZ oA rA u_58.2] []) (bx_C (bs := [b_s cB cC cI cJ cZ oA rA u_58.2, b_c cB cC cI cJ cZ oA rA u_58.2, b_t cB cC cI cJ cZ oA rA u_58.2, b_d cB cC cI cJ cZ oA rA u_58.2]) (bs' := [b_s cB cC cI cJ cZ oA rA u_58.2, b_c cB cC cI cJ cZ oA rA u_58.2, b_t cB cC cI cJ cZ oA rA u_58.2, b_d cB cC cI cJ cZ oA rA u_58.2]) (is := [0, 1, 2, 3]) fl_4 fl_4 rfl) (bx_C (bs := [b_s cB cC cI cJ cZ oA rA u_58.2, b_c cB cC cI cJ cZ oA rA u_58.2, b_t cB cC cI cJ cZ oA rA u_58.2, b_d cB cC cI cJ cZ oA rA u_58.2]) (bs' := []) (is := []) fl_4 fl_0 rfl) (bx_n (by decide +kernel)) (bx_d (by decide +kernel)) (va_runV (As := [.int 6, .int 1, .ref q_60]) (rest := []) ⟨hx, hb, hml, hown, hts⟩ (k_X7_addVerb l dC dI cB cC cI cJ cZ cP oA rA H.size q_60 _ 6 1 ([101, 120, 97, 109, 105, 110, 101, 32, 120, 32] : List Int32) u_58.2 _ hu_61) (cwV 3 hts (g_gV wq_535 wq_536 wq_1993 wq_5 wq_537) rfl rfl rfl (by decide +kernel) ⟨Nat.le_of_ble_eq_true rfl, Nat.le_of_ble_eq_true rfl⟩) (g_preV g_blS hK hPc hDc hS hE hFc (g_toS hSq_60 hS hFc) (q0 := 0) (ci := 7) rfl rfl) rfl rfl hl.1 rfl (lv_room (Nat.le_of_ble_eq_true rfl)) dX7_clear_183 ⟨Nat.le_of_ble_eq_true rfl, Nat.le_of_ble_eq_true rfl⟩) (fun u9 H locs hw9 hP' hD' hS => ?_)
    clear hPc hDc hFc
    have hP : va_P (dC, dI) vwCl (b_s cB cC cI cJ cZ oA rA u_61.2 ++ b_c cB cC cI cJ cZ oA rA u_61.2 ++ b_t cB cC cI cJ cZ oA rA u_61.2 ++ b_d cB cC cI cJ cZ oA rA u_61.2) H := hP'
    clear hP' hD'
    refine lv_aload_n hx hb dX7_clear_186 rfl (lv_at hl 0 rfl) ?_
    refine lv_bipush (v := 7) hx hb dX7_clear_187 (by decide +kernel) ?_
    refine lv_iconst (v := 1) hx hb dX7_clear_189 (by decide +kernel) ?_
    obtain ⟨q_63, vq_63, hRq_63, hSq_63⟩ := hE.2.2.2.2 _ (List.mem_of_getElem? (i := 14) rfl)
    refine va_ldcS (own := RX7) (tx := "open ") hx hb hown hRq_63 dX7_clear_190 ?_
    obtain ⟨u_64, hu_64, hF_65⟩ := Option.bind_eq_some_iff.mp hF_62
    clear hF_62
    have hPc := bx_P (bs := [b_s cB cC cI cJ cZ oA rA u_61.2, b_c cB cC cI cJ cZ oA rA u_61.2, b_t cB cC cI cJ cZ oA rA u_61.2, b_d cB cC cI cJ cZ oA rA u_61.2]) (bs' := [b_s cB cC cI cJ cZ oA rA u_61.2, b_c cB cC cI cJ cZ oA rA u_61.2, b_t cB cC cI cJ cZ oA rA u_61.2, b_d cB cC cI cJ cZ oA rA u_61.2]) (ws' := (b_s cB cC cI cJ cZ oA rA u_61.2 ++ b_c cB cC cI cJ cZ oA rA u_61.2 ++ b_t cB cC cI cJ cZ oA rA u_61.2 ++ b_d cB cC cI cJ cZ oA rA u_61.2)) hP fl_4 fl_4 [0, 1, 2, 3] rfl
    have hDc := bx_D (bs := [b_s cB cC cI cJ cZ oA rA u_61.2, b_c cB cC cI cJ cZ oA rA u_61.2, b_t cB cC cI cJ cZ oA rA u_61.2, b_d cB cC cI cJ cZ oA rA u_61.2]) (bs' := [b_s cB cC cI cJ cZ oA rA u_61.2, b_c cB cC cI cJ cZ oA rA u_61.2, b_t cB cC cI cJ cZ oA rA u_61.2, b_d cB cC cI cJ cZ oA rA u_61.2]) (ws' := (b_s cB cC cI cJ cZ oA rA u_61.2 ++ b_c cB cC cI cJ cZ oA rA u_61.2 ++ b_t cB cC cI cJ cZ oA rA u_61.2 ++ b_d cB cC cI cJ cZ oA rA u_61.2)) (hDD u_61.2) fl_4 fl_4 [0, 1, 2, 3] (by decide +kernel) rfl
    have hFc := bx_F (bs := [b_s cB cC cI cJ cZ oA rA u_61.2, b_c cB cC cI cJ cZ oA rA u_61.2, b_t cB cC cI cJ cZ oA rA u_61.2, b_d cB cC cI cJ cZ oA rA u_61.2]) (bs' := [b_s cB cC cI cJ cZ oA rA u_61.2, b_c cB cC cI cJ cZ oA rA u_61.2, b_t cB cC cI cJ cZ oA rA u_61.2, b_d cB cC cI cJ cZ oA rA u_61.2]) (wc := (b_s cB cC cI cJ cZ oA rA u_61.2 ++ b_c cB cC cI cJ cZ oA rA u_61.2 ++ b_t cB cC cI cJ cZ oA rA u_61.2 ++ b_d cB cC cI cJ cZ oA rA u_61.2)) (hDD u_61.2) hS hA fl_4 fl_4 [0, 1, 2, 3] rfl
    refine g_ofv (wc := (b_s cB cC cI cJ cZ oA rA u_61.2 ++ b_c cB cC cI cJ cZ oA rA u_61.2 ++ b_t cB cC cI cJ cZ oA rA u_61.2 ++ b_d cB cC cI cJ cZ oA rA u_61.2)) (wr := ([] : va_W)) hP (hDD u_61.2) hS hFc (bx_ix [b_s cB cC cI cJ cZ oA rA u_61.2, b_c cB cC cI cJ cZ oA rA u_61.2, b_t cB cC cI cJ cZ oA rA u_61.2, b_d cB cC cI cJ cZ oA rA u_61.2] [0, 1, 2, 3]) (bx_ix [b_s cB cC cI cJ cZ oA rA u_61.2, b_c cB cC cI cJ cZ oA rA u_61.2, b_t cB cC cI cJ cZ oA rA u_61.2, b_d cB cC cI cJ cZ oA rA u_61.2] []) (bx_C (bs := [b_s cB cC cI cJ cZ oA rA u_61.2, b_c cB cC cI cJ cZ oA rA u_61.2, b_t cB cC cI cJ cZ oA rA u_61.2, b_d cB cC cI cJ cZ oA rA u_61.2]) (bs' := [b_s cB cC cI cJ cZ oA rA u_61.2, b_c cB cC cI cJ cZ oA rA u_61.2, b_t cB cC cI cJ cZ oA rA u_61.2, b_d cB cC cI cJ cZ oA rA u_61.2]) (is := [0, 1, 2, 3]) fl_4 fl_4 rfl) (bx_C (bs := [b_s cB cC cI cJ cZ oA rA u_61.2, b_c cB cC cI cJ cZ oA rA u_61.2, b_t cB cC cI cJ cZ oA rA u_61.2, b_d cB cC cI cJ cZ oA rA u_61.2]) (bs' := []) (is := []) fl_4 fl_0 rfl) (bx_n (by decide +kernel)) (bx_d (by decide +kernel)) (va_runV (As := [.int 7, .int 1, .ref q_63]) (rest := []) ⟨hx, hb, hml, hown, hts⟩ (k_X7_addVerb l dC dI cB cC cI cJ cZ cP oA rA H.size q_63 _ 7 1 ([111, 112, 101, 110, 32] : List Int32) u_61.2 _ hu_64) (cwV 3 hts (g_gV wq_535 wq_536 wq_1993 wq_5 wq_537) rfl rfl rfl (by decide +kernel) ⟨Nat.le_of_ble_eq_true rfl, Nat.le_of_ble_eq_true rfl⟩) (g_preV g_blS hK hPc hDc hS hE hFc (g_toS hSq_63 hS hFc) (q0 := 0) (ci := 7) rfl rfl) rfl rfl hl.1 rfl (lv_room (Nat.le_of_ble_eq_true rfl)) dX7_clear_192 ⟨Nat.le_of_ble_eq_true rfl, Nat.le_of_ble_eq_true rfl⟩) (fun u9 H locs hw9 hP' hD' hS => ?_)
    clear hPc hDc hFc
    have hP : va_P (dC, dI) vwCl (b_s cB cC cI cJ cZ oA rA u_64.2 ++ b_c cB cC cI cJ cZ oA rA u_64.2 ++ b_t cB cC cI cJ cZ oA rA u_64.2 ++ b_d cB cC cI cJ cZ oA rA u_64.2) H := hP'
    clear hP' hD'
    refine lv_aload_n hx hb dX7_clear_195 rfl (lv_at hl 0 rfl) ?_
    refine lv_bipush (v := 8) hx hb dX7_clear_196 (by decide +kernel) ?_
    refine lv_iconst (v := 1) hx hb dX7_clear_198 (by decide +kernel) ?_
    obtain ⟨q_66, vq_66, hRq_66, hSq_66⟩ := hE.2.2.2.2 _ (List.mem_of_getElem? (i := 15) rfl)
    refine va_ldcS (own := RX7) (tx := "close ") hx hb hown hRq_66 dX7_clear_199 ?_
    obtain ⟨u_67, hu_67, hF_68⟩ := Option.bind_eq_some_iff.mp hF_65
    clear hF_65
    have hPc := bx_P (bs := [b_s cB cC cI cJ cZ oA rA u_64.2, b_c cB cC cI cJ cZ oA rA u_64.2, b_t cB cC cI cJ cZ oA rA u_64.2, b_d cB cC cI cJ cZ oA rA u_64.2]) (bs' := [b_s cB cC cI cJ cZ oA rA u_64.2, b_c cB cC cI cJ cZ oA rA u_64.2, b_t cB cC cI cJ cZ oA rA u_64.2, b_d cB cC cI cJ cZ oA rA u_64.2]) (ws' := (b_s cB cC cI cJ cZ oA rA u_64.2 ++ b_c cB cC cI cJ cZ oA rA u_64.2 ++ b_t cB cC cI cJ cZ oA rA u_64.2 ++ b_d cB cC cI cJ cZ oA rA u_64.2)) hP fl_4 fl_4 [0, 1, 2, 3] rfl
    have hDc := bx_D (bs := [b_s cB cC cI cJ cZ oA rA u_64.2, b_c cB cC cI cJ cZ oA rA u_64.2, b_t cB cC cI cJ cZ oA rA u_64.2, b_d cB cC cI cJ cZ oA rA u_64.2]) (bs' := [b_s cB cC cI cJ cZ oA rA u_64.2, b_c cB cC cI cJ cZ oA rA u_64.2, b_t cB cC cI cJ cZ oA rA u_64.2, b_d cB cC cI cJ cZ oA rA u_64.2]) (ws' := (b_s cB cC cI cJ cZ oA rA u_64.2 ++ b_c cB cC cI cJ cZ oA rA u_64.2 ++ b_t cB cC cI cJ cZ oA rA u_64.2 ++ b_d cB cC cI cJ cZ oA rA u_64.2)) (hDD u_64.2) fl_4 fl_4 [0, 1, 2, 3] (by decide +kernel) rfl
    have hFc := bx_F (bs := [b_s cB cC cI cJ cZ oA rA u_64.2, b_c cB cC cI cJ cZ oA rA u_64.2, b_t cB cC cI cJ cZ oA rA u_64.2, b_d cB cC cI cJ cZ oA rA u_64.2]) (bs' := [b_s cB cC cI cJ cZ oA rA u_64.2, b_c cB cC cI cJ cZ oA rA u_64.2, b_t cB cC cI cJ cZ oA rA u_64.2, b_d cB cC cI cJ cZ oA rA u_64.2]) (wc := (b_s cB cC cI cJ cZ oA rA u_64.2 ++ b_c cB cC cI cJ cZ oA rA u_64.2 ++ b_t cB cC cI cJ cZ oA rA u_64.2 ++ b_d cB cC cI cJ cZ oA rA u_64.2)) (hDD u_64.2) hS hA fl_4 fl_4 [0, 1, 2, 3] rfl
    refine g_ofv (wc := (b_s cB cC cI cJ cZ oA rA u_64.2 ++ b_c cB cC cI cJ cZ oA rA u_64.2 ++ b_t cB cC cI cJ cZ oA rA u_64.2 ++ b_d cB cC cI cJ cZ oA rA u_64.2)) (wr := ([] : va_W)) hP (hDD u_64.2) hS hFc (bx_ix [b_s cB cC cI cJ cZ oA rA u_64.2, b_c cB cC cI cJ cZ oA rA u_64.2, b_t cB cC cI cJ cZ oA rA u_64.2, b_d cB cC cI cJ cZ oA rA u_64.2] [0, 1, 2, 3]) (bx_ix [b_s cB cC cI cJ cZ oA rA u_64.2, b_c cB cC cI cJ cZ oA rA u_64.2, b_t cB cC cI cJ cZ oA rA u_64.2, b_d cB cC cI cJ cZ oA rA u_64.2] []) (bx_C (bs := [b_s cB cC cI cJ cZ oA rA u_64.2, b_c cB cC cI cJ cZ oA rA u_64.2, b_t cB cC cI cJ cZ oA rA u_64.2, b_d cB cC cI cJ cZ oA rA u_64.2]) (bs' := [b_s cB cC cI cJ cZ oA rA u_64.2, b_c cB cC cI cJ cZ oA rA u_64.2, b_t cB cC cI cJ cZ oA rA u_64.2, b_d cB cC cI cJ cZ oA rA u_64.2]) (is := [0, 1, 2, 3]) fl_4 fl_4 rfl) (bx_C (bs := [b_s cB cC cI cJ cZ oA rA u_64.2, b_c cB cC cI cJ cZ oA rA u_64.2, b_t cB cC cI cJ cZ oA rA u_64.2, b_d cB cC cI cJ cZ oA rA u_64.2]) (bs' := []) (is := []) fl_4 fl_0 rfl) (bx_n (by decide +kernel)) (bx_d (by decide +kernel)) (va_runV (As := [.int 8, .int 1, .ref q_66]) (rest := []) ⟨hx, hb, hml, hown, hts⟩ (k_X7_addVerb l dC dI cB cC cI cJ cZ cP oA rA H.size q_66 _ 8 1 ([99, 108, 111, 115, 101, 32] : List Int32) u_64.2 _ hu_67) (cwV 3 hts (g_gV wq_535 wq_536 wq_1993 wq_5 wq_537) rfl rfl rfl (by decide +kernel) ⟨Nat.le_of_ble_eq_true rfl, Nat.le_of_ble_eq_true rfl⟩) (g_preV g_blS hK hPc hDc hS hE hFc (g_toS hSq_66 hS hFc) (q0 := 0) (ci := 7) rfl rfl) rfl rfl hl.1 rfl (lv_room (Nat.le_of_ble_eq_true rfl)) dX7_clear_201 ⟨Nat.le_of_ble_eq_true rfl, Nat.le_of_ble_eq_true rfl⟩) (fun u9 H locs hw9 hP' hD' hS => ?_)
    clear hPc hDc hFc
    have hP : va_P (dC, dI) vwCl (b_s cB cC cI cJ cZ oA rA u_67.2 ++ b_c cB cC cI cJ cZ oA rA u_67.2 ++ b_t cB cC cI cJ cZ oA rA u_67.2 ++ b_d cB cC cI cJ cZ oA rA u_67.2) H := hP'
    clear hP' hD'
    refine lv_aload_n hx hb dX7_clear_204 rfl (lv_at hl 0 rfl) ?_
    refine lv_bipush (v := 9) hx hb dX7_clear_205 (by decide +kernel) ?_
    refine lv_iconst (v := 2) hx hb dX7_clear_207 (by decide +kernel) ?_
    obtain ⟨q_69, vq_69, hRq_69, hSq_69⟩ := hE.2.2.2.2 _ (List.mem_of_getElem? (i := 16) rfl)
    refine va_ldcS (own := RX7) (tx := "put ") hx hb hown hRq_69 dX7_clear_208 ?_
    obtain ⟨u_70, hu_70, hF_71⟩ := Option.bind_eq_some_iff.mp hF_68
    clear hF_68
    have hPc := bx_P (bs := [b_s cB cC cI cJ cZ oA rA u_67.2, b_c cB cC cI cJ cZ oA rA u_67.2, b_t cB cC cI cJ cZ oA rA u_67.2, b_d cB cC cI cJ cZ oA rA u_67.2]) (bs' := [b_s cB cC cI cJ cZ oA rA u_67.2, b_c cB cC cI cJ cZ oA rA u_67.2, b_t cB cC cI cJ cZ oA rA u_67.2, b_d cB cC cI cJ cZ oA rA u_67.2]) (ws' := (b_s cB cC cI cJ cZ oA rA u_67.2 ++ b_c cB cC cI cJ cZ oA rA u_67.2 ++ b_t cB cC cI cJ cZ oA rA u_67.2 ++ b_d cB cC cI cJ cZ oA rA u_67.2)) hP fl_4 fl_4 [0, 1, 2, 3] rfl
    have hDc := bx_D (bs := [b_s cB cC cI cJ cZ oA rA u_67.2, b_c cB cC cI cJ cZ oA rA u_67.2, b_t cB cC cI cJ cZ oA rA u_67.2, b_d cB cC cI cJ cZ oA rA u_67.2]) (bs' := [b_s cB cC cI cJ cZ oA rA u_67.2, b_c cB cC cI cJ cZ oA rA u_67.2, b_t cB cC cI cJ cZ oA rA u_67.2, b_d cB cC cI cJ cZ oA rA u_67.2]) (ws' := (b_s cB cC cI cJ cZ oA rA u_67.2 ++ b_c cB cC cI cJ cZ oA rA u_67.2 ++ b_t cB cC cI cJ cZ oA rA u_67.2 ++ b_d cB cC cI cJ cZ oA rA u_67.2)) (hDD u_67.2) fl_4 fl_4 [0, 1, 2, 3] (by decide +kernel) rfl
    have hFc := bx_F (bs := [b_s cB cC cI cJ cZ oA rA u_67.2, b_c cB cC cI cJ cZ oA rA u_67.2, b_t cB cC cI cJ cZ oA rA u_67.2, b_d cB cC cI cJ cZ oA rA u_67.2]) (bs' := [b_s cB cC cI cJ cZ oA rA u_67.2, b_c cB cC cI cJ cZ oA rA u_67.2, b_t cB cC cI cJ cZ oA rA u_67.2, b_d cB cC cI cJ cZ oA rA u_67.2]) (wc := (b_s cB cC cI cJ cZ oA rA u_67.2 ++ b_c cB cC cI cJ cZ oA rA u_67.2 ++ b_t cB cC cI cJ cZ oA rA u_67.2 ++ b_d cB cC cI cJ cZ oA rA u_67.2)) (hDD u_67.2) hS hA fl_4 fl_4 [0, 1, 2, 3] rfl
    refine g_ofv (wc := (b_s cB cC cI cJ cZ oA rA u_67.2 ++ b_c cB cC cI cJ cZ oA rA u_67.2 ++ b_t cB cC cI cJ cZ oA rA u_67.2 ++ b_d cB cC cI cJ cZ oA rA u_67.2)) (wr := ([] : va_W)) hP (hDD u_67.2) hS hFc (bx_ix [b_s cB cC cI cJ cZ oA rA u_67.2, b_c cB cC cI cJ cZ oA rA u_67.2, b_t cB cC cI cJ cZ oA rA u_67.2, b_d cB cC cI cJ cZ oA rA u_67.2] [0, 1, 2, 3]) (bx_ix [b_s cB cC cI cJ cZ oA rA u_67.2, b_c cB cC cI cJ cZ oA rA u_67.2, b_t cB cC cI cJ cZ oA rA u_67.2, b_d cB cC cI cJ cZ oA rA u_67.2] []) (bx_C (bs := [b_s cB cC cI cJ cZ oA rA u_67.2, b_c cB cC cI cJ cZ oA rA u_67.2, b_t cB cC cI cJ cZ oA rA u_67.2, b_d cB cC cI cJ cZ oA rA u_67.2]) (bs' := [b_s cB cC cI cJ cZ oA rA u_67.2, b_c cB cC cI cJ cZ oA rA u_67.2, b_t cB cC cI cJ cZ oA rA u_67.2, b_d cB cC cI cJ cZ oA rA u_67.2]) (is := [0, 1, 2, 3]) fl_4 fl_4 rfl) (bx_C (bs := [b_s cB cC cI cJ cZ oA rA u_67.2, b_c cB cC cI cJ cZ oA rA u_67.2, b_t cB cC cI cJ cZ oA rA u_67.2, b_d cB cC cI cJ cZ oA rA u_67.2]) (bs' := []) (is := []) fl_4 fl_0 rfl) (bx_n (by decide +kernel)) (bx_d (by decide +kernel)) (va_runV (As := [.int 9, .int 2, .ref q_69]) (rest := []) ⟨hx, hb, hml, hown, hts⟩ (k_X7_addVerb l dC dI cB cC cI cJ cZ cP oA rA H.size q_69 _ 9 2 ([112, 117, 116, 32] : List Int32) u_67.2 _ hu_70) (cwV 3 hts (g_gV wq_535 wq_536 wq_1993 wq_5 wq_537) rfl rfl rfl (by decide +kernel) ⟨Nat.le_of_ble_eq_true rfl, Nat.le_of_ble_eq_true rfl⟩) (g_preV g_blS hK hPc hDc hS hE hFc (g_toS hSq_69 hS hFc) (q0 := 0) (ci := 7) rfl rfl) rfl rfl hl.1 rfl (lv_room (Nat.le_of_ble_eq_true rfl)) dX7_clear_210 ⟨Nat.le_of_ble_eq_true rfl, Nat.le_of_ble_eq_true rfl⟩) (fun u9 H locs hw9 hP' hD' hS => ?_)
    clear hPc hDc hFc
    have hP : va_P (dC, dI) vwCl (b_s cB cC cI cJ cZ oA rA u_70.2 ++ b_c cB cC cI cJ cZ oA rA u_70.2 ++ b_t cB cC cI cJ cZ oA rA u_70.2 ++ b_d cB cC cI cJ cZ oA rA u_70.2) H := hP'
    clear hP' hD'
    refine lv_aload_n hx hb dX7_clear_213 rfl (lv_at hl 0 rfl) ?_
    refine lv_bipush (v := 10) hx hb dX7_clear_214 (by decide +kernel) ?_
    refine lv_iconst (v := 2) hx hb dX7_clear_216 (by decide +kernel) ?_
    obtain ⟨q_72, vq_72, hRq_72, hSq_72⟩ := hE.2.2.2.2 _ (List.mem_of_getElem? (i := 16) rfl)
    refine va_ldcS (own := RX7) (tx := "put ") hx hb hown hRq_72 dX7_clear_217 ?_
    obtain ⟨u_73, hu_73, hF_74⟩ := Option.bind_eq_some_iff.mp hF_71
    clear hF_71
    have hPc := bx_P (bs := [b_s cB cC cI cJ cZ oA rA u_70.2, b_c cB cC cI cJ cZ oA rA u_70.2, b_t cB cC cI cJ cZ oA rA u_70.2, b_d cB cC cI cJ cZ oA rA u_70.2]) (bs' := [b_s cB cC cI cJ cZ oA rA u_70.2, b_c cB cC cI cJ cZ oA rA u_70.2, b_t cB cC cI cJ cZ oA rA u_70.2, b_d cB cC cI cJ cZ oA rA u_70.2]) (ws' := (b_s cB cC cI cJ cZ oA rA u_70.2 ++ b_c cB cC cI cJ cZ oA rA u_70.2 ++ b_t cB cC cI cJ cZ oA rA u_70.2 ++ b_d cB cC cI cJ cZ oA rA u_70.2)) hP fl_4 fl_4 [0, 1, 2, 3] rfl
    have hDc := bx_D (bs := [b_s cB cC cI cJ cZ oA rA u_70.2, b_c cB cC cI cJ cZ oA rA u_70.2, b_t cB cC cI cJ cZ oA rA u_70.2, b_d cB cC cI cJ cZ oA rA u_70.2]) (bs' := [b_s cB cC cI cJ cZ oA rA u_70.2, b_c cB cC cI cJ cZ oA rA u_70.2, b_t cB cC cI cJ cZ oA rA u_70.2, b_d cB cC cI cJ cZ oA rA u_70.2]) (ws' := (b_s cB cC cI cJ cZ oA rA u_70.2 ++ b_c cB cC cI cJ cZ oA rA u_70.2 ++ b_t cB cC cI cJ cZ oA rA u_70.2 ++ b_d cB cC cI cJ cZ oA rA u_70.2)) (hDD u_70.2) fl_4 fl_4 [0, 1, 2, 3] (by decide +kernel) rfl
    have hFc := bx_F (bs := [b_s cB cC cI cJ cZ oA rA u_70.2, b_c cB cC cI cJ cZ oA rA u_70.2, b_t cB cC cI cJ cZ oA rA u_70.2, b_d cB cC cI cJ cZ oA rA u_70.2]) (bs' := [b_s cB cC cI cJ cZ oA rA u_70.2, b_c cB cC cI cJ cZ oA rA u_70.2, b_t cB cC cI cJ cZ oA rA u_70.2, b_d cB cC cI cJ cZ oA rA u_70.2]) (wc := (b_s cB cC cI cJ cZ oA rA u_70.2 ++ b_c cB cC cI cJ cZ oA rA u_70.2 ++ b_t cB cC cI cJ cZ oA rA u_70.2 ++ b_d cB cC cI cJ cZ oA rA u_70.2)) (hDD u_70.2) hS hA fl_4 fl_4 [0, 1, 2, 3] rfl
    refine g_ofv (wc := (b_s cB cC cI cJ cZ oA rA u_70.2 ++ b_c cB cC cI cJ cZ oA rA u_70.2 ++ b_t cB cC cI cJ cZ oA rA u_70.2 ++ b_d cB cC cI cJ cZ oA rA u_70.2)) (wr := ([] : va_W)) hP (hDD u_70.2) hS hFc (bx_ix [b_s cB cC cI cJ cZ oA rA u_70.2, b_c cB cC cI cJ cZ oA rA u_70.2, b_t cB cC cI cJ cZ oA rA u_70.2, b_d cB cC cI cJ cZ oA rA u_70.2] [0, 1, 2, 3]) (bx_ix [b_s cB cC cI cJ cZ oA rA u_70.2, b_c cB cC cI cJ cZ oA rA u_70.2, b_t cB cC cI cJ cZ oA rA u_70.2, b_d cB cC cI cJ cZ oA rA u_70.2] []) (bx_C (bs := [b_s cB cC cI cJ cZ oA rA u_70.2, b_c cB cC cI cJ cZ oA rA u_70.2, b_t cB cC cI cJ cZ oA rA u_70.2, b_d cB cC cI cJ cZ oA rA u_70.2]) (bs' := [b_s cB cC cI cJ cZ oA rA u_70.2, b_c cB cC cI cJ cZ oA rA u_70.2, b_t cB cC cI cJ cZ oA rA u_70.2, b_d cB cC cI cJ cZ oA rA u_70.2]) (is := [0, 1, 2, 3]) fl_4 fl_4 rfl) (bx_C (bs := [b_s cB cC cI cJ cZ oA rA u_70.2, b_c cB cC cI cJ cZ oA rA u_70.2, b_t cB cC cI cJ cZ oA rA u_70.2, b_d cB cC cI cJ cZ oA rA u_70.2]) (bs' := []) (is := []) fl_4 fl_0 rfl) (bx_n (by decide +kernel)) (bx_d (by decide +kernel)) (va_runV (As := [.int 10, .int 2, .ref q_72]) (rest := []) ⟨hx, hb, hml, hown, hts⟩ (k_X7_addVerb l dC dI cB cC cI cJ cZ cP oA rA H.size q_72 _ 10 2 ([112, 117, 116, 32] : List Int32) u_70.2 _ hu_73) (cwV 3 hts (g_gV wq_535 wq_536 wq_1993 wq_5 wq_537) rfl rfl rfl (by decide +kernel) ⟨Nat.le_of_ble_eq_true rfl, Nat.le_of_ble_eq_true rfl⟩) (g_preV g_blS hK hPc hDc hS hE hFc (g_toS hSq_72 hS hFc) (q0 := 0) (ci := 7) rfl rfl) rfl rfl hl.1 rfl (lv_room (Nat.le_of_ble_eq_true rfl)) dX7_clear_219 ⟨Nat.le_of_ble_eq_true rfl, Nat.le_of_ble_eq_true rfl⟩) (fun u9 H locs hw9 hP' hD' hS => ?_)
    clear hPc hDc hFc
    have hP : va_P (dC, dI) vwCl (b_s cB cC cI cJ cZ oA rA u_73.2 ++ b_c cB cC cI cJ cZ oA rA u_73.2 ++ b_t cB cC cI cJ cZ oA rA u_73.2 ++ b_d cB cC cI cJ cZ oA rA u_73.2) H := hP'
    clear hP' hD'
    refine lv_aload_n hx hb dX7_clear_222 rfl (lv_at hl 0 rfl) ?_
    refine va_get (D := (dC, dI)) (ci := 7) (v := .ref (rA 4 8)) (C := RX7) (T := TX7) (N := 19) hx hb hts ii_X7 hown hK hP 0 rfl rfl 8 (by decide) (hts (.fieldLink RX7 37 "StoryHouse$Story" "joints" "[I") wq_173) (fun _ h9 => h9) rfl dX7_clear_223 ?_
    refine lv_bipush (v := 9) hx hb dX7_clear_226 (by decide +kernel) ?_
    refine lv_aload_n hx hb dX7_clear_228 rfl (lv_at hl 0 rfl) ?_
    refine va_get (D := (dC, dI)) (ci := 7) (v := .ref (oA 7)) (C := RX7) (T := TX7) (N := 19) hx hb hts ii_X7 hown hK hP 0 rfl rfl 18 (by decide) (hts (.fieldLink RX7 78 "StoryHouse$Story" "dictionary" "LStoryHouse$Dictionary;") wq_199) (fun _ h9 => h9) rfl dX7_clear_229 ?_
    obtain ⟨q_75, vq_75, hRq_75, hSq_75⟩ := hE.2.2.2.2 _ (List.mem_of_getElem? (i := 17) rfl)
    refine va_ldcS (own := RX7) (tx := "in") hx hb hown hRq_75 dX7_clear_232 ?_
    refine lv_iconst (v := 0) hx hb dX7_clear_234 (by decide +kernel) ?_
    refine lv_iconst (v := 2) hx hb dX7_clear_235 (by decide +kernel) ?_
    refine lv_bipush (v := 9) hx hb dX7_clear_236 (by decide +kernel) ?_
    obtain ⟨u_76, hu_76, hF_77⟩ := Option.bind_eq_some_iff.mp hF_74
    clear hF_74
    have hPc : va_P (dC, dI) vwCl [] H := fun k q z => by simp at z
    have hDc : va_D A [] := ⟨fun i j p q z => by simp at z, fun k q z => by simp at z⟩
    have hFc := c_nil hA hS
    refine c_csl (v := u_76.1) hA hP hS (va_runSN (As := [.ref q_75, .int 0, .int 2, .int 9]) (rest := [.ref (oA 7), .int 9, .ref (rA 4 8)]) ⟨hx, hb, hml, hown, hts⟩ (k_X11_packed l dC dI cB cC cI cJ cZ cP oA rA H.size q_75 _ ([105, 110] : List Int32) 0 2 9 u_73.2 _ hu_76) ⟨va_cnB 4 hts (g_gA wq_393) rfl rfl rfl (nw_15 hN) (hts (.initialized RX11) wq_1) (by decide +kernel) ⟨Nat.le_of_ble_eq_true rfl, Nat.le_of_ble_eq_true rfl⟩, (hts (.static yX11_packed) wq_392), trivial⟩ (g_preS g_blS hK hPc hDc hS hE hFc (g_toS hSq_75 hS hFc)) rfl rfl hl.1 rfl (lv_room (Nat.le_of_ble_eq_true rfl)) dX7_clear_238 ⟨Nat.le_of_ble_eq_true rfl, Nat.le_of_ble_eq_true rfl⟩) (fun H locs hP hS => ?_)
    clear hPc hDc hFc
    obtain ⟨u_78, hu_78, hF_79⟩ := Option.bind_eq_some_iff.mp hF_77
    clear hF_77
    have hPc := bx_P (bs := [b_s cB cC cI cJ cZ oA rA u_73.2, b_c cB cC cI cJ cZ oA rA u_73.2, b_t cB cC cI cJ cZ oA rA u_73.2, b_d cB cC cI cJ cZ oA rA u_73.2]) (bs' := [b_d cB cC cI cJ cZ oA rA u_73.2]) (ws' := (b_d cB cC cI cJ cZ oA rA u_73.2)) hP fl_4 fl_1 [3] rfl
    have hDc := bx_D (bs := [b_s cB cC cI cJ cZ oA rA u_73.2, b_c cB cC cI cJ cZ oA rA u_73.2, b_t cB cC cI cJ cZ oA rA u_73.2, b_d cB cC cI cJ cZ oA rA u_73.2]) (bs' := [b_d cB cC cI cJ cZ oA rA u_73.2]) (ws' := (b_d cB cC cI cJ cZ oA rA u_73.2)) (hDD u_73.2) fl_4 fl_1 [3] (by decide +kernel) rfl
    have hFc := bx_F (bs := [b_s cB cC cI cJ cZ oA rA u_73.2, b_c cB cC cI cJ cZ oA rA u_73.2, b_t cB cC cI cJ cZ oA rA u_73.2, b_d cB cC cI cJ cZ oA rA u_73.2]) (bs' := [b_d cB cC cI cJ cZ oA rA u_73.2]) (wc := (b_d cB cC cI cJ cZ oA rA u_73.2)) (hDD u_73.2) hS hA fl_4 fl_1 [3] rfl
    refine g_ofi (wc := (b_d cB cC cI cJ cZ oA rA u_73.2)) (wr := (b_s cB cC cI cJ cZ oA rA u_73.2 ++ b_c cB cC cI cJ cZ oA rA u_73.2 ++ b_t cB cC cI cJ cZ oA rA u_73.2)) hP (hDD u_73.2) hS hFc (bx_ix [b_s cB cC cI cJ cZ oA rA u_73.2, b_c cB cC cI cJ cZ oA rA u_73.2, b_t cB cC cI cJ cZ oA rA u_73.2, b_d cB cC cI cJ cZ oA rA u_73.2] [3]) (bx_ix [b_s cB cC cI cJ cZ oA rA u_73.2, b_c cB cC cI cJ cZ oA rA u_73.2, b_t cB cC cI cJ cZ oA rA u_73.2, b_d cB cC cI cJ cZ oA rA u_73.2] [0, 1, 2]) (bx_C (bs := [b_s cB cC cI cJ cZ oA rA u_73.2, b_c cB cC cI cJ cZ oA rA u_73.2, b_t cB cC cI cJ cZ oA rA u_73.2, b_d cB cC cI cJ cZ oA rA u_73.2]) (bs' := [b_d cB cC cI cJ cZ oA rA u_73.2]) (is := [3]) fl_4 fl_1 rfl) (bx_C (bs := [b_s cB cC cI cJ cZ oA rA u_73.2, b_c cB cC cI cJ cZ oA rA u_73.2, b_t cB cC cI cJ cZ oA rA u_73.2, b_d cB cC cI cJ cZ oA rA u_73.2]) (bs' := [b_s cB cC cI cJ cZ oA rA u_73.2, b_c cB cC cI cJ cZ oA rA u_73.2, b_t cB cC cI cJ cZ oA rA u_73.2]) (is := [0, 1, 2]) fl_4 fl_3 rfl) (bx_n (by decide +kernel)) (bx_d (by decide +kernel)) (va_runV (As := [.long u_76.1]) (rest := [.int 9, .ref (rA 4 8)]) ⟨hx, hb, hml, hown, hts⟩ (k_X1_learn l dC dI cB cC cI cJ cZ cP oA rA H.size  u_76.1 u_73.2 _ hu_78) (cwV 1 hts (g_gV wq_524 wq_525 wq_526 wq_8 wq_527) rfl rfl rfl (by decide +kernel) ⟨Nat.le_of_ble_eq_true rfl, Nat.le_of_ble_eq_true rfl⟩) (g_preV g_bl0 hK hPc hDc hS hE hFc g_to0 (q0 := 0) (ci := 1) rfl rfl) rfl rfl hl.1 rfl (lv_room (Nat.le_of_ble_eq_true rfl)) dX7_clear_241 ⟨Nat.le_of_ble_eq_true rfl, Nat.le_of_ble_eq_true rfl⟩) (fun r9 u9 H locs hw9 hP' hD' hS => ?_)
    clear hPc hDc hFc
    subst hw9
    obtain ⟨σ_80, eσ_80, hF_81⟩ := bnd_e hF_79
    clear hF_79
    have hP : va_P (dC, dI) vwCl (b_s cB cC cI cJ cZ oA rA σ_80 ++ b_c cB cC cI cJ cZ oA rA σ_80 ++ b_t cB cC cI cJ cZ oA rA σ_80 ++ b_d cB cC cI cJ cZ oA rA σ_80) H := by rw [eσ_80]; exact bx_P (bs := [b_s cB cC cI cJ cZ oA rA u_73.2, b_c cB cC cI cJ cZ oA rA u_73.2, b_t cB cC cI cJ cZ oA rA u_73.2] ++ [b_d cB cC cI cJ cZ oA rA u_78.2]) (bs' := [b_s cB cC cI cJ cZ oA rA (mrg (fun j => j == 7) u_73.2 u_78.2), b_c cB cC cI cJ cZ oA rA (mrg (fun j => j == 7) u_73.2 u_78.2), b_t cB cC cI cJ cZ oA rA (mrg (fun j => j == 7) u_73.2 u_78.2), b_d cB cC cI cJ cZ oA rA (mrg (fun j => j == 7) u_73.2 u_78.2)]) hP' (fl_a fl_3 fl_1) fl_4 [0, 1, 2, 3] rfl
    clear hP' hD'
    obtain ⟨σ_82, eσ_82, hF_83⟩ := bnd_e hF_81
    clear hF_81
    refine va_iast (f := (σ_80 4).2.1 8) hx hb hK hP (hDD _) hS 9 2 rfl rfl (vp_in_iff.mpr (by decide +kernel)) dX7_clear_244 (fun H locs hP' _ hS => ?_)
    have hP : va_P (dC, dI) vwCl (b_s cB cC cI cJ cZ oA rA σ_82 ++ b_c cB cC cI cJ cZ oA rA σ_82 ++ b_t cB cC cI cJ cZ oA rA σ_82 ++ b_d cB cC cI cJ cZ oA rA σ_82) H := by rw [eσ_82]; exact cs_sctd_s_8 ▸ hP'
    clear hP'
    refine lv_aload_n hx hb dX7_clear_245 rfl (lv_at hl 0 rfl) ?_
    refine va_get (D := (dC, dI)) (ci := 7) (v := .ref (rA 4 8)) (C := RX7) (T := TX7) (N := 19) hx hb hts ii_X7 hown hK hP 0 rfl rfl 8 (by decide) (hts (.fieldLink RX7 37 "StoryHouse$Story" "joints" "[I") wq_173) (fun _ h9 => h9) rfl dX7_clear_246 ?_
    refine lv_bipush (v := 10) hx hb dX7_clear_249 (by decide +kernel) ?_
    refine lv_aload_n hx hb dX7_clear_251 rfl (lv_at hl 0 rfl) ?_
    refine va_get (D := (dC, dI)) (ci := 7) (v := .ref (oA 7)) (C := RX7) (T := TX7) (N := 19) hx hb hts ii_X7 hown hK hP 0 rfl rfl 18 (by decide) (hts (.fieldLink RX7 78 "StoryHouse$Story" "dictionary" "LStoryHouse$Dictionary;") wq_199) (fun _ h9 => h9) rfl dX7_clear_252 ?_
    obtain ⟨q_84, vq_84, hRq_84, hSq_84⟩ := hE.2.2.2.2 _ (List.mem_of_getElem? (i := 18) rfl)
    refine va_ldcS (own := RX7) (tx := "on") hx hb hown hRq_84 dX7_clear_255 ?_
    refine lv_iconst (v := 0) hx hb dX7_clear_257 (by decide +kernel) ?_
    refine lv_iconst (v := 2) hx hb dX7_clear_258 (by decide +kernel) ?_
    refine lv_bipush (v := 9) hx hb dX7_clear_259 (by decide +kernel) ?_
    obtain ⟨u_85, hu_85, hF_86⟩ := Option.bind_eq_some_iff.mp hF_83
    clear hF_83
    have hPc : va_P (dC, dI) vwCl [] H := fun k q z => by simp at z
    have hDc : va_D A [] := ⟨fun i j p q z => by simp at z, fun k q z => by simp at z⟩
    have hFc := c_nil hA hS
    refine c_csl (v := u_85.1) hA hP hS (va_runSN (As := [.ref q_84, .int 0, .int 2, .int 9]) (rest := [.ref (oA 7), .int 10, .ref (rA 4 8)]) ⟨hx, hb, hml, hown, hts⟩ (k_X11_packed l dC dI cB cC cI cJ cZ cP oA rA H.size q_84 _ ([111, 110] : List Int32) 0 2 9 σ_82 _ hu_85) ⟨va_cnB 4 hts (g_gA wq_393) rfl rfl rfl (nw_15 hN) (hts (.initialized RX11) wq_1) (by decide +kernel) ⟨Nat.le_of_ble_eq_true rfl, Nat.le_of_ble_eq_true rfl⟩, (hts (.static yX11_packed) wq_392), trivial⟩ (g_preS g_blS hK hPc hDc hS hE hFc (g_toS hSq_84 hS hFc)) rfl rfl hl.1 rfl (lv_room (Nat.le_of_ble_eq_true rfl)) dX7_clear_261 ⟨Nat.le_of_ble_eq_true rfl, Nat.le_of_ble_eq_true rfl⟩) (fun H locs hP hS => ?_)
    clear hPc hDc hFc
    obtain ⟨u_87, hu_87, hF_88⟩ := Option.bind_eq_some_iff.mp hF_86
    clear hF_86
    have hPc := bx_P (bs := [b_s cB cC cI cJ cZ oA rA σ_82, b_c cB cC cI cJ cZ oA rA σ_82, b_t cB cC cI cJ cZ oA rA σ_82, b_d cB cC cI cJ cZ oA rA σ_82]) (bs' := [b_d cB cC cI cJ cZ oA rA σ_82]) (ws' := (b_d cB cC cI cJ cZ oA rA σ_82)) hP fl_4 fl_1 [3] rfl
    have hDc := bx_D (bs := [b_s cB cC cI cJ cZ oA rA σ_82, b_c cB cC cI cJ cZ oA rA σ_82, b_t cB cC cI cJ cZ oA rA σ_82, b_d cB cC cI cJ cZ oA rA σ_82]) (bs' := [b_d cB cC cI cJ cZ oA rA σ_82]) (ws' := (b_d cB cC cI cJ cZ oA rA σ_82)) (hDD σ_82) fl_4 fl_1 [3] (by decide +kernel) rfl
    have hFc := bx_F (bs := [b_s cB cC cI cJ cZ oA rA σ_82, b_c cB cC cI cJ cZ oA rA σ_82, b_t cB cC cI cJ cZ oA rA σ_82, b_d cB cC cI cJ cZ oA rA σ_82]) (bs' := [b_d cB cC cI cJ cZ oA rA σ_82]) (wc := (b_d cB cC cI cJ cZ oA rA σ_82)) (hDD σ_82) hS hA fl_4 fl_1 [3] rfl
    refine g_ofi (wc := (b_d cB cC cI cJ cZ oA rA σ_82)) (wr := (b_s cB cC cI cJ cZ oA rA σ_82 ++ b_c cB cC cI cJ cZ oA rA σ_82 ++ b_t cB cC cI cJ cZ oA rA σ_82)) hP (hDD σ_82) hS hFc (bx_ix [b_s cB cC cI cJ cZ oA rA σ_82, b_c cB cC cI cJ cZ oA rA σ_82, b_t cB cC cI cJ cZ oA rA σ_82, b_d cB cC cI cJ cZ oA rA σ_82] [3]) (bx_ix [b_s cB cC cI cJ cZ oA rA σ_82, b_c cB cC cI cJ cZ oA rA σ_82, b_t cB cC cI cJ cZ oA rA σ_82, b_d cB cC cI cJ cZ oA rA σ_82] [0, 1, 2]) (bx_C (bs := [b_s cB cC cI cJ cZ oA rA σ_82, b_c cB cC cI cJ cZ oA rA σ_82, b_t cB cC cI cJ cZ oA rA σ_82, b_d cB cC cI cJ cZ oA rA σ_82]) (bs' := [b_d cB cC cI cJ cZ oA rA σ_82]) (is := [3]) fl_4 fl_1 rfl) (bx_C (bs := [b_s cB cC cI cJ cZ oA rA σ_82, b_c cB cC cI cJ cZ oA rA σ_82, b_t cB cC cI cJ cZ oA rA σ_82, b_d cB cC cI cJ cZ oA rA σ_82]) (bs' := [b_s cB cC cI cJ cZ oA rA σ_82, b_c cB cC cI cJ cZ oA rA σ_82, b_t cB cC cI cJ cZ oA rA σ_82]) (is := [0, 1, 2]) fl_4 fl_3 rfl) (bx_n (by decide +kernel)) (bx_d (by decide +kernel)) (va_runV (As := [.long u_85.1]) (rest := [.int 10, .ref (rA 4 8)]) ⟨hx, hb, hml, hown, hts⟩ (k_X1_learn l dC dI cB cC cI cJ cZ cP oA rA H.size  u_85.1 σ_82 _ hu_87) (cwV 1 hts (g_gV wq_524 wq_525 wq_526 wq_8 wq_527) rfl rfl rfl (by decide +kernel) ⟨Nat.le_of_ble_eq_true rfl, Nat.le_of_ble_eq_true rfl⟩) (g_preV g_bl0 hK hPc hDc hS hE hFc g_to0 (q0 := 0) (ci := 1) rfl rfl) rfl rfl hl.1 rfl (lv_room (Nat.le_of_ble_eq_true rfl)) dX7_clear_264 ⟨Nat.le_of_ble_eq_true rfl, Nat.le_of_ble_eq_true rfl⟩) (fun r9 u9 H locs hw9 hP' hD' hS => ?_)
    clear hPc hDc hFc
    subst hw9
    obtain ⟨σ_89, eσ_89, hF_90⟩ := bnd_e hF_88
    clear hF_88
    have hP : va_P (dC, dI) vwCl (b_s cB cC cI cJ cZ oA rA σ_89 ++ b_c cB cC cI cJ cZ oA rA σ_89 ++ b_t cB cC cI cJ cZ oA rA σ_89 ++ b_d cB cC cI cJ cZ oA rA σ_89) H := by rw [eσ_89]; exact bx_P (bs := [b_s cB cC cI cJ cZ oA rA σ_82, b_c cB cC cI cJ cZ oA rA σ_82, b_t cB cC cI cJ cZ oA rA σ_82] ++ [b_d cB cC cI cJ cZ oA rA u_87.2]) (bs' := [b_s cB cC cI cJ cZ oA rA (mrg (fun j => j == 7) σ_82 u_87.2), b_c cB cC cI cJ cZ oA rA (mrg (fun j => j == 7) σ_82 u_87.2), b_t cB cC cI cJ cZ oA rA (mrg (fun j => j == 7) σ_82 u_87.2), b_d cB cC cI cJ cZ oA rA (mrg (fun j => j == 7) σ_82 u_87.2)]) hP' (fl_a fl_3 fl_1) fl_4 [0, 1, 2, 3] rfl
    clear hP' hD'
    obtain ⟨σ_91, eσ_91, hF_92⟩ := bnd_e hF_90
    clear hF_90
    refine va_iast (f := (σ_89 4).2.1 8) hx hb hK hP (hDD _) hS 9 2 rfl rfl (vp_in_iff.mpr (by decide +kernel)) dX7_clear_267 (fun H locs hP' _ hS => ?_)
    have hP : va_P (dC, dI) vwCl (b_s cB cC cI cJ cZ oA rA σ_91 ++ b_c cB cC cI cJ cZ oA rA σ_91 ++ b_t cB cC cI cJ cZ oA rA σ_91 ++ b_d cB cC cI cJ cZ oA rA σ_91) H := by rw [eσ_91]; exact cs_sctd_s_8 ▸ hP'
    clear hP'
    refine lv_aload_n hx hb dX7_clear_268 rfl (lv_at hl 0 rfl) ?_
    refine lv_bipush (v := 11) hx hb dX7_clear_269 (by decide +kernel) ?_
    refine lv_iconst (v := 1) hx hb dX7_clear_271 (by decide +kernel) ?_
    obtain ⟨q_93, vq_93, hRq_93, hSq_93⟩ := hE.2.2.2.2 _ (List.mem_of_getElem? (i := 19) rfl)
    refine va_ldcS (own := RX7) (tx := "") hx hb hown hRq_93 dX7_clear_272 ?_
    obtain ⟨u_94, hu_94, hF_95⟩ := Option.bind_eq_some_iff.mp hF_92
    clear hF_92
    have hPc := bx_P (bs := [b_s cB cC cI cJ cZ oA rA σ_91, b_c cB cC cI cJ cZ oA rA σ_91, b_t cB cC cI cJ cZ oA rA σ_91, b_d cB cC cI cJ cZ oA rA σ_91]) (bs' := [b_s cB cC cI cJ cZ oA rA σ_91, b_c cB cC cI cJ cZ oA rA σ_91, b_t cB cC cI cJ cZ oA rA σ_91, b_d cB cC cI cJ cZ oA rA σ_91]) (ws' := (b_s cB cC cI cJ cZ oA rA σ_91 ++ b_c cB cC cI cJ cZ oA rA σ_91 ++ b_t cB cC cI cJ cZ oA rA σ_91 ++ b_d cB cC cI cJ cZ oA rA σ_91)) hP fl_4 fl_4 [0, 1, 2, 3] rfl
    have hDc := bx_D (bs := [b_s cB cC cI cJ cZ oA rA σ_91, b_c cB cC cI cJ cZ oA rA σ_91, b_t cB cC cI cJ cZ oA rA σ_91, b_d cB cC cI cJ cZ oA rA σ_91]) (bs' := [b_s cB cC cI cJ cZ oA rA σ_91, b_c cB cC cI cJ cZ oA rA σ_91, b_t cB cC cI cJ cZ oA rA σ_91, b_d cB cC cI cJ cZ oA rA σ_91]) (ws' := (b_s cB cC cI cJ cZ oA rA σ_91 ++ b_c cB cC cI cJ cZ oA rA σ_91 ++ b_t cB cC cI cJ cZ oA rA σ_91 ++ b_d cB cC cI cJ cZ oA rA σ_91)) (hDD σ_91) fl_4 fl_4 [0, 1, 2, 3] (by decide +kernel) rfl
    have hFc := bx_F (bs := [b_s cB cC cI cJ cZ oA rA σ_91, b_c cB cC cI cJ cZ oA rA σ_91, b_t cB cC cI cJ cZ oA rA σ_91, b_d cB cC cI cJ cZ oA rA σ_91]) (bs' := [b_s cB cC cI cJ cZ oA rA σ_91, b_c cB cC cI cJ cZ oA rA σ_91, b_t cB cC cI cJ cZ oA rA σ_91, b_d cB cC cI cJ cZ oA rA σ_91]) (wc := (b_s cB cC cI cJ cZ oA rA σ_91 ++ b_c cB cC cI cJ cZ oA rA σ_91 ++ b_t cB cC cI cJ cZ oA rA σ_91 ++ b_d cB cC cI cJ cZ oA rA σ_91)) (hDD σ_91) hS hA fl_4 fl_4 [0, 1, 2, 3] rfl
    refine g_ofv (wc := (b_s cB cC cI cJ cZ oA rA σ_91 ++ b_c cB cC cI cJ cZ oA rA σ_91 ++ b_t cB cC cI cJ cZ oA rA σ_91 ++ b_d cB cC cI cJ cZ oA rA σ_91)) (wr := ([] : va_W)) hP (hDD σ_91) hS hFc (bx_ix [b_s cB cC cI cJ cZ oA rA σ_91, b_c cB cC cI cJ cZ oA rA σ_91, b_t cB cC cI cJ cZ oA rA σ_91, b_d cB cC cI cJ cZ oA rA σ_91] [0, 1, 2, 3]) (bx_ix [b_s cB cC cI cJ cZ oA rA σ_91, b_c cB cC cI cJ cZ oA rA σ_91, b_t cB cC cI cJ cZ oA rA σ_91, b_d cB cC cI cJ cZ oA rA σ_91] []) (bx_C (bs := [b_s cB cC cI cJ cZ oA rA σ_91, b_c cB cC cI cJ cZ oA rA σ_91, b_t cB cC cI cJ cZ oA rA σ_91, b_d cB cC cI cJ cZ oA rA σ_91]) (bs' := [b_s cB cC cI cJ cZ oA rA σ_91, b_c cB cC cI cJ cZ oA rA σ_91, b_t cB cC cI cJ cZ oA rA σ_91, b_d cB cC cI cJ cZ oA rA σ_91]) (is := [0, 1, 2, 3]) fl_4 fl_4 rfl) (bx_C (bs := [b_s cB cC cI cJ cZ oA rA σ_91, b_c cB cC cI cJ cZ oA rA σ_91, b_t cB cC cI cJ cZ oA rA σ_91, b_d cB cC cI cJ cZ oA rA σ_91]) (bs' := []) (is := []) fl_4 fl_0 rfl) (bx_n (by decide +kernel)) (bx_d (by decide +kernel)) (va_runV (As := [.int 11, .int 1, .ref q_93]) (rest := []) ⟨hx, hb, hml, hown, hts⟩ (k_X7_addVerb l dC dI cB cC cI cJ cZ cP oA rA H.size q_93 _ 11 1 ([] : List Int32) σ_91 _ hu_94) (cwV 3 hts (g_gV wq_535 wq_536 wq_1993 wq_5 wq_537) rfl rfl rfl (by decide +kernel) ⟨Nat.le_of_ble_eq_true rfl, Nat.le_of_ble_eq_true rfl⟩) (g_preV g_blS hK hPc hDc hS hE hFc (g_toS hSq_93 hS hFc) (q0 := 0) (ci := 7) rfl rfl) rfl rfl hl.1 rfl (lv_room (Nat.le_of_ble_eq_true rfl)) dX7_clear_274 ⟨Nat.le_of_ble_eq_true rfl, Nat.le_of_ble_eq_true rfl⟩) (fun u9 H locs hw9 hP' hD' hS => ?_)
    clear hPc hDc hFc
    have hP : va_P (dC, dI) vwCl (b_s cB cC cI cJ cZ oA rA u_94.2 ++ b_c cB cC cI cJ cZ oA rA u_94.2 ++ b_t cB cC cI cJ cZ oA rA u_94.2 ++ b_d cB cC cI cJ cZ oA rA u_94.2) H := hP'
    clear hP' hD'
    have h9 := Option.some.inj hF_95
    subst h9
    exact W.vret hx hb hr (fun t ht hW => ⟨⟨(), rfl, trivial, m_end ht hP, hDD _⟩, hS.F ht⟩) hS.2.2 dX7_clear_277
  · have hF_96 := ineg c_23 hF_22
    clear hF_22
    refine lv_aload_n hx hb dX7_clear_82 rfl (lv_at hl 0 rfl) ?_
    refine va_get (D := (dC, dI)) (ci := 7) (v := .ref (rA 4 1)) (C := RX7) (T := TX7) (N := 19) hx hb hts ii_X7 hown hK hP 0 rfl rfl 1 (by decide) (hts (.fieldLink RX7 15 "StoryHouse$Story" "rooms" "[Z") wq_156) (fun _ h9 => h9) rfl dX7_clear_83 ?_
    refine lv_iload_n hx hb dX7_clear_86 rfl (lv_at hl 1 rfl) ?_
    refine lv_iconst (v := 0) hx hb dX7_clear_87 (by decide +kernel) ?_
    obtain ⟨g_97, hF_98⟩ := nif_e hF_96
    clear hF_96
    obtain ⟨σ_99, eσ_99, hF_100⟩ := bnd_e hF_98
    clear hF_98
    refine va_zast (f := (s_19.2 4).2.1 1) hx hb hK hP (hDD _) hS 2 4 rfl rfl g_97 dX7_clear_88 (fun H locs hP' _ hS => ?_)
    have hP : va_P (dC, dI) vwCl (b_s cB cC cI cJ cZ oA rA σ_99 ++ b_c cB cC cI cJ cZ oA rA σ_99 ++ b_t cB cC cI cJ cZ oA rA σ_99 ++ b_d cB cC cI cJ cZ oA rA σ_99) H := by rw [eσ_99]; exact cs_sctd_s_1 ▸ hP'
    clear hP'
    obtain ⟨x_101, ex_101, hF_102⟩ := bnd_e hF_100
    clear hF_100
    refine lv_iinc (v := x_101) (lv' := [(1, .int x_101), (0, .ref (oA 4))]) hx hb dX7_clear_89 hl (k := 1) rfl (by rw [ex_101]; rfl) (by decide) rfl (fun ls hl => ?_)
    refine lv_goto (tgt := 73) hx hb dX7_clear_92 (by decide) ?_
    exact ih_21 (x_101, σ_99) hF_102 _ _ hP hS ls (lv_sub hl [1, 0] rfl)
theorem dX7_owns_0 : decode cX7_owns 0 = .ok (.aload_n 0, 1) := by decide +kernel
theorem dX7_owns_1 : decode cX7_owns 1 = .ok (.getfield 43, 3) := by decide +kernel
theorem dX7_owns_4 : decode cX7_owns 4 = .ok (.iload_n 1, 1) := by decide +kernel
theorem dX7_owns_5 : decode cX7_owns 5 = .ok (.invokestatic 155, 3) := by decide +kernel
theorem dX7_owns_8 : decode cX7_owns 8 = .ok (.istore_n 3, 1) := by decide +kernel
theorem dX7_owns_9 : decode cX7_owns 9 = .ok (.iconst 0, 1) := by decide +kernel
theorem dX7_owns_10 : decode cX7_owns 10 = .ok (.istore 4, 2) := by decide +kernel
theorem dX7_owns_12 : decode cX7_owns 12 = .ok (.iload 4, 2) := by decide +kernel
theorem dX7_owns_14 : decode cX7_owns 14 = .ok (.iload_n 3, 1) := by decide +kernel
theorem dX7_owns_15 : decode cX7_owns 15 = .ok (.if_icmp .ge 36, 3) := by decide +kernel
theorem dX7_owns_18 : decode cX7_owns 18 = .ok (.iload 4, 2) := by decide +kernel
theorem dX7_owns_20 : decode cX7_owns 20 = .ok (.bipush 10, 2) := by decide +kernel
theorem dX7_owns_22 : decode cX7_owns 22 = .ok (.if_icmp .ge 29, 3) := by decide +kernel
theorem dX7_owns_25 : decode cX7_owns 25 = .ok (.aload_n 0, 1) := by decide +kernel
theorem dX7_owns_26 : decode cX7_owns 26 = .ok (.getfield 40, 3) := by decide +kernel
theorem dX7_owns_29 : decode cX7_owns 29 = .ok (.iload_n 1, 1) := by decide +kernel
theorem dX7_owns_30 : decode cX7_owns 30 = .ok (.bipush 10, 2) := by decide +kernel
theorem dX7_owns_32 : decode cX7_owns 32 = .ok (.imul, 1) := by decide +kernel
theorem dX7_owns_33 : decode cX7_owns 33 = .ok (.iload 4, 2) := by decide +kernel
theorem dX7_owns_35 : decode cX7_owns 35 = .ok (.iadd, 1) := by decide +kernel
theorem dX7_owns_36 : decode cX7_owns 36 = .ok (.invokestatic 155, 3) := by decide +kernel
theorem dX7_owns_39 : decode cX7_owns 39 = .ok (.iload_n 2, 1) := by decide +kernel
theorem dX7_owns_40 : decode cX7_owns 40 = .ok (.if_icmp .ne 5, 3) := by decide +kernel
theorem dX7_owns_43 : decode cX7_owns 43 = .ok (.iconst 1, 1) := by decide +kernel
theorem dX7_owns_44 : decode cX7_owns 44 = .ok (.ireturn, 1) := by decide +kernel
theorem dX7_owns_45 : decode cX7_owns 45 = .ok (.iinc 4 1, 3) := by decide +kernel
theorem dX7_owns_48 : decode cX7_owns 48 = .ok (.goto (-36), 3) := by decide +kernel
theorem dX7_owns_51 : decode cX7_owns 51 = .ok (.iconst 0, 1) := by decide +kernel
theorem dX7_owns_52 : decode cX7_owns 52 = .ok (.ireturn, 1) := by decide +kernel
def F_X7_owns (p0 : Int32) (p1 : Int32) (Γ : HS) : HR :=
  bnd ((g_at 181 ((Γ 4).2.1 10) p0)) fun (x_1 : Int32) =>
  loopF (fun (again_4 : (Int32 × HS) → HR) (s_3 : Int32 × HS) => (
    if x_1 ≤ s_3.1 then (
      some (0, s_3.2)
    ) else (
      if 10 ≤ s_3.1 then (
        some (0, s_3.2)
      ) else (
        bnd (((p0 * 10) + s_3.1)) fun (x_13 : Int32) =>
        bnd ((g_at 1810 ((s_3.2 4).2.1 9) x_13)) fun (x_15 : Int32) =>
        if x_15 = p1 then (
          some (1, s_3.2)
        ) else (
          bnd (s_3.1 + 1) fun (x_20 : Int32) =>
          again_4 (x_20, s_3.2)
        )
      )
    )
  )) FU (0, Γ)
set_option maxHeartbeats 4000000 in
set_option maxRecDepth 100000 in
theorem k_X7_owns (l : Launch) (dC : Nat → ClassId) (dI : Nat → Nat → Nat) (cB cC cI cJ cZ cP : ClassId) (oA : Nat → Nat) (rA : Nat → Nat → Nat) (sz : Nat)  (p0 : Int32) (p1 : Int32) (Γ : HS) (res : Int32 × HS) (hF : F_X7_owns p0 p1 Γ = some res) : Met l yX7_owns (g_ws yX7_owns cX7_owns 5 (some .boolean)) ({ frames := 3, cells := 0, slots := 0, locals := 81 }) (va_Pc [.ref (oA 4), .int p0, .int p1] (g_B (dC, dI) [(cB, .byte), (cC, .char), (cI, .int), (cJ, .long), (cZ, .boolean), (cP, .object "StoryHouse$Play")] sz (b_s cB cC cI cJ cZ oA rA Γ ++ b_c cB cC cI cJ cZ oA rA Γ ++ b_t cB cC cI cJ cZ oA rA Γ ++ b_d cB cC cI cJ cZ oA rA Γ) g_0)) (va_Qi (fun r (_ : Unit) => r = res.1) (g_Bo (dC, dI) (va_A (b_s cB cC cI cJ cZ oA rA Γ ++ b_c cB cC cI cJ cZ oA rA Γ ++ b_t cB cC cI cJ cZ oA rA Γ ++ b_d cB cC cI cJ cZ oA rA Γ) sz) (fun (_ : Unit) => (b_s cB cC cI cJ cZ oA rA res.2 ++ b_c cB cC cI cJ cZ oA rA res.2 ++ b_t cB cC cI cJ cZ oA rA res.2 ++ b_d cB cC cI cJ cZ oA rA res.2))) (va_A (b_s cB cC cI cJ cZ oA rA Γ ++ b_c cB cC cI cJ cZ oA rA Γ ++ b_t cB cC cI cJ cZ oA rA Γ ++ b_d cB cC cI cJ cZ oA rA Γ) sz)) 0 0 (va_A (b_s cB cC cI cJ cZ oA rA Γ ++ b_c cB cC cI cJ cZ oA rA Γ ++ b_t cB cC cI cJ cZ oA rA Γ ++ b_d cB cC cI cJ cZ oA rA Γ) sz) := by
  refine Met.ofW (cc := cX7_owns) (maxL := 5) (ret := (some .boolean)) (by decide) rfl ?_
  intro p e s m args below meth c s₁ B hml hv
  obtain ⟨rfl, hsz, hP, hK, hD0, hE, hX⟩ := hv
  have hx := B.exec
  have hb := B.bytes
  have hr := B.returns
  have hts0 := atoms_spec (ws := g_ws yX7_owns cX7_owns 5 (some .boolean)) B.pre
  have hts : ∀ w ∈ lw_good, w.before ([.ref (oA 4), .int p0, .int p1] : List Value).toArray s = true := fun w z => hts0 w (List.mem_cons_of_mem _ z)
  have hown : s.vm.findClass RX7 = some m.cls := findClass_of_methodNamed B.named
  have hlocks := B.notSynchronized
  subst hsz
  have hD1 := hD0.self (sz := s.heap.size)
  generalize hAe : va_A (b_s cB cC cI cJ cZ oA rA Γ ++ b_c cB cC cI cJ cZ oA rA Γ ++ b_t cB cC cI cJ cZ oA rA Γ ++ b_d cB cC cI cJ cZ oA rA Γ) s.heap.size = A at hD1 hE hX ⊢
  have hA : ∀ q : Nat, s.heap.size ≤ q → A q := fun q z => by rw [← hAe]; exact Or.inr z
  have hDD : ∀ Γ : HS, va_D A (b_s cB cC cI cJ cZ oA rA Γ ++ b_c cB cC cI cJ cZ oA rA Γ ++ b_t cB cC cI cJ cZ oA rA Γ ++ b_d cB cC cI cJ cZ oA rA Γ) := fun Γ9 => va_D_fst (ws := (b_s cB cC cI cJ cZ oA rA Γ ++ b_c cB cC cI cJ cZ oA rA Γ ++ b_t cB cC cI cJ cZ oA rA Γ ++ b_d cB cC cI cJ cZ oA rA Γ)) (ws' := (b_s cB cC cI cJ cZ oA rA Γ9 ++ b_c cB cC cI cJ cZ oA rA Γ9 ++ b_t cB cC cI cJ cZ oA rA Γ9 ++ b_d cB cC cI cJ cZ oA rA Γ9)) rfl hD1
  have hN := hE.1
  have hS : va_S A s.heap s.heap [] := va_S.rf
  have hl := lv_entry ([.ref (oA 4), .int p0, .int p1]) (n := 5) (Nat.le_of_ble_eq_true rfl)
  rw [lg_entry_eq]
  generalize (lg_sl ([.ref (oA 4), .int p0, .int p1]) ++ List.replicate (5 - (lg_sl ([.ref (oA 4), .int p0, .int p1])).length) Slot.unset).toArray = ls at hl ⊢
  have hl : lv_has ls 5 [(0, .ref (oA 4)), (1, .int p0), (2, .int p1)] := hl
  unfold F_X7_owns at hF
  refine lv_aload_n hx hb dX7_owns_0 rfl (lv_at hl 0 rfl) ?_
  refine va_get (D := (dC, dI)) (ci := 7) (v := .ref (rA 4 10)) (C := RX7) (T := TX7) (N := 19) hx hb hts ii_X7 hown hK hP 0 rfl rfl 10 (by decide) (hts (.fieldLink RX7 43 "StoryHouse$Story" "ownedCounts" "[I") wq_177) (fun _ h9 => h9) rfl dX7_owns_1 ?_
  refine lv_iload_n hx hb dX7_owns_4 rfl (lv_at hl 1 rfl) ?_
  have hq9 : ((b_s cB cC cI cJ cZ oA rA Γ ++ b_c cB cC cI cJ cZ oA rA Γ ++ b_t cB cC cI cJ cZ oA rA Γ ++ b_d cB cC cI cJ cZ oA rA Γ))[11]? = some (rA 4 10, .inl (cI, 181, .inl ((Γ 4).2.1 10))) := rfl
  have hPc := hP.sub (ws' := [(rA 4 10, .inl (cI, 181, .inl ((Γ 4).2.1 10)))]) [11] (pk_fm (er_C hq9))
  have hDc := (hDD Γ).sub (ws' := [(rA 4 10, .inl (cI, 181, .inl ((Γ 4).2.1 10)))]) [11] (by decide +kernel) (er_C hq9)
  have hFc := va_free (wc := [(rA 4 10, .inl (cI, 181, .inl ((Γ 4).2.1 10)))]) (hDD Γ) hS hA [11] (er_C hq9)
  refine g_ofi (wc := [(rA 4 10, .inl (cI, 181, .inl ((Γ 4).2.1 10)))]) (wr := (((b_s cB cC cI cJ cZ oA rA Γ ++ b_c cB cC cI cJ cZ oA rA Γ ++ b_t cB cC cI cJ cZ oA rA Γ ++ b_d cB cC cI cJ cZ oA rA Γ)).eraseIdx 11)) hP (hDD Γ) hS hFc [11] ((List.range ((b_s cB cC cI cJ cZ oA rA Γ ++ b_c cB cC cI cJ cZ oA rA Γ ++ b_t cB cC cI cJ cZ oA rA Γ ++ b_d cB cC cI cJ cZ oA rA Γ)).length).eraseIdx 11) (er_C hq9) er_R er_n er_d (va_runSN (As := [.ref (rA 4 10), .int p0]) (rest := []) ⟨hx, hb, hml, hown, hts⟩ (c_X11_at l dC dI cB cC cI cJ cZ cP s.heap.size (rA 4 10) p0 181 ((Γ 4).2.1 10) (by decide)) ⟨va_cnB 2 hts (g_gA wq_407) rfl rfl rfl (nw_17 hN) (hts (.initialized RX11) wq_1) (by decide +kernel) ⟨Nat.le_of_ble_eq_true rfl, Nat.le_of_ble_eq_true rfl⟩, (hts (.static yX11_at) wq_406), trivial⟩ (g_preS g_bl0 hK hPc hDc hS hE hFc g_to0) rfl rfl hl.1 rfl (lv_room (Nat.le_of_ble_eq_true rfl)) dX7_owns_5 ⟨Nat.le_of_ble_eq_true rfl, Nat.le_of_ble_eq_true rfl⟩) (fun r9 u9 H locs hw9 hP' hD' hS => ?_)
  clear hPc hDc hFc hD'
  have hP : va_P (dC, dI) vwCl (b_s cB cC cI cJ cZ oA rA Γ ++ b_c cB cC cI cJ cZ oA rA Γ ++ b_t cB cC cI cJ cZ oA rA Γ ++ b_d cB cC cI cJ cZ oA rA Γ) H := er_I hP' hq9
  clear hP' hq9
  subst hw9
  obtain ⟨x_1, ex_1, hF_2⟩ := bnd_e hF
  clear hF
  refine m_top ex_1 ?_
  refine lv_istore_n (lv' := [(3, .int x_1), (0, .ref (oA 4)), (1, .int p0), (2, .int p1)]) hx hb dX7_owns_8 rfl hl (by decide) rfl (fun ls hl => ?_)
  refine lv_iconst (v := 0) hx hb dX7_owns_9 (by decide +kernel) ?_
  refine lv_istore (lv' := [(4, .int 0), (3, .int x_1), (0, .ref (oA 4)), (1, .int p0), (2, .int p1)]) hx hb dX7_owns_10 hl (by decide) rfl (fun ls hl => ?_)
  refine loopF_ind (P := fun (s_3 : Int32 × HS) => ∀ (H : Heap) (locs : List Loc), va_P (dC, dI) vwCl (b_s cB cC cI cJ cZ oA rA s_3.2 ++ b_c cB cC cI cJ cZ oA rA s_3.2 ++ b_t cB cC cI cJ cZ oA rA s_3.2 ++ b_d cB cC cI cJ cZ oA rA s_3.2) H → va_S A s.heap H locs → ∀ ls : Array Slot, lv_has ls 5 [(0, .ref (oA 4)), (1, .int p0), (2, .int p1), (3, .int x_1), (4, .int s_3.1)] → W p l e (headSpec (g_ws yX7_owns cX7_owns 5 (some .boolean)) { frames := 3, cells := 0, slots := 0, locals := 81 }).room s m ([.ref (oA 4), .int p0, .int p1] : List Value).toArray below meth c H locs 0 0 (MQ below (va_Qi (fun r (_ : Unit) => r = res.1) (g_Bo (dC, dI) A (fun (_ : Unit) => (b_s cB cC cI cJ cZ oA rA res.2 ++ b_c cB cC cI cJ cZ oA rA res.2 ++ b_t cB cC cI cJ cZ oA rA res.2 ++ b_d cB cC cI cJ cZ oA rA res.2))) A) ([.ref (oA 4), .int p0, .int p1] : List Value).toArray s 0 0 A) (F0 m 12 ls [])) ?_ _ _ hF_2 _ _ hP hS ls (lv_sub hl [2, 3, 4, 1, 0] rfl)
  intro again_4 s_3 ih_5 hF_6
  intro H locs hP hS ls hl
  refine lv_iload hx hb dX7_owns_12 (lv_at hl 4 rfl) ?_
  refine lv_iload_n hx hb dX7_owns_14 rfl (lv_at hl 3 rfl) ?_
  refine lv_icmp_ge (tgt := 51) hx hb dX7_owns_15 (by decide) (fun c_7 => ?_) (fun c_7 => ?_)
  · have hF_8 := ipos c_7 hF_6
    clear hF_6
    refine lv_iconst (v := 0) hx hb dX7_owns_51 (by decide +kernel) ?_
    have h9 := Option.some.inj hF_8
    subst h9
    exact W.zret (v := 0) hx hb hr (by decide +kernel) (fun t ht hW => ⟨⟨0, (), rfl, rfl, m_end ht hP, hDD _⟩, hS.F ht⟩) hS.2.2 dX7_owns_52
  · have hF_9 := ineg c_7 hF_6
    clear hF_6
    refine lv_iload hx hb dX7_owns_18 (lv_at hl 4 rfl) ?_
    refine lv_bipush (v := 10) hx hb dX7_owns_20 (by decide +kernel) ?_
    refine lv_icmp_ge (tgt := 51) hx hb dX7_owns_22 (by decide) (fun c_10 => ?_) (fun c_10 => ?_)
    · have hF_11 := ipos c_10 hF_9
      clear hF_9
      refine lv_iconst (v := 0) hx hb dX7_owns_51 (by decide +kernel) ?_
      have h9 := Option.some.inj hF_11
      subst h9
      exact W.zret (v := 0) hx hb hr (by decide +kernel) (fun t ht hW => ⟨⟨0, (), rfl, rfl, m_end ht hP, hDD _⟩, hS.F ht⟩) hS.2.2 dX7_owns_52
    · have hF_12 := ineg c_10 hF_9
      clear hF_9
      refine lv_aload_n hx hb dX7_owns_25 rfl (lv_at hl 0 rfl) ?_
      refine va_get (D := (dC, dI)) (ci := 7) (v := .ref (rA 4 9)) (C := RX7) (T := TX7) (N := 19) hx hb hts ii_X7 hown hK hP 0 rfl rfl 9 (by decide) (hts (.fieldLink RX7 40 "StoryHouse$Story" "owned" "[I") wq_176) (fun _ h9 => h9) rfl dX7_owns_26 ?_
      refine lv_iload_n hx hb dX7_owns_29 rfl (lv_at hl 1 rfl) ?_
      refine lv_bipush (v := 10) hx hb dX7_owns_30 (by decide +kernel) ?_
      refine lv_imul hx hb dX7_owns_32 ?_
      refine lv_iload hx hb dX7_owns_33 (lv_at hl 4 rfl) ?_
      refine lv_iadd hx hb dX7_owns_35 ?_
      obtain ⟨x_13, ex_13, hF_14⟩ := bnd_e hF_12
      clear hF_12
      refine m_top ex_13 ?_
      have hq9 : ((b_s cB cC cI cJ cZ oA rA s_3.2 ++ b_c cB cC cI cJ cZ oA rA s_3.2 ++ b_t cB cC cI cJ cZ oA rA s_3.2 ++ b_d cB cC cI cJ cZ oA rA s_3.2))[10]? = some (rA 4 9, .inl (cI, 1810, .inl ((s_3.2 4).2.1 9))) := rfl
      have hPc := hP.sub (ws' := [(rA 4 9, .inl (cI, 1810, .inl ((s_3.2 4).2.1 9)))]) [10] (pk_fm (er_C hq9))
      have hDc := (hDD s_3.2).sub (ws' := [(rA 4 9, .inl (cI, 1810, .inl ((s_3.2 4).2.1 9)))]) [10] (by decide +kernel) (er_C hq9)
      have hFc := va_free (wc := [(rA 4 9, .inl (cI, 1810, .inl ((s_3.2 4).2.1 9)))]) (hDD s_3.2) hS hA [10] (er_C hq9)
      refine g_ofi (wc := [(rA 4 9, .inl (cI, 1810, .inl ((s_3.2 4).2.1 9)))]) (wr := (((b_s cB cC cI cJ cZ oA rA s_3.2 ++ b_c cB cC cI cJ cZ oA rA s_3.2 ++ b_t cB cC cI cJ cZ oA rA s_3.2 ++ b_d cB cC cI cJ cZ oA rA s_3.2)).eraseIdx 10)) hP (hDD s_3.2) hS hFc [10] ((List.range ((b_s cB cC cI cJ cZ oA rA s_3.2 ++ b_c cB cC cI cJ cZ oA rA s_3.2 ++ b_t cB cC cI cJ cZ oA rA s_3.2 ++ b_d cB cC cI cJ cZ oA rA s_3.2)).length).eraseIdx 10) (er_C hq9) er_R er_n er_d (va_runSN (As := [.ref (rA 4 9), .int x_13]) (rest := []) ⟨hx, hb, hml, hown, hts⟩ (c_X11_at l dC dI cB cC cI cJ cZ cP H.size (rA 4 9) x_13 1810 ((s_3.2 4).2.1 9) (by decide)) ⟨va_cnB 2 hts (g_gA wq_407) rfl rfl rfl (nw_17 hN) (hts (.initialized RX11) wq_1) (by decide +kernel) ⟨Nat.le_of_ble_eq_true rfl, Nat.le_of_ble_eq_true rfl⟩, (hts (.static yX11_at) wq_406), trivial⟩ (g_preS g_bl0 hK hPc hDc hS hE hFc g_to0) rfl rfl hl.1 rfl (lv_room (Nat.le_of_ble_eq_true rfl)) dX7_owns_36 ⟨Nat.le_of_ble_eq_true rfl, Nat.le_of_ble_eq_true rfl⟩) (fun r9 u9 H locs hw9 hP' hD' hS => ?_)
      clear hPc hDc hFc hD'
      have hP : va_P (dC, dI) vwCl (b_s cB cC cI cJ cZ oA rA s_3.2 ++ b_c cB cC cI cJ cZ oA rA s_3.2 ++ b_t cB cC cI cJ cZ oA rA s_3.2 ++ b_d cB cC cI cJ cZ oA rA s_3.2) H := er_I hP' hq9
      clear hP' hq9
      subst hw9
      obtain ⟨x_15, ex_15, hF_16⟩ := bnd_e hF_14
      clear hF_14
      refine m_top ex_15 ?_
      refine lv_iload_n hx hb dX7_owns_39 rfl (lv_at hl 2 rfl) ?_
      refine lv_icmp_ne (tgt := 45) hx hb dX7_owns_40 (by decide) (fun c_17 => ?_) (fun c_17 => ?_)
      · have hF_19 := ineg c_17 hF_16
        clear hF_16
        obtain ⟨x_20, ex_20, hF_21⟩ := bnd_e hF_19
        clear hF_19
        refine lv_iinc (v := x_20) (lv' := [(4, .int x_20), (0, .ref (oA 4)), (1, .int p0), (2, .int p1), (3, .int x_1)]) hx hb dX7_owns_45 hl (k := 4) rfl (by rw [ex_20]; rfl) (by decide) rfl (fun ls hl => ?_)
        refine lv_goto (tgt := 12) hx hb dX7_owns_48 (by decide) ?_
        exact ih_5 (x_20, s_3.2) hF_21 _ _ hP hS ls (lv_sub hl [1, 2, 3, 4, 0] rfl)
      · have hF_18 := ipos c_17 hF_16
        clear hF_16
        refine lv_iconst (v := 1) hx hb dX7_owns_43 (by decide +kernel) ?_
        have h9 := Option.some.inj hF_18
        subst h9
        exact W.zret (v := 1) hx hb hr (by decide +kernel) (fun t ht hW => ⟨⟨1, (), rfl, rfl, m_end ht hP, hDD _⟩, hS.F ht⟩) hS.2.2 dX7_owns_44
