/-! methods of the class: what each does is its function -/
theorem dX4_itemWord_0 : decode cX4_itemWord 0 = .ok (.aload_n 0, 1) := by decide +kernel
theorem dX4_itemWord_1 : decode cX4_itemWord 1 = .ok (.getfield 32, 3) := by decide +kernel
theorem dX4_itemWord_4 : decode cX4_itemWord 4 = .ok (.iload_n 1, 1) := by decide +kernel
theorem dX4_itemWord_5 : decode cX4_itemWord 5 = .ok (.invokevirtual 116, 3) := by decide +kernel
theorem dX4_itemWord_8 : decode cX4_itemWord 8 = .ok (.istore_n 2, 1) := by decide +kernel
theorem dX4_itemWord_9 : decode cX4_itemWord 9 = .ok (.iload_n 2, 1) := by decide +kernel
theorem dX4_itemWord_10 : decode cX4_itemWord 10 = .ok (.sipush 206, 3) := by decide +kernel
theorem dX4_itemWord_13 : decode cX4_itemWord 13 = .ok (.if_icmp .lt 47, 3) := by decide +kernel
theorem dX4_itemWord_16 : decode cX4_itemWord 16 = .ok (.iload_n 2, 1) := by decide +kernel
theorem dX4_itemWord_17 : decode cX4_itemWord 17 = .ok (.sipush 212, 3) := by decide +kernel
theorem dX4_itemWord_20 : decode cX4_itemWord 20 = .ok (.if_icmp .gt 40, 3) := by decide +kernel
theorem dX4_itemWord_23 : decode cX4_itemWord 23 = .ok (.aload_n 0, 1) := by decide +kernel
theorem dX4_itemWord_24 : decode cX4_itemWord 24 = .ok (.getfield 36, 3) := by decide +kernel
theorem dX4_itemWord_27 : decode cX4_itemWord 27 = .ok (.getfield 187, 3) := by decide +kernel
theorem dX4_itemWord_30 : decode cX4_itemWord 30 = .ok (.aload_n 0, 1) := by decide +kernel
theorem dX4_itemWord_31 : decode cX4_itemWord 31 = .ok (.getfield 190, 3) := by decide +kernel
theorem dX4_itemWord_34 : decode cX4_itemWord 34 = .ok (.aload_n 0, 1) := by decide +kernel
theorem dX4_itemWord_35 : decode cX4_itemWord 35 = .ok (.getfield 36, 3) := by decide +kernel
theorem dX4_itemWord_38 : decode cX4_itemWord 38 = .ok (.getfield 187, 3) := by decide +kernel
theorem dX4_itemWord_41 : decode cX4_itemWord 41 = .ok (.aload_n 0, 1) := by decide +kernel
theorem dX4_itemWord_42 : decode cX4_itemWord 42 = .ok (.getfield 190, 3) := by decide +kernel
theorem dX4_itemWord_45 : decode cX4_itemWord 45 = .ok (.invokestatic 122, 3) := by decide +kernel
theorem dX4_itemWord_48 : decode cX4_itemWord 48 = .ok (.iconst 1, 1) := by decide +kernel
theorem dX4_itemWord_49 : decode cX4_itemWord 49 = .ok (.iload_n 2, 1) := by decide +kernel
theorem dX4_itemWord_50 : decode cX4_itemWord 50 = .ok (.sipush 206, 3) := by decide +kernel
theorem dX4_itemWord_53 : decode cX4_itemWord 53 = .ok (.isub, 1) := by decide +kernel
theorem dX4_itemWord_54 : decode cX4_itemWord 54 = .ok (.ishl, 1) := by decide +kernel
theorem dX4_itemWord_55 : decode cX4_itemWord 55 = .ok (.ior, 1) := by decide +kernel
theorem dX4_itemWord_56 : decode cX4_itemWord 56 = .ok (.invokestatic 112, 3) := by decide +kernel
theorem dX4_itemWord_59 : decode cX4_itemWord 59 = .ok (.return_, 1) := by decide +kernel
theorem dX4_itemWord_60 : decode cX4_itemWord 60 = .ok (.iload_n 2, 1) := by decide +kernel
theorem dX4_itemWord_61 : decode cX4_itemWord 61 = .ok (.tableswitch 282 219 240 #[185, 282, 282, 282, 282, 282, 282, 282, 282, 282, 282, 103, 103, 210, 218, 282, 226, 274, 282, 150, 177, 195], 103) := by decide +kernel
theorem dX4_itemWord_164 : decode cX4_itemWord 164 = .ok (.aload_n 0, 1) := by decide +kernel
theorem dX4_itemWord_165 : decode cX4_itemWord 165 = .ok (.aload_n 0, 1) := by decide +kernel
theorem dX4_itemWord_166 : decode cX4_itemWord 166 = .ok (.iload_n 1, 1) := by decide +kernel
theorem dX4_itemWord_167 : decode cX4_itemWord 167 = .ok (.iconst 1, 1) := by decide +kernel
theorem dX4_itemWord_168 : decode cX4_itemWord 168 = .ok (.iadd, 1) := by decide +kernel
theorem dX4_itemWord_169 : decode cX4_itemWord 169 = .ok (.invokevirtual 193, 3) := by decide +kernel
theorem dX4_itemWord_172 : decode cX4_itemWord 172 = .ok (.putfield 190, 3) := by decide +kernel
theorem dX4_itemWord_175 : decode cX4_itemWord 175 = .ok (.aload_n 0, 1) := by decide +kernel
theorem dX4_itemWord_176 : decode cX4_itemWord 176 = .ok (.getfield 36, 3) := by decide +kernel
theorem dX4_itemWord_179 : decode cX4_itemWord 179 = .ok (.aload_n 0, 1) := by decide +kernel
theorem dX4_itemWord_180 : decode cX4_itemWord 180 = .ok (.getfield 190, 3) := by decide +kernel
theorem dX4_itemWord_183 : decode cX4_itemWord 183 = .ok (.iload_n 2, 1) := by decide +kernel
theorem dX4_itemWord_184 : decode cX4_itemWord 184 = .ok (.sipush 230, 3) := by decide +kernel
theorem dX4_itemWord_187 : decode cX4_itemWord 187 = .ok (.if_icmp .ne 7, 3) := by decide +kernel
theorem dX4_itemWord_190 : decode cX4_itemWord 190 = .ok (.iconst 1, 1) := by decide +kernel
theorem dX4_itemWord_191 : decode cX4_itemWord 191 = .ok (.goto 4, 3) := by decide +kernel
theorem dX4_itemWord_194 : decode cX4_itemWord 194 = .ok (.iconst 0, 1) := by decide +kernel
theorem dX4_itemWord_195 : decode cX4_itemWord 195 = .ok (.aload_n 0, 1) := by decide +kernel
theorem dX4_itemWord_196 : decode cX4_itemWord 196 = .ok (.getfield 32, 3) := by decide +kernel
theorem dX4_itemWord_199 : decode cX4_itemWord 199 = .ok (.iload_n 1, 1) := by decide +kernel
theorem dX4_itemWord_200 : decode cX4_itemWord 200 = .ok (.iconst 2, 1) := by decide +kernel
theorem dX4_itemWord_201 : decode cX4_itemWord 201 = .ok (.iadd, 1) := by decide +kernel
theorem dX4_itemWord_202 : decode cX4_itemWord 202 = .ok (.invokevirtual 119, 3) := by decide +kernel
theorem dX4_itemWord_205 : decode cX4_itemWord 205 = .ok (.invokevirtual 195, 3) := by decide +kernel
theorem dX4_itemWord_208 : decode cX4_itemWord 208 = .ok (.goto 135, 3) := by decide +kernel
theorem dX4_itemWord_211 : decode cX4_itemWord 211 = .ok (.aload_n 0, 1) := by decide +kernel
theorem dX4_itemWord_212 : decode cX4_itemWord 212 = .ok (.getfield 36, 3) := by decide +kernel
theorem dX4_itemWord_215 : decode cX4_itemWord 215 = .ok (.getfield 199, 3) := by decide +kernel
theorem dX4_itemWord_218 : decode cX4_itemWord 218 = .ok (.aload_n 0, 1) := by decide +kernel
theorem dX4_itemWord_219 : decode cX4_itemWord 219 = .ok (.getfield 190, 3) := by decide +kernel
theorem dX4_itemWord_222 : decode cX4_itemWord 222 = .ok (.aload_n 0, 1) := by decide +kernel
theorem dX4_itemWord_223 : decode cX4_itemWord 223 = .ok (.getfield 32, 3) := by decide +kernel
theorem dX4_itemWord_226 : decode cX4_itemWord 226 = .ok (.iload_n 1, 1) := by decide +kernel
theorem dX4_itemWord_227 : decode cX4_itemWord 227 = .ok (.iconst 1, 1) := by decide +kernel
theorem dX4_itemWord_228 : decode cX4_itemWord 228 = .ok (.iadd, 1) := by decide +kernel
theorem dX4_itemWord_229 : decode cX4_itemWord 229 = .ok (.invokevirtual 119, 3) := by decide +kernel
theorem dX4_itemWord_232 : decode cX4_itemWord 232 = .ok (.invokestatic 112, 3) := by decide +kernel
theorem dX4_itemWord_235 : decode cX4_itemWord 235 = .ok (.goto 108, 3) := by decide +kernel
theorem dX4_itemWord_238 : decode cX4_itemWord 238 = .ok (.aload_n 0, 1) := by decide +kernel
theorem dX4_itemWord_239 : decode cX4_itemWord 239 = .ok (.iload_n 1, 1) := by decide +kernel
theorem dX4_itemWord_240 : decode cX4_itemWord 240 = .ok (.invokevirtual 202, 3) := by decide +kernel
theorem dX4_itemWord_243 : decode cX4_itemWord 243 = .ok (.goto 100, 3) := by decide +kernel
theorem dX4_itemWord_246 : decode cX4_itemWord 246 = .ok (.aload_n 0, 1) := by decide +kernel
theorem dX4_itemWord_247 : decode cX4_itemWord 247 = .ok (.iload_n 1, 1) := by decide +kernel
theorem dX4_itemWord_248 : decode cX4_itemWord 248 = .ok (.iconst 1, 1) := by decide +kernel
theorem dX4_itemWord_249 : decode cX4_itemWord 249 = .ok (.iadd, 1) := by decide +kernel
theorem dX4_itemWord_250 : decode cX4_itemWord 250 = .ok (.invokevirtual 205, 3) := by decide +kernel
theorem dX4_itemWord_253 : decode cX4_itemWord 253 = .ok (.goto 90, 3) := by decide +kernel
theorem dX4_itemWord_256 : decode cX4_itemWord 256 = .ok (.aload_n 0, 1) := by decide +kernel
theorem dX4_itemWord_257 : decode cX4_itemWord 257 = .ok (.aload_n 0, 1) := by decide +kernel
theorem dX4_itemWord_258 : decode cX4_itemWord 258 = .ok (.getfield 190, 3) := by decide +kernel
theorem dX4_itemWord_261 : decode cX4_itemWord 261 = .ok (.iload_n 1, 1) := by decide +kernel
theorem dX4_itemWord_262 : decode cX4_itemWord 262 = .ok (.iconst 1, 1) := by decide +kernel
theorem dX4_itemWord_263 : decode cX4_itemWord 263 = .ok (.iadd, 1) := by decide +kernel
theorem dX4_itemWord_264 : decode cX4_itemWord 264 = .ok (.invokevirtual 208, 3) := by decide +kernel
theorem dX4_itemWord_267 : decode cX4_itemWord 267 = .ok (.pop, 1) := by decide +kernel
theorem dX4_itemWord_268 : decode cX4_itemWord 268 = .ok (.goto 75, 3) := by decide +kernel
theorem dX4_itemWord_271 : decode cX4_itemWord 271 = .ok (.aload_n 0, 1) := by decide +kernel
theorem dX4_itemWord_272 : decode cX4_itemWord 272 = .ok (.iload_n 1, 1) := by decide +kernel
theorem dX4_itemWord_273 : decode cX4_itemWord 273 = .ok (.invokevirtual 212, 3) := by decide +kernel
theorem dX4_itemWord_276 : decode cX4_itemWord 276 = .ok (.goto 67, 3) := by decide +kernel
theorem dX4_itemWord_279 : decode cX4_itemWord 279 = .ok (.aload_n 0, 1) := by decide +kernel
theorem dX4_itemWord_280 : decode cX4_itemWord 280 = .ok (.iload_n 1, 1) := by decide +kernel
theorem dX4_itemWord_281 : decode cX4_itemWord 281 = .ok (.invokevirtual 215, 3) := by decide +kernel
theorem dX4_itemWord_284 : decode cX4_itemWord 284 = .ok (.goto 59, 3) := by decide +kernel
theorem dX4_itemWord_287 : decode cX4_itemWord 287 = .ok (.iload_n 1, 1) := by decide +kernel
theorem dX4_itemWord_288 : decode cX4_itemWord 288 = .ok (.iconst 3, 1) := by decide +kernel
theorem dX4_itemWord_289 : decode cX4_itemWord 289 = .ok (.iadd, 1) := by decide +kernel
theorem dX4_itemWord_290 : decode cX4_itemWord 290 = .ok (.istore_n 3, 1) := by decide +kernel
theorem dX4_itemWord_291 : decode cX4_itemWord 291 = .ok (.iload_n 3, 1) := by decide +kernel
theorem dX4_itemWord_292 : decode cX4_itemWord 292 = .ok (.aload_n 0, 1) := by decide +kernel
theorem dX4_itemWord_293 : decode cX4_itemWord 293 = .ok (.getfield 32, 3) := by decide +kernel
theorem dX4_itemWord_296 : decode cX4_itemWord 296 = .ok (.getfield 53, 3) := by decide +kernel
theorem dX4_itemWord_299 : decode cX4_itemWord 299 = .ok (.if_icmp .ge 33, 3) := by decide +kernel
theorem dX4_itemWord_302 : decode cX4_itemWord 302 = .ok (.aload_n 0, 1) := by decide +kernel
theorem dX4_itemWord_303 : decode cX4_itemWord 303 = .ok (.getfield 32, 3) := by decide +kernel
theorem dX4_itemWord_306 : decode cX4_itemWord 306 = .ok (.iload_n 3, 1) := by decide +kernel
theorem dX4_itemWord_307 : decode cX4_itemWord 307 = .ok (.invokevirtual 116, 3) := by decide +kernel
theorem dX4_itemWord_310 : decode cX4_itemWord 310 = .ok (.iconst 2, 1) := by decide +kernel
theorem dX4_itemWord_311 : decode cX4_itemWord 311 = .ok (.if_icmp .ne 21, 3) := by decide +kernel
theorem dX4_itemWord_314 : decode cX4_itemWord 314 = .ok (.aload_n 0, 1) := by decide +kernel
theorem dX4_itemWord_315 : decode cX4_itemWord 315 = .ok (.aload_n 0, 1) := by decide +kernel
theorem dX4_itemWord_316 : decode cX4_itemWord 316 = .ok (.getfield 32, 3) := by decide +kernel
theorem dX4_itemWord_319 : decode cX4_itemWord 319 = .ok (.iload_n 3, 1) := by decide +kernel
theorem dX4_itemWord_320 : decode cX4_itemWord 320 = .ok (.invokevirtual 119, 3) := by decide +kernel
theorem dX4_itemWord_323 : decode cX4_itemWord 323 = .ok (.invokevirtual 178, 3) := by decide +kernel
theorem dX4_itemWord_326 : decode cX4_itemWord 326 = .ok (.iinc 3 2, 3) := by decide +kernel
theorem dX4_itemWord_329 : decode cX4_itemWord 329 = .ok (.goto (-38), 3) := by decide +kernel
theorem dX4_itemWord_332 : decode cX4_itemWord 332 = .ok (.goto 11, 3) := by decide +kernel
theorem dX4_itemWord_335 : decode cX4_itemWord 335 = .ok (.aload_n 0, 1) := by decide +kernel
theorem dX4_itemWord_336 : decode cX4_itemWord 336 = .ok (.iload_n 1, 1) := by decide +kernel
theorem dX4_itemWord_337 : decode cX4_itemWord 337 = .ok (.invokevirtual 218, 3) := by decide +kernel
theorem dX4_itemWord_340 : decode cX4_itemWord 340 = .ok (.goto 3, 3) := by decide +kernel
theorem dX4_itemWord_343 : decode cX4_itemWord 343 = .ok (.return_, 1) := by decide +kernel
def F_X4_itemWord (p0 : Int32) (Γ : HS) : HR :=
  (F_X10_kindOf p0 Γ).bind fun u_1 =>
  bnd (mrg (fun j => j == 1) Γ u_1.2) fun σ_3 =>
  bnd (fun  (σ_5 : HS) => (
    if u_1.1 = 219 then (
      (F_X4_inPart (p0 + 1) σ_5).bind fun u_11 =>
      some (0, u_11.2)
    ) else
    if u_1.1 = 230 ∨ u_1.1 = 231 then (
      (F_X4_numberOf (p0 + 1) σ_5).bind fun u_16 =>
      bnd (cI' u_16.2 3 13 u_16.1) fun σ_18 =>
      bnd (fun (t_20 : Int32) (σ_21 : HS) => (
        (F_X10_worthOf (p0 + 2) σ_21).bind fun u_25 =>
        bnd (mrg (fun j => j == 1) σ_21 u_25.2) fun σ_27 =>
        (F_X7_addObject ((σ_18 3).1 13) t_20 u_25.1 σ_27).bind fun u_29 =>
        bnd (mrg (fun j => j == 4 || j == 5 || j == 6 || j == 7) σ_27 u_29.2) fun σ_31 =>
        some (0, σ_31)
      ) : Int32 → HS → HR) fun j_22 =>
      if u_1.1 = 230 then (
        j_22 1 σ_18
      ) else (
        j_22 0 σ_18
      )
    ) else
    if u_1.1 = 232 then (
      (F_X4_verbItem p0 σ_5).bind fun u_39 =>
      some (0, u_39.2)
    ) else
    if u_1.1 = 233 then (
      (F_X4_varItem p0 σ_5).bind fun u_44 =>
      some (0, u_44.2)
    ) else
    if u_1.1 = 235 then (
      loopF (fun (again_50 : (Int32 × HS) → HR) (s_49 : Int32 × HS) => (
        if ((s_49.2 1).1 2) ≤ s_49.1 then (
          some (0, s_49.2)
        ) else (
          (F_X10_kindOf s_49.1 s_49.2).bind fun u_56 =>
          bnd (mrg (fun j => j == 1) s_49.2 u_56.2) fun σ_58 =>
          if u_56.1 = 2 then (
            (F_X10_worthOf s_49.1 σ_58).bind fun u_62 =>
            bnd (mrg (fun j => j == 1) σ_58 u_62.2) fun σ_64 =>
            (F_X4_see u_62.1 σ_64).bind fun u_66 =>
            bnd (s_49.1 + 2) fun (x_68 : Int32) =>
            again_50 (x_68, u_66.2)
          ) else (
            some (0, σ_58)
          )
        )
      )) FU ((p0 + 3), σ_5)
    ) else
    if u_1.1 = 236 then (
      (F_X4_onItem p0 σ_5).bind fun u_74 =>
      some (0, u_74.2)
    ) else
    if u_1.1 = 238 then (
      (F_X10_worthOf (p0 + 1) σ_5).bind fun u_79 =>
      bnd (mrg (fun j => j == 1) σ_5 u_79.2) fun σ_81 =>
      bnd (cA' σ_81 4 3 (g_put 121 ((σ_81 4).2.1 3) ((σ_5 3).1 13) u_79.1)) fun σ_83 =>
      some (0, σ_83)
    ) else
    if u_1.1 = 239 then (
      (F_X4_exitPart p0 σ_5).bind fun u_88 =>
      some (0, u_88.2)
    ) else
    if u_1.1 = 240 then (
      (F_X4_ownWords ((σ_5 3).1 13) (p0 + 1) σ_5).bind fun u_93 =>
      some (0, u_93.2)
    ) else
    (
      some (0, σ_5)
    )
  ) : HS → HR) fun j_6 =>
  if u_1.1 < 206 then (
    j_6  σ_3
  ) else (
    if 212 < u_1.1 then (
      j_6  σ_3
    ) else (
      bnd (((σ_3 3).1 13)) fun (x_102 : Int32) =>
      bnd ((g_at 121 ((σ_3 4).2.1 5) x_102)) fun (x_104 : Int32) =>
      bnd ((x_104 ||| (1 <<< ((u_1.1 - 206) &&& 31)))) fun (x_106 : Int32) =>
      bnd (cA' σ_3 4 5 (g_put 121 ((σ_3 4).2.1 5) ((σ_3 3).1 13) x_106)) fun σ_108 =>
      some (0, σ_108)
    )
  )
set_option maxHeartbeats 4000000 in
set_option maxRecDepth 100000 in
theorem k_X4_itemWord (l : Launch) (dC : Nat → ClassId) (dI : Nat → Nat → Nat) (cB cC cI cJ cZ cP : ClassId) (oA : Nat → Nat) (rA : Nat → Nat → Nat) (sz : Nat)  (p0 : Int32) (Γ : HS) (res : Int32 × HS) (hF : F_X4_itemWord p0 Γ = some res) : Met l yX4_itemWord (g_ws yX4_itemWord cX4_itemWord 4 none) ({ frames := 7, cells := 0, slots := 0, locals := 175 }) (va_Pc [.ref (oA 3), .int p0] (g_B (dC, dI) [(cB, .byte), (cC, .char), (cI, .int), (cJ, .long), (cZ, .boolean), (cP, .object "StoryHouse$Play")] sz (b_m cB cC cI cJ cZ oA rA Γ ++ b_w cB cC cI cJ cZ oA rA Γ ++ b_s cB cC cI cJ cZ oA rA Γ ++ b_c cB cC cI cJ cZ oA rA Γ ++ b_t cB cC cI cJ cZ oA rA Γ ++ b_d cB cC cI cJ cZ oA rA Γ) g_0)) (va_Qv (fun (_ : Unit) => True) (g_Bo (dC, dI) (va_A (b_m cB cC cI cJ cZ oA rA Γ ++ b_w cB cC cI cJ cZ oA rA Γ ++ b_s cB cC cI cJ cZ oA rA Γ ++ b_c cB cC cI cJ cZ oA rA Γ ++ b_t cB cC cI cJ cZ oA rA Γ ++ b_d cB cC cI cJ cZ oA rA Γ) sz) (fun (_ : Unit) => (b_m cB cC cI cJ cZ oA rA res.2 ++ b_w cB cC cI cJ cZ oA rA res.2 ++ b_s cB cC cI cJ cZ oA rA res.2 ++ b_c cB cC cI cJ cZ oA rA res.2 ++ b_t cB cC cI cJ cZ oA rA res.2 ++ b_d cB cC cI cJ cZ oA rA res.2))) (va_A (b_m cB cC cI cJ cZ oA rA Γ ++ b_w cB cC cI cJ cZ oA rA Γ ++ b_s cB cC cI cJ cZ oA rA Γ ++ b_c cB cC cI cJ cZ oA rA Γ ++ b_t cB cC cI cJ cZ oA rA Γ ++ b_d cB cC cI cJ cZ oA rA Γ) sz)) 0 0 (va_A (b_m cB cC cI cJ cZ oA rA Γ ++ b_w cB cC cI cJ cZ oA rA Γ ++ b_s cB cC cI cJ cZ oA rA Γ ++ b_c cB cC cI cJ cZ oA rA Γ ++ b_t cB cC cI cJ cZ oA rA Γ ++ b_d cB cC cI cJ cZ oA rA Γ) sz) := by
  refine Met.ofW (cc := cX4_itemWord) (maxL := 4) (ret := none) (by decide) rfl ?_
  intro p e s m args below meth c s₁ B hml hv
  obtain ⟨rfl, hsz, hP, hK, hD0, hE, hX⟩ := hv
  have hx := B.exec
  have hb := B.bytes
  have hr := B.returns
  have hts0 := atoms_spec (ws := g_ws yX4_itemWord cX4_itemWord 4 none) B.pre
  have hts : ∀ w ∈ lw_good, w.before ([.ref (oA 3), .int p0] : List Value).toArray s = true := fun w z => hts0 w (List.mem_cons_of_mem _ z)
  have hown : s.vm.findClass RX4 = some m.cls := findClass_of_methodNamed B.named
  have hlocks := B.notSynchronized
  subst hsz
  have hD1 := hD0.self (sz := s.heap.size)
  generalize hAe : va_A (b_m cB cC cI cJ cZ oA rA Γ ++ b_w cB cC cI cJ cZ oA rA Γ ++ b_s cB cC cI cJ cZ oA rA Γ ++ b_c cB cC cI cJ cZ oA rA Γ ++ b_t cB cC cI cJ cZ oA rA Γ ++ b_d cB cC cI cJ cZ oA rA Γ) s.heap.size = A at hD1 hE hX ⊢
  have hA : ∀ q : Nat, s.heap.size ≤ q → A q := fun q z => by rw [← hAe]; exact Or.inr z
  have hDD : ∀ Γ : HS, va_D A (b_m cB cC cI cJ cZ oA rA Γ ++ b_w cB cC cI cJ cZ oA rA Γ ++ b_s cB cC cI cJ cZ oA rA Γ ++ b_c cB cC cI cJ cZ oA rA Γ ++ b_t cB cC cI cJ cZ oA rA Γ ++ b_d cB cC cI cJ cZ oA rA Γ) := fun Γ9 => va_D_fst (ws := (b_m cB cC cI cJ cZ oA rA Γ ++ b_w cB cC cI cJ cZ oA rA Γ ++ b_s cB cC cI cJ cZ oA rA Γ ++ b_c cB cC cI cJ cZ oA rA Γ ++ b_t cB cC cI cJ cZ oA rA Γ ++ b_d cB cC cI cJ cZ oA rA Γ)) (ws' := (b_m cB cC cI cJ cZ oA rA Γ9 ++ b_w cB cC cI cJ cZ oA rA Γ9 ++ b_s cB cC cI cJ cZ oA rA Γ9 ++ b_c cB cC cI cJ cZ oA rA Γ9 ++ b_t cB cC cI cJ cZ oA rA Γ9 ++ b_d cB cC cI cJ cZ oA rA Γ9)) rfl hD1
  have hN := hE.1
  have hS : va_S A s.heap s.heap [] := va_S.rf
  have hl := lv_entry ([.ref (oA 3), .int p0]) (n := 4) (Nat.le_of_ble_eq_true rfl)
  rw [lg_entry_eq]
  generalize (lg_sl ([.ref (oA 3), .int p0]) ++ List.replicate (4 - (lg_sl ([.ref (oA 3), .int p0])).length) Slot.unset).toArray = ls at hl ⊢
  have hl : lv_has ls 4 [(0, .ref (oA 3)), (1, .int p0)] := hl
  unfold F_X4_itemWord at hF
  refine lv_aload_n hx hb dX4_itemWord_0 rfl (lv_at hl 0 rfl) ?_
  refine va_get (D := (dC, dI)) (ci := 4) (v := .ref (oA 1)) (C := RX4) (T := TX4) (N := 18) hx hb hts ii_X4 hown hK hP 0 rfl rfl 0 (by decide) (hts (.fieldLink RX4 32 "StoryHouse$Meanings" "words" "LStoryHouse$Words;") wq_86) (fun _ h9 => h9) rfl dX4_itemWord_1 ?_
  refine lv_iload_n hx hb dX4_itemWord_4 rfl (lv_at hl 1 rfl) ?_
  obtain ⟨u_1, hu_1, hF_2⟩ := Option.bind_eq_some_iff.mp hF
  clear hF
  have hPc := bx_P (bs := [b_m cB cC cI cJ cZ oA rA Γ, b_w cB cC cI cJ cZ oA rA Γ, b_s cB cC cI cJ cZ oA rA Γ, b_c cB cC cI cJ cZ oA rA Γ, b_t cB cC cI cJ cZ oA rA Γ, b_d cB cC cI cJ cZ oA rA Γ]) (bs' := [b_w cB cC cI cJ cZ oA rA Γ]) (ws' := (b_w cB cC cI cJ cZ oA rA Γ)) hP fl_6 fl_1 [1] rfl
  have hDc := bx_D (bs := [b_m cB cC cI cJ cZ oA rA Γ, b_w cB cC cI cJ cZ oA rA Γ, b_s cB cC cI cJ cZ oA rA Γ, b_c cB cC cI cJ cZ oA rA Γ, b_t cB cC cI cJ cZ oA rA Γ, b_d cB cC cI cJ cZ oA rA Γ]) (bs' := [b_w cB cC cI cJ cZ oA rA Γ]) (ws' := (b_w cB cC cI cJ cZ oA rA Γ)) (hDD Γ) fl_6 fl_1 [1] (by decide +kernel) rfl
  have hFc := bx_F (bs := [b_m cB cC cI cJ cZ oA rA Γ, b_w cB cC cI cJ cZ oA rA Γ, b_s cB cC cI cJ cZ oA rA Γ, b_c cB cC cI cJ cZ oA rA Γ, b_t cB cC cI cJ cZ oA rA Γ, b_d cB cC cI cJ cZ oA rA Γ]) (bs' := [b_w cB cC cI cJ cZ oA rA Γ]) (wc := (b_w cB cC cI cJ cZ oA rA Γ)) (hDD Γ) hS hA fl_6 fl_1 [1] rfl
  refine g_ofi (wc := (b_w cB cC cI cJ cZ oA rA Γ)) (wr := (b_m cB cC cI cJ cZ oA rA Γ ++ b_s cB cC cI cJ cZ oA rA Γ ++ b_c cB cC cI cJ cZ oA rA Γ ++ b_t cB cC cI cJ cZ oA rA Γ ++ b_d cB cC cI cJ cZ oA rA Γ)) hP (hDD Γ) hS hFc (bx_ix [b_m cB cC cI cJ cZ oA rA Γ, b_w cB cC cI cJ cZ oA rA Γ, b_s cB cC cI cJ cZ oA rA Γ, b_c cB cC cI cJ cZ oA rA Γ, b_t cB cC cI cJ cZ oA rA Γ, b_d cB cC cI cJ cZ oA rA Γ] [1]) (bx_ix [b_m cB cC cI cJ cZ oA rA Γ, b_w cB cC cI cJ cZ oA rA Γ, b_s cB cC cI cJ cZ oA rA Γ, b_c cB cC cI cJ cZ oA rA Γ, b_t cB cC cI cJ cZ oA rA Γ, b_d cB cC cI cJ cZ oA rA Γ] [0, 2, 3, 4, 5]) (bx_C (bs := [b_m cB cC cI cJ cZ oA rA Γ, b_w cB cC cI cJ cZ oA rA Γ, b_s cB cC cI cJ cZ oA rA Γ, b_c cB cC cI cJ cZ oA rA Γ, b_t cB cC cI cJ cZ oA rA Γ, b_d cB cC cI cJ cZ oA rA Γ]) (bs' := [b_w cB cC cI cJ cZ oA rA Γ]) (is := [1]) fl_6 fl_1 rfl) (bx_C (bs := [b_m cB cC cI cJ cZ oA rA Γ, b_w cB cC cI cJ cZ oA rA Γ, b_s cB cC cI cJ cZ oA rA Γ, b_c cB cC cI cJ cZ oA rA Γ, b_t cB cC cI cJ cZ oA rA Γ, b_d cB cC cI cJ cZ oA rA Γ]) (bs' := [b_m cB cC cI cJ cZ oA rA Γ, b_s cB cC cI cJ cZ oA rA Γ, b_c cB cC cI cJ cZ oA rA Γ, b_t cB cC cI cJ cZ oA rA Γ, b_d cB cC cI cJ cZ oA rA Γ]) (is := [0, 2, 3, 4, 5]) fl_6 fl_5 rfl) (bx_n (by decide +kernel)) (bx_d (by decide +kernel)) (va_runV (As := [.int p0]) (rest := []) ⟨hx, hb, hml, hown, hts⟩ (k_X10_kindOf l dC dI cB cC cI cJ cZ cP oA rA s.heap.size  p0 Γ _ hu_1) (cwV 1 hts (g_gV wq_714 wq_543 wq_544 wq_2 wq_545) rfl rfl rfl (by decide +kernel) ⟨Nat.le_of_ble_eq_true rfl, Nat.le_of_ble_eq_true rfl⟩) (g_preV g_bl0 hK hPc hDc hS hE hFc g_to0 (q0 := 0) (ci := 10) rfl rfl) rfl rfl hl.1 rfl (lv_room (Nat.le_of_ble_eq_true rfl)) dX4_itemWord_5 ⟨Nat.le_of_ble_eq_true rfl, Nat.le_of_ble_eq_true rfl⟩) (fun r9 u9 H locs hw9 hP' hD' hS => ?_)
  clear hPc hDc hFc
  subst hw9
  obtain ⟨σ_3, eσ_3, hF_4⟩ := bnd_e hF_2
  clear hF_2
  have hP : va_P (dC, dI) vwCl (b_m cB cC cI cJ cZ oA rA σ_3 ++ b_w cB cC cI cJ cZ oA rA σ_3 ++ b_s cB cC cI cJ cZ oA rA σ_3 ++ b_c cB cC cI cJ cZ oA rA σ_3 ++ b_t cB cC cI cJ cZ oA rA σ_3 ++ b_d cB cC cI cJ cZ oA rA σ_3) H := by rw [eσ_3]; exact bx_P (bs := [b_m cB cC cI cJ cZ oA rA Γ, b_s cB cC cI cJ cZ oA rA Γ, b_c cB cC cI cJ cZ oA rA Γ, b_t cB cC cI cJ cZ oA rA Γ, b_d cB cC cI cJ cZ oA rA Γ] ++ [b_w cB cC cI cJ cZ oA rA u_1.2]) (bs' := [b_m cB cC cI cJ cZ oA rA (mrg (fun j => j == 1) Γ u_1.2), b_w cB cC cI cJ cZ oA rA (mrg (fun j => j == 1) Γ u_1.2), b_s cB cC cI cJ cZ oA rA (mrg (fun j => j == 1) Γ u_1.2), b_c cB cC cI cJ cZ oA rA (mrg (fun j => j == 1) Γ u_1.2), b_t cB cC cI cJ cZ oA rA (mrg (fun j => j == 1) Γ u_1.2), b_d cB cC cI cJ cZ oA rA (mrg (fun j => j == 1) Γ u_1.2)]) hP' (fl_a fl_5 fl_1) fl_6 [0, 5, 1, 2, 3, 4] rfl
  clear hP' hD'
  refine lv_istore_n (lv' := [(2, .int u_1.1), (0, .ref (oA 3)), (1, .int p0)]) hx hb dX4_itemWord_8 rfl hl (by decide) rfl (fun ls hl => ?_)
  refine lv_iload_n hx hb dX4_itemWord_9 rfl (lv_at hl 0 rfl) ?_
  refine lv_sipush (v := 206) hx hb dX4_itemWord_10 (by decide +kernel) ?_
  obtain ⟨j_6, ej_6, hF_7⟩ := bnd_e hF_4
  clear hF_4
  have Jj_6 : ∀  (σ_5 : HS), j_6  σ_5 = some res → ∀ (H : Heap) (locs : List Loc), va_P (dC, dI) vwCl (b_m cB cC cI cJ cZ oA rA σ_5 ++ b_w cB cC cI cJ cZ oA rA σ_5 ++ b_s cB cC cI cJ cZ oA rA σ_5 ++ b_c cB cC cI cJ cZ oA rA σ_5 ++ b_t cB cC cI cJ cZ oA rA σ_5 ++ b_d cB cC cI cJ cZ oA rA σ_5) H → va_S A s.heap H locs → ∀ ls : Array Slot, lv_has ls 4 [(0, .ref (oA 3)), (1, .int p0), (2, .int u_1.1)] → W p l e (headSpec (g_ws yX4_itemWord cX4_itemWord 4 none) { frames := 7, cells := 0, slots := 0, locals := 175 }).room s m ([.ref (oA 3), .int p0] : List Value).toArray below meth c H locs 0 0 (MQ below (va_Qv (fun (_ : Unit) => True) (g_Bo (dC, dI) A (fun (_ : Unit) => (b_m cB cC cI cJ cZ oA rA res.2 ++ b_w cB cC cI cJ cZ oA rA res.2 ++ b_s cB cC cI cJ cZ oA rA res.2 ++ b_c cB cC cI cJ cZ oA rA res.2 ++ b_t cB cC cI cJ cZ oA rA res.2 ++ b_d cB cC cI cJ cZ oA rA res.2))) A) ([.ref (oA 3), .int p0] : List Value).toArray s 0 0 A) (F0 m 60 ls []) := by
    intro  σ_5 hF0 H locs hP hS ls hl
    subst ej_6
    have hF_8 := hF0
    clear hF0
    refine lv_iload_n hx hb dX4_itemWord_60 rfl (lv_at hl 2 rfl) ?_
    by_cases c_9 : u_1.1 = 219
    · have hF_10 := ipos c_9 hF_8
      clear hF_8
      refine lv_tableIn (off := 185) (tgt := 246) hx hb dX4_itemWord_61 (by rw [c_9]; decide +kernel) (by rw [c_9]; decide +kernel) (by rw [c_9]; decide +kernel) (by decide) ?_
      refine lv_aload_n hx hb dX4_itemWord_246 rfl (lv_at hl 0 rfl) ?_
      refine lv_iload_n hx hb dX4_itemWord_247 rfl (lv_at hl 1 rfl) ?_
      refine lv_iconst (v := 1) hx hb dX4_itemWord_248 (by decide +kernel) ?_
      refine lv_iadd hx hb dX4_itemWord_249 ?_
      obtain ⟨u_11, hu_11, hF_12⟩ := Option.bind_eq_some_iff.mp hF_10
      clear hF_10
      have hPc := bx_P (bs := [b_m cB cC cI cJ cZ oA rA σ_5, b_w cB cC cI cJ cZ oA rA σ_5, b_s cB cC cI cJ cZ oA rA σ_5, b_c cB cC cI cJ cZ oA rA σ_5, b_t cB cC cI cJ cZ oA rA σ_5, b_d cB cC cI cJ cZ oA rA σ_5]) (bs' := [b_m cB cC cI cJ cZ oA rA σ_5, b_w cB cC cI cJ cZ oA rA σ_5, b_s cB cC cI cJ cZ oA rA σ_5, b_c cB cC cI cJ cZ oA rA σ_5, b_t cB cC cI cJ cZ oA rA σ_5, b_d cB cC cI cJ cZ oA rA σ_5]) (ws' := (b_m cB cC cI cJ cZ oA rA σ_5 ++ b_w cB cC cI cJ cZ oA rA σ_5 ++ b_s cB cC cI cJ cZ oA rA σ_5 ++ b_c cB cC cI cJ cZ oA rA σ_5 ++ b_t cB cC cI cJ cZ oA rA σ_5 ++ b_d cB cC cI cJ cZ oA rA σ_5)) hP fl_6 fl_6 [0, 1, 2, 3, 4, 5] rfl
      have hDc := bx_D (bs := [b_m cB cC cI cJ cZ oA rA σ_5, b_w cB cC cI cJ cZ oA rA σ_5, b_s cB cC cI cJ cZ oA rA σ_5, b_c cB cC cI cJ cZ oA rA σ_5, b_t cB cC cI cJ cZ oA rA σ_5, b_d cB cC cI cJ cZ oA rA σ_5]) (bs' := [b_m cB cC cI cJ cZ oA rA σ_5, b_w cB cC cI cJ cZ oA rA σ_5, b_s cB cC cI cJ cZ oA rA σ_5, b_c cB cC cI cJ cZ oA rA σ_5, b_t cB cC cI cJ cZ oA rA σ_5, b_d cB cC cI cJ cZ oA rA σ_5]) (ws' := (b_m cB cC cI cJ cZ oA rA σ_5 ++ b_w cB cC cI cJ cZ oA rA σ_5 ++ b_s cB cC cI cJ cZ oA rA σ_5 ++ b_c cB cC cI cJ cZ oA rA σ_5 ++ b_t cB cC cI cJ cZ oA rA σ_5 ++ b_d cB cC cI cJ cZ oA rA σ_5)) (hDD σ_5) fl_6 fl_6 [0, 1, 2, 3, 4, 5] (by decide +kernel) rfl
      have hFc := bx_F (bs := [b_m cB cC cI cJ cZ oA rA σ_5, b_w cB cC cI cJ cZ oA rA σ_5, b_s cB cC cI cJ cZ oA rA σ_5, b_c cB cC cI cJ cZ oA rA σ_5, b_t cB cC cI cJ cZ oA rA σ_5, b_d cB cC cI cJ cZ oA rA σ_5]) (bs' := [b_m cB cC cI cJ cZ oA rA σ_5, b_w cB cC cI cJ cZ oA rA σ_5, b_s cB cC cI cJ cZ oA rA σ_5, b_c cB cC cI cJ cZ oA rA σ_5, b_t cB cC cI cJ cZ oA rA σ_5, b_d cB cC cI cJ cZ oA rA σ_5]) (wc := (b_m cB cC cI cJ cZ oA rA σ_5 ++ b_w cB cC cI cJ cZ oA rA σ_5 ++ b_s cB cC cI cJ cZ oA rA σ_5 ++ b_c cB cC cI cJ cZ oA rA σ_5 ++ b_t cB cC cI cJ cZ oA rA σ_5 ++ b_d cB cC cI cJ cZ oA rA σ_5)) (hDD σ_5) hS hA fl_6 fl_6 [0, 1, 2, 3, 4, 5] rfl
      refine g_ofv (wc := (b_m cB cC cI cJ cZ oA rA σ_5 ++ b_w cB cC cI cJ cZ oA rA σ_5 ++ b_s cB cC cI cJ cZ oA rA σ_5 ++ b_c cB cC cI cJ cZ oA rA σ_5 ++ b_t cB cC cI cJ cZ oA rA σ_5 ++ b_d cB cC cI cJ cZ oA rA σ_5)) (wr := ([] : va_W)) hP (hDD σ_5) hS hFc (bx_ix [b_m cB cC cI cJ cZ oA rA σ_5, b_w cB cC cI cJ cZ oA rA σ_5, b_s cB cC cI cJ cZ oA rA σ_5, b_c cB cC cI cJ cZ oA rA σ_5, b_t cB cC cI cJ cZ oA rA σ_5, b_d cB cC cI cJ cZ oA rA σ_5] [0, 1, 2, 3, 4, 5]) (bx_ix [b_m cB cC cI cJ cZ oA rA σ_5, b_w cB cC cI cJ cZ oA rA σ_5, b_s cB cC cI cJ cZ oA rA σ_5, b_c cB cC cI cJ cZ oA rA σ_5, b_t cB cC cI cJ cZ oA rA σ_5, b_d cB cC cI cJ cZ oA rA σ_5] []) (bx_C (bs := [b_m cB cC cI cJ cZ oA rA σ_5, b_w cB cC cI cJ cZ oA rA σ_5, b_s cB cC cI cJ cZ oA rA σ_5, b_c cB cC cI cJ cZ oA rA σ_5, b_t cB cC cI cJ cZ oA rA σ_5, b_d cB cC cI cJ cZ oA rA σ_5]) (bs' := [b_m cB cC cI cJ cZ oA rA σ_5, b_w cB cC cI cJ cZ oA rA σ_5, b_s cB cC cI cJ cZ oA rA σ_5, b_c cB cC cI cJ cZ oA rA σ_5, b_t cB cC cI cJ cZ oA rA σ_5, b_d cB cC cI cJ cZ oA rA σ_5]) (is := [0, 1, 2, 3, 4, 5]) fl_6 fl_6 rfl) (bx_C (bs := [b_m cB cC cI cJ cZ oA rA σ_5, b_w cB cC cI cJ cZ oA rA σ_5, b_s cB cC cI cJ cZ oA rA σ_5, b_c cB cC cI cJ cZ oA rA σ_5, b_t cB cC cI cJ cZ oA rA σ_5, b_d cB cC cI cJ cZ oA rA σ_5]) (bs' := []) (is := []) fl_6 fl_0 rfl) (bx_n (by decide +kernel)) (bx_d (by decide +kernel)) (va_runV (As := [.int (p0 + 1)]) (rest := []) ⟨hx, hb, hml, hown, hts⟩ (k_X4_inPart l dC dI cB cC cI cJ cZ cP oA rA H.size  (p0 + 1) σ_5 _ hu_11) (cwV 1 hts (g_gV wq_782 wq_783 wq_2054 wq_4 wq_784) rfl rfl rfl (by decide +kernel) ⟨Nat.le_of_ble_eq_true rfl, Nat.le_of_ble_eq_true rfl⟩) (g_preV g_bl0 hK hPc hDc hS hE hFc g_to0 (q0 := 0) (ci := 4) rfl rfl) rfl rfl hl.1 rfl (lv_room (Nat.le_of_ble_eq_true rfl)) dX4_itemWord_250 ⟨Nat.le_of_ble_eq_true rfl, Nat.le_of_ble_eq_true rfl⟩) (fun u9 H locs hw9 hP' hD' hS => ?_)
      clear hPc hDc hFc
      have hP : va_P (dC, dI) vwCl (b_m cB cC cI cJ cZ oA rA u_11.2 ++ b_w cB cC cI cJ cZ oA rA u_11.2 ++ b_s cB cC cI cJ cZ oA rA u_11.2 ++ b_c cB cC cI cJ cZ oA rA u_11.2 ++ b_t cB cC cI cJ cZ oA rA u_11.2 ++ b_d cB cC cI cJ cZ oA rA u_11.2) H := hP'
      clear hP' hD'
      refine lv_goto (tgt := 343) hx hb dX4_itemWord_253 (by decide) ?_
      have h9 := Option.some.inj hF_12
      subst h9
      exact W.vret hx hb hr (fun t ht hW => ⟨⟨(), rfl, trivial, m_end ht hP, hDD _⟩, hS.F ht⟩) hS.2.2 dX4_itemWord_343
    have hF_13 := ineg c_9 hF_8
    clear hF_8
    by_cases c_14 : u_1.1 = 230 ∨ u_1.1 = 231
    · have hF_15 := ipos c_14 hF_13
      clear hF_13
      refine lv_tableIn (off := 103) (tgt := 164) hx hb dX4_itemWord_61 (by rcases c_14 with q9 | q9 <;> (rw [q9]; decide +kernel)) (by rcases c_14 with q9 | q9 <;> (rw [q9]; decide +kernel)) (by rcases c_14 with q9 | q9 <;> (rw [q9]; decide +kernel)) (by decide) ?_
      refine lv_aload_n hx hb dX4_itemWord_164 rfl (lv_at hl 0 rfl) ?_
      refine lv_aload_n hx hb dX4_itemWord_165 rfl (lv_at hl 0 rfl) ?_
      refine lv_iload_n hx hb dX4_itemWord_166 rfl (lv_at hl 1 rfl) ?_
      refine lv_iconst (v := 1) hx hb dX4_itemWord_167 (by decide +kernel) ?_
      refine lv_iadd hx hb dX4_itemWord_168 ?_
      obtain ⟨u_16, hu_16, hF_17⟩ := Option.bind_eq_some_iff.mp hF_15
      clear hF_15
      have hPc := bx_P (bs := [b_m cB cC cI cJ cZ oA rA σ_5, b_w cB cC cI cJ cZ oA rA σ_5, b_s cB cC cI cJ cZ oA rA σ_5, b_c cB cC cI cJ cZ oA rA σ_5, b_t cB cC cI cJ cZ oA rA σ_5, b_d cB cC cI cJ cZ oA rA σ_5]) (bs' := [b_m cB cC cI cJ cZ oA rA σ_5, b_w cB cC cI cJ cZ oA rA σ_5, b_s cB cC cI cJ cZ oA rA σ_5, b_c cB cC cI cJ cZ oA rA σ_5, b_t cB cC cI cJ cZ oA rA σ_5, b_d cB cC cI cJ cZ oA rA σ_5]) (ws' := (b_m cB cC cI cJ cZ oA rA σ_5 ++ b_w cB cC cI cJ cZ oA rA σ_5 ++ b_s cB cC cI cJ cZ oA rA σ_5 ++ b_c cB cC cI cJ cZ oA rA σ_5 ++ b_t cB cC cI cJ cZ oA rA σ_5 ++ b_d cB cC cI cJ cZ oA rA σ_5)) hP fl_6 fl_6 [0, 1, 2, 3, 4, 5] rfl
      have hDc := bx_D (bs := [b_m cB cC cI cJ cZ oA rA σ_5, b_w cB cC cI cJ cZ oA rA σ_5, b_s cB cC cI cJ cZ oA rA σ_5, b_c cB cC cI cJ cZ oA rA σ_5, b_t cB cC cI cJ cZ oA rA σ_5, b_d cB cC cI cJ cZ oA rA σ_5]) (bs' := [b_m cB cC cI cJ cZ oA rA σ_5, b_w cB cC cI cJ cZ oA rA σ_5, b_s cB cC cI cJ cZ oA rA σ_5, b_c cB cC cI cJ cZ oA rA σ_5, b_t cB cC cI cJ cZ oA rA σ_5, b_d cB cC cI cJ cZ oA rA σ_5]) (ws' := (b_m cB cC cI cJ cZ oA rA σ_5 ++ b_w cB cC cI cJ cZ oA rA σ_5 ++ b_s cB cC cI cJ cZ oA rA σ_5 ++ b_c cB cC cI cJ cZ oA rA σ_5 ++ b_t cB cC cI cJ cZ oA rA σ_5 ++ b_d cB cC cI cJ cZ oA rA σ_5)) (hDD σ_5) fl_6 fl_6 [0, 1, 2, 3, 4, 5] (by decide +kernel) rfl
      have hFc := bx_F (bs := [b_m cB cC cI cJ cZ oA rA σ_5, b_w cB cC cI cJ cZ oA rA σ_5, b_s cB cC cI cJ cZ oA rA σ_5, b_c cB cC cI cJ cZ oA rA σ_5, b_t cB cC cI cJ cZ oA rA σ_5, b_d cB cC cI cJ cZ oA rA σ_5]) (bs' := [b_m cB cC cI cJ cZ oA rA σ_5, b_w cB cC cI cJ cZ oA rA σ_5, b_s cB cC cI cJ cZ oA rA σ_5, b_c cB cC cI cJ cZ oA rA σ_5, b_t cB cC cI cJ cZ oA rA σ_5, b_d cB cC cI cJ cZ oA rA σ_5]) (wc := (b_m cB cC cI cJ cZ oA rA σ_5 ++ b_w cB cC cI cJ cZ oA rA σ_5 ++ b_s cB cC cI cJ cZ oA rA σ_5 ++ b_c cB cC cI cJ cZ oA rA σ_5 ++ b_t cB cC cI cJ cZ oA rA σ_5 ++ b_d cB cC cI cJ cZ oA rA σ_5)) (hDD σ_5) hS hA fl_6 fl_6 [0, 1, 2, 3, 4, 5] rfl
      refine g_ofi (wc := (b_m cB cC cI cJ cZ oA rA σ_5 ++ b_w cB cC cI cJ cZ oA rA σ_5 ++ b_s cB cC cI cJ cZ oA rA σ_5 ++ b_c cB cC cI cJ cZ oA rA σ_5 ++ b_t cB cC cI cJ cZ oA rA σ_5 ++ b_d cB cC cI cJ cZ oA rA σ_5)) (wr := ([] : va_W)) hP (hDD σ_5) hS hFc (bx_ix [b_m cB cC cI cJ cZ oA rA σ_5, b_w cB cC cI cJ cZ oA rA σ_5, b_s cB cC cI cJ cZ oA rA σ_5, b_c cB cC cI cJ cZ oA rA σ_5, b_t cB cC cI cJ cZ oA rA σ_5, b_d cB cC cI cJ cZ oA rA σ_5] [0, 1, 2, 3, 4, 5]) (bx_ix [b_m cB cC cI cJ cZ oA rA σ_5, b_w cB cC cI cJ cZ oA rA σ_5, b_s cB cC cI cJ cZ oA rA σ_5, b_c cB cC cI cJ cZ oA rA σ_5, b_t cB cC cI cJ cZ oA rA σ_5, b_d cB cC cI cJ cZ oA rA σ_5] []) (bx_C (bs := [b_m cB cC cI cJ cZ oA rA σ_5, b_w cB cC cI cJ cZ oA rA σ_5, b_s cB cC cI cJ cZ oA rA σ_5, b_c cB cC cI cJ cZ oA rA σ_5, b_t cB cC cI cJ cZ oA rA σ_5, b_d cB cC cI cJ cZ oA rA σ_5]) (bs' := [b_m cB cC cI cJ cZ oA rA σ_5, b_w cB cC cI cJ cZ oA rA σ_5, b_s cB cC cI cJ cZ oA rA σ_5, b_c cB cC cI cJ cZ oA rA σ_5, b_t cB cC cI cJ cZ oA rA σ_5, b_d cB cC cI cJ cZ oA rA σ_5]) (is := [0, 1, 2, 3, 4, 5]) fl_6 fl_6 rfl) (bx_C (bs := [b_m cB cC cI cJ cZ oA rA σ_5, b_w cB cC cI cJ cZ oA rA σ_5, b_s cB cC cI cJ cZ oA rA σ_5, b_c cB cC cI cJ cZ oA rA σ_5, b_t cB cC cI cJ cZ oA rA σ_5, b_d cB cC cI cJ cZ oA rA σ_5]) (bs' := []) (is := []) fl_6 fl_0 rfl) (bx_n (by decide +kernel)) (bx_d (by decide +kernel)) (va_runV (As := [.int (p0 + 1)]) (rest := [.ref (oA 3)]) ⟨hx, hb, hml, hown, hts⟩ (k_X4_numberOf l dC dI cB cC cI cJ cZ cP oA rA H.size  (p0 + 1) σ_5 _ hu_16) (cwV 1 hts (g_gV wq_769 wq_770 wq_2051 wq_4 wq_771) rfl rfl rfl (by decide +kernel) ⟨Nat.le_of_ble_eq_true rfl, Nat.le_of_ble_eq_true rfl⟩) (g_preV g_bl0 hK hPc hDc hS hE hFc g_to0 (q0 := 0) (ci := 4) rfl rfl) rfl rfl hl.1 rfl (lv_room (Nat.le_of_ble_eq_true rfl)) dX4_itemWord_169 ⟨Nat.le_of_ble_eq_true rfl, Nat.le_of_ble_eq_true rfl⟩) (fun r9 u9 H locs hw9 hP' hD' hS => ?_)
      clear hPc hDc hFc
      subst hw9
      have hP : va_P (dC, dI) vwCl (b_m cB cC cI cJ cZ oA rA u_16.2 ++ b_w cB cC cI cJ cZ oA rA u_16.2 ++ b_s cB cC cI cJ cZ oA rA u_16.2 ++ b_c cB cC cI cJ cZ oA rA u_16.2 ++ b_t cB cC cI cJ cZ oA rA u_16.2 ++ b_d cB cC cI cJ cZ oA rA u_16.2) H := hP'
      clear hP' hD'
      obtain ⟨σ_18, eσ_18, hF_19⟩ := bnd_e hF_17
      clear hF_17
      refine va_put (D := (dC, dI)) (ci := 4) (v := .int u_16.1) (ty := .int) (C := RX4) (T := TX4) (N := 18) hx hb hts ii_X4 tyX4 tyX4_ok nmX4 hown hK hP (hDD _) hS 0 rfl rfl 13 (by decide) (hts (.fieldLink RX4 190 "StoryHouse$Meanings" "object" "I") wq_99) (fun _ h9 => h9) rfl (by decide +kernel) rfl rfl (Nat.le_of_ble_eq_true rfl) dX4_itemWord_172 (fun H locs hP' _ hS => ?_)
      have hP : va_P (dC, dI) vwCl (b_m cB cC cI cJ cZ oA rA σ_18 ++ b_w cB cC cI cJ cZ oA rA σ_18 ++ b_s cB cC cI cJ cZ oA rA σ_18 ++ b_c cB cC cI cJ cZ oA rA σ_18 ++ b_t cB cC cI cJ cZ oA rA σ_18 ++ b_d cB cC cI cJ cZ oA rA σ_18) H := by rw [eσ_18]; exact cs_mwsctd_m_13 ▸ hP'
      clear hP'
      refine lv_aload_n hx hb dX4_itemWord_175 rfl (lv_at hl 0 rfl) ?_
      refine va_get (D := (dC, dI)) (ci := 4) (v := .ref (oA 4)) (C := RX4) (T := TX4) (N := 18) hx hb hts ii_X4 hown hK hP 0 rfl rfl 1 (by decide) (hts (.fieldLink RX4 36 "StoryHouse$Meanings" "story" "LStoryHouse$Story;") wq_87) (fun _ h9 => h9) rfl dX4_itemWord_176 ?_
      refine lv_aload_n hx hb dX4_itemWord_179 rfl (lv_at hl 0 rfl) ?_
      refine va_get (D := (dC, dI)) (ci := 4) (v := .int ((σ_18 3).1 13)) (C := RX4) (T := TX4) (N := 18) hx hb hts ii_X4 hown hK hP 0 rfl rfl 13 (by decide) (hts (.fieldLink RX4 190 "StoryHouse$Meanings" "object" "I") wq_99) (fun _ h9 => h9) rfl dX4_itemWord_180 ?_
      refine lv_iload_n hx hb dX4_itemWord_183 rfl (lv_at hl 2 rfl) ?_
      refine lv_sipush (v := 230) hx hb dX4_itemWord_184 (by decide +kernel) ?_
      obtain ⟨j_22, ej_22, hF_23⟩ := bnd_e hF_19
      clear hF_19
      have Jj_22 : ∀ (t_20 : Int32) (σ_21 : HS), j_22 t_20 σ_21 = some res → ∀ (H : Heap) (locs : List Loc), va_P (dC, dI) vwCl (b_m cB cC cI cJ cZ oA rA σ_21 ++ b_w cB cC cI cJ cZ oA rA σ_21 ++ b_s cB cC cI cJ cZ oA rA σ_21 ++ b_c cB cC cI cJ cZ oA rA σ_21 ++ b_t cB cC cI cJ cZ oA rA σ_21 ++ b_d cB cC cI cJ cZ oA rA σ_21) H → va_S A s.heap H locs → ∀ ls : Array Slot, lv_has ls 4 [(0, .ref (oA 3)), (1, .int p0)] → W p l e (headSpec (g_ws yX4_itemWord cX4_itemWord 4 none) { frames := 7, cells := 0, slots := 0, locals := 175 }).room s m ([.ref (oA 3), .int p0] : List Value).toArray below meth c H locs 0 0 (MQ below (va_Qv (fun (_ : Unit) => True) (g_Bo (dC, dI) A (fun (_ : Unit) => (b_m cB cC cI cJ cZ oA rA res.2 ++ b_w cB cC cI cJ cZ oA rA res.2 ++ b_s cB cC cI cJ cZ oA rA res.2 ++ b_c cB cC cI cJ cZ oA rA res.2 ++ b_t cB cC cI cJ cZ oA rA res.2 ++ b_d cB cC cI cJ cZ oA rA res.2))) A) ([.ref (oA 3), .int p0] : List Value).toArray s 0 0 A) (F0 m 195 ls [.int t_20, .int ((σ_18 3).1 13), .ref (oA 4)]) := by
        intro t_20 σ_21 hF0 H locs hP hS ls hl
        subst ej_22
        have hF_24 := hF0
        clear hF0
        refine lv_aload_n hx hb dX4_itemWord_195 rfl (lv_at hl 0 rfl) ?_
        refine va_get (D := (dC, dI)) (ci := 4) (v := .ref (oA 1)) (C := RX4) (T := TX4) (N := 18) hx hb hts ii_X4 hown hK hP 0 rfl rfl 0 (by decide) (hts (.fieldLink RX4 32 "StoryHouse$Meanings" "words" "LStoryHouse$Words;") wq_86) (fun _ h9 => h9) rfl dX4_itemWord_196 ?_
        refine lv_iload_n hx hb dX4_itemWord_199 rfl (lv_at hl 1 rfl) ?_
        refine lv_iconst (v := 2) hx hb dX4_itemWord_200 (by decide +kernel) ?_
        refine lv_iadd hx hb dX4_itemWord_201 ?_
        obtain ⟨u_25, hu_25, hF_26⟩ := Option.bind_eq_some_iff.mp hF_24
        clear hF_24
        have hPc := bx_P (bs := [b_m cB cC cI cJ cZ oA rA σ_21, b_w cB cC cI cJ cZ oA rA σ_21, b_s cB cC cI cJ cZ oA rA σ_21, b_c cB cC cI cJ cZ oA rA σ_21, b_t cB cC cI cJ cZ oA rA σ_21, b_d cB cC cI cJ cZ oA rA σ_21]) (bs' := [b_w cB cC cI cJ cZ oA rA σ_21]) (ws' := (b_w cB cC cI cJ cZ oA rA σ_21)) hP fl_6 fl_1 [1] rfl
        have hDc := bx_D (bs := [b_m cB cC cI cJ cZ oA rA σ_21, b_w cB cC cI cJ cZ oA rA σ_21, b_s cB cC cI cJ cZ oA rA σ_21, b_c cB cC cI cJ cZ oA rA σ_21, b_t cB cC cI cJ cZ oA rA σ_21, b_d cB cC cI cJ cZ oA rA σ_21]) (bs' := [b_w cB cC cI cJ cZ oA rA σ_21]) (ws' := (b_w cB cC cI cJ cZ oA rA σ_21)) (hDD σ_21) fl_6 fl_1 [1] (by decide +kernel) rfl
        have hFc := bx_F (bs := [b_m cB cC cI cJ cZ oA rA σ_21, b_w cB cC cI cJ cZ oA rA σ_21, b_s cB cC cI cJ cZ oA rA σ_21, b_c cB cC cI cJ cZ oA rA σ_21, b_t cB cC cI cJ cZ oA rA σ_21, b_d cB cC cI cJ cZ oA rA σ_21]) (bs' := [b_w cB cC cI cJ cZ oA rA σ_21]) (wc := (b_w cB cC cI cJ cZ oA rA σ_21)) (hDD σ_21) hS hA fl_6 fl_1 [1] rfl
        refine g_ofi (wc := (b_w cB cC cI cJ cZ oA rA σ_21)) (wr := (b_m cB cC cI cJ cZ oA rA σ_21 ++ b_s cB cC cI cJ cZ oA rA σ_21 ++ b_c cB cC cI cJ cZ oA rA σ_21 ++ b_t cB cC cI cJ cZ oA rA σ_21 ++ b_d cB cC cI cJ cZ oA rA σ_21)) hP (hDD σ_21) hS hFc (bx_ix [b_m cB cC cI cJ cZ oA rA σ_21, b_w cB cC cI cJ cZ oA rA σ_21, b_s cB cC cI cJ cZ oA rA σ_21, b_c cB cC cI cJ cZ oA rA σ_21, b_t cB cC cI cJ cZ oA rA σ_21, b_d cB cC cI cJ cZ oA rA σ_21] [1]) (bx_ix [b_m cB cC cI cJ cZ oA rA σ_21, b_w cB cC cI cJ cZ oA rA σ_21, b_s cB cC cI cJ cZ oA rA σ_21, b_c cB cC cI cJ cZ oA rA σ_21, b_t cB cC cI cJ cZ oA rA σ_21, b_d cB cC cI cJ cZ oA rA σ_21] [0, 2, 3, 4, 5]) (bx_C (bs := [b_m cB cC cI cJ cZ oA rA σ_21, b_w cB cC cI cJ cZ oA rA σ_21, b_s cB cC cI cJ cZ oA rA σ_21, b_c cB cC cI cJ cZ oA rA σ_21, b_t cB cC cI cJ cZ oA rA σ_21, b_d cB cC cI cJ cZ oA rA σ_21]) (bs' := [b_w cB cC cI cJ cZ oA rA σ_21]) (is := [1]) fl_6 fl_1 rfl) (bx_C (bs := [b_m cB cC cI cJ cZ oA rA σ_21, b_w cB cC cI cJ cZ oA rA σ_21, b_s cB cC cI cJ cZ oA rA σ_21, b_c cB cC cI cJ cZ oA rA σ_21, b_t cB cC cI cJ cZ oA rA σ_21, b_d cB cC cI cJ cZ oA rA σ_21]) (bs' := [b_m cB cC cI cJ cZ oA rA σ_21, b_s cB cC cI cJ cZ oA rA σ_21, b_c cB cC cI cJ cZ oA rA σ_21, b_t cB cC cI cJ cZ oA rA σ_21, b_d cB cC cI cJ cZ oA rA σ_21]) (is := [0, 2, 3, 4, 5]) fl_6 fl_5 rfl) (bx_n (by decide +kernel)) (bx_d (by decide +kernel)) (va_runV (As := [.int (p0 + 2)]) (rest := [.int t_20, .int ((σ_18 3).1 13), .ref (oA 4)]) ⟨hx, hb, hml, hown, hts⟩ (k_X10_worthOf l dC dI cB cC cI cJ cZ cP oA rA H.size  (p0 + 2) σ_21 _ hu_25) (cwV 1 hts (g_gV wq_715 wq_653 wq_654 wq_2 wq_655) rfl rfl rfl (by decide +kernel) ⟨Nat.le_of_ble_eq_true rfl, Nat.le_of_ble_eq_true rfl⟩) (g_preV g_bl0 hK hPc hDc hS hE hFc g_to0 (q0 := 0) (ci := 10) rfl rfl) rfl rfl hl.1 rfl (lv_room (Nat.le_of_ble_eq_true rfl)) dX4_itemWord_202 ⟨Nat.le_of_ble_eq_true rfl, Nat.le_of_ble_eq_true rfl⟩) (fun r9 u9 H locs hw9 hP' hD' hS => ?_)
        clear hPc hDc hFc
        subst hw9
        obtain ⟨σ_27, eσ_27, hF_28⟩ := bnd_e hF_26
        clear hF_26
        have hP : va_P (dC, dI) vwCl (b_m cB cC cI cJ cZ oA rA σ_27 ++ b_w cB cC cI cJ cZ oA rA σ_27 ++ b_s cB cC cI cJ cZ oA rA σ_27 ++ b_c cB cC cI cJ cZ oA rA σ_27 ++ b_t cB cC cI cJ cZ oA rA σ_27 ++ b_d cB cC cI cJ cZ oA rA σ_27) H := by rw [eσ_27]; exact bx_P (bs := [b_m cB cC cI cJ cZ oA rA σ_21, b_s cB cC cI cJ cZ oA rA σ_21, b_c cB cC cI cJ cZ oA rA σ_21, b_t cB cC cI cJ cZ oA rA σ_21, b_d cB cC cI cJ cZ oA rA σ_21] ++ [b_w cB cC cI cJ cZ oA rA u_25.2]) (bs' := [b_m cB cC cI cJ cZ oA rA (mrg (fun j => j == 1) σ_21 u_25.2), b_w cB cC cI cJ cZ oA rA (mrg (fun j => j == 1) σ_21 u_25.2), b_s cB cC cI cJ cZ oA rA (mrg (fun j => j == 1) σ_21 u_25.2), b_c cB cC cI cJ cZ oA rA (mrg (fun j => j == 1) σ_21 u_25.2), b_t cB cC cI cJ cZ oA rA (mrg (fun j => j == 1) σ_21 u_25.2), b_d cB cC cI cJ cZ oA rA (mrg (fun j => j == 1) σ_21 u_25.2)]) hP' (fl_a fl_5 fl_1) fl_6 [0, 5, 1, 2, 3, 4] rfl
        clear hP' hD'
        obtain ⟨u_29, hu_29, hF_30⟩ := Option.bind_eq_some_iff.mp hF_28
        clear hF_28
        have hPc := bx_P (bs := [b_m cB cC cI cJ cZ oA rA σ_27, b_w cB cC cI cJ cZ oA rA σ_27, b_s cB cC cI cJ cZ oA rA σ_27, b_c cB cC cI cJ cZ oA rA σ_27, b_t cB cC cI cJ cZ oA rA σ_27, b_d cB cC cI cJ cZ oA rA σ_27]) (bs' := [b_s cB cC cI cJ cZ oA rA σ_27, b_c cB cC cI cJ cZ oA rA σ_27, b_t cB cC cI cJ cZ oA rA σ_27, b_d cB cC cI cJ cZ oA rA σ_27]) (ws' := (b_s cB cC cI cJ cZ oA rA σ_27 ++ b_c cB cC cI cJ cZ oA rA σ_27 ++ b_t cB cC cI cJ cZ oA rA σ_27 ++ b_d cB cC cI cJ cZ oA rA σ_27)) hP fl_6 fl_4 [2, 3, 4, 5] rfl
        have hDc := bx_D (bs := [b_m cB cC cI cJ cZ oA rA σ_27, b_w cB cC cI cJ cZ oA rA σ_27, b_s cB cC cI cJ cZ oA rA σ_27, b_c cB cC cI cJ cZ oA rA σ_27, b_t cB cC cI cJ cZ oA rA σ_27, b_d cB cC cI cJ cZ oA rA σ_27]) (bs' := [b_s cB cC cI cJ cZ oA rA σ_27, b_c cB cC cI cJ cZ oA rA σ_27, b_t cB cC cI cJ cZ oA rA σ_27, b_d cB cC cI cJ cZ oA rA σ_27]) (ws' := (b_s cB cC cI cJ cZ oA rA σ_27 ++ b_c cB cC cI cJ cZ oA rA σ_27 ++ b_t cB cC cI cJ cZ oA rA σ_27 ++ b_d cB cC cI cJ cZ oA rA σ_27)) (hDD σ_27) fl_6 fl_4 [2, 3, 4, 5] (by decide +kernel) rfl
        have hFc := bx_F (bs := [b_m cB cC cI cJ cZ oA rA σ_27, b_w cB cC cI cJ cZ oA rA σ_27, b_s cB cC cI cJ cZ oA rA σ_27, b_c cB cC cI cJ cZ oA rA σ_27, b_t cB cC cI cJ cZ oA rA σ_27, b_d cB cC cI cJ cZ oA rA σ_27]) (bs' := [b_s cB cC cI cJ cZ oA rA σ_27, b_c cB cC cI cJ cZ oA rA σ_27, b_t cB cC cI cJ cZ oA rA σ_27, b_d cB cC cI cJ cZ oA rA σ_27]) (wc := (b_s cB cC cI cJ cZ oA rA σ_27 ++ b_c cB cC cI cJ cZ oA rA σ_27 ++ b_t cB cC cI cJ cZ oA rA σ_27 ++ b_d cB cC cI cJ cZ oA rA σ_27)) (hDD σ_27) hS hA fl_6 fl_4 [2, 3, 4, 5] rfl
        refine g_ofv (wc := (b_s cB cC cI cJ cZ oA rA σ_27 ++ b_c cB cC cI cJ cZ oA rA σ_27 ++ b_t cB cC cI cJ cZ oA rA σ_27 ++ b_d cB cC cI cJ cZ oA rA σ_27)) (wr := (b_m cB cC cI cJ cZ oA rA σ_27 ++ b_w cB cC cI cJ cZ oA rA σ_27)) hP (hDD σ_27) hS hFc (bx_ix [b_m cB cC cI cJ cZ oA rA σ_27, b_w cB cC cI cJ cZ oA rA σ_27, b_s cB cC cI cJ cZ oA rA σ_27, b_c cB cC cI cJ cZ oA rA σ_27, b_t cB cC cI cJ cZ oA rA σ_27, b_d cB cC cI cJ cZ oA rA σ_27] [2, 3, 4, 5]) (bx_ix [b_m cB cC cI cJ cZ oA rA σ_27, b_w cB cC cI cJ cZ oA rA σ_27, b_s cB cC cI cJ cZ oA rA σ_27, b_c cB cC cI cJ cZ oA rA σ_27, b_t cB cC cI cJ cZ oA rA σ_27, b_d cB cC cI cJ cZ oA rA σ_27] [0, 1]) (bx_C (bs := [b_m cB cC cI cJ cZ oA rA σ_27, b_w cB cC cI cJ cZ oA rA σ_27, b_s cB cC cI cJ cZ oA rA σ_27, b_c cB cC cI cJ cZ oA rA σ_27, b_t cB cC cI cJ cZ oA rA σ_27, b_d cB cC cI cJ cZ oA rA σ_27]) (bs' := [b_s cB cC cI cJ cZ oA rA σ_27, b_c cB cC cI cJ cZ oA rA σ_27, b_t cB cC cI cJ cZ oA rA σ_27, b_d cB cC cI cJ cZ oA rA σ_27]) (is := [2, 3, 4, 5]) fl_6 fl_4 rfl) (bx_C (bs := [b_m cB cC cI cJ cZ oA rA σ_27, b_w cB cC cI cJ cZ oA rA σ_27, b_s cB cC cI cJ cZ oA rA σ_27, b_c cB cC cI cJ cZ oA rA σ_27, b_t cB cC cI cJ cZ oA rA σ_27, b_d cB cC cI cJ cZ oA rA σ_27]) (bs' := [b_m cB cC cI cJ cZ oA rA σ_27, b_w cB cC cI cJ cZ oA rA σ_27]) (is := [0, 1]) fl_6 fl_2 rfl) (bx_n (by decide +kernel)) (bx_d (by decide +kernel)) (va_runV (As := [.int ((σ_18 3).1 13), .int t_20, .int u_25.1]) (rest := []) ⟨hx, hb, hml, hown, hts⟩ (k_X7_addObject l dC dI cB cC cI cJ cZ cP oA rA H.size  ((σ_18 3).1 13) t_20 u_25.1 σ_27 _ hu_29) (cwV 3 hts (g_gV wq_775 wq_776 wq_777 wq_5 wq_778) rfl rfl rfl (by decide +kernel) ⟨Nat.le_of_ble_eq_true rfl, Nat.le_of_ble_eq_true rfl⟩) (g_preV g_bl0 hK hPc hDc hS hE hFc g_to0 (q0 := 0) (ci := 7) rfl rfl) rfl rfl hl.1 rfl (lv_room (Nat.le_of_ble_eq_true rfl)) dX4_itemWord_205 ⟨Nat.le_of_ble_eq_true rfl, Nat.le_of_ble_eq_true rfl⟩) (fun u9 H locs hw9 hP' hD' hS => ?_)
        clear hPc hDc hFc
        obtain ⟨σ_31, eσ_31, hF_32⟩ := bnd_e hF_30
        clear hF_30
        have hP : va_P (dC, dI) vwCl (b_m cB cC cI cJ cZ oA rA σ_31 ++ b_w cB cC cI cJ cZ oA rA σ_31 ++ b_s cB cC cI cJ cZ oA rA σ_31 ++ b_c cB cC cI cJ cZ oA rA σ_31 ++ b_t cB cC cI cJ cZ oA rA σ_31 ++ b_d cB cC cI cJ cZ oA rA σ_31) H := by rw [eσ_31]; exact bx_P (bs := [b_m cB cC cI cJ cZ oA rA σ_27, b_w cB cC cI cJ cZ oA rA σ_27] ++ [b_s cB cC cI cJ cZ oA rA u_29.2, b_c cB cC cI cJ cZ oA rA u_29.2, b_t cB cC cI cJ cZ oA rA u_29.2, b_d cB cC cI cJ cZ oA rA u_29.2]) (bs' := [b_m cB cC cI cJ cZ oA rA (mrg (fun j => j == 4 || j == 5 || j == 6 || j == 7) σ_27 u_29.2), b_w cB cC cI cJ cZ oA rA (mrg (fun j => j == 4 || j == 5 || j == 6 || j == 7) σ_27 u_29.2), b_s cB cC cI cJ cZ oA rA (mrg (fun j => j == 4 || j == 5 || j == 6 || j == 7) σ_27 u_29.2), b_c cB cC cI cJ cZ oA rA (mrg (fun j => j == 4 || j == 5 || j == 6 || j == 7) σ_27 u_29.2), b_t cB cC cI cJ cZ oA rA (mrg (fun j => j == 4 || j == 5 || j == 6 || j == 7) σ_27 u_29.2), b_d cB cC cI cJ cZ oA rA (mrg (fun j => j == 4 || j == 5 || j == 6 || j == 7) σ_27 u_29.2)]) hP' (fl_a fl_2 fl_4) fl_6 [0, 1, 2, 3, 4, 5] rfl
        clear hP' hD'
        refine lv_goto (tgt := 343) hx hb dX4_itemWord_208 (by decide) ?_
        have h9 := Option.some.inj hF_32
        subst h9
        exact W.vret hx hb hr (fun t ht hW => ⟨⟨(), rfl, trivial, m_end ht hP, hDD _⟩, hS.F ht⟩) hS.2.2 dX4_itemWord_343
      refine lv_icmp_ne (tgt := 194) hx hb dX4_itemWord_187 (by decide) (fun c_33 => ?_) (fun c_33 => ?_)
      · have hF_35 := ineg c_33 hF_23
        clear hF_23
        refine lv_iconst (v := 0) hx hb dX4_itemWord_194 (by decide +kernel) ?_
        exact Jj_22 0 σ_18 hF_35 _ _ hP hS ls (lv_sub hl [0, 1] rfl)
      · have hF_34 := ipos c_33 hF_23
        clear hF_23
        refine lv_iconst (v := 1) hx hb dX4_itemWord_190 (by decide +kernel) ?_
        refine lv_goto (tgt := 195) hx hb dX4_itemWord_191 (by decide) ?_
        exact Jj_22 1 σ_18 hF_34 _ _ hP hS ls (lv_sub hl [0, 1] rfl)
    have hF_36 := ineg c_14 hF_13
    clear hF_13
    by_cases c_37 : u_1.1 = 232
    · have hF_38 := ipos c_37 hF_36
      clear hF_36
      refine lv_tableIn (off := 210) (tgt := 271) hx hb dX4_itemWord_61 (by rw [c_37]; decide +kernel) (by rw [c_37]; decide +kernel) (by rw [c_37]; decide +kernel) (by decide) ?_
      refine lv_aload_n hx hb dX4_itemWord_271 rfl (lv_at hl 0 rfl) ?_
      refine lv_iload_n hx hb dX4_itemWord_272 rfl (lv_at hl 1 rfl) ?_
      obtain ⟨u_39, hu_39, hF_40⟩ := Option.bind_eq_some_iff.mp hF_38
      clear hF_38
      have hPc := bx_P (bs := [b_m cB cC cI cJ cZ oA rA σ_5, b_w cB cC cI cJ cZ oA rA σ_5, b_s cB cC cI cJ cZ oA rA σ_5, b_c cB cC cI cJ cZ oA rA σ_5, b_t cB cC cI cJ cZ oA rA σ_5, b_d cB cC cI cJ cZ oA rA σ_5]) (bs' := [b_m cB cC cI cJ cZ oA rA σ_5, b_w cB cC cI cJ cZ oA rA σ_5, b_s cB cC cI cJ cZ oA rA σ_5, b_c cB cC cI cJ cZ oA rA σ_5, b_t cB cC cI cJ cZ oA rA σ_5, b_d cB cC cI cJ cZ oA rA σ_5]) (ws' := (b_m cB cC cI cJ cZ oA rA σ_5 ++ b_w cB cC cI cJ cZ oA rA σ_5 ++ b_s cB cC cI cJ cZ oA rA σ_5 ++ b_c cB cC cI cJ cZ oA rA σ_5 ++ b_t cB cC cI cJ cZ oA rA σ_5 ++ b_d cB cC cI cJ cZ oA rA σ_5)) hP fl_6 fl_6 [0, 1, 2, 3, 4, 5] rfl
      have hDc := bx_D (bs := [b_m cB cC cI cJ cZ oA rA σ_5, b_w cB cC cI cJ cZ oA rA σ_5, b_s cB cC cI cJ cZ oA rA σ_5, b_c cB cC cI cJ cZ oA rA σ_5, b_t cB cC cI cJ cZ oA rA σ_5, b_d cB cC cI cJ cZ oA rA σ_5]) (bs' := [b_m cB cC cI cJ cZ oA rA σ_5, b_w cB cC cI cJ cZ oA rA σ_5, b_s cB cC cI cJ cZ oA rA σ_5, b_c cB cC cI cJ cZ oA rA σ_5, b_t cB cC cI cJ cZ oA rA σ_5, b_d cB cC cI cJ cZ oA rA σ_5]) (ws' := (b_m cB cC cI cJ cZ oA rA σ_5 ++ b_w cB cC cI cJ cZ oA rA σ_5 ++ b_s cB cC cI cJ cZ oA rA σ_5 ++ b_c cB cC cI cJ cZ oA rA σ_5 ++ b_t cB cC cI cJ cZ oA rA σ_5 ++ b_d cB cC cI cJ cZ oA rA σ_5)) (hDD σ_5) fl_6 fl_6 [0, 1, 2, 3, 4, 5] (by decide +kernel) rfl
      have hFc := bx_F (bs := [b_m cB cC cI cJ cZ oA rA σ_5, b_w cB cC cI cJ cZ oA rA σ_5, b_s cB cC cI cJ cZ oA rA σ_5, b_c cB cC cI cJ cZ oA rA σ_5, b_t cB cC cI cJ cZ oA rA σ_5, b_d cB cC cI cJ cZ oA rA σ_5]) (bs' := [b_m cB cC cI cJ cZ oA rA σ_5, b_w cB cC cI cJ cZ oA rA σ_5, b_s cB cC cI cJ cZ oA rA σ_5, b_c cB cC cI cJ cZ oA rA σ_5, b_t cB cC cI cJ cZ oA rA σ_5, b_d cB cC cI cJ cZ oA rA σ_5]) (wc := (b_m cB cC cI cJ cZ oA rA σ_5 ++ b_w cB cC cI cJ cZ oA rA σ_5 ++ b_s cB cC cI cJ cZ oA rA σ_5 ++ b_c cB cC cI cJ cZ oA rA σ_5 ++ b_t cB cC cI cJ cZ oA rA σ_5 ++ b_d cB cC cI cJ cZ oA rA σ_5)) (hDD σ_5) hS hA fl_6 fl_6 [0, 1, 2, 3, 4, 5] rfl
      refine g_ofv (wc := (b_m cB cC cI cJ cZ oA rA σ_5 ++ b_w cB cC cI cJ cZ oA rA σ_5 ++ b_s cB cC cI cJ cZ oA rA σ_5 ++ b_c cB cC cI cJ cZ oA rA σ_5 ++ b_t cB cC cI cJ cZ oA rA σ_5 ++ b_d cB cC cI cJ cZ oA rA σ_5)) (wr := ([] : va_W)) hP (hDD σ_5) hS hFc (bx_ix [b_m cB cC cI cJ cZ oA rA σ_5, b_w cB cC cI cJ cZ oA rA σ_5, b_s cB cC cI cJ cZ oA rA σ_5, b_c cB cC cI cJ cZ oA rA σ_5, b_t cB cC cI cJ cZ oA rA σ_5, b_d cB cC cI cJ cZ oA rA σ_5] [0, 1, 2, 3, 4, 5]) (bx_ix [b_m cB cC cI cJ cZ oA rA σ_5, b_w cB cC cI cJ cZ oA rA σ_5, b_s cB cC cI cJ cZ oA rA σ_5, b_c cB cC cI cJ cZ oA rA σ_5, b_t cB cC cI cJ cZ oA rA σ_5, b_d cB cC cI cJ cZ oA rA σ_5] []) (bx_C (bs := [b_m cB cC cI cJ cZ oA rA σ_5, b_w cB cC cI cJ cZ oA rA σ_5, b_s cB cC cI cJ cZ oA rA σ_5, b_c cB cC cI cJ cZ oA rA σ_5, b_t cB cC cI cJ cZ oA rA σ_5, b_d cB cC cI cJ cZ oA rA σ_5]) (bs' := [b_m cB cC cI cJ cZ oA rA σ_5, b_w cB cC cI cJ cZ oA rA σ_5, b_s cB cC cI cJ cZ oA rA σ_5, b_c cB cC cI cJ cZ oA rA σ_5, b_t cB cC cI cJ cZ oA rA σ_5, b_d cB cC cI cJ cZ oA rA σ_5]) (is := [0, 1, 2, 3, 4, 5]) fl_6 fl_6 rfl) (bx_C (bs := [b_m cB cC cI cJ cZ oA rA σ_5, b_w cB cC cI cJ cZ oA rA σ_5, b_s cB cC cI cJ cZ oA rA σ_5, b_c cB cC cI cJ cZ oA rA σ_5, b_t cB cC cI cJ cZ oA rA σ_5, b_d cB cC cI cJ cZ oA rA σ_5]) (bs' := []) (is := []) fl_6 fl_0 rfl) (bx_n (by decide +kernel)) (bx_d (by decide +kernel)) (va_runV (As := [.int p0]) (rest := []) ⟨hx, hb, hml, hown, hts⟩ (k_X4_verbItem l dC dI cB cC cI cJ cZ cP oA rA H.size  p0 σ_5 _ hu_39) (cwV 1 hts (g_gV wq_794 wq_795 wq_2056 wq_4 wq_796) rfl rfl rfl (by decide +kernel) ⟨Nat.le_of_ble_eq_true rfl, Nat.le_of_ble_eq_true rfl⟩) (g_preV g_bl0 hK hPc hDc hS hE hFc g_to0 (q0 := 0) (ci := 4) rfl rfl) rfl rfl hl.1 rfl (lv_room (Nat.le_of_ble_eq_true rfl)) dX4_itemWord_273 ⟨Nat.le_of_ble_eq_true rfl, Nat.le_of_ble_eq_true rfl⟩) (fun u9 H locs hw9 hP' hD' hS => ?_)
      clear hPc hDc hFc
      have hP : va_P (dC, dI) vwCl (b_m cB cC cI cJ cZ oA rA u_39.2 ++ b_w cB cC cI cJ cZ oA rA u_39.2 ++ b_s cB cC cI cJ cZ oA rA u_39.2 ++ b_c cB cC cI cJ cZ oA rA u_39.2 ++ b_t cB cC cI cJ cZ oA rA u_39.2 ++ b_d cB cC cI cJ cZ oA rA u_39.2) H := hP'
      clear hP' hD'
      refine lv_goto (tgt := 343) hx hb dX4_itemWord_276 (by decide) ?_
      have h9 := Option.some.inj hF_40
      subst h9
      exact W.vret hx hb hr (fun t ht hW => ⟨⟨(), rfl, trivial, m_end ht hP, hDD _⟩, hS.F ht⟩) hS.2.2 dX4_itemWord_343
    have hF_41 := ineg c_37 hF_36
    clear hF_36
    by_cases c_42 : u_1.1 = 233
    · have hF_43 := ipos c_42 hF_41
      clear hF_41
      refine lv_tableIn (off := 218) (tgt := 279) hx hb dX4_itemWord_61 (by rw [c_42]; decide +kernel) (by rw [c_42]; decide +kernel) (by rw [c_42]; decide +kernel) (by decide) ?_
      refine lv_aload_n hx hb dX4_itemWord_279 rfl (lv_at hl 0 rfl) ?_
      refine lv_iload_n hx hb dX4_itemWord_280 rfl (lv_at hl 1 rfl) ?_
      obtain ⟨u_44, hu_44, hF_45⟩ := Option.bind_eq_some_iff.mp hF_43
      clear hF_43
      have hPc := bx_P (bs := [b_m cB cC cI cJ cZ oA rA σ_5, b_w cB cC cI cJ cZ oA rA σ_5, b_s cB cC cI cJ cZ oA rA σ_5, b_c cB cC cI cJ cZ oA rA σ_5, b_t cB cC cI cJ cZ oA rA σ_5, b_d cB cC cI cJ cZ oA rA σ_5]) (bs' := [b_m cB cC cI cJ cZ oA rA σ_5, b_w cB cC cI cJ cZ oA rA σ_5, b_s cB cC cI cJ cZ oA rA σ_5, b_c cB cC cI cJ cZ oA rA σ_5, b_t cB cC cI cJ cZ oA rA σ_5, b_d cB cC cI cJ cZ oA rA σ_5]) (ws' := (b_m cB cC cI cJ cZ oA rA σ_5 ++ b_w cB cC cI cJ cZ oA rA σ_5 ++ b_s cB cC cI cJ cZ oA rA σ_5 ++ b_c cB cC cI cJ cZ oA rA σ_5 ++ b_t cB cC cI cJ cZ oA rA σ_5 ++ b_d cB cC cI cJ cZ oA rA σ_5)) hP fl_6 fl_6 [0, 1, 2, 3, 4, 5] rfl
      have hDc := bx_D (bs := [b_m cB cC cI cJ cZ oA rA σ_5, b_w cB cC cI cJ cZ oA rA σ_5, b_s cB cC cI cJ cZ oA rA σ_5, b_c cB cC cI cJ cZ oA rA σ_5, b_t cB cC cI cJ cZ oA rA σ_5, b_d cB cC cI cJ cZ oA rA σ_5]) (bs' := [b_m cB cC cI cJ cZ oA rA σ_5, b_w cB cC cI cJ cZ oA rA σ_5, b_s cB cC cI cJ cZ oA rA σ_5, b_c cB cC cI cJ cZ oA rA σ_5, b_t cB cC cI cJ cZ oA rA σ_5, b_d cB cC cI cJ cZ oA rA σ_5]) (ws' := (b_m cB cC cI cJ cZ oA rA σ_5 ++ b_w cB cC cI cJ cZ oA rA σ_5 ++ b_s cB cC cI cJ cZ oA rA σ_5 ++ b_c cB cC cI cJ cZ oA rA σ_5 ++ b_t cB cC cI cJ cZ oA rA σ_5 ++ b_d cB cC cI cJ cZ oA rA σ_5)) (hDD σ_5) fl_6 fl_6 [0, 1, 2, 3, 4, 5] (by decide +kernel) rfl
      have hFc := bx_F (bs := [b_m cB cC cI cJ cZ oA rA σ_5, b_w cB cC cI cJ cZ oA rA σ_5, b_s cB cC cI cJ cZ oA rA σ_5, b_c cB cC cI cJ cZ oA rA σ_5, b_t cB cC cI cJ cZ oA rA σ_5, b_d cB cC cI cJ cZ oA rA σ_5]) (bs' := [b_m cB cC cI cJ cZ oA rA σ_5, b_w cB cC cI cJ cZ oA rA σ_5, b_s cB cC cI cJ cZ oA rA σ_5, b_c cB cC cI cJ cZ oA rA σ_5, b_t cB cC cI cJ cZ oA rA σ_5, b_d cB cC cI cJ cZ oA rA σ_5]) (wc := (b_m cB cC cI cJ cZ oA rA σ_5 ++ b_w cB cC cI cJ cZ oA rA σ_5 ++ b_s cB cC cI cJ cZ oA rA σ_5 ++ b_c cB cC cI cJ cZ oA rA σ_5 ++ b_t cB cC cI cJ cZ oA rA σ_5 ++ b_d cB cC cI cJ cZ oA rA σ_5)) (hDD σ_5) hS hA fl_6 fl_6 [0, 1, 2, 3, 4, 5] rfl
      refine g_ofv (wc := (b_m cB cC cI cJ cZ oA rA σ_5 ++ b_w cB cC cI cJ cZ oA rA σ_5 ++ b_s cB cC cI cJ cZ oA rA σ_5 ++ b_c cB cC cI cJ cZ oA rA σ_5 ++ b_t cB cC cI cJ cZ oA rA σ_5 ++ b_d cB cC cI cJ cZ oA rA σ_5)) (wr := ([] : va_W)) hP (hDD σ_5) hS hFc (bx_ix [b_m cB cC cI cJ cZ oA rA σ_5, b_w cB cC cI cJ cZ oA rA σ_5, b_s cB cC cI cJ cZ oA rA σ_5, b_c cB cC cI cJ cZ oA rA σ_5, b_t cB cC cI cJ cZ oA rA σ_5, b_d cB cC cI cJ cZ oA rA σ_5] [0, 1, 2, 3, 4, 5]) (bx_ix [b_m cB cC cI cJ cZ oA rA σ_5, b_w cB cC cI cJ cZ oA rA σ_5, b_s cB cC cI cJ cZ oA rA σ_5, b_c cB cC cI cJ cZ oA rA σ_5, b_t cB cC cI cJ cZ oA rA σ_5, b_d cB cC cI cJ cZ oA rA σ_5] []) (bx_C (bs := [b_m cB cC cI cJ cZ oA rA σ_5, b_w cB cC cI cJ cZ oA rA σ_5, b_s cB cC cI cJ cZ oA rA σ_5, b_c cB cC cI cJ cZ oA rA σ_5, b_t cB cC cI cJ cZ oA rA σ_5, b_d cB cC cI cJ cZ oA rA σ_5]) (bs' := [b_m cB cC cI cJ cZ oA rA σ_5, b_w cB cC cI cJ cZ oA rA σ_5, b_s cB cC cI cJ cZ oA rA σ_5, b_c cB cC cI cJ cZ oA rA σ_5, b_t cB cC cI cJ cZ oA rA σ_5, b_d cB cC cI cJ cZ oA rA σ_5]) (is := [0, 1, 2, 3, 4, 5]) fl_6 fl_6 rfl) (bx_C (bs := [b_m cB cC cI cJ cZ oA rA σ_5, b_w cB cC cI cJ cZ oA rA σ_5, b_s cB cC cI cJ cZ oA rA σ_5, b_c cB cC cI cJ cZ oA rA σ_5, b_t cB cC cI cJ cZ oA rA σ_5, b_d cB cC cI cJ cZ oA rA σ_5]) (bs' := []) (is := []) fl_6 fl_0 rfl) (bx_n (by decide +kernel)) (bx_d (by decide +kernel)) (va_runV (As := [.int p0]) (rest := []) ⟨hx, hb, hml, hown, hts⟩ (k_X4_varItem l dC dI cB cC cI cJ cZ cP oA rA H.size  p0 σ_5 _ hu_44) (cwV 1 hts (g_gV wq_798 wq_799 wq_2057 wq_4 wq_800) rfl rfl rfl (by decide +kernel) ⟨Nat.le_of_ble_eq_true rfl, Nat.le_of_ble_eq_true rfl⟩) (g_preV g_bl0 hK hPc hDc hS hE hFc g_to0 (q0 := 0) (ci := 4) rfl rfl) rfl rfl hl.1 rfl (lv_room (Nat.le_of_ble_eq_true rfl)) dX4_itemWord_281 ⟨Nat.le_of_ble_eq_true rfl, Nat.le_of_ble_eq_true rfl⟩) (fun u9 H locs hw9 hP' hD' hS => ?_)
      clear hPc hDc hFc
      have hP : va_P (dC, dI) vwCl (b_m cB cC cI cJ cZ oA rA u_44.2 ++ b_w cB cC cI cJ cZ oA rA u_44.2 ++ b_s cB cC cI cJ cZ oA rA u_44.2 ++ b_c cB cC cI cJ cZ oA rA u_44.2 ++ b_t cB cC cI cJ cZ oA rA u_44.2 ++ b_d cB cC cI cJ cZ oA rA u_44.2) H := hP'
      clear hP' hD'
      refine lv_goto (tgt := 343) hx hb dX4_itemWord_284 (by decide) ?_
      have h9 := Option.some.inj hF_45
      subst h9
      exact W.vret hx hb hr (fun t ht hW => ⟨⟨(), rfl, trivial, m_end ht hP, hDD _⟩, hS.F ht⟩) hS.2.2 dX4_itemWord_343
    have hF_46 := ineg c_42 hF_41
    clear hF_41
    by_cases c_47 : u_1.1 = 235
    · have hF_48 := ipos c_47 hF_46
      clear hF_46
      refine lv_tableIn (off := 226) (tgt := 287) hx hb dX4_itemWord_61 (by rw [c_47]; decide +kernel) (by rw [c_47]; decide +kernel) (by rw [c_47]; decide +kernel) (by decide) ?_
      refine lv_iload_n hx hb dX4_itemWord_287 rfl (lv_at hl 1 rfl) ?_
      refine lv_iconst (v := 3) hx hb dX4_itemWord_288 (by decide +kernel) ?_
      refine lv_iadd hx hb dX4_itemWord_289 ?_
      refine lv_istore_n (lv' := [(3, .int (p0 + 3)), (0, .ref (oA 3)), (1, .int p0), (2, .int u_1.1)]) hx hb dX4_itemWord_290 rfl hl (by decide) rfl (fun ls hl => ?_)
      refine loopF_ind (P := fun (s_49 : Int32 × HS) => ∀ (H : Heap) (locs : List Loc), va_P (dC, dI) vwCl (b_m cB cC cI cJ cZ oA rA s_49.2 ++ b_w cB cC cI cJ cZ oA rA s_49.2 ++ b_s cB cC cI cJ cZ oA rA s_49.2 ++ b_c cB cC cI cJ cZ oA rA s_49.2 ++ b_t cB cC cI cJ cZ oA rA s_49.2 ++ b_d cB cC cI cJ cZ oA rA s_49.2) H → va_S A s.heap H locs → ∀ ls : Array Slot, lv_has ls 4 [(0, .ref (oA 3)), (3, .int s_49.1)] → W p l e (headSpec (g_ws yX4_itemWord cX4_itemWord 4 none) { frames := 7, cells := 0, slots := 0, locals := 175 }).room s m ([.ref (oA 3), .int p0] : List Value).toArray below meth c H locs 0 0 (MQ below (va_Qv (fun (_ : Unit) => True) (g_Bo (dC, dI) A (fun (_ : Unit) => (b_m cB cC cI cJ cZ oA rA res.2 ++ b_w cB cC cI cJ cZ oA rA res.2 ++ b_s cB cC cI cJ cZ oA rA res.2 ++ b_c cB cC cI cJ cZ oA rA res.2 ++ b_t cB cC cI cJ cZ oA rA res.2 ++ b_d cB cC cI cJ cZ oA rA res.2))) A) ([.ref (oA 3), .int p0] : List Value).toArray s 0 0 A) (F0 m 291 ls [])) ?_ _ _ hF_48 _ _ hP hS ls (lv_sub hl [1, 0] rfl)
      intro again_50 s_49 ih_51 hF_52
      intro H locs hP hS ls hl
      refine lv_iload_n hx hb dX4_itemWord_291 rfl (lv_at hl 1 rfl) ?_
      refine lv_aload_n hx hb dX4_itemWord_292 rfl (lv_at hl 0 rfl) ?_
      refine va_get (D := (dC, dI)) (ci := 4) (v := .ref (oA 1)) (C := RX4) (T := TX4) (N := 18) hx hb hts ii_X4 hown hK hP 0 rfl rfl 0 (by decide) (hts (.fieldLink RX4 32 "StoryHouse$Meanings" "words" "LStoryHouse$Words;") wq_86) (fun _ h9 => h9) rfl dX4_itemWord_293 ?_
      refine va_get (D := (dC, dI)) (ci := 10) (v := .int ((s_49.2 1).1 2)) (C := RX10) (T := TX10) (N := 12) hx hb hts ii_X10 hown hK hP 7 rfl rfl 2 (by decide) (hts (.fieldLink RX4 53 "StoryHouse$Words" "count" "I") wq_45) (fun _ h9 => h9) rfl dX4_itemWord_296 ?_
      refine lv_icmp_ge (tgt := 332) hx hb dX4_itemWord_299 (by decide) (fun c_53 => ?_) (fun c_53 => ?_)
      · have hF_54 := ipos c_53 hF_52
        clear hF_52
        refine lv_goto (tgt := 343) hx hb dX4_itemWord_332 (by decide) ?_
        have h9 := Option.some.inj hF_54
        subst h9
        exact W.vret hx hb hr (fun t ht hW => ⟨⟨(), rfl, trivial, m_end ht hP, hDD _⟩, hS.F ht⟩) hS.2.2 dX4_itemWord_343
      · have hF_55 := ineg c_53 hF_52
        clear hF_52
        refine lv_aload_n hx hb dX4_itemWord_302 rfl (lv_at hl 0 rfl) ?_
        refine va_get (D := (dC, dI)) (ci := 4) (v := .ref (oA 1)) (C := RX4) (T := TX4) (N := 18) hx hb hts ii_X4 hown hK hP 0 rfl rfl 0 (by decide) (hts (.fieldLink RX4 32 "StoryHouse$Meanings" "words" "LStoryHouse$Words;") wq_86) (fun _ h9 => h9) rfl dX4_itemWord_303 ?_
        refine lv_iload_n hx hb dX4_itemWord_306 rfl (lv_at hl 1 rfl) ?_
        obtain ⟨u_56, hu_56, hF_57⟩ := Option.bind_eq_some_iff.mp hF_55
        clear hF_55
        have hPc := bx_P (bs := [b_m cB cC cI cJ cZ oA rA s_49.2, b_w cB cC cI cJ cZ oA rA s_49.2, b_s cB cC cI cJ cZ oA rA s_49.2, b_c cB cC cI cJ cZ oA rA s_49.2, b_t cB cC cI cJ cZ oA rA s_49.2, b_d cB cC cI cJ cZ oA rA s_49.2]) (bs' := [b_w cB cC cI cJ cZ oA rA s_49.2]) (ws' := (b_w cB cC cI cJ cZ oA rA s_49.2)) hP fl_6 fl_1 [1] rfl
        have hDc := bx_D (bs := [b_m cB cC cI cJ cZ oA rA s_49.2, b_w cB cC cI cJ cZ oA rA s_49.2, b_s cB cC cI cJ cZ oA rA s_49.2, b_c cB cC cI cJ cZ oA rA s_49.2, b_t cB cC cI cJ cZ oA rA s_49.2, b_d cB cC cI cJ cZ oA rA s_49.2]) (bs' := [b_w cB cC cI cJ cZ oA rA s_49.2]) (ws' := (b_w cB cC cI cJ cZ oA rA s_49.2)) (hDD s_49.2) fl_6 fl_1 [1] (by decide +kernel) rfl
        have hFc := bx_F (bs := [b_m cB cC cI cJ cZ oA rA s_49.2, b_w cB cC cI cJ cZ oA rA s_49.2, b_s cB cC cI cJ cZ oA rA s_49.2, b_c cB cC cI cJ cZ oA rA s_49.2, b_t cB cC cI cJ cZ oA rA s_49.2, b_d cB cC cI cJ cZ oA rA s_49.2]) (bs' := [b_w cB cC cI cJ cZ oA rA s_49.2]) (wc := (b_w cB cC cI cJ cZ oA rA s_49.2)) (hDD s_49.2) hS hA fl_6 fl_1 [1] rfl
        refine g_ofi (wc := (b_w cB cC cI cJ cZ oA rA s_49.2)) (wr := (b_m cB cC cI cJ cZ oA rA s_49.2 ++ b_s cB cC cI cJ cZ oA rA s_49.2 ++ b_c cB cC cI cJ cZ oA rA s_49.2 ++ b_t cB cC cI cJ cZ oA rA s_49.2 ++ b_d cB cC cI cJ cZ oA rA s_49.2)) hP (hDD s_49.2) hS hFc (bx_ix [b_m cB cC cI cJ cZ oA rA s_49.2, b_w cB cC cI cJ cZ oA rA s_49.2, b_s cB cC cI cJ cZ oA rA s_49.2, b_c cB cC cI cJ cZ oA rA s_49.2, b_t cB cC cI cJ cZ oA rA s_49.2, b_d cB cC cI cJ cZ oA rA s_49.2] [1]) (bx_ix [b_m cB cC cI cJ cZ oA rA s_49.2, b_w cB cC cI cJ cZ oA rA s_49.2, b_s cB cC cI cJ cZ oA rA s_49.2, b_c cB cC cI cJ cZ oA rA s_49.2, b_t cB cC cI cJ cZ oA rA s_49.2, b_d cB cC cI cJ cZ oA rA s_49.2] [0, 2, 3, 4, 5]) (bx_C (bs := [b_m cB cC cI cJ cZ oA rA s_49.2, b_w cB cC cI cJ cZ oA rA s_49.2, b_s cB cC cI cJ cZ oA rA s_49.2, b_c cB cC cI cJ cZ oA rA s_49.2, b_t cB cC cI cJ cZ oA rA s_49.2, b_d cB cC cI cJ cZ oA rA s_49.2]) (bs' := [b_w cB cC cI cJ cZ oA rA s_49.2]) (is := [1]) fl_6 fl_1 rfl) (bx_C (bs := [b_m cB cC cI cJ cZ oA rA s_49.2, b_w cB cC cI cJ cZ oA rA s_49.2, b_s cB cC cI cJ cZ oA rA s_49.2, b_c cB cC cI cJ cZ oA rA s_49.2, b_t cB cC cI cJ cZ oA rA s_49.2, b_d cB cC cI cJ cZ oA rA s_49.2]) (bs' := [b_m cB cC cI cJ cZ oA rA s_49.2, b_s cB cC cI cJ cZ oA rA s_49.2, b_c cB cC cI cJ cZ oA rA s_49.2, b_t cB cC cI cJ cZ oA rA s_49.2, b_d cB cC cI cJ cZ oA rA s_49.2]) (is := [0, 2, 3, 4, 5]) fl_6 fl_5 rfl) (bx_n (by decide +kernel)) (bx_d (by decide +kernel)) (va_runV (As := [.int s_49.1]) (rest := []) ⟨hx, hb, hml, hown, hts⟩ (k_X10_kindOf l dC dI cB cC cI cJ cZ cP oA rA H.size  s_49.1 s_49.2 _ hu_56) (cwV 1 hts (g_gV wq_714 wq_543 wq_544 wq_2 wq_545) rfl rfl rfl (by decide +kernel) ⟨Nat.le_of_ble_eq_true rfl, Nat.le_of_ble_eq_true rfl⟩) (g_preV g_bl0 hK hPc hDc hS hE hFc g_to0 (q0 := 0) (ci := 10) rfl rfl) rfl rfl hl.1 rfl (lv_room (Nat.le_of_ble_eq_true rfl)) dX4_itemWord_307 ⟨Nat.le_of_ble_eq_true rfl, Nat.le_of_ble_eq_true rfl⟩) (fun r9 u9 H locs hw9 hP' hD' hS => ?_)
        clear hPc hDc hFc
        subst hw9
        obtain ⟨σ_58, eσ_58, hF_59⟩ := bnd_e hF_57
        clear hF_57
        have hP : va_P (dC, dI) vwCl (b_m cB cC cI cJ cZ oA rA σ_58 ++ b_w cB cC cI cJ cZ oA rA σ_58 ++ b_s cB cC cI cJ cZ oA rA σ_58 ++ b_c cB cC cI cJ cZ oA rA σ_58 ++ b_t cB cC cI cJ cZ oA rA σ_58 ++ b_d cB cC cI cJ cZ oA rA σ_58) H := by rw [eσ_58]; exact bx_P (bs := [b_m cB cC cI cJ cZ oA rA s_49.2, b_s cB cC cI cJ cZ oA rA s_49.2, b_c cB cC cI cJ cZ oA rA s_49.2, b_t cB cC cI cJ cZ oA rA s_49.2, b_d cB cC cI cJ cZ oA rA s_49.2] ++ [b_w cB cC cI cJ cZ oA rA u_56.2]) (bs' := [b_m cB cC cI cJ cZ oA rA (mrg (fun j => j == 1) s_49.2 u_56.2), b_w cB cC cI cJ cZ oA rA (mrg (fun j => j == 1) s_49.2 u_56.2), b_s cB cC cI cJ cZ oA rA (mrg (fun j => j == 1) s_49.2 u_56.2), b_c cB cC cI cJ cZ oA rA (mrg (fun j => j == 1) s_49.2 u_56.2), b_t cB cC cI cJ cZ oA rA (mrg (fun j => j == 1) s_49.2 u_56.2), b_d cB cC cI cJ cZ oA rA (mrg (fun j => j == 1) s_49.2 u_56.2)]) hP' (fl_a fl_5 fl_1) fl_6 [0, 5, 1, 2, 3, 4] rfl
        clear hP' hD'
        refine lv_iconst (v := 2) hx hb dX4_itemWord_310 (by decide +kernel) ?_
        refine lv_icmp_ne (tgt := 332) hx hb dX4_itemWord_311 (by decide) (fun c_60 => ?_) (fun c_60 => ?_)
        · have hF_70 := ineg c_60 hF_59
          clear hF_59
          refine lv_goto (tgt := 343) hx hb dX4_itemWord_332 (by decide) ?_
          have h9 := Option.some.inj hF_70
          subst h9
          exact W.vret hx hb hr (fun t ht hW => ⟨⟨(), rfl, trivial, m_end ht hP, hDD _⟩, hS.F ht⟩) hS.2.2 dX4_itemWord_343
        · have hF_61 := ipos c_60 hF_59
          clear hF_59
          refine lv_aload_n hx hb dX4_itemWord_314 rfl (lv_at hl 0 rfl) ?_
          refine lv_aload_n hx hb dX4_itemWord_315 rfl (lv_at hl 0 rfl) ?_
          refine va_get (D := (dC, dI)) (ci := 4) (v := .ref (oA 1)) (C := RX4) (T := TX4) (N := 18) hx hb hts ii_X4 hown hK hP 0 rfl rfl 0 (by decide) (hts (.fieldLink RX4 32 "StoryHouse$Meanings" "words" "LStoryHouse$Words;") wq_86) (fun _ h9 => h9) rfl dX4_itemWord_316 ?_
          refine lv_iload_n hx hb dX4_itemWord_319 rfl (lv_at hl 1 rfl) ?_
          obtain ⟨u_62, hu_62, hF_63⟩ := Option.bind_eq_some_iff.mp hF_61
          clear hF_61
          have hPc := bx_P (bs := [b_m cB cC cI cJ cZ oA rA σ_58, b_w cB cC cI cJ cZ oA rA σ_58, b_s cB cC cI cJ cZ oA rA σ_58, b_c cB cC cI cJ cZ oA rA σ_58, b_t cB cC cI cJ cZ oA rA σ_58, b_d cB cC cI cJ cZ oA rA σ_58]) (bs' := [b_w cB cC cI cJ cZ oA rA σ_58]) (ws' := (b_w cB cC cI cJ cZ oA rA σ_58)) hP fl_6 fl_1 [1] rfl
          have hDc := bx_D (bs := [b_m cB cC cI cJ cZ oA rA σ_58, b_w cB cC cI cJ cZ oA rA σ_58, b_s cB cC cI cJ cZ oA rA σ_58, b_c cB cC cI cJ cZ oA rA σ_58, b_t cB cC cI cJ cZ oA rA σ_58, b_d cB cC cI cJ cZ oA rA σ_58]) (bs' := [b_w cB cC cI cJ cZ oA rA σ_58]) (ws' := (b_w cB cC cI cJ cZ oA rA σ_58)) (hDD σ_58) fl_6 fl_1 [1] (by decide +kernel) rfl
          have hFc := bx_F (bs := [b_m cB cC cI cJ cZ oA rA σ_58, b_w cB cC cI cJ cZ oA rA σ_58, b_s cB cC cI cJ cZ oA rA σ_58, b_c cB cC cI cJ cZ oA rA σ_58, b_t cB cC cI cJ cZ oA rA σ_58, b_d cB cC cI cJ cZ oA rA σ_58]) (bs' := [b_w cB cC cI cJ cZ oA rA σ_58]) (wc := (b_w cB cC cI cJ cZ oA rA σ_58)) (hDD σ_58) hS hA fl_6 fl_1 [1] rfl
          refine g_ofi (wc := (b_w cB cC cI cJ cZ oA rA σ_58)) (wr := (b_m cB cC cI cJ cZ oA rA σ_58 ++ b_s cB cC cI cJ cZ oA rA σ_58 ++ b_c cB cC cI cJ cZ oA rA σ_58 ++ b_t cB cC cI cJ cZ oA rA σ_58 ++ b_d cB cC cI cJ cZ oA rA σ_58)) hP (hDD σ_58) hS hFc (bx_ix [b_m cB cC cI cJ cZ oA rA σ_58, b_w cB cC cI cJ cZ oA rA σ_58, b_s cB cC cI cJ cZ oA rA σ_58, b_c cB cC cI cJ cZ oA rA σ_58, b_t cB cC cI cJ cZ oA rA σ_58, b_d cB cC cI cJ cZ oA rA σ_58] [1]) (bx_ix [b_m cB cC cI cJ cZ oA rA σ_58, b_w cB cC cI cJ cZ oA rA σ_58, b_s cB cC cI cJ cZ oA rA σ_58, b_c cB cC cI cJ cZ oA rA σ_58, b_t cB cC cI cJ cZ oA rA σ_58, b_d cB cC cI cJ cZ oA rA σ_58] [0, 2, 3, 4, 5]) (bx_C (bs := [b_m cB cC cI cJ cZ oA rA σ_58, b_w cB cC cI cJ cZ oA rA σ_58, b_s cB cC cI cJ cZ oA rA σ_58, b_c cB cC cI cJ cZ oA rA σ_58, b_t cB cC cI cJ cZ oA rA σ_58, b_d cB cC cI cJ cZ oA rA σ_58]) (bs' := [b_w cB cC cI cJ cZ oA rA σ_58]) (is := [1]) fl_6 fl_1 rfl) (bx_C (bs := [b_m cB cC cI cJ cZ oA rA σ_58, b_w cB cC cI cJ cZ oA rA σ_58, b_s cB cC cI cJ cZ oA rA σ_58, b_c cB cC cI cJ cZ oA rA σ_58, b_t cB cC cI cJ cZ oA rA σ_58, b_d cB cC cI cJ cZ oA rA σ_58]) (bs' := [b_m cB cC cI cJ cZ oA rA σ_58, b_s cB cC cI cJ cZ oA rA σ_58, b_c cB cC cI cJ cZ oA rA σ_58, b_t cB cC cI cJ cZ oA rA σ_58, b_d cB cC cI cJ cZ oA rA σ_58]) (is := [0, 2, 3, 4, 5]) fl_6 fl_5 rfl) (bx_n (by decide +kernel)) (bx_d (by decide +kernel)) (va_runV (As := [.int s_49.1]) (rest := [.ref (oA 3)]) ⟨hx, hb, hml, hown, hts⟩ (k_X10_worthOf l dC dI cB cC cI cJ cZ cP oA rA H.size  s_49.1 σ_58 _ hu_62) (cwV 1 hts (g_gV wq_715 wq_653 wq_654 wq_2 wq_655) rfl rfl rfl (by decide +kernel) ⟨Nat.le_of_ble_eq_true rfl, Nat.le_of_ble_eq_true rfl⟩) (g_preV g_bl0 hK hPc hDc hS hE hFc g_to0 (q0 := 0) (ci := 10) rfl rfl) rfl rfl hl.1 rfl (lv_room (Nat.le_of_ble_eq_true rfl)) dX4_itemWord_320 ⟨Nat.le_of_ble_eq_true rfl, Nat.le_of_ble_eq_true rfl⟩) (fun r9 u9 H locs hw9 hP' hD' hS => ?_)
          clear hPc hDc hFc
          subst hw9
          obtain ⟨σ_64, eσ_64, hF_65⟩ := bnd_e hF_63
          clear hF_63
          have hP : va_P (dC, dI) vwCl (b_m cB cC cI cJ cZ oA rA σ_64 ++ b_w cB cC cI cJ cZ oA rA σ_64 ++ b_s cB cC cI cJ cZ oA rA σ_64 ++ b_c cB cC cI cJ cZ oA rA σ_64 ++ b_t cB cC cI cJ cZ oA rA σ_64 ++ b_d cB cC cI cJ cZ oA rA σ_64) H := by rw [eσ_64]; exact bx_P (bs := [b_m cB cC cI cJ cZ oA rA σ_58, b_s cB cC cI cJ cZ oA rA σ_58, b_c cB cC cI cJ cZ oA rA σ_58, b_t cB cC cI cJ cZ oA rA σ_58, b_d cB cC cI cJ cZ oA rA σ_58] ++ [b_w cB cC cI cJ cZ oA rA u_62.2]) (bs' := [b_m cB cC cI cJ cZ oA rA (mrg (fun j => j == 1) σ_58 u_62.2), b_w cB cC cI cJ cZ oA rA (mrg (fun j => j == 1) σ_58 u_62.2), b_s cB cC cI cJ cZ oA rA (mrg (fun j => j == 1) σ_58 u_62.2), b_c cB cC cI cJ cZ oA rA (mrg (fun j => j == 1) σ_58 u_62.2), b_t cB cC cI cJ cZ oA rA (mrg (fun j => j == 1) σ_58 u_62.2), b_d cB cC cI cJ cZ oA rA (mrg (fun j => j == 1) σ_58 u_62.2)]) hP' (fl_a fl_5 fl_1) fl_6 [0, 5, 1, 2, 3, 4] rfl
          clear hP' hD'
          obtain ⟨u_66, hu_66, hF_67⟩ := Option.bind_eq_some_iff.mp hF_65
          clear hF_65
          have hPc := bx_P (bs := [b_m cB cC cI cJ cZ oA rA σ_64, b_w cB cC cI cJ cZ oA rA σ_64, b_s cB cC cI cJ cZ oA rA σ_64, b_c cB cC cI cJ cZ oA rA σ_64, b_t cB cC cI cJ cZ oA rA σ_64, b_d cB cC cI cJ cZ oA rA σ_64]) (bs' := [b_m cB cC cI cJ cZ oA rA σ_64, b_w cB cC cI cJ cZ oA rA σ_64, b_s cB cC cI cJ cZ oA rA σ_64, b_c cB cC cI cJ cZ oA rA σ_64, b_t cB cC cI cJ cZ oA rA σ_64, b_d cB cC cI cJ cZ oA rA σ_64]) (ws' := (b_m cB cC cI cJ cZ oA rA σ_64 ++ b_w cB cC cI cJ cZ oA rA σ_64 ++ b_s cB cC cI cJ cZ oA rA σ_64 ++ b_c cB cC cI cJ cZ oA rA σ_64 ++ b_t cB cC cI cJ cZ oA rA σ_64 ++ b_d cB cC cI cJ cZ oA rA σ_64)) hP fl_6 fl_6 [0, 1, 2, 3, 4, 5] rfl
          have hDc := bx_D (bs := [b_m cB cC cI cJ cZ oA rA σ_64, b_w cB cC cI cJ cZ oA rA σ_64, b_s cB cC cI cJ cZ oA rA σ_64, b_c cB cC cI cJ cZ oA rA σ_64, b_t cB cC cI cJ cZ oA rA σ_64, b_d cB cC cI cJ cZ oA rA σ_64]) (bs' := [b_m cB cC cI cJ cZ oA rA σ_64, b_w cB cC cI cJ cZ oA rA σ_64, b_s cB cC cI cJ cZ oA rA σ_64, b_c cB cC cI cJ cZ oA rA σ_64, b_t cB cC cI cJ cZ oA rA σ_64, b_d cB cC cI cJ cZ oA rA σ_64]) (ws' := (b_m cB cC cI cJ cZ oA rA σ_64 ++ b_w cB cC cI cJ cZ oA rA σ_64 ++ b_s cB cC cI cJ cZ oA rA σ_64 ++ b_c cB cC cI cJ cZ oA rA σ_64 ++ b_t cB cC cI cJ cZ oA rA σ_64 ++ b_d cB cC cI cJ cZ oA rA σ_64)) (hDD σ_64) fl_6 fl_6 [0, 1, 2, 3, 4, 5] (by decide +kernel) rfl
          have hFc := bx_F (bs := [b_m cB cC cI cJ cZ oA rA σ_64, b_w cB cC cI cJ cZ oA rA σ_64, b_s cB cC cI cJ cZ oA rA σ_64, b_c cB cC cI cJ cZ oA rA σ_64, b_t cB cC cI cJ cZ oA rA σ_64, b_d cB cC cI cJ cZ oA rA σ_64]) (bs' := [b_m cB cC cI cJ cZ oA rA σ_64, b_w cB cC cI cJ cZ oA rA σ_64, b_s cB cC cI cJ cZ oA rA σ_64, b_c cB cC cI cJ cZ oA rA σ_64, b_t cB cC cI cJ cZ oA rA σ_64, b_d cB cC cI cJ cZ oA rA σ_64]) (wc := (b_m cB cC cI cJ cZ oA rA σ_64 ++ b_w cB cC cI cJ cZ oA rA σ_64 ++ b_s cB cC cI cJ cZ oA rA σ_64 ++ b_c cB cC cI cJ cZ oA rA σ_64 ++ b_t cB cC cI cJ cZ oA rA σ_64 ++ b_d cB cC cI cJ cZ oA rA σ_64)) (hDD σ_64) hS hA fl_6 fl_6 [0, 1, 2, 3, 4, 5] rfl
          refine g_ofv (wc := (b_m cB cC cI cJ cZ oA rA σ_64 ++ b_w cB cC cI cJ cZ oA rA σ_64 ++ b_s cB cC cI cJ cZ oA rA σ_64 ++ b_c cB cC cI cJ cZ oA rA σ_64 ++ b_t cB cC cI cJ cZ oA rA σ_64 ++ b_d cB cC cI cJ cZ oA rA σ_64)) (wr := ([] : va_W)) hP (hDD σ_64) hS hFc (bx_ix [b_m cB cC cI cJ cZ oA rA σ_64, b_w cB cC cI cJ cZ oA rA σ_64, b_s cB cC cI cJ cZ oA rA σ_64, b_c cB cC cI cJ cZ oA rA σ_64, b_t cB cC cI cJ cZ oA rA σ_64, b_d cB cC cI cJ cZ oA rA σ_64] [0, 1, 2, 3, 4, 5]) (bx_ix [b_m cB cC cI cJ cZ oA rA σ_64, b_w cB cC cI cJ cZ oA rA σ_64, b_s cB cC cI cJ cZ oA rA σ_64, b_c cB cC cI cJ cZ oA rA σ_64, b_t cB cC cI cJ cZ oA rA σ_64, b_d cB cC cI cJ cZ oA rA σ_64] []) (bx_C (bs := [b_m cB cC cI cJ cZ oA rA σ_64, b_w cB cC cI cJ cZ oA rA σ_64, b_s cB cC cI cJ cZ oA rA σ_64, b_c cB cC cI cJ cZ oA rA σ_64, b_t cB cC cI cJ cZ oA rA σ_64, b_d cB cC cI cJ cZ oA rA σ_64]) (bs' := [b_m cB cC cI cJ cZ oA rA σ_64, b_w cB cC cI cJ cZ oA rA σ_64, b_s cB cC cI cJ cZ oA rA σ_64, b_c cB cC cI cJ cZ oA rA σ_64, b_t cB cC cI cJ cZ oA rA σ_64, b_d cB cC cI cJ cZ oA rA σ_64]) (is := [0, 1, 2, 3, 4, 5]) fl_6 fl_6 rfl) (bx_C (bs := [b_m cB cC cI cJ cZ oA rA σ_64, b_w cB cC cI cJ cZ oA rA σ_64, b_s cB cC cI cJ cZ oA rA σ_64, b_c cB cC cI cJ cZ oA rA σ_64, b_t cB cC cI cJ cZ oA rA σ_64, b_d cB cC cI cJ cZ oA rA σ_64]) (bs' := []) (is := []) fl_6 fl_0 rfl) (bx_n (by decide +kernel)) (bx_d (by decide +kernel)) (va_runV (As := [.int u_62.1]) (rest := []) ⟨hx, hb, hml, hown, hts⟩ (k_X4_see l dC dI cB cC cI cJ cZ cP oA rA H.size  u_62.1 σ_64 _ hu_66) (cwV 1 hts (g_gV wq_747 wq_748 wq_2044 wq_4 wq_749) rfl rfl rfl (by decide +kernel) ⟨Nat.le_of_ble_eq_true rfl, Nat.le_of_ble_eq_true rfl⟩) (g_preV g_bl0 hK hPc hDc hS hE hFc g_to0 (q0 := 0) (ci := 4) rfl rfl) rfl rfl hl.1 rfl (lv_room (Nat.le_of_ble_eq_true rfl)) dX4_itemWord_323 ⟨Nat.le_of_ble_eq_true rfl, Nat.le_of_ble_eq_true rfl⟩) (fun u9 H locs hw9 hP' hD' hS => ?_)
          clear hPc hDc hFc
          have hP : va_P (dC, dI) vwCl (b_m cB cC cI cJ cZ oA rA u_66.2 ++ b_w cB cC cI cJ cZ oA rA u_66.2 ++ b_s cB cC cI cJ cZ oA rA u_66.2 ++ b_c cB cC cI cJ cZ oA rA u_66.2 ++ b_t cB cC cI cJ cZ oA rA u_66.2 ++ b_d cB cC cI cJ cZ oA rA u_66.2) H := hP'
          clear hP' hD'
          obtain ⟨x_68, ex_68, hF_69⟩ := bnd_e hF_67
          clear hF_67
          refine lv_iinc (v := x_68) (lv' := [(3, .int x_68), (0, .ref (oA 3))]) hx hb dX4_itemWord_326 hl (k := 1) rfl (by rw [ex_68]; rfl) (by decide) rfl (fun ls hl => ?_)
          refine lv_goto (tgt := 291) hx hb dX4_itemWord_329 (by decide) ?_
          exact ih_51 (x_68, u_66.2) hF_69 _ _ hP hS ls (lv_sub hl [1, 0] rfl)
    have hF_71 := ineg c_47 hF_46
    clear hF_46
    by_cases c_72 : u_1.1 = 236
    · have hF_73 := ipos c_72 hF_71
      clear hF_71
      refine lv_tableIn (off := 274) (tgt := 335) hx hb dX4_itemWord_61 (by rw [c_72]; decide +kernel) (by rw [c_72]; decide +kernel) (by rw [c_72]; decide +kernel) (by decide) ?_
      refine lv_aload_n hx hb dX4_itemWord_335 rfl (lv_at hl 0 rfl) ?_
      refine lv_iload_n hx hb dX4_itemWord_336 rfl (lv_at hl 1 rfl) ?_
      obtain ⟨u_74, hu_74, hF_75⟩ := Option.bind_eq_some_iff.mp hF_73
      clear hF_73
      have hPc := bx_P (bs := [b_m cB cC cI cJ cZ oA rA σ_5, b_w cB cC cI cJ cZ oA rA σ_5, b_s cB cC cI cJ cZ oA rA σ_5, b_c cB cC cI cJ cZ oA rA σ_5, b_t cB cC cI cJ cZ oA rA σ_5, b_d cB cC cI cJ cZ oA rA σ_5]) (bs' := [b_m cB cC cI cJ cZ oA rA σ_5, b_w cB cC cI cJ cZ oA rA σ_5, b_s cB cC cI cJ cZ oA rA σ_5, b_c cB cC cI cJ cZ oA rA σ_5, b_t cB cC cI cJ cZ oA rA σ_5, b_d cB cC cI cJ cZ oA rA σ_5]) (ws' := (b_m cB cC cI cJ cZ oA rA σ_5 ++ b_w cB cC cI cJ cZ oA rA σ_5 ++ b_s cB cC cI cJ cZ oA rA σ_5 ++ b_c cB cC cI cJ cZ oA rA σ_5 ++ b_t cB cC cI cJ cZ oA rA σ_5 ++ b_d cB cC cI cJ cZ oA rA σ_5)) hP fl_6 fl_6 [0, 1, 2, 3, 4, 5] rfl
      have hDc := bx_D (bs := [b_m cB cC cI cJ cZ oA rA σ_5, b_w cB cC cI cJ cZ oA rA σ_5, b_s cB cC cI cJ cZ oA rA σ_5, b_c cB cC cI cJ cZ oA rA σ_5, b_t cB cC cI cJ cZ oA rA σ_5, b_d cB cC cI cJ cZ oA rA σ_5]) (bs' := [b_m cB cC cI cJ cZ oA rA σ_5, b_w cB cC cI cJ cZ oA rA σ_5, b_s cB cC cI cJ cZ oA rA σ_5, b_c cB cC cI cJ cZ oA rA σ_5, b_t cB cC cI cJ cZ oA rA σ_5, b_d cB cC cI cJ cZ oA rA σ_5]) (ws' := (b_m cB cC cI cJ cZ oA rA σ_5 ++ b_w cB cC cI cJ cZ oA rA σ_5 ++ b_s cB cC cI cJ cZ oA rA σ_5 ++ b_c cB cC cI cJ cZ oA rA σ_5 ++ b_t cB cC cI cJ cZ oA rA σ_5 ++ b_d cB cC cI cJ cZ oA rA σ_5)) (hDD σ_5) fl_6 fl_6 [0, 1, 2, 3, 4, 5] (by decide +kernel) rfl
      have hFc := bx_F (bs := [b_m cB cC cI cJ cZ oA rA σ_5, b_w cB cC cI cJ cZ oA rA σ_5, b_s cB cC cI cJ cZ oA rA σ_5, b_c cB cC cI cJ cZ oA rA σ_5, b_t cB cC cI cJ cZ oA rA σ_5, b_d cB cC cI cJ cZ oA rA σ_5]) (bs' := [b_m cB cC cI cJ cZ oA rA σ_5, b_w cB cC cI cJ cZ oA rA σ_5, b_s cB cC cI cJ cZ oA rA σ_5, b_c cB cC cI cJ cZ oA rA σ_5, b_t cB cC cI cJ cZ oA rA σ_5, b_d cB cC cI cJ cZ oA rA σ_5]) (wc := (b_m cB cC cI cJ cZ oA rA σ_5 ++ b_w cB cC cI cJ cZ oA rA σ_5 ++ b_s cB cC cI cJ cZ oA rA σ_5 ++ b_c cB cC cI cJ cZ oA rA σ_5 ++ b_t cB cC cI cJ cZ oA rA σ_5 ++ b_d cB cC cI cJ cZ oA rA σ_5)) (hDD σ_5) hS hA fl_6 fl_6 [0, 1, 2, 3, 4, 5] rfl
      refine g_ofv (wc := (b_m cB cC cI cJ cZ oA rA σ_5 ++ b_w cB cC cI cJ cZ oA rA σ_5 ++ b_s cB cC cI cJ cZ oA rA σ_5 ++ b_c cB cC cI cJ cZ oA rA σ_5 ++ b_t cB cC cI cJ cZ oA rA σ_5 ++ b_d cB cC cI cJ cZ oA rA σ_5)) (wr := ([] : va_W)) hP (hDD σ_5) hS hFc (bx_ix [b_m cB cC cI cJ cZ oA rA σ_5, b_w cB cC cI cJ cZ oA rA σ_5, b_s cB cC cI cJ cZ oA rA σ_5, b_c cB cC cI cJ cZ oA rA σ_5, b_t cB cC cI cJ cZ oA rA σ_5, b_d cB cC cI cJ cZ oA rA σ_5] [0, 1, 2, 3, 4, 5]) (bx_ix [b_m cB cC cI cJ cZ oA rA σ_5, b_w cB cC cI cJ cZ oA rA σ_5, b_s cB cC cI cJ cZ oA rA σ_5, b_c cB cC cI cJ cZ oA rA σ_5, b_t cB cC cI cJ cZ oA rA σ_5, b_d cB cC cI cJ cZ oA rA σ_5] []) (bx_C (bs := [b_m cB cC cI cJ cZ oA rA σ_5, b_w cB cC cI cJ cZ oA rA σ_5, b_s cB cC cI cJ cZ oA rA σ_5, b_c cB cC cI cJ cZ oA rA σ_5, b_t cB cC cI cJ cZ oA rA σ_5, b_d cB cC cI cJ cZ oA rA σ_5]) (bs' := [b_m cB cC cI cJ cZ oA rA σ_5, b_w cB cC cI cJ cZ oA rA σ_5, b_s cB cC cI cJ cZ oA rA σ_5, b_c cB cC cI cJ cZ oA rA σ_5, b_t cB cC cI cJ cZ oA rA σ_5, b_d cB cC cI cJ cZ oA rA σ_5]) (is := [0, 1, 2, 3, 4, 5]) fl_6 fl_6 rfl) (bx_C (bs := [b_m cB cC cI cJ cZ oA rA σ_5, b_w cB cC cI cJ cZ oA rA σ_5, b_s cB cC cI cJ cZ oA rA σ_5, b_c cB cC cI cJ cZ oA rA σ_5, b_t cB cC cI cJ cZ oA rA σ_5, b_d cB cC cI cJ cZ oA rA σ_5]) (bs' := []) (is := []) fl_6 fl_0 rfl) (bx_n (by decide +kernel)) (bx_d (by decide +kernel)) (va_runV (As := [.int p0]) (rest := []) ⟨hx, hb, hml, hown, hts⟩ (k_X4_onItem l dC dI cB cC cI cJ cZ cP oA rA H.size  p0 σ_5 _ hu_74) (cwV 1 hts (g_gV wq_801 wq_802 wq_2058 wq_4 wq_803) rfl rfl rfl (by decide +kernel) ⟨Nat.le_of_ble_eq_true rfl, Nat.le_of_ble_eq_true rfl⟩) (g_preV g_bl0 hK hPc hDc hS hE hFc g_to0 (q0 := 0) (ci := 4) rfl rfl) rfl rfl hl.1 rfl (lv_room (Nat.le_of_ble_eq_true rfl)) dX4_itemWord_337 ⟨Nat.le_of_ble_eq_true rfl, Nat.le_of_ble_eq_true rfl⟩) (fun u9 H locs hw9 hP' hD' hS => ?_)
      clear hPc hDc hFc
      have hP : va_P (dC, dI) vwCl (b_m cB cC cI cJ cZ oA rA u_74.2 ++ b_w cB cC cI cJ cZ oA rA u_74.2 ++ b_s cB cC cI cJ cZ oA rA u_74.2 ++ b_c cB cC cI cJ cZ oA rA u_74.2 ++ b_t cB cC cI cJ cZ oA rA u_74.2 ++ b_d cB cC cI cJ cZ oA rA u_74.2) H := hP'
      clear hP' hD'
      refine lv_goto (tgt := 343) hx hb dX4_itemWord_340 (by decide) ?_
      have h9 := Option.some.inj hF_75
      subst h9
      exact W.vret hx hb hr (fun t ht hW => ⟨⟨(), rfl, trivial, m_end ht hP, hDD _⟩, hS.F ht⟩) hS.2.2 dX4_itemWord_343
    have hF_76 := ineg c_72 hF_71
    clear hF_71
    by_cases c_77 : u_1.1 = 238
    · have hF_78 := ipos c_77 hF_76
      clear hF_76
      refine lv_tableIn (off := 150) (tgt := 211) hx hb dX4_itemWord_61 (by rw [c_77]; decide +kernel) (by rw [c_77]; decide +kernel) (by rw [c_77]; decide +kernel) (by decide) ?_
      refine lv_aload_n hx hb dX4_itemWord_211 rfl (lv_at hl 0 rfl) ?_
      refine va_get (D := (dC, dI)) (ci := 4) (v := .ref (oA 4)) (C := RX4) (T := TX4) (N := 18) hx hb hts ii_X4 hown hK hP 0 rfl rfl 1 (by decide) (hts (.fieldLink RX4 36 "StoryHouse$Meanings" "story" "LStoryHouse$Story;") wq_87) (fun _ h9 => h9) rfl dX4_itemWord_212 ?_
      refine va_get (D := (dC, dI)) (ci := 7) (v := .ref (rA 4 3)) (C := RX7) (T := TX7) (N := 19) hx hb hts ii_X7 hown hK hP 16 rfl rfl 3 (by decide) (hts (.fieldLink RX4 199 "StoryHouse$Story" "described" "[I") wq_160) (fun _ h9 => h9) rfl dX4_itemWord_215 ?_
      refine lv_aload_n hx hb dX4_itemWord_218 rfl (lv_at hl 0 rfl) ?_
      refine va_get (D := (dC, dI)) (ci := 4) (v := .int ((σ_5 3).1 13)) (C := RX4) (T := TX4) (N := 18) hx hb hts ii_X4 hown hK hP 0 rfl rfl 13 (by decide) (hts (.fieldLink RX4 190 "StoryHouse$Meanings" "object" "I") wq_99) (fun _ h9 => h9) rfl dX4_itemWord_219 ?_
      refine lv_aload_n hx hb dX4_itemWord_222 rfl (lv_at hl 0 rfl) ?_
      refine va_get (D := (dC, dI)) (ci := 4) (v := .ref (oA 1)) (C := RX4) (T := TX4) (N := 18) hx hb hts ii_X4 hown hK hP 0 rfl rfl 0 (by decide) (hts (.fieldLink RX4 32 "StoryHouse$Meanings" "words" "LStoryHouse$Words;") wq_86) (fun _ h9 => h9) rfl dX4_itemWord_223 ?_
      refine lv_iload_n hx hb dX4_itemWord_226 rfl (lv_at hl 1 rfl) ?_
      refine lv_iconst (v := 1) hx hb dX4_itemWord_227 (by decide +kernel) ?_
      refine lv_iadd hx hb dX4_itemWord_228 ?_
      obtain ⟨u_79, hu_79, hF_80⟩ := Option.bind_eq_some_iff.mp hF_78
      clear hF_78
      have hPc := bx_P (bs := [b_m cB cC cI cJ cZ oA rA σ_5, b_w cB cC cI cJ cZ oA rA σ_5, b_s cB cC cI cJ cZ oA rA σ_5, b_c cB cC cI cJ cZ oA rA σ_5, b_t cB cC cI cJ cZ oA rA σ_5, b_d cB cC cI cJ cZ oA rA σ_5]) (bs' := [b_w cB cC cI cJ cZ oA rA σ_5]) (ws' := (b_w cB cC cI cJ cZ oA rA σ_5)) hP fl_6 fl_1 [1] rfl
      have hDc := bx_D (bs := [b_m cB cC cI cJ cZ oA rA σ_5, b_w cB cC cI cJ cZ oA rA σ_5, b_s cB cC cI cJ cZ oA rA σ_5, b_c cB cC cI cJ cZ oA rA σ_5, b_t cB cC cI cJ cZ oA rA σ_5, b_d cB cC cI cJ cZ oA rA σ_5]) (bs' := [b_w cB cC cI cJ cZ oA rA σ_5]) (ws' := (b_w cB cC cI cJ cZ oA rA σ_5)) (hDD σ_5) fl_6 fl_1 [1] (by decide +kernel) rfl
      have hFc := bx_F (bs := [b_m cB cC cI cJ cZ oA rA σ_5, b_w cB cC cI cJ cZ oA rA σ_5, b_s cB cC cI cJ cZ oA rA σ_5, b_c cB cC cI cJ cZ oA rA σ_5, b_t cB cC cI cJ cZ oA rA σ_5, b_d cB cC cI cJ cZ oA rA σ_5]) (bs' := [b_w cB cC cI cJ cZ oA rA σ_5]) (wc := (b_w cB cC cI cJ cZ oA rA σ_5)) (hDD σ_5) hS hA fl_6 fl_1 [1] rfl
      refine g_ofi (wc := (b_w cB cC cI cJ cZ oA rA σ_5)) (wr := (b_m cB cC cI cJ cZ oA rA σ_5 ++ b_s cB cC cI cJ cZ oA rA σ_5 ++ b_c cB cC cI cJ cZ oA rA σ_5 ++ b_t cB cC cI cJ cZ oA rA σ_5 ++ b_d cB cC cI cJ cZ oA rA σ_5)) hP (hDD σ_5) hS hFc (bx_ix [b_m cB cC cI cJ cZ oA rA σ_5, b_w cB cC cI cJ cZ oA rA σ_5, b_s cB cC cI cJ cZ oA rA σ_5, b_c cB cC cI cJ cZ oA rA σ_5, b_t cB cC cI cJ cZ oA rA σ_5, b_d cB cC cI cJ cZ oA rA σ_5] [1]) (bx_ix [b_m cB cC cI cJ cZ oA rA σ_5, b_w cB cC cI cJ cZ oA rA σ_5, b_s cB cC cI cJ cZ oA rA σ_5, b_c cB cC cI cJ cZ oA rA σ_5, b_t cB cC cI cJ cZ oA rA σ_5, b_d cB cC cI cJ cZ oA rA σ_5] [0, 2, 3, 4, 5]) (bx_C (bs := [b_m cB cC cI cJ cZ oA rA σ_5, b_w cB cC cI cJ cZ oA rA σ_5, b_s cB cC cI cJ cZ oA rA σ_5, b_c cB cC cI cJ cZ oA rA σ_5, b_t cB cC cI cJ cZ oA rA σ_5, b_d cB cC cI cJ cZ oA rA σ_5]) (bs' := [b_w cB cC cI cJ cZ oA rA σ_5]) (is := [1]) fl_6 fl_1 rfl) (bx_C (bs := [b_m cB cC cI cJ cZ oA rA σ_5, b_w cB cC cI cJ cZ oA rA σ_5, b_s cB cC cI cJ cZ oA rA σ_5, b_c cB cC cI cJ cZ oA rA σ_5, b_t cB cC cI cJ cZ oA rA σ_5, b_d cB cC cI cJ cZ oA rA σ_5]) (bs' := [b_m cB cC cI cJ cZ oA rA σ_5, b_s cB cC cI cJ cZ oA rA σ_5, b_c cB cC cI cJ cZ oA rA σ_5, b_t cB cC cI cJ cZ oA rA σ_5, b_d cB cC cI cJ cZ oA rA σ_5]) (is := [0, 2, 3, 4, 5]) fl_6 fl_5 rfl) (bx_n (by decide +kernel)) (bx_d (by decide +kernel)) (va_runV (As := [.int (p0 + 1)]) (rest := [.int ((σ_5 3).1 13), .ref (rA 4 3)]) ⟨hx, hb, hml, hown, hts⟩ (k_X10_worthOf l dC dI cB cC cI cJ cZ cP oA rA H.size  (p0 + 1) σ_5 _ hu_79) (cwV 1 hts (g_gV wq_715 wq_653 wq_654 wq_2 wq_655) rfl rfl rfl (by decide +kernel) ⟨Nat.le_of_ble_eq_true rfl, Nat.le_of_ble_eq_true rfl⟩) (g_preV g_bl0 hK hPc hDc hS hE hFc g_to0 (q0 := 0) (ci := 10) rfl rfl) rfl rfl hl.1 rfl (lv_room (Nat.le_of_ble_eq_true rfl)) dX4_itemWord_229 ⟨Nat.le_of_ble_eq_true rfl, Nat.le_of_ble_eq_true rfl⟩) (fun r9 u9 H locs hw9 hP' hD' hS => ?_)
      clear hPc hDc hFc
      subst hw9
      obtain ⟨σ_81, eσ_81, hF_82⟩ := bnd_e hF_80
      clear hF_80
      have hP : va_P (dC, dI) vwCl (b_m cB cC cI cJ cZ oA rA σ_81 ++ b_w cB cC cI cJ cZ oA rA σ_81 ++ b_s cB cC cI cJ cZ oA rA σ_81 ++ b_c cB cC cI cJ cZ oA rA σ_81 ++ b_t cB cC cI cJ cZ oA rA σ_81 ++ b_d cB cC cI cJ cZ oA rA σ_81) H := by rw [eσ_81]; exact bx_P (bs := [b_m cB cC cI cJ cZ oA rA σ_5, b_s cB cC cI cJ cZ oA rA σ_5, b_c cB cC cI cJ cZ oA rA σ_5, b_t cB cC cI cJ cZ oA rA σ_5, b_d cB cC cI cJ cZ oA rA σ_5] ++ [b_w cB cC cI cJ cZ oA rA u_79.2]) (bs' := [b_m cB cC cI cJ cZ oA rA (mrg (fun j => j == 1) σ_5 u_79.2), b_w cB cC cI cJ cZ oA rA (mrg (fun j => j == 1) σ_5 u_79.2), b_s cB cC cI cJ cZ oA rA (mrg (fun j => j == 1) σ_5 u_79.2), b_c cB cC cI cJ cZ oA rA (mrg (fun j => j == 1) σ_5 u_79.2), b_t cB cC cI cJ cZ oA rA (mrg (fun j => j == 1) σ_5 u_79.2), b_d cB cC cI cJ cZ oA rA (mrg (fun j => j == 1) σ_5 u_79.2)]) hP' (fl_a fl_5 fl_1) fl_6 [0, 5, 1, 2, 3, 4] rfl
      clear hP' hD'
      have hq9 : ((b_m cB cC cI cJ cZ oA rA σ_81 ++ b_w cB cC cI cJ cZ oA rA σ_81 ++ b_s cB cC cI cJ cZ oA rA σ_81 ++ b_c cB cC cI cJ cZ oA rA σ_81 ++ b_t cB cC cI cJ cZ oA rA σ_81 ++ b_d cB cC cI cJ cZ oA rA σ_81))[20]? = some (rA 4 3, .inl (cI, 121, .inl ((σ_81 4).2.1 3))) := rfl
      have hPc := hP.sub (ws' := [(rA 4 3, .inl (cI, 121, .inl ((σ_81 4).2.1 3)))]) [20] (pk_fm (er_C hq9))
      have hDc := (hDD σ_81).sub (ws' := [(rA 4 3, .inl (cI, 121, .inl ((σ_81 4).2.1 3)))]) [20] (by decide +kernel) (er_C hq9)
      have hFc := va_free (wc := [(rA 4 3, .inl (cI, 121, .inl ((σ_81 4).2.1 3)))]) (hDD σ_81) hS hA [20] (er_C hq9)
      refine g_ofv (wc := [(rA 4 3, .inl (cI, 121, .inl ((σ_81 4).2.1 3)))]) (wr := (((b_m cB cC cI cJ cZ oA rA σ_81 ++ b_w cB cC cI cJ cZ oA rA σ_81 ++ b_s cB cC cI cJ cZ oA rA σ_81 ++ b_c cB cC cI cJ cZ oA rA σ_81 ++ b_t cB cC cI cJ cZ oA rA σ_81 ++ b_d cB cC cI cJ cZ oA rA σ_81)).eraseIdx 20)) hP (hDD σ_81) hS hFc [20] ((List.range ((b_m cB cC cI cJ cZ oA rA σ_81 ++ b_w cB cC cI cJ cZ oA rA σ_81 ++ b_s cB cC cI cJ cZ oA rA σ_81 ++ b_c cB cC cI cJ cZ oA rA σ_81 ++ b_t cB cC cI cJ cZ oA rA σ_81 ++ b_d cB cC cI cJ cZ oA rA σ_81)).length).eraseIdx 20) (er_C hq9) er_R er_n er_d (va_runSN (As := [.ref (rA 4 3), .int ((σ_5 3).1 13), .int u_79.1]) (rest := []) ⟨hx, hb, hml, hown, hts⟩ (c_X11_put l dC dI cB cC cI cJ cZ cP H.size (rA 4 3) ((σ_5 3).1 13) u_79.1 121 ((σ_81 4).2.1 3) (by decide)) ⟨va_cnB 3 hts (g_gA wq_412) rfl rfl rfl (nw_23 hN) (hts (.initialized RX11) wq_1) (by decide +kernel) ⟨Nat.le_of_ble_eq_true rfl, Nat.le_of_ble_eq_true rfl⟩, (hts (.static yX11_put) wq_411), trivial⟩ (g_preS g_bl0 hK hPc hDc hS hE hFc g_to0) rfl rfl hl.1 rfl (lv_room (Nat.le_of_ble_eq_true rfl)) dX4_itemWord_232 ⟨Nat.le_of_ble_eq_true rfl, Nat.le_of_ble_eq_true rfl⟩) (fun g9 H locs hw9 hP' hD' hS => ?_)
      clear hPc hDc hFc hD'
      obtain ⟨σ_83, eσ_83, hF_84⟩ := bnd_e hF_82
      clear hF_82
      subst hw9
      have hP : va_P (dC, dI) vwCl (b_m cB cC cI cJ cZ oA rA σ_83 ++ b_w cB cC cI cJ cZ oA rA σ_83 ++ b_s cB cC cI cJ cZ oA rA σ_83 ++ b_c cB cC cI cJ cZ oA rA σ_83 ++ b_t cB cC cI cJ cZ oA rA σ_83 ++ b_d cB cC cI cJ cZ oA rA σ_83) H := by rw [eσ_83]; exact cs_mwsctd_s_3 ▸ er_P hP' (er_lt hq9)
      clear hP' hq9
      refine lv_goto (tgt := 343) hx hb dX4_itemWord_235 (by decide) ?_
      have h9 := Option.some.inj hF_84
      subst h9
      exact W.vret hx hb hr (fun t ht hW => ⟨⟨(), rfl, trivial, m_end ht hP, hDD _⟩, hS.F ht⟩) hS.2.2 dX4_itemWord_343
    have hF_85 := ineg c_77 hF_76
    clear hF_76
    by_cases c_86 : u_1.1 = 239
    · have hF_87 := ipos c_86 hF_85
      clear hF_85
      refine lv_tableIn (off := 177) (tgt := 238) hx hb dX4_itemWord_61 (by rw [c_86]; decide +kernel) (by rw [c_86]; decide +kernel) (by rw [c_86]; decide +kernel) (by decide) ?_
      refine lv_aload_n hx hb dX4_itemWord_238 rfl (lv_at hl 0 rfl) ?_
      refine lv_iload_n hx hb dX4_itemWord_239 rfl (lv_at hl 1 rfl) ?_
      obtain ⟨u_88, hu_88, hF_89⟩ := Option.bind_eq_some_iff.mp hF_87
      clear hF_87
      have hPc := bx_P (bs := [b_m cB cC cI cJ cZ oA rA σ_5, b_w cB cC cI cJ cZ oA rA σ_5, b_s cB cC cI cJ cZ oA rA σ_5, b_c cB cC cI cJ cZ oA rA σ_5, b_t cB cC cI cJ cZ oA rA σ_5, b_d cB cC cI cJ cZ oA rA σ_5]) (bs' := [b_m cB cC cI cJ cZ oA rA σ_5, b_w cB cC cI cJ cZ oA rA σ_5, b_s cB cC cI cJ cZ oA rA σ_5, b_c cB cC cI cJ cZ oA rA σ_5, b_t cB cC cI cJ cZ oA rA σ_5, b_d cB cC cI cJ cZ oA rA σ_5]) (ws' := (b_m cB cC cI cJ cZ oA rA σ_5 ++ b_w cB cC cI cJ cZ oA rA σ_5 ++ b_s cB cC cI cJ cZ oA rA σ_5 ++ b_c cB cC cI cJ cZ oA rA σ_5 ++ b_t cB cC cI cJ cZ oA rA σ_5 ++ b_d cB cC cI cJ cZ oA rA σ_5)) hP fl_6 fl_6 [0, 1, 2, 3, 4, 5] rfl
      have hDc := bx_D (bs := [b_m cB cC cI cJ cZ oA rA σ_5, b_w cB cC cI cJ cZ oA rA σ_5, b_s cB cC cI cJ cZ oA rA σ_5, b_c cB cC cI cJ cZ oA rA σ_5, b_t cB cC cI cJ cZ oA rA σ_5, b_d cB cC cI cJ cZ oA rA σ_5]) (bs' := [b_m cB cC cI cJ cZ oA rA σ_5, b_w cB cC cI cJ cZ oA rA σ_5, b_s cB cC cI cJ cZ oA rA σ_5, b_c cB cC cI cJ cZ oA rA σ_5, b_t cB cC cI cJ cZ oA rA σ_5, b_d cB cC cI cJ cZ oA rA σ_5]) (ws' := (b_m cB cC cI cJ cZ oA rA σ_5 ++ b_w cB cC cI cJ cZ oA rA σ_5 ++ b_s cB cC cI cJ cZ oA rA σ_5 ++ b_c cB cC cI cJ cZ oA rA σ_5 ++ b_t cB cC cI cJ cZ oA rA σ_5 ++ b_d cB cC cI cJ cZ oA rA σ_5)) (hDD σ_5) fl_6 fl_6 [0, 1, 2, 3, 4, 5] (by decide +kernel) rfl
      have hFc := bx_F (bs := [b_m cB cC cI cJ cZ oA rA σ_5, b_w cB cC cI cJ cZ oA rA σ_5, b_s cB cC cI cJ cZ oA rA σ_5, b_c cB cC cI cJ cZ oA rA σ_5, b_t cB cC cI cJ cZ oA rA σ_5, b_d cB cC cI cJ cZ oA rA σ_5]) (bs' := [b_m cB cC cI cJ cZ oA rA σ_5, b_w cB cC cI cJ cZ oA rA σ_5, b_s cB cC cI cJ cZ oA rA σ_5, b_c cB cC cI cJ cZ oA rA σ_5, b_t cB cC cI cJ cZ oA rA σ_5, b_d cB cC cI cJ cZ oA rA σ_5]) (wc := (b_m cB cC cI cJ cZ oA rA σ_5 ++ b_w cB cC cI cJ cZ oA rA σ_5 ++ b_s cB cC cI cJ cZ oA rA σ_5 ++ b_c cB cC cI cJ cZ oA rA σ_5 ++ b_t cB cC cI cJ cZ oA rA σ_5 ++ b_d cB cC cI cJ cZ oA rA σ_5)) (hDD σ_5) hS hA fl_6 fl_6 [0, 1, 2, 3, 4, 5] rfl
      refine g_ofv (wc := (b_m cB cC cI cJ cZ oA rA σ_5 ++ b_w cB cC cI cJ cZ oA rA σ_5 ++ b_s cB cC cI cJ cZ oA rA σ_5 ++ b_c cB cC cI cJ cZ oA rA σ_5 ++ b_t cB cC cI cJ cZ oA rA σ_5 ++ b_d cB cC cI cJ cZ oA rA σ_5)) (wr := ([] : va_W)) hP (hDD σ_5) hS hFc (bx_ix [b_m cB cC cI cJ cZ oA rA σ_5, b_w cB cC cI cJ cZ oA rA σ_5, b_s cB cC cI cJ cZ oA rA σ_5, b_c cB cC cI cJ cZ oA rA σ_5, b_t cB cC cI cJ cZ oA rA σ_5, b_d cB cC cI cJ cZ oA rA σ_5] [0, 1, 2, 3, 4, 5]) (bx_ix [b_m cB cC cI cJ cZ oA rA σ_5, b_w cB cC cI cJ cZ oA rA σ_5, b_s cB cC cI cJ cZ oA rA σ_5, b_c cB cC cI cJ cZ oA rA σ_5, b_t cB cC cI cJ cZ oA rA σ_5, b_d cB cC cI cJ cZ oA rA σ_5] []) (bx_C (bs := [b_m cB cC cI cJ cZ oA rA σ_5, b_w cB cC cI cJ cZ oA rA σ_5, b_s cB cC cI cJ cZ oA rA σ_5, b_c cB cC cI cJ cZ oA rA σ_5, b_t cB cC cI cJ cZ oA rA σ_5, b_d cB cC cI cJ cZ oA rA σ_5]) (bs' := [b_m cB cC cI cJ cZ oA rA σ_5, b_w cB cC cI cJ cZ oA rA σ_5, b_s cB cC cI cJ cZ oA rA σ_5, b_c cB cC cI cJ cZ oA rA σ_5, b_t cB cC cI cJ cZ oA rA σ_5, b_d cB cC cI cJ cZ oA rA σ_5]) (is := [0, 1, 2, 3, 4, 5]) fl_6 fl_6 rfl) (bx_C (bs := [b_m cB cC cI cJ cZ oA rA σ_5, b_w cB cC cI cJ cZ oA rA σ_5, b_s cB cC cI cJ cZ oA rA σ_5, b_c cB cC cI cJ cZ oA rA σ_5, b_t cB cC cI cJ cZ oA rA σ_5, b_d cB cC cI cJ cZ oA rA σ_5]) (bs' := []) (is := []) fl_6 fl_0 rfl) (bx_n (by decide +kernel)) (bx_d (by decide +kernel)) (va_runV (As := [.int p0]) (rest := []) ⟨hx, hb, hml, hown, hts⟩ (k_X4_exitPart l dC dI cB cC cI cJ cZ cP oA rA H.size  p0 σ_5 _ hu_88) (cwV 1 hts (g_gV wq_779 wq_780 wq_2053 wq_4 wq_781) rfl rfl rfl (by decide +kernel) ⟨Nat.le_of_ble_eq_true rfl, Nat.le_of_ble_eq_true rfl⟩) (g_preV g_bl0 hK hPc hDc hS hE hFc g_to0 (q0 := 0) (ci := 4) rfl rfl) rfl rfl hl.1 rfl (lv_room (Nat.le_of_ble_eq_true rfl)) dX4_itemWord_240 ⟨Nat.le_of_ble_eq_true rfl, Nat.le_of_ble_eq_true rfl⟩) (fun u9 H locs hw9 hP' hD' hS => ?_)
      clear hPc hDc hFc
      have hP : va_P (dC, dI) vwCl (b_m cB cC cI cJ cZ oA rA u_88.2 ++ b_w cB cC cI cJ cZ oA rA u_88.2 ++ b_s cB cC cI cJ cZ oA rA u_88.2 ++ b_c cB cC cI cJ cZ oA rA u_88.2 ++ b_t cB cC cI cJ cZ oA rA u_88.2 ++ b_d cB cC cI cJ cZ oA rA u_88.2) H := hP'
      clear hP' hD'
      refine lv_goto (tgt := 343) hx hb dX4_itemWord_243 (by decide) ?_
      have h9 := Option.some.inj hF_89
      subst h9
      exact W.vret hx hb hr (fun t ht hW => ⟨⟨(), rfl, trivial, m_end ht hP, hDD _⟩, hS.F ht⟩) hS.2.2 dX4_itemWord_343
    have hF_90 := ineg c_86 hF_85
    clear hF_85
    by_cases c_91 : u_1.1 = 240
    · have hF_92 := ipos c_91 hF_90
      clear hF_90
      refine lv_tableIn (off := 195) (tgt := 256) hx hb dX4_itemWord_61 (by rw [c_91]; decide +kernel) (by rw [c_91]; decide +kernel) (by rw [c_91]; decide +kernel) (by decide) ?_
      refine lv_aload_n hx hb dX4_itemWord_256 rfl (lv_at hl 0 rfl) ?_
      refine lv_aload_n hx hb dX4_itemWord_257 rfl (lv_at hl 0 rfl) ?_
      refine va_get (D := (dC, dI)) (ci := 4) (v := .int ((σ_5 3).1 13)) (C := RX4) (T := TX4) (N := 18) hx hb hts ii_X4 hown hK hP 0 rfl rfl 13 (by decide) (hts (.fieldLink RX4 190 "StoryHouse$Meanings" "object" "I") wq_99) (fun _ h9 => h9) rfl dX4_itemWord_258 ?_
      refine lv_iload_n hx hb dX4_itemWord_261 rfl (lv_at hl 1 rfl) ?_
      refine lv_iconst (v := 1) hx hb dX4_itemWord_262 (by decide +kernel) ?_
      refine lv_iadd hx hb dX4_itemWord_263 ?_
      obtain ⟨u_93, hu_93, hF_94⟩ := Option.bind_eq_some_iff.mp hF_92
      clear hF_92
      have hPc := bx_P (bs := [b_m cB cC cI cJ cZ oA rA σ_5, b_w cB cC cI cJ cZ oA rA σ_5, b_s cB cC cI cJ cZ oA rA σ_5, b_c cB cC cI cJ cZ oA rA σ_5, b_t cB cC cI cJ cZ oA rA σ_5, b_d cB cC cI cJ cZ oA rA σ_5]) (bs' := [b_m cB cC cI cJ cZ oA rA σ_5, b_w cB cC cI cJ cZ oA rA σ_5, b_s cB cC cI cJ cZ oA rA σ_5, b_c cB cC cI cJ cZ oA rA σ_5, b_t cB cC cI cJ cZ oA rA σ_5, b_d cB cC cI cJ cZ oA rA σ_5]) (ws' := (b_m cB cC cI cJ cZ oA rA σ_5 ++ b_w cB cC cI cJ cZ oA rA σ_5 ++ b_s cB cC cI cJ cZ oA rA σ_5 ++ b_c cB cC cI cJ cZ oA rA σ_5 ++ b_t cB cC cI cJ cZ oA rA σ_5 ++ b_d cB cC cI cJ cZ oA rA σ_5)) hP fl_6 fl_6 [0, 1, 2, 3, 4, 5] rfl
      have hDc := bx_D (bs := [b_m cB cC cI cJ cZ oA rA σ_5, b_w cB cC cI cJ cZ oA rA σ_5, b_s cB cC cI cJ cZ oA rA σ_5, b_c cB cC cI cJ cZ oA rA σ_5, b_t cB cC cI cJ cZ oA rA σ_5, b_d cB cC cI cJ cZ oA rA σ_5]) (bs' := [b_m cB cC cI cJ cZ oA rA σ_5, b_w cB cC cI cJ cZ oA rA σ_5, b_s cB cC cI cJ cZ oA rA σ_5, b_c cB cC cI cJ cZ oA rA σ_5, b_t cB cC cI cJ cZ oA rA σ_5, b_d cB cC cI cJ cZ oA rA σ_5]) (ws' := (b_m cB cC cI cJ cZ oA rA σ_5 ++ b_w cB cC cI cJ cZ oA rA σ_5 ++ b_s cB cC cI cJ cZ oA rA σ_5 ++ b_c cB cC cI cJ cZ oA rA σ_5 ++ b_t cB cC cI cJ cZ oA rA σ_5 ++ b_d cB cC cI cJ cZ oA rA σ_5)) (hDD σ_5) fl_6 fl_6 [0, 1, 2, 3, 4, 5] (by decide +kernel) rfl
      have hFc := bx_F (bs := [b_m cB cC cI cJ cZ oA rA σ_5, b_w cB cC cI cJ cZ oA rA σ_5, b_s cB cC cI cJ cZ oA rA σ_5, b_c cB cC cI cJ cZ oA rA σ_5, b_t cB cC cI cJ cZ oA rA σ_5, b_d cB cC cI cJ cZ oA rA σ_5]) (bs' := [b_m cB cC cI cJ cZ oA rA σ_5, b_w cB cC cI cJ cZ oA rA σ_5, b_s cB cC cI cJ cZ oA rA σ_5, b_c cB cC cI cJ cZ oA rA σ_5, b_t cB cC cI cJ cZ oA rA σ_5, b_d cB cC cI cJ cZ oA rA σ_5]) (wc := (b_m cB cC cI cJ cZ oA rA σ_5 ++ b_w cB cC cI cJ cZ oA rA σ_5 ++ b_s cB cC cI cJ cZ oA rA σ_5 ++ b_c cB cC cI cJ cZ oA rA σ_5 ++ b_t cB cC cI cJ cZ oA rA σ_5 ++ b_d cB cC cI cJ cZ oA rA σ_5)) (hDD σ_5) hS hA fl_6 fl_6 [0, 1, 2, 3, 4, 5] rfl
      refine g_ofi (wc := (b_m cB cC cI cJ cZ oA rA σ_5 ++ b_w cB cC cI cJ cZ oA rA σ_5 ++ b_s cB cC cI cJ cZ oA rA σ_5 ++ b_c cB cC cI cJ cZ oA rA σ_5 ++ b_t cB cC cI cJ cZ oA rA σ_5 ++ b_d cB cC cI cJ cZ oA rA σ_5)) (wr := ([] : va_W)) hP (hDD σ_5) hS hFc (bx_ix [b_m cB cC cI cJ cZ oA rA σ_5, b_w cB cC cI cJ cZ oA rA σ_5, b_s cB cC cI cJ cZ oA rA σ_5, b_c cB cC cI cJ cZ oA rA σ_5, b_t cB cC cI cJ cZ oA rA σ_5, b_d cB cC cI cJ cZ oA rA σ_5] [0, 1, 2, 3, 4, 5]) (bx_ix [b_m cB cC cI cJ cZ oA rA σ_5, b_w cB cC cI cJ cZ oA rA σ_5, b_s cB cC cI cJ cZ oA rA σ_5, b_c cB cC cI cJ cZ oA rA σ_5, b_t cB cC cI cJ cZ oA rA σ_5, b_d cB cC cI cJ cZ oA rA σ_5] []) (bx_C (bs := [b_m cB cC cI cJ cZ oA rA σ_5, b_w cB cC cI cJ cZ oA rA σ_5, b_s cB cC cI cJ cZ oA rA σ_5, b_c cB cC cI cJ cZ oA rA σ_5, b_t cB cC cI cJ cZ oA rA σ_5, b_d cB cC cI cJ cZ oA rA σ_5]) (bs' := [b_m cB cC cI cJ cZ oA rA σ_5, b_w cB cC cI cJ cZ oA rA σ_5, b_s cB cC cI cJ cZ oA rA σ_5, b_c cB cC cI cJ cZ oA rA σ_5, b_t cB cC cI cJ cZ oA rA σ_5, b_d cB cC cI cJ cZ oA rA σ_5]) (is := [0, 1, 2, 3, 4, 5]) fl_6 fl_6 rfl) (bx_C (bs := [b_m cB cC cI cJ cZ oA rA σ_5, b_w cB cC cI cJ cZ oA rA σ_5, b_s cB cC cI cJ cZ oA rA σ_5, b_c cB cC cI cJ cZ oA rA σ_5, b_t cB cC cI cJ cZ oA rA σ_5, b_d cB cC cI cJ cZ oA rA σ_5]) (bs' := []) (is := []) fl_6 fl_0 rfl) (bx_n (by decide +kernel)) (bx_d (by decide +kernel)) (va_runV (As := [.int ((σ_5 3).1 13), .int (p0 + 1)]) (rest := []) ⟨hx, hb, hml, hown, hts⟩ (k_X4_ownWords l dC dI cB cC cI cJ cZ cP oA rA H.size  ((σ_5 3).1 13) (p0 + 1) σ_5 _ hu_93) (cwV 2 hts (g_gV wq_785 wq_786 wq_2055 wq_4 wq_787) rfl rfl rfl (by decide +kernel) ⟨Nat.le_of_ble_eq_true rfl, Nat.le_of_ble_eq_true rfl⟩) (g_preV g_bl0 hK hPc hDc hS hE hFc g_to0 (q0 := 0) (ci := 4) rfl rfl) rfl rfl hl.1 rfl (lv_room (Nat.le_of_ble_eq_true rfl)) dX4_itemWord_264 ⟨Nat.le_of_ble_eq_true rfl, Nat.le_of_ble_eq_true rfl⟩) (fun r9 u9 H locs hw9 hP' hD' hS => ?_)
      clear hPc hDc hFc
      subst hw9
      have hP : va_P (dC, dI) vwCl (b_m cB cC cI cJ cZ oA rA u_93.2 ++ b_w cB cC cI cJ cZ oA rA u_93.2 ++ b_s cB cC cI cJ cZ oA rA u_93.2 ++ b_c cB cC cI cJ cZ oA rA u_93.2 ++ b_t cB cC cI cJ cZ oA rA u_93.2 ++ b_d cB cC cI cJ cZ oA rA u_93.2) H := hP'
      clear hP' hD'
      refine lv_pop hx hb dX4_itemWord_267 rfl ?_
      refine lv_goto (tgt := 343) hx hb dX4_itemWord_268 (by decide) ?_
      have h9 := Option.some.inj hF_94
      subst h9
      exact W.vret hx hb hr (fun t ht hW => ⟨⟨(), rfl, trivial, m_end ht hP, hDD _⟩, hS.F ht⟩) hS.2.2 dX4_itemWord_343
    have hF_95 := ineg c_91 hF_90
    clear hF_90
    refine m_tabD (lo := 219) (n := 22) (tgt := 343) hx hb dX4_itemWord_61 (by decide +kernel) (by decide) (fun j9 h9 e9 => by
        match j9, h9 with
        | 0, _ => exact absurd ((by rw [e9]; decide +kernel)) c_9
        | 1, _ => rfl
        | 2, _ => rfl
        | 3, _ => rfl
        | 4, _ => rfl
        | 5, _ => rfl
        | 6, _ => rfl
        | 7, _ => rfl
        | 8, _ => rfl
        | 9, _ => rfl
        | 10, _ => rfl
        | 11, _ => exact absurd (Or.inl (by rw [e9]; decide +kernel)) c_14
        | 12, _ => exact absurd (Or.inr ((by rw [e9]; decide +kernel))) c_14
        | 13, _ => exact absurd ((by rw [e9]; decide +kernel)) c_37
        | 14, _ => exact absurd ((by rw [e9]; decide +kernel)) c_42
        | 15, _ => rfl
        | 16, _ => exact absurd ((by rw [e9]; decide +kernel)) c_47
        | 17, _ => exact absurd ((by rw [e9]; decide +kernel)) c_72
        | 18, _ => rfl
        | 19, _ => exact absurd ((by rw [e9]; decide +kernel)) c_77
        | 20, _ => exact absurd ((by rw [e9]; decide +kernel)) c_86
        | 21, _ => exact absurd ((by rw [e9]; decide +kernel)) c_91
        | n9 + 22, h9 => exact absurd h9 (by omega)) ?_
    have h9 := Option.some.inj hF_95
    subst h9
    exact W.vret hx hb hr (fun t ht hW => ⟨⟨(), rfl, trivial, m_end ht hP, hDD _⟩, hS.F ht⟩) hS.2.2 dX4_itemWord_343
  refine lv_icmp_lt (tgt := 60) hx hb dX4_itemWord_13 (by decide) (fun c_96 => ?_) (fun c_96 => ?_)
  · have hF_97 := ipos c_96 hF_7
    clear hF_7
    exact Jj_6  σ_3 hF_97 _ _ hP hS ls (lv_sub hl [1, 2, 0] rfl)
  · have hF_98 := ineg c_96 hF_7
    clear hF_7
    refine lv_iload_n hx hb dX4_itemWord_16 rfl (lv_at hl 0 rfl) ?_
    refine lv_sipush (v := 212) hx hb dX4_itemWord_17 (by decide +kernel) ?_
    refine lv_icmp_gt (tgt := 60) hx hb dX4_itemWord_20 (by decide) (fun c_99 => ?_) (fun c_99 => ?_)
    · have hF_100 := ipos c_99 hF_98
      clear hF_98
      exact Jj_6  σ_3 hF_100 _ _ hP hS ls (lv_sub hl [1, 2, 0] rfl)
    · have hF_101 := ineg c_99 hF_98
      clear hF_98
      refine lv_aload_n hx hb dX4_itemWord_23 rfl (lv_at hl 1 rfl) ?_
      refine va_get (D := (dC, dI)) (ci := 4) (v := .ref (oA 4)) (C := RX4) (T := TX4) (N := 18) hx hb hts ii_X4 hown hK hP 0 rfl rfl 1 (by decide) (hts (.fieldLink RX4 36 "StoryHouse$Meanings" "story" "LStoryHouse$Story;") wq_87) (fun _ h9 => h9) rfl dX4_itemWord_24 ?_
      refine va_get (D := (dC, dI)) (ci := 7) (v := .ref (rA 4 5)) (C := RX7) (T := TX7) (N := 19) hx hb hts ii_X7 hown hK hP 16 rfl rfl 5 (by decide) (hts (.fieldLink RX4 187 "StoryHouse$Story" "traits" "[I") wq_167) (fun _ h9 => h9) rfl dX4_itemWord_27 ?_
      refine lv_aload_n hx hb dX4_itemWord_30 rfl (lv_at hl 1 rfl) ?_
      refine va_get (D := (dC, dI)) (ci := 4) (v := .int ((σ_3 3).1 13)) (C := RX4) (T := TX4) (N := 18) hx hb hts ii_X4 hown hK hP 0 rfl rfl 13 (by decide) (hts (.fieldLink RX4 190 "StoryHouse$Meanings" "object" "I") wq_99) (fun _ h9 => h9) rfl dX4_itemWord_31 ?_
      refine lv_aload_n hx hb dX4_itemWord_34 rfl (lv_at hl 1 rfl) ?_
      refine va_get (D := (dC, dI)) (ci := 4) (v := .ref (oA 4)) (C := RX4) (T := TX4) (N := 18) hx hb hts ii_X4 hown hK hP 0 rfl rfl 1 (by decide) (hts (.fieldLink RX4 36 "StoryHouse$Meanings" "story" "LStoryHouse$Story;") wq_87) (fun _ h9 => h9) rfl dX4_itemWord_35 ?_
      refine va_get (D := (dC, dI)) (ci := 7) (v := .ref (rA 4 5)) (C := RX7) (T := TX7) (N := 19) hx hb hts ii_X7 hown hK hP 16 rfl rfl 5 (by decide) (hts (.fieldLink RX4 187 "StoryHouse$Story" "traits" "[I") wq_167) (fun _ h9 => h9) rfl dX4_itemWord_38 ?_
      refine lv_aload_n hx hb dX4_itemWord_41 rfl (lv_at hl 1 rfl) ?_
      refine va_get (D := (dC, dI)) (ci := 4) (v := .int ((σ_3 3).1 13)) (C := RX4) (T := TX4) (N := 18) hx hb hts ii_X4 hown hK hP 0 rfl rfl 13 (by decide) (hts (.fieldLink RX4 190 "StoryHouse$Meanings" "object" "I") wq_99) (fun _ h9 => h9) rfl dX4_itemWord_42 ?_
      obtain ⟨x_102, ex_102, hF_103⟩ := bnd_e hF_101
      clear hF_101
      refine m_top ex_102 ?_
      have hq9 : ((b_m cB cC cI cJ cZ oA rA σ_3 ++ b_w cB cC cI cJ cZ oA rA σ_3 ++ b_s cB cC cI cJ cZ oA rA σ_3 ++ b_c cB cC cI cJ cZ oA rA σ_3 ++ b_t cB cC cI cJ cZ oA rA σ_3 ++ b_d cB cC cI cJ cZ oA rA σ_3))[22]? = some (rA 4 5, .inl (cI, 121, .inl ((σ_3 4).2.1 5))) := rfl
      have hPc := hP.sub (ws' := [(rA 4 5, .inl (cI, 121, .inl ((σ_3 4).2.1 5)))]) [22] (pk_fm (er_C hq9))
      have hDc := (hDD σ_3).sub (ws' := [(rA 4 5, .inl (cI, 121, .inl ((σ_3 4).2.1 5)))]) [22] (by decide +kernel) (er_C hq9)
      have hFc := va_free (wc := [(rA 4 5, .inl (cI, 121, .inl ((σ_3 4).2.1 5)))]) (hDD σ_3) hS hA [22] (er_C hq9)
      refine g_ofi (wc := [(rA 4 5, .inl (cI, 121, .inl ((σ_3 4).2.1 5)))]) (wr := (((b_m cB cC cI cJ cZ oA rA σ_3 ++ b_w cB cC cI cJ cZ oA rA σ_3 ++ b_s cB cC cI cJ cZ oA rA σ_3 ++ b_c cB cC cI cJ cZ oA rA σ_3 ++ b_t cB cC cI cJ cZ oA rA σ_3 ++ b_d cB cC cI cJ cZ oA rA σ_3)).eraseIdx 22)) hP (hDD σ_3) hS hFc [22] ((List.range ((b_m cB cC cI cJ cZ oA rA σ_3 ++ b_w cB cC cI cJ cZ oA rA σ_3 ++ b_s cB cC cI cJ cZ oA rA σ_3 ++ b_c cB cC cI cJ cZ oA rA σ_3 ++ b_t cB cC cI cJ cZ oA rA σ_3 ++ b_d cB cC cI cJ cZ oA rA σ_3)).length).eraseIdx 22) (er_C hq9) er_R er_n er_d (va_runSN (As := [.ref (rA 4 5), .int x_102]) (rest := [.int ((σ_3 3).1 13), .ref (rA 4 5)]) ⟨hx, hb, hml, hown, hts⟩ (c_X11_at l dC dI cB cC cI cJ cZ cP H.size (rA 4 5) x_102 121 ((σ_3 4).2.1 5) (by decide)) ⟨va_cnB 2 hts (g_gA wq_407) rfl rfl rfl (nw_24 hN) (hts (.initialized RX11) wq_1) (by decide +kernel) ⟨Nat.le_of_ble_eq_true rfl, Nat.le_of_ble_eq_true rfl⟩, (hts (.static yX11_at) wq_406), trivial⟩ (g_preS g_bl0 hK hPc hDc hS hE hFc g_to0) rfl rfl hl.1 rfl (lv_room (Nat.le_of_ble_eq_true rfl)) dX4_itemWord_45 ⟨Nat.le_of_ble_eq_true rfl, Nat.le_of_ble_eq_true rfl⟩) (fun r9 u9 H locs hw9 hP' hD' hS => ?_)
      clear hPc hDc hFc hD'
      have hP : va_P (dC, dI) vwCl (b_m cB cC cI cJ cZ oA rA σ_3 ++ b_w cB cC cI cJ cZ oA rA σ_3 ++ b_s cB cC cI cJ cZ oA rA σ_3 ++ b_c cB cC cI cJ cZ oA rA σ_3 ++ b_t cB cC cI cJ cZ oA rA σ_3 ++ b_d cB cC cI cJ cZ oA rA σ_3) H := er_I hP' hq9
      clear hP' hq9
      subst hw9
      obtain ⟨x_104, ex_104, hF_105⟩ := bnd_e hF_103
      clear hF_103
      refine m_top ex_104 ?_
      refine lv_iconst (v := 1) hx hb dX4_itemWord_48 (by decide +kernel) ?_
      refine lv_iload_n hx hb dX4_itemWord_49 rfl (lv_at hl 0 rfl) ?_
      refine lv_sipush (v := 206) hx hb dX4_itemWord_50 (by decide +kernel) ?_
      refine lv_isub hx hb dX4_itemWord_53 ?_
      refine lv_ishl hx hb dX4_itemWord_54 ?_
      refine lv_ior hx hb dX4_itemWord_55 ?_
      obtain ⟨x_106, ex_106, hF_107⟩ := bnd_e hF_105
      clear hF_105
      refine m_top ex_106 ?_
      have hq9 : ((b_m cB cC cI cJ cZ oA rA σ_3 ++ b_w cB cC cI cJ cZ oA rA σ_3 ++ b_s cB cC cI cJ cZ oA rA σ_3 ++ b_c cB cC cI cJ cZ oA rA σ_3 ++ b_t cB cC cI cJ cZ oA rA σ_3 ++ b_d cB cC cI cJ cZ oA rA σ_3))[22]? = some (rA 4 5, .inl (cI, 121, .inl ((σ_3 4).2.1 5))) := rfl
      have hPc := hP.sub (ws' := [(rA 4 5, .inl (cI, 121, .inl ((σ_3 4).2.1 5)))]) [22] (pk_fm (er_C hq9))
      have hDc := (hDD σ_3).sub (ws' := [(rA 4 5, .inl (cI, 121, .inl ((σ_3 4).2.1 5)))]) [22] (by decide +kernel) (er_C hq9)
      have hFc := va_free (wc := [(rA 4 5, .inl (cI, 121, .inl ((σ_3 4).2.1 5)))]) (hDD σ_3) hS hA [22] (er_C hq9)
      refine g_ofv (wc := [(rA 4 5, .inl (cI, 121, .inl ((σ_3 4).2.1 5)))]) (wr := (((b_m cB cC cI cJ cZ oA rA σ_3 ++ b_w cB cC cI cJ cZ oA rA σ_3 ++ b_s cB cC cI cJ cZ oA rA σ_3 ++ b_c cB cC cI cJ cZ oA rA σ_3 ++ b_t cB cC cI cJ cZ oA rA σ_3 ++ b_d cB cC cI cJ cZ oA rA σ_3)).eraseIdx 22)) hP (hDD σ_3) hS hFc [22] ((List.range ((b_m cB cC cI cJ cZ oA rA σ_3 ++ b_w cB cC cI cJ cZ oA rA σ_3 ++ b_s cB cC cI cJ cZ oA rA σ_3 ++ b_c cB cC cI cJ cZ oA rA σ_3 ++ b_t cB cC cI cJ cZ oA rA σ_3 ++ b_d cB cC cI cJ cZ oA rA σ_3)).length).eraseIdx 22) (er_C hq9) er_R er_n er_d (va_runSN (As := [.ref (rA 4 5), .int ((σ_3 3).1 13), .int x_106]) (rest := []) ⟨hx, hb, hml, hown, hts⟩ (c_X11_put l dC dI cB cC cI cJ cZ cP H.size (rA 4 5) ((σ_3 3).1 13) x_106 121 ((σ_3 4).2.1 5) (by decide)) ⟨va_cnB 3 hts (g_gA wq_412) rfl rfl rfl (nw_23 hN) (hts (.initialized RX11) wq_1) (by decide +kernel) ⟨Nat.le_of_ble_eq_true rfl, Nat.le_of_ble_eq_true rfl⟩, (hts (.static yX11_put) wq_411), trivial⟩ (g_preS g_bl0 hK hPc hDc hS hE hFc g_to0) rfl rfl hl.1 rfl (lv_room (Nat.le_of_ble_eq_true rfl)) dX4_itemWord_56 ⟨Nat.le_of_ble_eq_true rfl, Nat.le_of_ble_eq_true rfl⟩) (fun g9 H locs hw9 hP' hD' hS => ?_)
      clear hPc hDc hFc hD'
      obtain ⟨σ_108, eσ_108, hF_109⟩ := bnd_e hF_107
      clear hF_107
      subst hw9
      have hP : va_P (dC, dI) vwCl (b_m cB cC cI cJ cZ oA rA σ_108 ++ b_w cB cC cI cJ cZ oA rA σ_108 ++ b_s cB cC cI cJ cZ oA rA σ_108 ++ b_c cB cC cI cJ cZ oA rA σ_108 ++ b_t cB cC cI cJ cZ oA rA σ_108 ++ b_d cB cC cI cJ cZ oA rA σ_108) H := by rw [eσ_108]; exact cs_mwsctd_s_5 ▸ er_P hP' (er_lt hq9)
      clear hP' hq9
      have h9 := Option.some.inj hF_109
      subst h9
      exact W.vret hx hb hr (fun t ht hW => ⟨⟨(), rfl, trivial, m_end ht hP, hDD _⟩, hS.F ht⟩) hS.2.2 dX4_itemWord_59
theorem dX4_startGoing_0 : decode cX4_startGoing 0 = .ok (.aload_n 0, 1) := by decide +kernel
theorem dX4_startGoing_1 : decode cX4_startGoing 1 = .ok (.iconst 0, 1) := by decide +kernel
theorem dX4_startGoing_2 : decode cX4_startGoing 2 = .ok (.putfield 126, 3) := by decide +kernel
theorem dX4_startGoing_5 : decode cX4_startGoing 5 = .ok (.aload_n 0, 1) := by decide +kernel
theorem dX4_startGoing_6 : decode cX4_startGoing 6 = .ok (.iconst 0, 1) := by decide +kernel
theorem dX4_startGoing_7 : decode cX4_startGoing 7 = .ok (.putfield 129, 3) := by decide +kernel
theorem dX4_startGoing_10 : decode cX4_startGoing 10 = .ok (.aload_n 0, 1) := by decide +kernel
theorem dX4_startGoing_11 : decode cX4_startGoing 11 = .ok (.iconst (-1), 1) := by decide +kernel
theorem dX4_startGoing_12 : decode cX4_startGoing 12 = .ok (.putfield 132, 3) := by decide +kernel
theorem dX4_startGoing_15 : decode cX4_startGoing 15 = .ok (.aload_n 0, 1) := by decide +kernel
theorem dX4_startGoing_16 : decode cX4_startGoing 16 = .ok (.iconst 0, 1) := by decide +kernel
theorem dX4_startGoing_17 : decode cX4_startGoing 17 = .ok (.putfield 66, 3) := by decide +kernel
theorem dX4_startGoing_20 : decode cX4_startGoing 20 = .ok (.aload_n 0, 1) := by decide +kernel
theorem dX4_startGoing_21 : decode cX4_startGoing 21 = .ok (.iconst 0, 1) := by decide +kernel
theorem dX4_startGoing_22 : decode cX4_startGoing 22 = .ok (.putfield 63, 3) := by decide +kernel
theorem dX4_startGoing_25 : decode cX4_startGoing 25 = .ok (.aload_n 0, 1) := by decide +kernel
theorem dX4_startGoing_26 : decode cX4_startGoing 26 = .ok (.iconst 0, 1) := by decide +kernel
theorem dX4_startGoing_27 : decode cX4_startGoing 27 = .ok (.putfield 135, 3) := by decide +kernel
theorem dX4_startGoing_30 : decode cX4_startGoing 30 = .ok (.return_, 1) := by decide +kernel
def F_X4_startGoing  (Γ : HS) : HR :=
  bnd (cI' Γ 3 7 0) fun σ_1 =>
  bnd (cI' σ_1 3 8 0) fun σ_3 =>
  bnd (cI' σ_3 3 9 (-1)) fun σ_5 =>
  bnd (cI' σ_5 3 11 0) fun σ_7 =>
  bnd (cI' σ_7 3 12 0) fun σ_9 =>
  bnd (cI' σ_9 3 15 0) fun σ_11 =>
  some (0, σ_11)
set_option maxHeartbeats 4000000 in
set_option maxRecDepth 100000 in
theorem k_X4_startGoing (l : Launch) (dC : Nat → ClassId) (dI : Nat → Nat → Nat) (cB cC cI cJ cZ cP : ClassId) (oA : Nat → Nat) (rA : Nat → Nat → Nat) (sz : Nat)   (Γ : HS) (res : Int32 × HS) (hF : F_X4_startGoing  Γ = some res) : Met l yX4_startGoing (g_ws yX4_startGoing cX4_startGoing 1 none) ({ frames := 1, cells := 0, slots := 0, locals := 40 }) (va_Pc [.ref (oA 3)] (g_B (dC, dI) [(cB, .byte), (cC, .char), (cI, .int), (cJ, .long), (cZ, .boolean), (cP, .object "StoryHouse$Play")] sz (b_m cB cC cI cJ cZ oA rA Γ ++ b_w cB cC cI cJ cZ oA rA Γ ++ b_s cB cC cI cJ cZ oA rA Γ ++ b_c cB cC cI cJ cZ oA rA Γ ++ b_t cB cC cI cJ cZ oA rA Γ ++ b_d cB cC cI cJ cZ oA rA Γ) g_0)) (va_Qv (fun (_ : Unit) => True) (g_Bo (dC, dI) (va_A (b_m cB cC cI cJ cZ oA rA Γ ++ b_w cB cC cI cJ cZ oA rA Γ ++ b_s cB cC cI cJ cZ oA rA Γ ++ b_c cB cC cI cJ cZ oA rA Γ ++ b_t cB cC cI cJ cZ oA rA Γ ++ b_d cB cC cI cJ cZ oA rA Γ) sz) (fun (_ : Unit) => (b_m cB cC cI cJ cZ oA rA res.2 ++ b_w cB cC cI cJ cZ oA rA res.2 ++ b_s cB cC cI cJ cZ oA rA res.2 ++ b_c cB cC cI cJ cZ oA rA res.2 ++ b_t cB cC cI cJ cZ oA rA res.2 ++ b_d cB cC cI cJ cZ oA rA res.2))) (va_A (b_m cB cC cI cJ cZ oA rA Γ ++ b_w cB cC cI cJ cZ oA rA Γ ++ b_s cB cC cI cJ cZ oA rA Γ ++ b_c cB cC cI cJ cZ oA rA Γ ++ b_t cB cC cI cJ cZ oA rA Γ ++ b_d cB cC cI cJ cZ oA rA Γ) sz)) 0 0 (va_A (b_m cB cC cI cJ cZ oA rA Γ ++ b_w cB cC cI cJ cZ oA rA Γ ++ b_s cB cC cI cJ cZ oA rA Γ ++ b_c cB cC cI cJ cZ oA rA Γ ++ b_t cB cC cI cJ cZ oA rA Γ ++ b_d cB cC cI cJ cZ oA rA Γ) sz) := by
  refine Met.ofW (cc := cX4_startGoing) (maxL := 1) (ret := none) (by decide) rfl ?_
  intro p e s m args below meth c s₁ B hml hv
  obtain ⟨rfl, hsz, hP, hK, hD0, hE, hX⟩ := hv
  have hx := B.exec
  have hb := B.bytes
  have hr := B.returns
  have hts0 := atoms_spec (ws := g_ws yX4_startGoing cX4_startGoing 1 none) B.pre
  have hts : ∀ w ∈ lw_good, w.before ([.ref (oA 3)] : List Value).toArray s = true := fun w z => hts0 w (List.mem_cons_of_mem _ z)
  have hown : s.vm.findClass RX4 = some m.cls := findClass_of_methodNamed B.named
  have hlocks := B.notSynchronized
  subst hsz
  have hD1 := hD0.self (sz := s.heap.size)
  generalize hAe : va_A (b_m cB cC cI cJ cZ oA rA Γ ++ b_w cB cC cI cJ cZ oA rA Γ ++ b_s cB cC cI cJ cZ oA rA Γ ++ b_c cB cC cI cJ cZ oA rA Γ ++ b_t cB cC cI cJ cZ oA rA Γ ++ b_d cB cC cI cJ cZ oA rA Γ) s.heap.size = A at hD1 hE hX ⊢
  have hA : ∀ q : Nat, s.heap.size ≤ q → A q := fun q z => by rw [← hAe]; exact Or.inr z
  have hDD : ∀ Γ : HS, va_D A (b_m cB cC cI cJ cZ oA rA Γ ++ b_w cB cC cI cJ cZ oA rA Γ ++ b_s cB cC cI cJ cZ oA rA Γ ++ b_c cB cC cI cJ cZ oA rA Γ ++ b_t cB cC cI cJ cZ oA rA Γ ++ b_d cB cC cI cJ cZ oA rA Γ) := fun Γ9 => va_D_fst (ws := (b_m cB cC cI cJ cZ oA rA Γ ++ b_w cB cC cI cJ cZ oA rA Γ ++ b_s cB cC cI cJ cZ oA rA Γ ++ b_c cB cC cI cJ cZ oA rA Γ ++ b_t cB cC cI cJ cZ oA rA Γ ++ b_d cB cC cI cJ cZ oA rA Γ)) (ws' := (b_m cB cC cI cJ cZ oA rA Γ9 ++ b_w cB cC cI cJ cZ oA rA Γ9 ++ b_s cB cC cI cJ cZ oA rA Γ9 ++ b_c cB cC cI cJ cZ oA rA Γ9 ++ b_t cB cC cI cJ cZ oA rA Γ9 ++ b_d cB cC cI cJ cZ oA rA Γ9)) rfl hD1
  have hN := hE.1
  have hS : va_S A s.heap s.heap [] := va_S.rf
  have hl := lv_entry ([.ref (oA 3)]) (n := 1) (Nat.le_of_ble_eq_true rfl)
  rw [lg_entry_eq]
  generalize (lg_sl ([.ref (oA 3)]) ++ List.replicate (1 - (lg_sl ([.ref (oA 3)])).length) Slot.unset).toArray = ls at hl ⊢
  have hl : lv_has ls 1 [(0, .ref (oA 3))] := hl
  unfold F_X4_startGoing at hF
  refine lv_aload_n hx hb dX4_startGoing_0 rfl (lv_at hl 0 rfl) ?_
  refine lv_iconst (v := 0) hx hb dX4_startGoing_1 (by decide +kernel) ?_
  obtain ⟨σ_1, eσ_1, hF_2⟩ := bnd_e hF
  clear hF
  refine va_put (D := (dC, dI)) (ci := 4) (v := .int 0) (ty := .int) (C := RX4) (T := TX4) (N := 18) hx hb hts ii_X4 tyX4 tyX4_ok nmX4 hown hK hP (hDD _) hS 0 rfl rfl 7 (by decide) (hts (.fieldLink RX4 126 "StoryHouse$Meanings" "seenCount" "I") wq_93) (fun _ h9 => h9) rfl (by decide +kernel) rfl rfl (Nat.le_of_ble_eq_true rfl) dX4_startGoing_2 (fun H locs hP' _ hS => ?_)
  have hP : va_P (dC, dI) vwCl (b_m cB cC cI cJ cZ oA rA σ_1 ++ b_w cB cC cI cJ cZ oA rA σ_1 ++ b_s cB cC cI cJ cZ oA rA σ_1 ++ b_c cB cC cI cJ cZ oA rA σ_1 ++ b_t cB cC cI cJ cZ oA rA σ_1 ++ b_d cB cC cI cJ cZ oA rA σ_1) H := by rw [eσ_1]; exact cs_mwsctd_m_7 ▸ hP'
  clear hP'
  refine lv_aload_n hx hb dX4_startGoing_5 rfl (lv_at hl 0 rfl) ?_
  refine lv_iconst (v := 0) hx hb dX4_startGoing_6 (by decide +kernel) ?_
  obtain ⟨σ_3, eσ_3, hF_4⟩ := bnd_e hF_2
  clear hF_2
  refine va_put (D := (dC, dI)) (ci := 4) (v := .int 0) (ty := .int) (C := RX4) (T := TX4) (N := 18) hx hb hts ii_X4 tyX4 tyX4_ok nmX4 hown hK hP (hDD _) hS 0 rfl rfl 8 (by decide) (hts (.fieldLink RX4 129 "StoryHouse$Meanings" "slots" "I") wq_94) (fun _ h9 => h9) rfl (by decide +kernel) rfl rfl (Nat.le_of_ble_eq_true rfl) dX4_startGoing_7 (fun H locs hP' _ hS => ?_)
  have hP : va_P (dC, dI) vwCl (b_m cB cC cI cJ cZ oA rA σ_3 ++ b_w cB cC cI cJ cZ oA rA σ_3 ++ b_s cB cC cI cJ cZ oA rA σ_3 ++ b_c cB cC cI cJ cZ oA rA σ_3 ++ b_t cB cC cI cJ cZ oA rA σ_3 ++ b_d cB cC cI cJ cZ oA rA σ_3) H := by rw [eσ_3]; exact cs_mwsctd_m_8 ▸ hP'
  clear hP'
  refine lv_aload_n hx hb dX4_startGoing_10 rfl (lv_at hl 0 rfl) ?_
  refine lv_iconst (v := (-1)) hx hb dX4_startGoing_11 (by decide +kernel) ?_
  obtain ⟨σ_5, eσ_5, hF_6⟩ := bnd_e hF_4
  clear hF_4
  refine va_put (D := (dC, dI)) (ci := 4) (v := .int (-1)) (ty := .int) (C := RX4) (T := TX4) (N := 18) hx hb hts ii_X4 tyX4 tyX4_ok nmX4 hown hK hP (hDD _) hS 0 rfl rfl 9 (by decide) (hts (.fieldLink RX4 132 "StoryHouse$Meanings" "pendingLet" "I") wq_95) (fun _ h9 => h9) rfl (by decide +kernel) rfl rfl (Nat.le_of_ble_eq_true rfl) dX4_startGoing_12 (fun H locs hP' _ hS => ?_)
  have hP : va_P (dC, dI) vwCl (b_m cB cC cI cJ cZ oA rA σ_5 ++ b_w cB cC cI cJ cZ oA rA σ_5 ++ b_s cB cC cI cJ cZ oA rA σ_5 ++ b_c cB cC cI cJ cZ oA rA σ_5 ++ b_t cB cC cI cJ cZ oA rA σ_5 ++ b_d cB cC cI cJ cZ oA rA σ_5) H := by rw [eσ_5]; exact cs_mwsctd_m_9 ▸ hP'
  clear hP'
  refine lv_aload_n hx hb dX4_startGoing_15 rfl (lv_at hl 0 rfl) ?_
  refine lv_iconst (v := 0) hx hb dX4_startGoing_16 (by decide +kernel) ?_
  obtain ⟨σ_7, eσ_7, hF_8⟩ := bnd_e hF_6
  clear hF_6
  refine va_put (D := (dC, dI)) (ci := 4) (v := .int 0) (ty := .int) (C := RX4) (T := TX4) (N := 18) hx hb hts ii_X4 tyX4 tyX4_ok nmX4 hown hK hP (hDD _) hS 0 rfl rfl 11 (by decide) (hts (.fieldLink RX4 66 "StoryHouse$Meanings" "depth" "I") wq_97) (fun _ h9 => h9) rfl (by decide +kernel) rfl rfl (Nat.le_of_ble_eq_true rfl) dX4_startGoing_17 (fun H locs hP' _ hS => ?_)
  have hP : va_P (dC, dI) vwCl (b_m cB cC cI cJ cZ oA rA σ_7 ++ b_w cB cC cI cJ cZ oA rA σ_7 ++ b_s cB cC cI cJ cZ oA rA σ_7 ++ b_c cB cC cI cJ cZ oA rA σ_7 ++ b_t cB cC cI cJ cZ oA rA σ_7 ++ b_d cB cC cI cJ cZ oA rA σ_7) H := by rw [eσ_7]; exact cs_mwsctd_m_11 ▸ hP'
  clear hP'
  refine lv_aload_n hx hb dX4_startGoing_20 rfl (lv_at hl 0 rfl) ?_
  refine lv_iconst (v := 0) hx hb dX4_startGoing_21 (by decide +kernel) ?_
  obtain ⟨σ_9, eσ_9, hF_10⟩ := bnd_e hF_8
  clear hF_8
  refine va_put (D := (dC, dI)) (ci := 4) (v := .int 0) (ty := .int) (C := RX4) (T := TX4) (N := 18) hx hb hts ii_X4 tyX4 tyX4_ok nmX4 hown hK hP (hDD _) hS 0 rfl rfl 12 (by decide) (hts (.fieldLink RX4 63 "StoryHouse$Meanings" "routine" "I") wq_98) (fun _ h9 => h9) rfl (by decide +kernel) rfl rfl (Nat.le_of_ble_eq_true rfl) dX4_startGoing_22 (fun H locs hP' _ hS => ?_)
  have hP : va_P (dC, dI) vwCl (b_m cB cC cI cJ cZ oA rA σ_9 ++ b_w cB cC cI cJ cZ oA rA σ_9 ++ b_s cB cC cI cJ cZ oA rA σ_9 ++ b_c cB cC cI cJ cZ oA rA σ_9 ++ b_t cB cC cI cJ cZ oA rA σ_9 ++ b_d cB cC cI cJ cZ oA rA σ_9) H := by rw [eσ_9]; exact cs_mwsctd_m_12 ▸ hP'
  clear hP'
  refine lv_aload_n hx hb dX4_startGoing_25 rfl (lv_at hl 0 rfl) ?_
  refine lv_iconst (v := 0) hx hb dX4_startGoing_26 (by decide +kernel) ?_
  obtain ⟨σ_11, eσ_11, hF_12⟩ := bnd_e hF_10
  clear hF_10
  refine va_put (D := (dC, dI)) (ci := 4) (v := .int 0) (ty := .int) (C := RX4) (T := TX4) (N := 18) hx hb hts ii_X4 tyX4 tyX4_ok nmX4 hown hK hP (hDD _) hS 0 rfl rfl 15 (by decide) (hts (.fieldLink RX4 135 "StoryHouse$Meanings" "ons" "I") wq_101) (fun _ h9 => h9) rfl (by decide +kernel) rfl rfl (Nat.le_of_ble_eq_true rfl) dX4_startGoing_27 (fun H locs hP' _ hS => ?_)
  have hP : va_P (dC, dI) vwCl (b_m cB cC cI cJ cZ oA rA σ_11 ++ b_w cB cC cI cJ cZ oA rA σ_11 ++ b_s cB cC cI cJ cZ oA rA σ_11 ++ b_c cB cC cI cJ cZ oA rA σ_11 ++ b_t cB cC cI cJ cZ oA rA σ_11 ++ b_d cB cC cI cJ cZ oA rA σ_11) H := by rw [eσ_11]; exact cs_mwsctd_m_15 ▸ hP'
  clear hP'
  have h9 := Option.some.inj hF_12
  subst h9
  exact W.vret hx hb hr (fun t ht hW => ⟨⟨(), rfl, trivial, m_end ht hP, hDD _⟩, hS.F ht⟩) hS.2.2 dX4_startGoing_30
