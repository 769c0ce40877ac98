/-! methods of the class: what each does is its function -/
theorem dX3_wideOp_0 : decode cX3_wideOp 0 = .ok (.iload_n 1, 1) := by decide +kernel
theorem dX3_wideOp_1 : decode cX3_wideOp 1 = .ok (.tableswitch 235 33 45 #[67, 75, 93, 151, 113, 131, 151, 170, 178, 186, 208, 208, 227], 67) := by decide +kernel
theorem dX3_wideOp_68 : decode cX3_wideOp 68 = .ok (.aload_n 0, 1) := by decide +kernel
theorem dX3_wideOp_69 : decode cX3_wideOp 69 = .ok (.iload_n 2, 1) := by decide +kernel
theorem dX3_wideOp_70 : decode cX3_wideOp 70 = .ok (.invokevirtual 113, 3) := by decide +kernel
theorem dX3_wideOp_73 : decode cX3_wideOp 73 = .ok (.goto 169, 3) := by decide +kernel
theorem dX3_wideOp_76 : decode cX3_wideOp 76 = .ok (.aload_n 0, 1) := by decide +kernel
theorem dX3_wideOp_77 : decode cX3_wideOp 77 = .ok (.aload_n 0, 1) := by decide +kernel
theorem dX3_wideOp_78 : decode cX3_wideOp 78 = .ok (.getfield 29, 3) := by decide +kernel
theorem dX3_wideOp_81 : decode cX3_wideOp 81 = .ok (.getfield 145, 3) := by decide +kernel
theorem dX3_wideOp_84 : decode cX3_wideOp 84 = .ok (.iload_n 2, 1) := by decide +kernel
theorem dX3_wideOp_85 : decode cX3_wideOp 85 = .ok (.invokestatic 98, 3) := by decide +kernel
theorem dX3_wideOp_88 : decode cX3_wideOp 88 = .ok (.invokevirtual 113, 3) := by decide +kernel
theorem dX3_wideOp_91 : decode cX3_wideOp 91 = .ok (.goto 151, 3) := by decide +kernel
theorem dX3_wideOp_94 : decode cX3_wideOp 94 = .ok (.aload_n 0, 1) := by decide +kernel
theorem dX3_wideOp_95 : decode cX3_wideOp 95 = .ok (.aload_n 0, 1) := by decide +kernel
theorem dX3_wideOp_96 : decode cX3_wideOp 96 = .ok (.getfield 11, 3) := by decide +kernel
theorem dX3_wideOp_99 : decode cX3_wideOp 99 = .ok (.aload_n 0, 1) := by decide +kernel
theorem dX3_wideOp_100 : decode cX3_wideOp 100 = .ok (.getfield 46, 3) := by decide +kernel
theorem dX3_wideOp_103 : decode cX3_wideOp 103 = .ok (.iload_n 2, 1) := by decide +kernel
theorem dX3_wideOp_104 : decode cX3_wideOp 104 = .ok (.iadd, 1) := by decide +kernel
theorem dX3_wideOp_105 : decode cX3_wideOp 105 = .ok (.invokestatic 98, 3) := by decide +kernel
theorem dX3_wideOp_108 : decode cX3_wideOp 108 = .ok (.invokevirtual 113, 3) := by decide +kernel
theorem dX3_wideOp_111 : decode cX3_wideOp 111 = .ok (.goto 131, 3) := by decide +kernel
theorem dX3_wideOp_114 : decode cX3_wideOp 114 = .ok (.aload_n 0, 1) := by decide +kernel
theorem dX3_wideOp_115 : decode cX3_wideOp 115 = .ok (.getfield 29, 3) := by decide +kernel
theorem dX3_wideOp_118 : decode cX3_wideOp 118 = .ok (.getfield 145, 3) := by decide +kernel
theorem dX3_wideOp_121 : decode cX3_wideOp 121 = .ok (.iload_n 2, 1) := by decide +kernel
theorem dX3_wideOp_122 : decode cX3_wideOp 122 = .ok (.aload_n 0, 1) := by decide +kernel
theorem dX3_wideOp_123 : decode cX3_wideOp 123 = .ok (.invokevirtual 102, 3) := by decide +kernel
theorem dX3_wideOp_126 : decode cX3_wideOp 126 = .ok (.invokestatic 138, 3) := by decide +kernel
theorem dX3_wideOp_129 : decode cX3_wideOp 129 = .ok (.goto 113, 3) := by decide +kernel
theorem dX3_wideOp_132 : decode cX3_wideOp 132 = .ok (.aload_n 0, 1) := by decide +kernel
theorem dX3_wideOp_133 : decode cX3_wideOp 133 = .ok (.getfield 11, 3) := by decide +kernel
theorem dX3_wideOp_136 : decode cX3_wideOp 136 = .ok (.aload_n 0, 1) := by decide +kernel
theorem dX3_wideOp_137 : decode cX3_wideOp 137 = .ok (.getfield 46, 3) := by decide +kernel
theorem dX3_wideOp_140 : decode cX3_wideOp 140 = .ok (.iload_n 2, 1) := by decide +kernel
theorem dX3_wideOp_141 : decode cX3_wideOp 141 = .ok (.iadd, 1) := by decide +kernel
theorem dX3_wideOp_142 : decode cX3_wideOp 142 = .ok (.aload_n 0, 1) := by decide +kernel
theorem dX3_wideOp_143 : decode cX3_wideOp 143 = .ok (.invokevirtual 102, 3) := by decide +kernel
theorem dX3_wideOp_146 : decode cX3_wideOp 146 = .ok (.invokestatic 138, 3) := by decide +kernel
theorem dX3_wideOp_149 : decode cX3_wideOp 149 = .ok (.goto 93, 3) := by decide +kernel
theorem dX3_wideOp_152 : decode cX3_wideOp 152 = .ok (.aload_n 0, 1) := by decide +kernel
theorem dX3_wideOp_153 : decode cX3_wideOp 153 = .ok (.iload_n 1, 1) := by decide +kernel
theorem dX3_wideOp_154 : decode cX3_wideOp 154 = .ok (.bipush 39, 2) := by decide +kernel
theorem dX3_wideOp_156 : decode cX3_wideOp 156 = .ok (.if_icmp .ne 7, 3) := by decide +kernel
theorem dX3_wideOp_159 : decode cX3_wideOp 159 = .ok (.iconst 1, 1) := by decide +kernel
theorem dX3_wideOp_160 : decode cX3_wideOp 160 = .ok (.goto 4, 3) := by decide +kernel
theorem dX3_wideOp_163 : decode cX3_wideOp 163 = .ok (.iconst 0, 1) := by decide +kernel
theorem dX3_wideOp_164 : decode cX3_wideOp 164 = .ok (.iload_n 2, 1) := by decide +kernel
theorem dX3_wideOp_165 : decode cX3_wideOp 165 = .ok (.invokevirtual 148, 3) := by decide +kernel
theorem dX3_wideOp_168 : decode cX3_wideOp 168 = .ok (.goto 74, 3) := by decide +kernel
theorem dX3_wideOp_171 : decode cX3_wideOp 171 = .ok (.aload_n 0, 1) := by decide +kernel
theorem dX3_wideOp_172 : decode cX3_wideOp 172 = .ok (.iload_n 2, 1) := by decide +kernel
theorem dX3_wideOp_173 : decode cX3_wideOp 173 = .ok (.invokevirtual 152, 3) := by decide +kernel
theorem dX3_wideOp_176 : decode cX3_wideOp 176 = .ok (.goto 66, 3) := by decide +kernel
theorem dX3_wideOp_179 : decode cX3_wideOp 179 = .ok (.aload_n 0, 1) := by decide +kernel
theorem dX3_wideOp_180 : decode cX3_wideOp 180 = .ok (.iload_n 2, 1) := by decide +kernel
theorem dX3_wideOp_181 : decode cX3_wideOp 181 = .ok (.putfield 68, 3) := by decide +kernel
theorem dX3_wideOp_184 : decode cX3_wideOp 184 = .ok (.goto 58, 3) := by decide +kernel
theorem dX3_wideOp_187 : decode cX3_wideOp 187 = .ok (.aload_n 0, 1) := by decide +kernel
theorem dX3_wideOp_188 : decode cX3_wideOp 188 = .ok (.aload_n 0, 1) := by decide +kernel
theorem dX3_wideOp_189 : decode cX3_wideOp 189 = .ok (.invokevirtual 102, 3) := by decide +kernel
theorem dX3_wideOp_192 : decode cX3_wideOp 192 = .ok (.ifCond .ne 7, 3) := by decide +kernel
theorem dX3_wideOp_195 : decode cX3_wideOp 195 = .ok (.iload_n 2, 1) := by decide +kernel
theorem dX3_wideOp_196 : decode cX3_wideOp 196 = .ok (.goto 7, 3) := by decide +kernel
theorem dX3_wideOp_199 : decode cX3_wideOp 199 = .ok (.aload_n 0, 1) := by decide +kernel
theorem dX3_wideOp_200 : decode cX3_wideOp 200 = .ok (.getfield 68, 3) := by decide +kernel
theorem dX3_wideOp_203 : decode cX3_wideOp 203 = .ok (.putfield 68, 3) := by decide +kernel
theorem dX3_wideOp_206 : decode cX3_wideOp 206 = .ok (.goto 36, 3) := by decide +kernel
theorem dX3_wideOp_209 : decode cX3_wideOp 209 = .ok (.aload_n 0, 1) := by decide +kernel
theorem dX3_wideOp_210 : decode cX3_wideOp 210 = .ok (.iload_n 1, 1) := by decide +kernel
theorem dX3_wideOp_211 : decode cX3_wideOp 211 = .ok (.bipush 44, 2) := by decide +kernel
theorem dX3_wideOp_213 : decode cX3_wideOp 213 = .ok (.if_icmp .ne 7, 3) := by decide +kernel
theorem dX3_wideOp_216 : decode cX3_wideOp 216 = .ok (.iconst 1, 1) := by decide +kernel
theorem dX3_wideOp_217 : decode cX3_wideOp 217 = .ok (.goto 4, 3) := by decide +kernel
theorem dX3_wideOp_220 : decode cX3_wideOp 220 = .ok (.iconst 0, 1) := by decide +kernel
theorem dX3_wideOp_221 : decode cX3_wideOp 221 = .ok (.iload_n 2, 1) := by decide +kernel
theorem dX3_wideOp_222 : decode cX3_wideOp 222 = .ok (.invokevirtual 155, 3) := by decide +kernel
theorem dX3_wideOp_225 : decode cX3_wideOp 225 = .ok (.goto 17, 3) := by decide +kernel
theorem dX3_wideOp_228 : decode cX3_wideOp 228 = .ok (.aload_n 0, 1) := by decide +kernel
theorem dX3_wideOp_229 : decode cX3_wideOp 229 = .ok (.iload_n 2, 1) := by decide +kernel
theorem dX3_wideOp_230 : decode cX3_wideOp 230 = .ok (.invokevirtual 158, 3) := by decide +kernel
theorem dX3_wideOp_233 : decode cX3_wideOp 233 = .ok (.goto 9, 3) := by decide +kernel
theorem dX3_wideOp_236 : decode cX3_wideOp 236 = .ok (.aload_n 0, 1) := by decide +kernel
theorem dX3_wideOp_237 : decode cX3_wideOp 237 = .ok (.iload_n 1, 1) := by decide +kernel
theorem dX3_wideOp_238 : decode cX3_wideOp 238 = .ok (.iload_n 2, 1) := by decide +kernel
theorem dX3_wideOp_239 : decode cX3_wideOp 239 = .ok (.invokevirtual 161, 3) := by decide +kernel
theorem dX3_wideOp_242 : decode cX3_wideOp 242 = .ok (.return_, 1) := by decide +kernel
def F_X3_wideOp (p0 : Int32) (p1 : Int32) (Γ : HS) : HR :=
  if p0 = 33 then (
    (F_X3_push p1 Γ).bind fun u_3 =>
    some (0, u_3.2)
  ) else
  if p0 = 34 then (
    bnd ((g_at 100 ((Γ 9).2.1 4) p1)) fun (x_8 : Int32) =>
    (F_X3_push x_8 Γ).bind fun u_10 =>
    some (0, u_10.2)
  ) else
  if p0 = 35 then (
    bnd ((((Γ 10).1 8) + p1)) fun (x_15 : Int32) =>
    bnd ((g_at 9000 ((Γ 10).2.1 6) x_15)) fun (x_17 : Int32) =>
    (F_X3_push x_17 Γ).bind fun u_19 =>
    some (0, u_19.2)
  ) else
  if p0 = 36 ∨ p0 = 39 then (
    bnd (fun (t_24 : Int32) (σ_25 : HS) => (
      (F_X3_cellOp t_24 p1 σ_25).bind fun u_29 =>
      some (0, u_29.2)
    ) : Int32 → HS → HR) fun j_26 =>
    if p0 = 39 then (
      j_26 1 Γ
    ) else (
      j_26 0 Γ
    )
  ) else
  if p0 = 37 then (
    (F_X3_pop Γ).bind fun u_37 =>
    bnd (cA' u_37.2 9 4 (g_put 100 ((u_37.2 9).2.1 4) p1 u_37.1)) fun σ_39 =>
    some (0, σ_39)
  ) else
  if p0 = 38 then (
    (F_X3_pop Γ).bind fun u_44 =>
    bnd (cA' u_44.2 10 6 (g_put 9000 ((u_44.2 10).2.1 6) (((Γ 10).1 8) + p1) u_44.1)) fun σ_46 =>
    some (0, σ_46)
  ) else
  if p0 = 40 then (
    (F_X3_call p1 Γ).bind fun u_51 =>
    some (0, u_51.2)
  ) else
  if p0 = 41 then (
    bnd (cI' Γ 10 9 p1) fun σ_56 =>
    some (0, σ_56)
  ) else
  if p0 = 42 then (
    (F_X3_pop Γ).bind fun u_61 =>
    bnd (fun (t_63 : Int32) (σ_64 : HS) => (
      bnd (cI' σ_64 10 9 t_63) fun σ_68 =>
      some (0, σ_68)
    ) : Int32 → HS → HR) fun j_65 =>
    if u_61.1 = 0 then (
      j_65 p1 u_61.2
    ) else (
      j_65 ((u_61.2 10).1 9) u_61.2
    )
  ) else
  if p0 = 43 ∨ p0 = 44 then (
    bnd (fun (t_76 : Int32) (σ_77 : HS) => (
      (F_X3_pairOp t_76 p1 σ_77).bind fun u_81 =>
      some (0, u_81.2)
    ) : Int32 → HS → HR) fun j_78 =>
    if p0 = 44 then (
      j_78 1 Γ
    ) else (
      j_78 0 Γ
    )
  ) else
  if p0 = 45 then (
    (F_X3_sayText p1 Γ).bind fun u_89 =>
    some (0, u_89.2)
  ) else
  (
    (F_X3_traitOp p0 p1 Γ).bind fun u_92 =>
    some (0, u_92.2)
  )
set_option maxHeartbeats 4000000 in
set_option maxRecDepth 100000 in
theorem k_X3_wideOp (l : Launch) (dC : Nat → ClassId) (dI : Nat → Nat → Nat) (cB cC cI cJ cZ cP : ClassId) (oA : Nat → Nat) (rA : Nat → Nat → Nat) (sz : Nat)  (p0 : Int32) (p1 : Int32) (Γ : HS) (res : Int32 × HS) (hF : F_X3_wideOp p0 p1 Γ = some res) : Met l yX3_wideOp (g_ws yX3_wideOp cX3_wideOp 3 none) ({ frames := 7, cells := 0, slots := 0, locals := 176 }) (va_Pc [.ref (oA 10), .int p0, .int p1] (g_B (dC, dI) [(cB, .byte), (cC, .char), (cI, .int), (cJ, .long), (cZ, .boolean), (cP, .object "StoryHouse$Play")] sz (b_k cB cC cI cJ cZ oA rA Γ ++ b_p cB cC cI cJ cZ oA rA Γ ++ b_o cB cC cI cJ cZ oA rA Γ ++ b_s cB cC cI cJ cZ oA rA Γ ++ b_c cB cC cI cJ cZ oA rA Γ ++ b_t cB cC cI cJ cZ oA rA Γ ++ b_d cB cC cI cJ cZ oA rA Γ) g_0)) (va_Qv (fun (_ : Unit) => True) (g_Bo (dC, dI) (va_A (b_k cB cC cI cJ cZ oA rA Γ ++ b_p cB cC cI cJ cZ oA rA Γ ++ b_o cB cC cI cJ cZ oA rA Γ ++ b_s cB cC cI cJ cZ oA rA Γ ++ b_c cB cC cI cJ cZ oA rA Γ ++ b_t cB cC cI cJ cZ oA rA Γ ++ b_d cB cC cI cJ cZ oA rA Γ) sz) (fun (_ : Unit) => (b_k cB cC cI cJ cZ oA rA res.2 ++ b_p cB cC cI cJ cZ oA rA res.2 ++ b_o cB cC cI cJ cZ oA rA res.2 ++ b_s cB cC cI cJ cZ oA rA res.2 ++ b_c cB cC cI cJ cZ oA rA res.2 ++ b_t cB cC cI cJ cZ oA rA res.2 ++ b_d cB cC cI cJ cZ oA rA res.2))) (va_A (b_k cB cC cI cJ cZ oA rA Γ ++ b_p cB cC cI cJ cZ oA rA Γ ++ b_o cB cC cI cJ cZ oA rA Γ ++ b_s cB cC cI cJ cZ oA rA Γ ++ b_c cB cC cI cJ cZ oA rA Γ ++ b_t cB cC cI cJ cZ oA rA Γ ++ b_d cB cC cI cJ cZ oA rA Γ) sz)) 0 0 (va_A (b_k cB cC cI cJ cZ oA rA Γ ++ b_p cB cC cI cJ cZ oA rA Γ ++ b_o cB cC cI cJ cZ oA rA Γ ++ b_s cB cC cI cJ cZ oA rA Γ ++ b_c cB cC cI cJ cZ oA rA Γ ++ b_t cB cC cI cJ cZ oA rA Γ ++ b_d cB cC cI cJ cZ oA rA Γ) sz) := by
  refine Met.ofW (cc := cX3_wideOp) (maxL := 3) (ret := none) (by decide) rfl ?_
  intro p e s m args below meth c s₁ B hml hv
  obtain ⟨rfl, hsz, hP, hK, hD0, hE, hX⟩ := hv
  have hx := B.exec
  have hb := B.bytes
  have hr := B.returns
  have hts0 := atoms_spec (ws := g_ws yX3_wideOp cX3_wideOp 3 none) B.pre
  have hts : ∀ w ∈ lw_good, w.before ([.ref (oA 10), .int p0, .int p1] : List Value).toArray s = true := fun w z => hts0 w (List.mem_cons_of_mem _ z)
  have hown : s.vm.findClass RX3 = some m.cls := findClass_of_methodNamed B.named
  have hlocks := B.notSynchronized
  subst hsz
  have hD1 := hD0.self (sz := s.heap.size)
  generalize hAe : va_A (b_k cB cC cI cJ cZ oA rA Γ ++ b_p cB cC cI cJ cZ oA rA Γ ++ b_o cB cC cI cJ cZ oA rA Γ ++ b_s cB cC cI cJ cZ oA rA Γ ++ b_c cB cC cI cJ cZ oA rA Γ ++ b_t cB cC cI cJ cZ oA rA Γ ++ b_d cB cC cI cJ cZ oA rA Γ) s.heap.size = A at hD1 hE hX ⊢
  have hA : ∀ q : Nat, s.heap.size ≤ q → A q := fun q z => by rw [← hAe]; exact Or.inr z
  have hDD : ∀ Γ : HS, va_D A (b_k cB cC cI cJ cZ oA rA Γ ++ b_p cB cC cI cJ cZ oA rA Γ ++ b_o cB cC cI cJ cZ oA rA Γ ++ b_s cB cC cI cJ cZ oA rA Γ ++ b_c cB cC cI cJ cZ oA rA Γ ++ b_t cB cC cI cJ cZ oA rA Γ ++ b_d cB cC cI cJ cZ oA rA Γ) := fun Γ9 => va_D_fst (ws := (b_k cB cC cI cJ cZ oA rA Γ ++ b_p cB cC cI cJ cZ oA rA Γ ++ b_o cB cC cI cJ cZ oA rA Γ ++ b_s cB cC cI cJ cZ oA rA Γ ++ b_c cB cC cI cJ cZ oA rA Γ ++ b_t cB cC cI cJ cZ oA rA Γ ++ b_d cB cC cI cJ cZ oA rA Γ)) (ws' := (b_k cB cC cI cJ cZ oA rA Γ9 ++ b_p cB cC cI cJ cZ oA rA Γ9 ++ b_o cB cC cI cJ cZ oA rA Γ9 ++ b_s cB cC cI cJ cZ oA rA Γ9 ++ b_c cB cC cI cJ cZ oA rA Γ9 ++ b_t cB cC cI cJ cZ oA rA Γ9 ++ b_d cB cC cI cJ cZ oA rA Γ9)) rfl hD1
  have hN := hE.1
  have hS : va_S A s.heap s.heap [] := va_S.rf
  have hl := lv_entry ([.ref (oA 10), .int p0, .int p1]) (n := 3) (Nat.le_of_ble_eq_true rfl)
  rw [lg_entry_eq]
  generalize (lg_sl ([.ref (oA 10), .int p0, .int p1]) ++ List.replicate (3 - (lg_sl ([.ref (oA 10), .int p0, .int p1])).length) Slot.unset).toArray = ls at hl ⊢
  have hl : lv_has ls 3 [(0, .ref (oA 10)), (1, .int p0), (2, .int p1)] := hl
  unfold F_X3_wideOp at hF
  refine lv_iload_n hx hb dX3_wideOp_0 rfl (lv_at hl 1 rfl) ?_
  by_cases c_1 : p0 = 33
  · have hF_2 := ipos c_1 hF
    clear hF
    refine lv_tableIn (off := 67) (tgt := 68) hx hb dX3_wideOp_1 (by rw [c_1]; decide +kernel) (by rw [c_1]; decide +kernel) (by rw [c_1]; decide +kernel) (by decide) ?_
    refine lv_aload_n hx hb dX3_wideOp_68 rfl (lv_at hl 0 rfl) ?_
    refine lv_iload_n hx hb dX3_wideOp_69 rfl (lv_at hl 2 rfl) ?_
    obtain ⟨u_3, hu_3, hF_4⟩ := Option.bind_eq_some_iff.mp hF_2
    clear hF_2
    have hPc := bx_P (bs := [b_k cB cC cI cJ cZ oA rA Γ, b_p cB cC cI cJ cZ oA rA Γ, b_o cB cC cI cJ cZ oA rA Γ, b_s cB cC cI cJ cZ oA rA Γ, b_c cB cC cI cJ cZ oA rA Γ, b_t cB cC cI cJ cZ oA rA Γ, b_d cB cC cI cJ cZ oA rA Γ]) (bs' := [b_k cB cC cI cJ cZ oA rA Γ, b_p cB cC cI cJ cZ oA rA Γ, b_o cB cC cI cJ cZ oA rA Γ, b_s cB cC cI cJ cZ oA rA Γ, b_c cB cC cI cJ cZ oA rA Γ, b_t cB cC cI cJ cZ oA rA Γ, b_d cB cC cI cJ cZ oA rA Γ]) (ws' := (b_k cB cC cI cJ cZ oA rA Γ ++ b_p cB cC cI cJ cZ oA rA Γ ++ b_o cB cC cI cJ cZ oA rA Γ ++ b_s cB cC cI cJ cZ oA rA Γ ++ b_c cB cC cI cJ cZ oA rA Γ ++ b_t cB cC cI cJ cZ oA rA Γ ++ b_d cB cC cI cJ cZ oA rA Γ)) hP fl_7 fl_7 [0, 1, 2, 3, 4, 5, 6] rfl
    have hDc := bx_D (bs := [b_k cB cC cI cJ cZ oA rA Γ, b_p cB cC cI cJ cZ oA rA Γ, b_o cB cC cI cJ cZ oA rA Γ, b_s cB cC cI cJ cZ oA rA Γ, b_c cB cC cI cJ cZ oA rA Γ, b_t cB cC cI cJ cZ oA rA Γ, b_d cB cC cI cJ cZ oA rA Γ]) (bs' := [b_k cB cC cI cJ cZ oA rA Γ, b_p cB cC cI cJ cZ oA rA Γ, b_o cB cC cI cJ cZ oA rA Γ, b_s cB cC cI cJ cZ oA rA Γ, b_c cB cC cI cJ cZ oA rA Γ, b_t cB cC cI cJ cZ oA rA Γ, b_d cB cC cI cJ cZ oA rA Γ]) (ws' := (b_k cB cC cI cJ cZ oA rA Γ ++ b_p cB cC cI cJ cZ oA rA Γ ++ b_o cB cC cI cJ cZ oA rA Γ ++ b_s cB cC cI cJ cZ oA rA Γ ++ b_c cB cC cI cJ cZ oA rA Γ ++ b_t cB cC cI cJ cZ oA rA Γ ++ b_d cB cC cI cJ cZ oA rA Γ)) (hDD Γ) fl_7 fl_7 [0, 1, 2, 3, 4, 5, 6] (by decide +kernel) rfl
    have hFc := bx_F (bs := [b_k cB cC cI cJ cZ oA rA Γ, b_p cB cC cI cJ cZ oA rA Γ, b_o cB cC cI cJ cZ oA rA Γ, b_s cB cC cI cJ cZ oA rA Γ, b_c cB cC cI cJ cZ oA rA Γ, b_t cB cC cI cJ cZ oA rA Γ, b_d cB cC cI cJ cZ oA rA Γ]) (bs' := [b_k cB cC cI cJ cZ oA rA Γ, b_p cB cC cI cJ cZ oA rA Γ, b_o cB cC cI cJ cZ oA rA Γ, b_s cB cC cI cJ cZ oA rA Γ, b_c cB cC cI cJ cZ oA rA Γ, b_t cB cC cI cJ cZ oA rA Γ, b_d cB cC cI cJ cZ oA rA Γ]) (wc := (b_k cB cC cI cJ cZ oA rA Γ ++ b_p cB cC cI cJ cZ oA rA Γ ++ b_o cB cC cI cJ cZ oA rA Γ ++ b_s cB cC cI cJ cZ oA rA Γ ++ b_c cB cC cI cJ cZ oA rA Γ ++ b_t cB cC cI cJ cZ oA rA Γ ++ b_d cB cC cI cJ cZ oA rA Γ)) (hDD Γ) hS hA fl_7 fl_7 [0, 1, 2, 3, 4, 5, 6] rfl
    refine g_ofv (wc := (b_k cB cC cI cJ cZ oA rA Γ ++ b_p cB cC cI cJ cZ oA rA Γ ++ b_o cB cC cI cJ cZ oA rA Γ ++ b_s cB cC cI cJ cZ oA rA Γ ++ b_c cB cC cI cJ cZ oA rA Γ ++ b_t cB cC cI cJ cZ oA rA Γ ++ b_d cB cC cI cJ cZ oA rA Γ)) (wr := ([] : va_W)) hP (hDD Γ) hS hFc (bx_ix [b_k cB cC cI cJ cZ oA rA Γ, b_p cB cC cI cJ cZ oA rA Γ, b_o cB cC cI cJ cZ oA rA Γ, b_s cB cC cI cJ cZ oA rA Γ, b_c cB cC cI cJ cZ oA rA Γ, b_t cB cC cI cJ cZ oA rA Γ, b_d cB cC cI cJ cZ oA rA Γ] [0, 1, 2, 3, 4, 5, 6]) (bx_ix [b_k cB cC cI cJ cZ oA rA Γ, b_p cB cC cI cJ cZ oA rA Γ, b_o cB cC cI cJ cZ oA rA Γ, b_s cB cC cI cJ cZ oA rA Γ, b_c cB cC cI cJ cZ oA rA Γ, b_t cB cC cI cJ cZ oA rA Γ, b_d cB cC cI cJ cZ oA rA Γ] []) (bx_C (bs := [b_k cB cC cI cJ cZ oA rA Γ, b_p cB cC cI cJ cZ oA rA Γ, b_o cB cC cI cJ cZ oA rA Γ, b_s cB cC cI cJ cZ oA rA Γ, b_c cB cC cI cJ cZ oA rA Γ, b_t cB cC cI cJ cZ oA rA Γ, b_d cB cC cI cJ cZ oA rA Γ]) (bs' := [b_k cB cC cI cJ cZ oA rA Γ, b_p cB cC cI cJ cZ oA rA Γ, b_o cB cC cI cJ cZ oA rA Γ, b_s cB cC cI cJ cZ oA rA Γ, b_c cB cC cI cJ cZ oA rA Γ, b_t cB cC cI cJ cZ oA rA Γ, b_d cB cC cI cJ cZ oA rA Γ]) (is := [0, 1, 2, 3, 4, 5, 6]) fl_7 fl_7 rfl) (bx_C (bs := [b_k cB cC cI cJ cZ oA rA Γ, b_p cB cC cI cJ cZ oA rA Γ, b_o cB cC cI cJ cZ oA rA Γ, b_s cB cC cI cJ cZ oA rA Γ, b_c cB cC cI cJ cZ oA rA Γ, b_t cB cC cI cJ cZ oA rA Γ, b_d cB cC cI cJ cZ oA rA Γ]) (bs' := []) (is := []) fl_7 fl_0 rfl) (bx_n (by decide +kernel)) (bx_d (by decide +kernel)) (va_runV (As := [.int p1]) (rest := []) ⟨hx, hb, hml, hown, hts⟩ (k_X3_push l dC dI cB cC cI cJ cZ cP oA rA s.heap.size  p1 Γ _ hu_3) (cwV 1 hts (g_gV wq_1141 wq_1142 wq_2085 wq_11 wq_1143) rfl rfl rfl (by decide +kernel) ⟨Nat.le_of_ble_eq_true rfl, Nat.le_of_ble_eq_true rfl⟩) (g_preV g_bl0 hK hPc hDc hS hE hFc g_to0 (q0 := 0) (ci := 3) rfl rfl) rfl rfl hl.1 rfl (lv_room (Nat.le_of_ble_eq_true rfl)) dX3_wideOp_70 ⟨Nat.le_of_ble_eq_true rfl, Nat.le_of_ble_eq_true rfl⟩) (fun u9 H locs hw9 hP' hD' hS => ?_)
    clear hPc hDc hFc
    have hP : va_P (dC, dI) vwCl (b_k cB cC cI cJ cZ oA rA u_3.2 ++ b_p cB cC cI cJ cZ oA rA u_3.2 ++ b_o cB cC cI cJ cZ oA rA u_3.2 ++ b_s cB cC cI cJ cZ oA rA u_3.2 ++ b_c cB cC cI cJ cZ oA rA u_3.2 ++ b_t cB cC cI cJ cZ oA rA u_3.2 ++ b_d cB cC cI cJ cZ oA rA u_3.2) H := hP'
    clear hP' hD'
    refine lv_goto (tgt := 242) hx hb dX3_wideOp_73 (by decide) ?_
    have h9 := Option.some.inj hF_4
    subst h9
    exact W.vret hx hb hr (fun t ht hW => ⟨⟨(), rfl, trivial, m_end ht hP, hDD _⟩, hS.F ht⟩) hS.2.2 dX3_wideOp_242
  have hF_5 := ineg c_1 hF
  clear hF
  by_cases c_6 : p0 = 34
  · have hF_7 := ipos c_6 hF_5
    clear hF_5
    refine lv_tableIn (off := 75) (tgt := 76) hx hb dX3_wideOp_1 (by rw [c_6]; decide +kernel) (by rw [c_6]; decide +kernel) (by rw [c_6]; decide +kernel) (by decide) ?_
    refine lv_aload_n hx hb dX3_wideOp_76 rfl (lv_at hl 0 rfl) ?_
    refine lv_aload_n hx hb dX3_wideOp_77 rfl (lv_at hl 0 rfl) ?_
    refine va_get (D := (dC, dI)) (ci := 3) (v := .ref (oA 9)) (C := RX3) (T := TX3) (N := 16) hx hb hts ii_X3 hown hK hP 0 rfl rfl 0 (by decide) (hts (.fieldLink RX3 29 "StoryHouse$Machine" "play" "LStoryHouse$Play;") wq_259) (fun _ h9 => h9) rfl dX3_wideOp_78 ?_
    refine va_get (D := (dC, dI)) (ci := 6) (v := .ref (rA 9 4)) (C := RX6) (T := TX6) (N := 12) hx hb hts ii_X6 hown hK hP 5 rfl rfl 4 (by decide) (hts (.fieldLink RX3 145 "StoryHouse$Play" "vars" "[I") wq_231) (fun _ h9 => h9) rfl dX3_wideOp_81 ?_
    refine lv_iload_n hx hb dX3_wideOp_84 rfl (lv_at hl 2 rfl) ?_
    have hq9 : ((b_k cB cC cI cJ cZ oA rA Γ ++ b_p cB cC cI cJ cZ oA rA Γ ++ b_o cB cC cI cJ cZ oA rA Γ ++ b_s cB cC cI cJ cZ oA rA Γ ++ b_c cB cC cI cJ cZ oA rA Γ ++ b_t cB cC cI cJ cZ oA rA Γ ++ b_d cB cC cI cJ cZ oA rA Γ))[10]? = some (rA 9 4, .inl (cI, 100, .inl ((Γ 9).2.1 4))) := rfl
    have hPc := hP.sub (ws' := [(rA 9 4, .inl (cI, 100, .inl ((Γ 9).2.1 4)))]) [10] (pk_fm (er_C hq9))
    have hDc := (hDD Γ).sub (ws' := [(rA 9 4, .inl (cI, 100, .inl ((Γ 9).2.1 4)))]) [10] (by decide +kernel) (er_C hq9)
    have hFc := va_free (wc := [(rA 9 4, .inl (cI, 100, .inl ((Γ 9).2.1 4)))]) (hDD Γ) hS hA [10] (er_C hq9)
    refine g_ofi (wc := [(rA 9 4, .inl (cI, 100, .inl ((Γ 9).2.1 4)))]) (wr := (((b_k cB cC cI cJ cZ oA rA Γ ++ b_p cB cC cI cJ cZ oA rA Γ ++ b_o cB cC cI cJ cZ oA rA Γ ++ b_s cB cC cI cJ cZ oA rA Γ ++ b_c cB cC cI cJ cZ oA rA Γ ++ b_t cB cC cI cJ cZ oA rA Γ ++ b_d cB cC cI cJ cZ oA rA Γ)).eraseIdx 10)) hP (hDD Γ) hS hFc [10] ((List.range ((b_k cB cC cI cJ cZ oA rA Γ ++ b_p cB cC cI cJ cZ oA rA Γ ++ b_o cB cC cI cJ cZ oA rA Γ ++ b_s cB cC cI cJ cZ oA rA Γ ++ b_c cB cC cI cJ cZ oA rA Γ ++ b_t cB cC cI cJ cZ oA rA Γ ++ b_d cB cC cI cJ cZ oA rA Γ)).length).eraseIdx 10) (er_C hq9) er_R er_n er_d (va_runSN (As := [.ref (rA 9 4), .int p1]) (rest := [.ref (oA 10)]) ⟨hx, hb, hml, hown, hts⟩ (c_X11_at l dC dI cB cC cI cJ cZ cP s.heap.size (rA 9 4) p1 100 ((Γ 9).2.1 4) (by decide)) ⟨va_cnB 2 hts (g_gA wq_407) rfl rfl rfl (nw_30 hN) (hts (.initialized RX11) wq_1) (by decide +kernel) ⟨Nat.le_of_ble_eq_true rfl, Nat.le_of_ble_eq_true rfl⟩, (hts (.static yX11_at) wq_406), trivial⟩ (g_preS g_bl0 hK hPc hDc hS hE hFc g_to0) rfl rfl hl.1 rfl (lv_room (Nat.le_of_ble_eq_true rfl)) dX3_wideOp_85 ⟨Nat.le_of_ble_eq_true rfl, Nat.le_of_ble_eq_true rfl⟩) (fun r9 u9 H locs hw9 hP' hD' hS => ?_)
    clear hPc hDc hFc hD'
    have hP : va_P (dC, dI) vwCl (b_k cB cC cI cJ cZ oA rA Γ ++ b_p cB cC cI cJ cZ oA rA Γ ++ b_o cB cC cI cJ cZ oA rA Γ ++ b_s cB cC cI cJ cZ oA rA Γ ++ b_c cB cC cI cJ cZ oA rA Γ ++ b_t cB cC cI cJ cZ oA rA Γ ++ b_d cB cC cI cJ cZ oA rA Γ) H := er_I hP' hq9
    clear hP' hq9
    subst hw9
    obtain ⟨x_8, ex_8, hF_9⟩ := bnd_e hF_7
    clear hF_7
    refine m_top ex_8 ?_
    obtain ⟨u_10, hu_10, hF_11⟩ := Option.bind_eq_some_iff.mp hF_9
    clear hF_9
    have hPc := bx_P (bs := [b_k cB cC cI cJ cZ oA rA Γ, b_p cB cC cI cJ cZ oA rA Γ, b_o cB cC cI cJ cZ oA rA Γ, b_s cB cC cI cJ cZ oA rA Γ, b_c cB cC cI cJ cZ oA rA Γ, b_t cB cC cI cJ cZ oA rA Γ, b_d cB cC cI cJ cZ oA rA Γ]) (bs' := [b_k cB cC cI cJ cZ oA rA Γ, b_p cB cC cI cJ cZ oA rA Γ, b_o cB cC cI cJ cZ oA rA Γ, b_s cB cC cI cJ cZ oA rA Γ, b_c cB cC cI cJ cZ oA rA Γ, b_t cB cC cI cJ cZ oA rA Γ, b_d cB cC cI cJ cZ oA rA Γ]) (ws' := (b_k cB cC cI cJ cZ oA rA Γ ++ b_p cB cC cI cJ cZ oA rA Γ ++ b_o cB cC cI cJ cZ oA rA Γ ++ b_s cB cC cI cJ cZ oA rA Γ ++ b_c cB cC cI cJ cZ oA rA Γ ++ b_t cB cC cI cJ cZ oA rA Γ ++ b_d cB cC cI cJ cZ oA rA Γ)) hP fl_7 fl_7 [0, 1, 2, 3, 4, 5, 6] rfl
    have hDc := bx_D (bs := [b_k cB cC cI cJ cZ oA rA Γ, b_p cB cC cI cJ cZ oA rA Γ, b_o cB cC cI cJ cZ oA rA Γ, b_s cB cC cI cJ cZ oA rA Γ, b_c cB cC cI cJ cZ oA rA Γ, b_t cB cC cI cJ cZ oA rA Γ, b_d cB cC cI cJ cZ oA rA Γ]) (bs' := [b_k cB cC cI cJ cZ oA rA Γ, b_p cB cC cI cJ cZ oA rA Γ, b_o cB cC cI cJ cZ oA rA Γ, b_s cB cC cI cJ cZ oA rA Γ, b_c cB cC cI cJ cZ oA rA Γ, b_t cB cC cI cJ cZ oA rA Γ, b_d cB cC cI cJ cZ oA rA Γ]) (ws' := (b_k cB cC cI cJ cZ oA rA Γ ++ b_p cB cC cI cJ cZ oA rA Γ ++ b_o cB cC cI cJ cZ oA rA Γ ++ b_s cB cC cI cJ cZ oA rA Γ ++ b_c cB cC cI cJ cZ oA rA Γ ++ b_t cB cC cI cJ cZ oA rA Γ ++ b_d cB cC cI cJ cZ oA rA Γ)) (hDD Γ) fl_7 fl_7 [0, 1, 2, 3, 4, 5, 6] (by decide +kernel) rfl
    have hFc := bx_F (bs := [b_k cB cC cI cJ cZ oA rA Γ, b_p cB cC cI cJ cZ oA rA Γ, b_o cB cC cI cJ cZ oA rA Γ, b_s cB cC cI cJ cZ oA rA Γ, b_c cB cC cI cJ cZ oA rA Γ, b_t cB cC cI cJ cZ oA rA Γ, b_d cB cC cI cJ cZ oA rA Γ]) (bs' := [b_k cB cC cI cJ cZ oA rA Γ, b_p cB cC cI cJ cZ oA rA Γ, b_o cB cC cI cJ cZ oA rA Γ, b_s cB cC cI cJ cZ oA rA Γ, b_c cB cC cI cJ cZ oA rA Γ, b_t cB cC cI cJ cZ oA rA Γ, b_d cB cC cI cJ cZ oA rA Γ]) (wc := (b_k cB cC cI cJ cZ oA rA Γ ++ b_p cB cC cI cJ cZ oA rA Γ ++ b_o cB cC cI cJ cZ oA rA Γ ++ b_s cB cC cI cJ cZ oA rA Γ ++ b_c cB cC cI cJ cZ oA rA Γ ++ b_t cB cC cI cJ cZ oA rA Γ ++ b_d cB cC cI cJ cZ oA rA Γ)) (hDD Γ) hS hA fl_7 fl_7 [0, 1, 2, 3, 4, 5, 6] rfl
    refine g_ofv (wc := (b_k cB cC cI cJ cZ oA rA Γ ++ b_p cB cC cI cJ cZ oA rA Γ ++ b_o cB cC cI cJ cZ oA rA Γ ++ b_s cB cC cI cJ cZ oA rA Γ ++ b_c cB cC cI cJ cZ oA rA Γ ++ b_t cB cC cI cJ cZ oA rA Γ ++ b_d cB cC cI cJ cZ oA rA Γ)) (wr := ([] : va_W)) hP (hDD Γ) hS hFc (bx_ix [b_k cB cC cI cJ cZ oA rA Γ, b_p cB cC cI cJ cZ oA rA Γ, b_o cB cC cI cJ cZ oA rA Γ, b_s cB cC cI cJ cZ oA rA Γ, b_c cB cC cI cJ cZ oA rA Γ, b_t cB cC cI cJ cZ oA rA Γ, b_d cB cC cI cJ cZ oA rA Γ] [0, 1, 2, 3, 4, 5, 6]) (bx_ix [b_k cB cC cI cJ cZ oA rA Γ, b_p cB cC cI cJ cZ oA rA Γ, b_o cB cC cI cJ cZ oA rA Γ, b_s cB cC cI cJ cZ oA rA Γ, b_c cB cC cI cJ cZ oA rA Γ, b_t cB cC cI cJ cZ oA rA Γ, b_d cB cC cI cJ cZ oA rA Γ] []) (bx_C (bs := [b_k cB cC cI cJ cZ oA rA Γ, b_p cB cC cI cJ cZ oA rA Γ, b_o cB cC cI cJ cZ oA rA Γ, b_s cB cC cI cJ cZ oA rA Γ, b_c cB cC cI cJ cZ oA rA Γ, b_t cB cC cI cJ cZ oA rA Γ, b_d cB cC cI cJ cZ oA rA Γ]) (bs' := [b_k cB cC cI cJ cZ oA rA Γ, b_p cB cC cI cJ cZ oA rA Γ, b_o cB cC cI cJ cZ oA rA Γ, b_s cB cC cI cJ cZ oA rA Γ, b_c cB cC cI cJ cZ oA rA Γ, b_t cB cC cI cJ cZ oA rA Γ, b_d cB cC cI cJ cZ oA rA Γ]) (is := [0, 1, 2, 3, 4, 5, 6]) fl_7 fl_7 rfl) (bx_C (bs := [b_k cB cC cI cJ cZ oA rA Γ, b_p cB cC cI cJ cZ oA rA Γ, b_o cB cC cI cJ cZ oA rA Γ, b_s cB cC cI cJ cZ oA rA Γ, b_c cB cC cI cJ cZ oA rA Γ, b_t cB cC cI cJ cZ oA rA Γ, b_d cB cC cI cJ cZ oA rA Γ]) (bs' := []) (is := []) fl_7 fl_0 rfl) (bx_n (by decide +kernel)) (bx_d (by decide +kernel)) (va_runV (As := [.int x_8]) (rest := []) ⟨hx, hb, hml, hown, hts⟩ (k_X3_push l dC dI cB cC cI cJ cZ cP oA rA H.size  x_8 Γ _ hu_10) (cwV 1 hts (g_gV wq_1141 wq_1142 wq_2085 wq_11 wq_1143) rfl rfl rfl (by decide +kernel) ⟨Nat.le_of_ble_eq_true rfl, Nat.le_of_ble_eq_true rfl⟩) (g_preV g_bl0 hK hPc hDc hS hE hFc g_to0 (q0 := 0) (ci := 3) rfl rfl) rfl rfl hl.1 rfl (lv_room (Nat.le_of_ble_eq_true rfl)) dX3_wideOp_88 ⟨Nat.le_of_ble_eq_true rfl, Nat.le_of_ble_eq_true rfl⟩) (fun u9 H locs hw9 hP' hD' hS => ?_)
    clear hPc hDc hFc
    have hP : va_P (dC, dI) vwCl (b_k cB cC cI cJ cZ oA rA u_10.2 ++ b_p cB cC cI cJ cZ oA rA u_10.2 ++ b_o cB cC cI cJ cZ oA rA u_10.2 ++ b_s cB cC cI cJ cZ oA rA u_10.2 ++ b_c cB cC cI cJ cZ oA rA u_10.2 ++ b_t cB cC cI cJ cZ oA rA u_10.2 ++ b_d cB cC cI cJ cZ oA rA u_10.2) H := hP'
    clear hP' hD'
    refine lv_goto (tgt := 242) hx hb dX3_wideOp_91 (by decide) ?_
    have h9 := Option.some.inj hF_11
    subst h9
    exact W.vret hx hb hr (fun t ht hW => ⟨⟨(), rfl, trivial, m_end ht hP, hDD _⟩, hS.F ht⟩) hS.2.2 dX3_wideOp_242
  have hF_12 := ineg c_6 hF_5
  clear hF_5
  by_cases c_13 : p0 = 35
  · have hF_14 := ipos c_13 hF_12
    clear hF_12
    refine lv_tableIn (off := 93) (tgt := 94) hx hb dX3_wideOp_1 (by rw [c_13]; decide +kernel) (by rw [c_13]; decide +kernel) (by rw [c_13]; decide +kernel) (by decide) ?_
    refine lv_aload_n hx hb dX3_wideOp_94 rfl (lv_at hl 0 rfl) ?_
    refine lv_aload_n hx hb dX3_wideOp_95 rfl (lv_at hl 0 rfl) ?_
    refine va_get (D := (dC, dI)) (ci := 3) (v := .ref (rA 10 6)) (C := RX3) (T := TX3) (N := 16) hx hb hts ii_X3 hown hK hP 0 rfl rfl 6 (by decide) (hts (.fieldLink RX3 11 "StoryHouse$Machine" "stack" "[I") wq_270) (fun _ h9 => h9) rfl dX3_wideOp_96 ?_
    refine lv_aload_n hx hb dX3_wideOp_99 rfl (lv_at hl 0 rfl) ?_
    refine va_get (D := (dC, dI)) (ci := 3) (v := .int ((Γ 10).1 8)) (C := RX3) (T := TX3) (N := 16) hx hb hts ii_X3 hown hK hP 0 rfl rfl 8 (by decide) (hts (.fieldLink RX3 46 "StoryHouse$Machine" "base" "I") wq_272) (fun _ h9 => h9) rfl dX3_wideOp_100 ?_
    refine lv_iload_n hx hb dX3_wideOp_103 rfl (lv_at hl 2 rfl) ?_
    refine lv_iadd hx hb dX3_wideOp_104 ?_
    obtain ⟨x_15, ex_15, hF_16⟩ := bnd_e hF_14
    clear hF_14
    refine m_top ex_15 ?_
    have hq9 : ((b_k cB cC cI cJ cZ oA rA Γ ++ b_p cB cC cI cJ cZ oA rA Γ ++ b_o cB cC cI cJ cZ oA rA Γ ++ b_s cB cC cI cJ cZ oA rA Γ ++ b_c cB cC cI cJ cZ oA rA Γ ++ b_t cB cC cI cJ cZ oA rA Γ ++ b_d cB cC cI cJ cZ oA rA Γ))[1]? = some (rA 10 6, .inl (cI, 9000, .inl ((Γ 10).2.1 6))) := rfl
    have hPc := hP.sub (ws' := [(rA 10 6, .inl (cI, 9000, .inl ((Γ 10).2.1 6)))]) [1] (pk_fm (er_C hq9))
    have hDc := (hDD Γ).sub (ws' := [(rA 10 6, .inl (cI, 9000, .inl ((Γ 10).2.1 6)))]) [1] (by decide +kernel) (er_C hq9)
    have hFc := va_free (wc := [(rA 10 6, .inl (cI, 9000, .inl ((Γ 10).2.1 6)))]) (hDD Γ) hS hA [1] (er_C hq9)
    refine g_ofi (wc := [(rA 10 6, .inl (cI, 9000, .inl ((Γ 10).2.1 6)))]) (wr := (((b_k cB cC cI cJ cZ oA rA Γ ++ b_p cB cC cI cJ cZ oA rA Γ ++ b_o cB cC cI cJ cZ oA rA Γ ++ b_s cB cC cI cJ cZ oA rA Γ ++ b_c cB cC cI cJ cZ oA rA Γ ++ b_t cB cC cI cJ cZ oA rA Γ ++ b_d cB cC cI cJ cZ oA rA Γ)).eraseIdx 1)) hP (hDD Γ) hS hFc [1] ((List.range ((b_k cB cC cI cJ cZ oA rA Γ ++ b_p cB cC cI cJ cZ oA rA Γ ++ b_o cB cC cI cJ cZ oA rA Γ ++ b_s cB cC cI cJ cZ oA rA Γ ++ b_c cB cC cI cJ cZ oA rA Γ ++ b_t cB cC cI cJ cZ oA rA Γ ++ b_d cB cC cI cJ cZ oA rA Γ)).length).eraseIdx 1) (er_C hq9) er_R er_n er_d (va_runSN (As := [.ref (rA 10 6), .int x_15]) (rest := [.ref (oA 10)]) ⟨hx, hb, hml, hown, hts⟩ (c_X11_at l dC dI cB cC cI cJ cZ cP s.heap.size (rA 10 6) x_15 9000 ((Γ 10).2.1 6) (by decide)) ⟨va_cnB 2 hts (g_gA wq_407) rfl rfl rfl (nw_30 hN) (hts (.initialized RX11) wq_1) (by decide +kernel) ⟨Nat.le_of_ble_eq_true rfl, Nat.le_of_ble_eq_true rfl⟩, (hts (.static yX11_at) wq_406), trivial⟩ (g_preS g_bl0 hK hPc hDc hS hE hFc g_to0) rfl rfl hl.1 rfl (lv_room (Nat.le_of_ble_eq_true rfl)) dX3_wideOp_105 ⟨Nat.le_of_ble_eq_true rfl, Nat.le_of_ble_eq_true rfl⟩) (fun r9 u9 H locs hw9 hP' hD' hS => ?_)
    clear hPc hDc hFc hD'
    have hP : va_P (dC, dI) vwCl (b_k cB cC cI cJ cZ oA rA Γ ++ b_p cB cC cI cJ cZ oA rA Γ ++ b_o cB cC cI cJ cZ oA rA Γ ++ b_s cB cC cI cJ cZ oA rA Γ ++ b_c cB cC cI cJ cZ oA rA Γ ++ b_t cB cC cI cJ cZ oA rA Γ ++ b_d cB cC cI cJ cZ oA rA Γ) H := er_I hP' hq9
    clear hP' hq9
    subst hw9
    obtain ⟨x_17, ex_17, hF_18⟩ := bnd_e hF_16
    clear hF_16
    refine m_top ex_17 ?_
    obtain ⟨u_19, hu_19, hF_20⟩ := Option.bind_eq_some_iff.mp hF_18
    clear hF_18
    have hPc := bx_P (bs := [b_k cB cC cI cJ cZ oA rA Γ, b_p cB cC cI cJ cZ oA rA Γ, b_o cB cC cI cJ cZ oA rA Γ, b_s cB cC cI cJ cZ oA rA Γ, b_c cB cC cI cJ cZ oA rA Γ, b_t cB cC cI cJ cZ oA rA Γ, b_d cB cC cI cJ cZ oA rA Γ]) (bs' := [b_k cB cC cI cJ cZ oA rA Γ, b_p cB cC cI cJ cZ oA rA Γ, b_o cB cC cI cJ cZ oA rA Γ, b_s cB cC cI cJ cZ oA rA Γ, b_c cB cC cI cJ cZ oA rA Γ, b_t cB cC cI cJ cZ oA rA Γ, b_d cB cC cI cJ cZ oA rA Γ]) (ws' := (b_k cB cC cI cJ cZ oA rA Γ ++ b_p cB cC cI cJ cZ oA rA Γ ++ b_o cB cC cI cJ cZ oA rA Γ ++ b_s cB cC cI cJ cZ oA rA Γ ++ b_c cB cC cI cJ cZ oA rA Γ ++ b_t cB cC cI cJ cZ oA rA Γ ++ b_d cB cC cI cJ cZ oA rA Γ)) hP fl_7 fl_7 [0, 1, 2, 3, 4, 5, 6] rfl
    have hDc := bx_D (bs := [b_k cB cC cI cJ cZ oA rA Γ, b_p cB cC cI cJ cZ oA rA Γ, b_o cB cC cI cJ cZ oA rA Γ, b_s cB cC cI cJ cZ oA rA Γ, b_c cB cC cI cJ cZ oA rA Γ, b_t cB cC cI cJ cZ oA rA Γ, b_d cB cC cI cJ cZ oA rA Γ]) (bs' := [b_k cB cC cI cJ cZ oA rA Γ, b_p cB cC cI cJ cZ oA rA Γ, b_o cB cC cI cJ cZ oA rA Γ, b_s cB cC cI cJ cZ oA rA Γ, b_c cB cC cI cJ cZ oA rA Γ, b_t cB cC cI cJ cZ oA rA Γ, b_d cB cC cI cJ cZ oA rA Γ]) (ws' := (b_k cB cC cI cJ cZ oA rA Γ ++ b_p cB cC cI cJ cZ oA rA Γ ++ b_o cB cC cI cJ cZ oA rA Γ ++ b_s cB cC cI cJ cZ oA rA Γ ++ b_c cB cC cI cJ cZ oA rA Γ ++ b_t cB cC cI cJ cZ oA rA Γ ++ b_d cB cC cI cJ cZ oA rA Γ)) (hDD Γ) fl_7 fl_7 [0, 1, 2, 3, 4, 5, 6] (by decide +kernel) rfl
    have hFc := bx_F (bs := [b_k cB cC cI cJ cZ oA rA Γ, b_p cB cC cI cJ cZ oA rA Γ, b_o cB cC cI cJ cZ oA rA Γ, b_s cB cC cI cJ cZ oA rA Γ, b_c cB cC cI cJ cZ oA rA Γ, b_t cB cC cI cJ cZ oA rA Γ, b_d cB cC cI cJ cZ oA rA Γ]) (bs' := [b_k cB cC cI cJ cZ oA rA Γ, b_p cB cC cI cJ cZ oA rA Γ, b_o cB cC cI cJ cZ oA rA Γ, b_s cB cC cI cJ cZ oA rA Γ, b_c cB cC cI cJ cZ oA rA Γ, b_t cB cC cI cJ cZ oA rA Γ, b_d cB cC cI cJ cZ oA rA Γ]) (wc := (b_k cB cC cI cJ cZ oA rA Γ ++ b_p cB cC cI cJ cZ oA rA Γ ++ b_o cB cC cI cJ cZ oA rA Γ ++ b_s cB cC cI cJ cZ oA rA Γ ++ b_c cB cC cI cJ cZ oA rA Γ ++ b_t cB cC cI cJ cZ oA rA Γ ++ b_d cB cC cI cJ cZ oA rA Γ)) (hDD Γ) hS hA fl_7 fl_7 [0, 1, 2, 3, 4, 5, 6] rfl
    refine g_ofv (wc := (b_k cB cC cI cJ cZ oA rA Γ ++ b_p cB cC cI cJ cZ oA rA Γ ++ b_o cB cC cI cJ cZ oA rA Γ ++ b_s cB cC cI cJ cZ oA rA Γ ++ b_c cB cC cI cJ cZ oA rA Γ ++ b_t cB cC cI cJ cZ oA rA Γ ++ b_d cB cC cI cJ cZ oA rA Γ)) (wr := ([] : va_W)) hP (hDD Γ) hS hFc (bx_ix [b_k cB cC cI cJ cZ oA rA Γ, b_p cB cC cI cJ cZ oA rA Γ, b_o cB cC cI cJ cZ oA rA Γ, b_s cB cC cI cJ cZ oA rA Γ, b_c cB cC cI cJ cZ oA rA Γ, b_t cB cC cI cJ cZ oA rA Γ, b_d cB cC cI cJ cZ oA rA Γ] [0, 1, 2, 3, 4, 5, 6]) (bx_ix [b_k cB cC cI cJ cZ oA rA Γ, b_p cB cC cI cJ cZ oA rA Γ, b_o cB cC cI cJ cZ oA rA Γ, b_s cB cC cI cJ cZ oA rA Γ, b_c cB cC cI cJ cZ oA rA Γ, b_t cB cC cI cJ cZ oA rA Γ, b_d cB cC cI cJ cZ oA rA Γ] []) (bx_C (bs := [b_k cB cC cI cJ cZ oA rA Γ, b_p cB cC cI cJ cZ oA rA Γ, b_o cB cC cI cJ cZ oA rA Γ, b_s cB cC cI cJ cZ oA rA Γ, b_c cB cC cI cJ cZ oA rA Γ, b_t cB cC cI cJ cZ oA rA Γ, b_d cB cC cI cJ cZ oA rA Γ]) (bs' := [b_k cB cC cI cJ cZ oA rA Γ, b_p cB cC cI cJ cZ oA rA Γ, b_o cB cC cI cJ cZ oA rA Γ, b_s cB cC cI cJ cZ oA rA Γ, b_c cB cC cI cJ cZ oA rA Γ, b_t cB cC cI cJ cZ oA rA Γ, b_d cB cC cI cJ cZ oA rA Γ]) (is := [0, 1, 2, 3, 4, 5, 6]) fl_7 fl_7 rfl) (bx_C (bs := [b_k cB cC cI cJ cZ oA rA Γ, b_p cB cC cI cJ cZ oA rA Γ, b_o cB cC cI cJ cZ oA rA Γ, b_s cB cC cI cJ cZ oA rA Γ, b_c cB cC cI cJ cZ oA rA Γ, b_t cB cC cI cJ cZ oA rA Γ, b_d cB cC cI cJ cZ oA rA Γ]) (bs' := []) (is := []) fl_7 fl_0 rfl) (bx_n (by decide +kernel)) (bx_d (by decide +kernel)) (va_runV (As := [.int x_17]) (rest := []) ⟨hx, hb, hml, hown, hts⟩ (k_X3_push l dC dI cB cC cI cJ cZ cP oA rA H.size  x_17 Γ _ hu_19) (cwV 1 hts (g_gV wq_1141 wq_1142 wq_2085 wq_11 wq_1143) rfl rfl rfl (by decide +kernel) ⟨Nat.le_of_ble_eq_true rfl, Nat.le_of_ble_eq_true rfl⟩) (g_preV g_bl0 hK hPc hDc hS hE hFc g_to0 (q0 := 0) (ci := 3) rfl rfl) rfl rfl hl.1 rfl (lv_room (Nat.le_of_ble_eq_true rfl)) dX3_wideOp_108 ⟨Nat.le_of_ble_eq_true rfl, Nat.le_of_ble_eq_true rfl⟩) (fun u9 H locs hw9 hP' hD' hS => ?_)
    clear hPc hDc hFc
    have hP : va_P (dC, dI) vwCl (b_k cB cC cI cJ cZ oA rA u_19.2 ++ b_p cB cC cI cJ cZ oA rA u_19.2 ++ b_o cB cC cI cJ cZ oA rA u_19.2 ++ b_s cB cC cI cJ cZ oA rA u_19.2 ++ b_c cB cC cI cJ cZ oA rA u_19.2 ++ b_t cB cC cI cJ cZ oA rA u_19.2 ++ b_d cB cC cI cJ cZ oA rA u_19.2) H := hP'
    clear hP' hD'
    refine lv_goto (tgt := 242) hx hb dX3_wideOp_111 (by decide) ?_
    have h9 := Option.some.inj hF_20
    subst h9
    exact W.vret hx hb hr (fun t ht hW => ⟨⟨(), rfl, trivial, m_end ht hP, hDD _⟩, hS.F ht⟩) hS.2.2 dX3_wideOp_242
  have hF_21 := ineg c_13 hF_12
  clear hF_12
  by_cases c_22 : p0 = 36 ∨ p0 = 39
  · have hF_23 := ipos c_22 hF_21
    clear hF_21
    refine lv_tableIn (off := 151) (tgt := 152) hx hb dX3_wideOp_1 (by rcases c_22 with q9 | q9 <;> (rw [q9]; decide +kernel)) (by rcases c_22 with q9 | q9 <;> (rw [q9]; decide +kernel)) (by rcases c_22 with q9 | q9 <;> (rw [q9]; decide +kernel)) (by decide) ?_
    refine lv_aload_n hx hb dX3_wideOp_152 rfl (lv_at hl 0 rfl) ?_
    refine lv_iload_n hx hb dX3_wideOp_153 rfl (lv_at hl 1 rfl) ?_
    refine lv_bipush (v := 39) hx hb dX3_wideOp_154 (by decide +kernel) ?_
    obtain ⟨j_26, ej_26, hF_27⟩ := bnd_e hF_23
    clear hF_23
    have Jj_26 : ∀ (t_24 : Int32) (σ_25 : HS), j_26 t_24 σ_25 = some res → ∀ (H : Heap) (locs : List Loc), va_P (dC, dI) vwCl (b_k cB cC cI cJ cZ oA rA σ_25 ++ b_p cB cC cI cJ cZ oA rA σ_25 ++ b_o cB cC cI cJ cZ oA rA σ_25 ++ b_s cB cC cI cJ cZ oA rA σ_25 ++ b_c cB cC cI cJ cZ oA rA σ_25 ++ b_t cB cC cI cJ cZ oA rA σ_25 ++ b_d cB cC cI cJ cZ oA rA σ_25) H → va_S A s.heap H locs → ∀ ls : Array Slot, lv_has ls 3 [(2, .int p1)] → W p l e (headSpec (g_ws yX3_wideOp cX3_wideOp 3 none) { frames := 7, cells := 0, slots := 0, locals := 176 }).room s m ([.ref (oA 10), .int p0, .int p1] : List Value).toArray below meth c H locs 0 0 (MQ below (va_Qv (fun (_ : Unit) => True) (g_Bo (dC, dI) A (fun (_ : Unit) => (b_k cB cC cI cJ cZ oA rA res.2 ++ b_p cB cC cI cJ cZ oA rA res.2 ++ b_o cB cC cI cJ cZ oA rA res.2 ++ b_s cB cC cI cJ cZ oA rA res.2 ++ b_c cB cC cI cJ cZ oA rA res.2 ++ b_t cB cC cI cJ cZ oA rA res.2 ++ b_d cB cC cI cJ cZ oA rA res.2))) A) ([.ref (oA 10), .int p0, .int p1] : List Value).toArray s 0 0 A) (F0 m 164 ls [.int t_24, .ref (oA 10)]) := by
      intro t_24 σ_25 hF0 H locs hP hS ls hl
      subst ej_26
      have hF_28 := hF0
      clear hF0
      refine lv_iload_n hx hb dX3_wideOp_164 rfl (lv_at hl 0 rfl) ?_
      obtain ⟨u_29, hu_29, hF_30⟩ := Option.bind_eq_some_iff.mp hF_28
      clear hF_28
      have hPc := bx_P (bs := [b_k cB cC cI cJ cZ oA rA σ_25, b_p cB cC cI cJ cZ oA rA σ_25, b_o cB cC cI cJ cZ oA rA σ_25, b_s cB cC cI cJ cZ oA rA σ_25, b_c cB cC cI cJ cZ oA rA σ_25, b_t cB cC cI cJ cZ oA rA σ_25, b_d cB cC cI cJ cZ oA rA σ_25]) (bs' := [b_k cB cC cI cJ cZ oA rA σ_25, b_p cB cC cI cJ cZ oA rA σ_25, b_o cB cC cI cJ cZ oA rA σ_25, b_s cB cC cI cJ cZ oA rA σ_25, b_c cB cC cI cJ cZ oA rA σ_25, b_t cB cC cI cJ cZ oA rA σ_25, b_d cB cC cI cJ cZ oA rA σ_25]) (ws' := (b_k cB cC cI cJ cZ oA rA σ_25 ++ b_p cB cC cI cJ cZ oA rA σ_25 ++ b_o cB cC cI cJ cZ oA rA σ_25 ++ b_s cB cC cI cJ cZ oA rA σ_25 ++ b_c cB cC cI cJ cZ oA rA σ_25 ++ b_t cB cC cI cJ cZ oA rA σ_25 ++ b_d cB cC cI cJ cZ oA rA σ_25)) hP fl_7 fl_7 [0, 1, 2, 3, 4, 5, 6] rfl
      have hDc := bx_D (bs := [b_k cB cC cI cJ cZ oA rA σ_25, b_p cB cC cI cJ cZ oA rA σ_25, b_o cB cC cI cJ cZ oA rA σ_25, b_s cB cC cI cJ cZ oA rA σ_25, b_c cB cC cI cJ cZ oA rA σ_25, b_t cB cC cI cJ cZ oA rA σ_25, b_d cB cC cI cJ cZ oA rA σ_25]) (bs' := [b_k cB cC cI cJ cZ oA rA σ_25, b_p cB cC cI cJ cZ oA rA σ_25, b_o cB cC cI cJ cZ oA rA σ_25, b_s cB cC cI cJ cZ oA rA σ_25, b_c cB cC cI cJ cZ oA rA σ_25, b_t cB cC cI cJ cZ oA rA σ_25, b_d cB cC cI cJ cZ oA rA σ_25]) (ws' := (b_k cB cC cI cJ cZ oA rA σ_25 ++ b_p cB cC cI cJ cZ oA rA σ_25 ++ b_o cB cC cI cJ cZ oA rA σ_25 ++ b_s cB cC cI cJ cZ oA rA σ_25 ++ b_c cB cC cI cJ cZ oA rA σ_25 ++ b_t cB cC cI cJ cZ oA rA σ_25 ++ b_d cB cC cI cJ cZ oA rA σ_25)) (hDD σ_25) fl_7 fl_7 [0, 1, 2, 3, 4, 5, 6] (by decide +kernel) rfl
      have hFc := bx_F (bs := [b_k cB cC cI cJ cZ oA rA σ_25, b_p cB cC cI cJ cZ oA rA σ_25, b_o cB cC cI cJ cZ oA rA σ_25, b_s cB cC cI cJ cZ oA rA σ_25, b_c cB cC cI cJ cZ oA rA σ_25, b_t cB cC cI cJ cZ oA rA σ_25, b_d cB cC cI cJ cZ oA rA σ_25]) (bs' := [b_k cB cC cI cJ cZ oA rA σ_25, b_p cB cC cI cJ cZ oA rA σ_25, b_o cB cC cI cJ cZ oA rA σ_25, b_s cB cC cI cJ cZ oA rA σ_25, b_c cB cC cI cJ cZ oA rA σ_25, b_t cB cC cI cJ cZ oA rA σ_25, b_d cB cC cI cJ cZ oA rA σ_25]) (wc := (b_k cB cC cI cJ cZ oA rA σ_25 ++ b_p cB cC cI cJ cZ oA rA σ_25 ++ b_o cB cC cI cJ cZ oA rA σ_25 ++ b_s cB cC cI cJ cZ oA rA σ_25 ++ b_c cB cC cI cJ cZ oA rA σ_25 ++ b_t cB cC cI cJ cZ oA rA σ_25 ++ b_d cB cC cI cJ cZ oA rA σ_25)) (hDD σ_25) hS hA fl_7 fl_7 [0, 1, 2, 3, 4, 5, 6] rfl
      refine g_ofv (wc := (b_k cB cC cI cJ cZ oA rA σ_25 ++ b_p cB cC cI cJ cZ oA rA σ_25 ++ b_o cB cC cI cJ cZ oA rA σ_25 ++ b_s cB cC cI cJ cZ oA rA σ_25 ++ b_c cB cC cI cJ cZ oA rA σ_25 ++ b_t cB cC cI cJ cZ oA rA σ_25 ++ b_d cB cC cI cJ cZ oA rA σ_25)) (wr := ([] : va_W)) hP (hDD σ_25) hS hFc (bx_ix [b_k cB cC cI cJ cZ oA rA σ_25, b_p cB cC cI cJ cZ oA rA σ_25, b_o cB cC cI cJ cZ oA rA σ_25, b_s cB cC cI cJ cZ oA rA σ_25, b_c cB cC cI cJ cZ oA rA σ_25, b_t cB cC cI cJ cZ oA rA σ_25, b_d cB cC cI cJ cZ oA rA σ_25] [0, 1, 2, 3, 4, 5, 6]) (bx_ix [b_k cB cC cI cJ cZ oA rA σ_25, b_p cB cC cI cJ cZ oA rA σ_25, b_o cB cC cI cJ cZ oA rA σ_25, b_s cB cC cI cJ cZ oA rA σ_25, b_c cB cC cI cJ cZ oA rA σ_25, b_t cB cC cI cJ cZ oA rA σ_25, b_d cB cC cI cJ cZ oA rA σ_25] []) (bx_C (bs := [b_k cB cC cI cJ cZ oA rA σ_25, b_p cB cC cI cJ cZ oA rA σ_25, b_o cB cC cI cJ cZ oA rA σ_25, b_s cB cC cI cJ cZ oA rA σ_25, b_c cB cC cI cJ cZ oA rA σ_25, b_t cB cC cI cJ cZ oA rA σ_25, b_d cB cC cI cJ cZ oA rA σ_25]) (bs' := [b_k cB cC cI cJ cZ oA rA σ_25, b_p cB cC cI cJ cZ oA rA σ_25, b_o cB cC cI cJ cZ oA rA σ_25, b_s cB cC cI cJ cZ oA rA σ_25, b_c cB cC cI cJ cZ oA rA σ_25, b_t cB cC cI cJ cZ oA rA σ_25, b_d cB cC cI cJ cZ oA rA σ_25]) (is := [0, 1, 2, 3, 4, 5, 6]) fl_7 fl_7 rfl) (bx_C (bs := [b_k cB cC cI cJ cZ oA rA σ_25, b_p cB cC cI cJ cZ oA rA σ_25, b_o cB cC cI cJ cZ oA rA σ_25, b_s cB cC cI cJ cZ oA rA σ_25, b_c cB cC cI cJ cZ oA rA σ_25, b_t cB cC cI cJ cZ oA rA σ_25, b_d cB cC cI cJ cZ oA rA σ_25]) (bs' := []) (is := []) fl_7 fl_0 rfl) (bx_n (by decide +kernel)) (bx_d (by decide +kernel)) (va_runV (As := [.int t_24, .int p1]) (rest := []) ⟨hx, hb, hml, hown, hts⟩ (k_X3_cellOp l dC dI cB cC cI cJ cZ cP oA rA H.size  t_24 p1 σ_25 _ hu_29) (cwV 2 hts (g_gV wq_1147 wq_1148 wq_2087 wq_11 wq_1149) rfl rfl rfl (by decide +kernel) ⟨Nat.le_of_ble_eq_true rfl, Nat.le_of_ble_eq_true rfl⟩) (g_preV g_bl0 hK hPc hDc hS hE hFc g_to0 (q0 := 0) (ci := 3) rfl rfl) rfl rfl hl.1 rfl (lv_room (Nat.le_of_ble_eq_true rfl)) dX3_wideOp_165 ⟨Nat.le_of_ble_eq_true rfl, Nat.le_of_ble_eq_true rfl⟩) (fun u9 H locs hw9 hP' hD' hS => ?_)
      clear hPc hDc hFc
      have hP : va_P (dC, dI) vwCl (b_k cB cC cI cJ cZ oA rA u_29.2 ++ b_p cB cC cI cJ cZ oA rA u_29.2 ++ b_o cB cC cI cJ cZ oA rA u_29.2 ++ b_s cB cC cI cJ cZ oA rA u_29.2 ++ b_c cB cC cI cJ cZ oA rA u_29.2 ++ b_t cB cC cI cJ cZ oA rA u_29.2 ++ b_d cB cC cI cJ cZ oA rA u_29.2) H := hP'
      clear hP' hD'
      refine lv_goto (tgt := 242) hx hb dX3_wideOp_168 (by decide) ?_
      have h9 := Option.some.inj hF_30
      subst h9
      exact W.vret hx hb hr (fun t ht hW => ⟨⟨(), rfl, trivial, m_end ht hP, hDD _⟩, hS.F ht⟩) hS.2.2 dX3_wideOp_242
    refine lv_icmp_ne (tgt := 163) hx hb dX3_wideOp_156 (by decide) (fun c_31 => ?_) (fun c_31 => ?_)
    · have hF_33 := ineg c_31 hF_27
      clear hF_27
      refine lv_iconst (v := 0) hx hb dX3_wideOp_163 (by decide +kernel) ?_
      exact Jj_26 0 Γ hF_33 _ _ hP hS ls (lv_sub hl [2] rfl)
    · have hF_32 := ipos c_31 hF_27
      clear hF_27
      refine lv_iconst (v := 1) hx hb dX3_wideOp_159 (by decide +kernel) ?_
      refine lv_goto (tgt := 164) hx hb dX3_wideOp_160 (by decide) ?_
      exact Jj_26 1 Γ hF_32 _ _ hP hS ls (lv_sub hl [2] rfl)
  have hF_34 := ineg c_22 hF_21
  clear hF_21
  by_cases c_35 : p0 = 37
  · have hF_36 := ipos c_35 hF_34
    clear hF_34
    refine lv_tableIn (off := 113) (tgt := 114) hx hb dX3_wideOp_1 (by rw [c_35]; decide +kernel) (by rw [c_35]; decide +kernel) (by rw [c_35]; decide +kernel) (by decide) ?_
    refine lv_aload_n hx hb dX3_wideOp_114 rfl (lv_at hl 0 rfl) ?_
    refine va_get (D := (dC, dI)) (ci := 3) (v := .ref (oA 9)) (C := RX3) (T := TX3) (N := 16) hx hb hts ii_X3 hown hK hP 0 rfl rfl 0 (by decide) (hts (.fieldLink RX3 29 "StoryHouse$Machine" "play" "LStoryHouse$Play;") wq_259) (fun _ h9 => h9) rfl dX3_wideOp_115 ?_
    refine va_get (D := (dC, dI)) (ci := 6) (v := .ref (rA 9 4)) (C := RX6) (T := TX6) (N := 12) hx hb hts ii_X6 hown hK hP 5 rfl rfl 4 (by decide) (hts (.fieldLink RX3 145 "StoryHouse$Play" "vars" "[I") wq_231) (fun _ h9 => h9) rfl dX3_wideOp_118 ?_
    refine lv_iload_n hx hb dX3_wideOp_121 rfl (lv_at hl 2 rfl) ?_
    refine lv_aload_n hx hb dX3_wideOp_122 rfl (lv_at hl 0 rfl) ?_
    obtain ⟨u_37, hu_37, hF_38⟩ := Option.bind_eq_some_iff.mp hF_36
    clear hF_36
    have hPc := bx_P (bs := [b_k cB cC cI cJ cZ oA rA Γ, b_p cB cC cI cJ cZ oA rA Γ, b_o cB cC cI cJ cZ oA rA Γ, b_s cB cC cI cJ cZ oA rA Γ, b_c cB cC cI cJ cZ oA rA Γ, b_t cB cC cI cJ cZ oA rA Γ, b_d cB cC cI cJ cZ oA rA Γ]) (bs' := [b_k cB cC cI cJ cZ oA rA Γ, b_p cB cC cI cJ cZ oA rA Γ, b_o cB cC cI cJ cZ oA rA Γ, b_s cB cC cI cJ cZ oA rA Γ, b_c cB cC cI cJ cZ oA rA Γ, b_t cB cC cI cJ cZ oA rA Γ, b_d cB cC cI cJ cZ oA rA Γ]) (ws' := (b_k cB cC cI cJ cZ oA rA Γ ++ b_p cB cC cI cJ cZ oA rA Γ ++ b_o cB cC cI cJ cZ oA rA Γ ++ b_s cB cC cI cJ cZ oA rA Γ ++ b_c cB cC cI cJ cZ oA rA Γ ++ b_t cB cC cI cJ cZ oA rA Γ ++ b_d cB cC cI cJ cZ oA rA Γ)) hP fl_7 fl_7 [0, 1, 2, 3, 4, 5, 6] rfl
    have hDc := bx_D (bs := [b_k cB cC cI cJ cZ oA rA Γ, b_p cB cC cI cJ cZ oA rA Γ, b_o cB cC cI cJ cZ oA rA Γ, b_s cB cC cI cJ cZ oA rA Γ, b_c cB cC cI cJ cZ oA rA Γ, b_t cB cC cI cJ cZ oA rA Γ, b_d cB cC cI cJ cZ oA rA Γ]) (bs' := [b_k cB cC cI cJ cZ oA rA Γ, b_p cB cC cI cJ cZ oA rA Γ, b_o cB cC cI cJ cZ oA rA Γ, b_s cB cC cI cJ cZ oA rA Γ, b_c cB cC cI cJ cZ oA rA Γ, b_t cB cC cI cJ cZ oA rA Γ, b_d cB cC cI cJ cZ oA rA Γ]) (ws' := (b_k cB cC cI cJ cZ oA rA Γ ++ b_p cB cC cI cJ cZ oA rA Γ ++ b_o cB cC cI cJ cZ oA rA Γ ++ b_s cB cC cI cJ cZ oA rA Γ ++ b_c cB cC cI cJ cZ oA rA Γ ++ b_t cB cC cI cJ cZ oA rA Γ ++ b_d cB cC cI cJ cZ oA rA Γ)) (hDD Γ) fl_7 fl_7 [0, 1, 2, 3, 4, 5, 6] (by decide +kernel) rfl
    have hFc := bx_F (bs := [b_k cB cC cI cJ cZ oA rA Γ, b_p cB cC cI cJ cZ oA rA Γ, b_o cB cC cI cJ cZ oA rA Γ, b_s cB cC cI cJ cZ oA rA Γ, b_c cB cC cI cJ cZ oA rA Γ, b_t cB cC cI cJ cZ oA rA Γ, b_d cB cC cI cJ cZ oA rA Γ]) (bs' := [b_k cB cC cI cJ cZ oA rA Γ, b_p cB cC cI cJ cZ oA rA Γ, b_o cB cC cI cJ cZ oA rA Γ, b_s cB cC cI cJ cZ oA rA Γ, b_c cB cC cI cJ cZ oA rA Γ, b_t cB cC cI cJ cZ oA rA Γ, b_d cB cC cI cJ cZ oA rA Γ]) (wc := (b_k cB cC cI cJ cZ oA rA Γ ++ b_p cB cC cI cJ cZ oA rA Γ ++ b_o cB cC cI cJ cZ oA rA Γ ++ b_s cB cC cI cJ cZ oA rA Γ ++ b_c cB cC cI cJ cZ oA rA Γ ++ b_t cB cC cI cJ cZ oA rA Γ ++ b_d cB cC cI cJ cZ oA rA Γ)) (hDD Γ) hS hA fl_7 fl_7 [0, 1, 2, 3, 4, 5, 6] rfl
    refine g_ofi (wc := (b_k cB cC cI cJ cZ oA rA Γ ++ b_p cB cC cI cJ cZ oA rA Γ ++ b_o cB cC cI cJ cZ oA rA Γ ++ b_s cB cC cI cJ cZ oA rA Γ ++ b_c cB cC cI cJ cZ oA rA Γ ++ b_t cB cC cI cJ cZ oA rA Γ ++ b_d cB cC cI cJ cZ oA rA Γ)) (wr := ([] : va_W)) hP (hDD Γ) hS hFc (bx_ix [b_k cB cC cI cJ cZ oA rA Γ, b_p cB cC cI cJ cZ oA rA Γ, b_o cB cC cI cJ cZ oA rA Γ, b_s cB cC cI cJ cZ oA rA Γ, b_c cB cC cI cJ cZ oA rA Γ, b_t cB cC cI cJ cZ oA rA Γ, b_d cB cC cI cJ cZ oA rA Γ] [0, 1, 2, 3, 4, 5, 6]) (bx_ix [b_k cB cC cI cJ cZ oA rA Γ, b_p cB cC cI cJ cZ oA rA Γ, b_o cB cC cI cJ cZ oA rA Γ, b_s cB cC cI cJ cZ oA rA Γ, b_c cB cC cI cJ cZ oA rA Γ, b_t cB cC cI cJ cZ oA rA Γ, b_d cB cC cI cJ cZ oA rA Γ] []) (bx_C (bs := [b_k cB cC cI cJ cZ oA rA Γ, b_p cB cC cI cJ cZ oA rA Γ, b_o cB cC cI cJ cZ oA rA Γ, b_s cB cC cI cJ cZ oA rA Γ, b_c cB cC cI cJ cZ oA rA Γ, b_t cB cC cI cJ cZ oA rA Γ, b_d cB cC cI cJ cZ oA rA Γ]) (bs' := [b_k cB cC cI cJ cZ oA rA Γ, b_p cB cC cI cJ cZ oA rA Γ, b_o cB cC cI cJ cZ oA rA Γ, b_s cB cC cI cJ cZ oA rA Γ, b_c cB cC cI cJ cZ oA rA Γ, b_t cB cC cI cJ cZ oA rA Γ, b_d cB cC cI cJ cZ oA rA Γ]) (is := [0, 1, 2, 3, 4, 5, 6]) fl_7 fl_7 rfl) (bx_C (bs := [b_k cB cC cI cJ cZ oA rA Γ, b_p cB cC cI cJ cZ oA rA Γ, b_o cB cC cI cJ cZ oA rA Γ, b_s cB cC cI cJ cZ oA rA Γ, b_c cB cC cI cJ cZ oA rA Γ, b_t cB cC cI cJ cZ oA rA Γ, b_d cB cC cI cJ cZ oA rA Γ]) (bs' := []) (is := []) fl_7 fl_0 rfl) (bx_n (by decide +kernel)) (bx_d (by decide +kernel)) (va_runV (As := []) (rest := [.int p1, .ref (rA 9 4)]) ⟨hx, hb, hml, hown, hts⟩ (k_X3_pop l dC dI cB cC cI cJ cZ cP oA rA s.heap.size  Γ _ hu_37) (cwV 0 hts (g_gV wq_1144 wq_1145 wq_2086 wq_11 wq_1146) rfl rfl rfl (by decide +kernel) ⟨Nat.le_of_ble_eq_true rfl, Nat.le_of_ble_eq_true rfl⟩) (g_preV g_bl0 hK hPc hDc hS hE hFc g_to0 (q0 := 0) (ci := 3) rfl rfl) rfl rfl hl.1 rfl (lv_room (Nat.le_of_ble_eq_true rfl)) dX3_wideOp_123 ⟨Nat.le_of_ble_eq_true rfl, Nat.le_of_ble_eq_true rfl⟩) (fun r9 u9 H locs hw9 hP' hD' hS => ?_)
    clear hPc hDc hFc
    subst hw9
    have hP : va_P (dC, dI) vwCl (b_k cB cC cI cJ cZ oA rA u_37.2 ++ b_p cB cC cI cJ cZ oA rA u_37.2 ++ b_o cB cC cI cJ cZ oA rA u_37.2 ++ b_s cB cC cI cJ cZ oA rA u_37.2 ++ b_c cB cC cI cJ cZ oA rA u_37.2 ++ b_t cB cC cI cJ cZ oA rA u_37.2 ++ b_d cB cC cI cJ cZ oA rA u_37.2) H := hP'
    clear hP' hD'
    have hq9 : ((b_k cB cC cI cJ cZ oA rA u_37.2 ++ b_p cB cC cI cJ cZ oA rA u_37.2 ++ b_o cB cC cI cJ cZ oA rA u_37.2 ++ b_s cB cC cI cJ cZ oA rA u_37.2 ++ b_c cB cC cI cJ cZ oA rA u_37.2 ++ b_t cB cC cI cJ cZ oA rA u_37.2 ++ b_d cB cC cI cJ cZ oA rA u_37.2))[10]? = some (rA 9 4, .inl (cI, 100, .inl ((u_37.2 9).2.1 4))) := rfl
    have hPc := hP.sub (ws' := [(rA 9 4, .inl (cI, 100, .inl ((u_37.2 9).2.1 4)))]) [10] (pk_fm (er_C hq9))
    have hDc := (hDD u_37.2).sub (ws' := [(rA 9 4, .inl (cI, 100, .inl ((u_37.2 9).2.1 4)))]) [10] (by decide +kernel) (er_C hq9)
    have hFc := va_free (wc := [(rA 9 4, .inl (cI, 100, .inl ((u_37.2 9).2.1 4)))]) (hDD u_37.2) hS hA [10] (er_C hq9)
    refine g_ofv (wc := [(rA 9 4, .inl (cI, 100, .inl ((u_37.2 9).2.1 4)))]) (wr := (((b_k cB cC cI cJ cZ oA rA u_37.2 ++ b_p cB cC cI cJ cZ oA rA u_37.2 ++ b_o cB cC cI cJ cZ oA rA u_37.2 ++ b_s cB cC cI cJ cZ oA rA u_37.2 ++ b_c cB cC cI cJ cZ oA rA u_37.2 ++ b_t cB cC cI cJ cZ oA rA u_37.2 ++ b_d cB cC cI cJ cZ oA rA u_37.2)).eraseIdx 10)) hP (hDD u_37.2) hS hFc [10] ((List.range ((b_k cB cC cI cJ cZ oA rA u_37.2 ++ b_p cB cC cI cJ cZ oA rA u_37.2 ++ b_o cB cC cI cJ cZ oA rA u_37.2 ++ b_s cB cC cI cJ cZ oA rA u_37.2 ++ b_c cB cC cI cJ cZ oA rA u_37.2 ++ b_t cB cC cI cJ cZ oA rA u_37.2 ++ b_d cB cC cI cJ cZ oA rA u_37.2)).length).eraseIdx 10) (er_C hq9) er_R er_n er_d (va_runSN (As := [.ref (rA 9 4), .int p1, .int u_37.1]) (rest := []) ⟨hx, hb, hml, hown, hts⟩ (c_X11_put l dC dI cB cC cI cJ cZ cP H.size (rA 9 4) p1 u_37.1 100 ((u_37.2 9).2.1 4) (by decide)) ⟨va_cnB 3 hts (g_gA wq_412) rfl rfl rfl (nw_35 hN) (hts (.initialized RX11) wq_1) (by decide +kernel) ⟨Nat.le_of_ble_eq_true rfl, Nat.le_of_ble_eq_true rfl⟩, (hts (.static yX11_put) wq_411), trivial⟩ (g_preS g_bl0 hK hPc hDc hS hE hFc g_to0) rfl rfl hl.1 rfl (lv_room (Nat.le_of_ble_eq_true rfl)) dX3_wideOp_126 ⟨Nat.le_of_ble_eq_true rfl, Nat.le_of_ble_eq_true rfl⟩) (fun g9 H locs hw9 hP' hD' hS => ?_)
    clear hPc hDc hFc hD'
    obtain ⟨σ_39, eσ_39, hF_40⟩ := bnd_e hF_38
    clear hF_38
    subst hw9
    have hP : va_P (dC, dI) vwCl (b_k cB cC cI cJ cZ oA rA σ_39 ++ b_p cB cC cI cJ cZ oA rA σ_39 ++ b_o cB cC cI cJ cZ oA rA σ_39 ++ b_s cB cC cI cJ cZ oA rA σ_39 ++ b_c cB cC cI cJ cZ oA rA σ_39 ++ b_t cB cC cI cJ cZ oA rA σ_39 ++ b_d cB cC cI cJ cZ oA rA σ_39) H := by rw [eσ_39]; exact cs_kposctd_p_4 ▸ er_P hP' (er_lt hq9)
    clear hP' hq9
    refine lv_goto (tgt := 242) hx hb dX3_wideOp_129 (by decide) ?_
    have h9 := Option.some.inj hF_40
    subst h9
    exact W.vret hx hb hr (fun t ht hW => ⟨⟨(), rfl, trivial, m_end ht hP, hDD _⟩, hS.F ht⟩) hS.2.2 dX3_wideOp_242
  have hF_41 := ineg c_35 hF_34
  clear hF_34
  by_cases c_42 : p0 = 38
  · have hF_43 := ipos c_42 hF_41
    clear hF_41
    refine lv_tableIn (off := 131) (tgt := 132) hx hb dX3_wideOp_1 (by rw [c_42]; decide +kernel) (by rw [c_42]; decide +kernel) (by rw [c_42]; decide +kernel) (by decide) ?_
    refine lv_aload_n hx hb dX3_wideOp_132 rfl (lv_at hl 0 rfl) ?_
    refine va_get (D := (dC, dI)) (ci := 3) (v := .ref (rA 10 6)) (C := RX3) (T := TX3) (N := 16) hx hb hts ii_X3 hown hK hP 0 rfl rfl 6 (by decide) (hts (.fieldLink RX3 11 "StoryHouse$Machine" "stack" "[I") wq_270) (fun _ h9 => h9) rfl dX3_wideOp_133 ?_
    refine lv_aload_n hx hb dX3_wideOp_136 rfl (lv_at hl 0 rfl) ?_
    refine va_get (D := (dC, dI)) (ci := 3) (v := .int ((Γ 10).1 8)) (C := RX3) (T := TX3) (N := 16) hx hb hts ii_X3 hown hK hP 0 rfl rfl 8 (by decide) (hts (.fieldLink RX3 46 "StoryHouse$Machine" "base" "I") wq_272) (fun _ h9 => h9) rfl dX3_wideOp_137 ?_
    refine lv_iload_n hx hb dX3_wideOp_140 rfl (lv_at hl 2 rfl) ?_
    refine lv_iadd hx hb dX3_wideOp_141 ?_
    refine lv_aload_n hx hb dX3_wideOp_142 rfl (lv_at hl 0 rfl) ?_
    obtain ⟨u_44, hu_44, hF_45⟩ := Option.bind_eq_some_iff.mp hF_43
    clear hF_43
    have hPc := bx_P (bs := [b_k cB cC cI cJ cZ oA rA Γ, b_p cB cC cI cJ cZ oA rA Γ, b_o cB cC cI cJ cZ oA rA Γ, b_s cB cC cI cJ cZ oA rA Γ, b_c cB cC cI cJ cZ oA rA Γ, b_t cB cC cI cJ cZ oA rA Γ, b_d cB cC cI cJ cZ oA rA Γ]) (bs' := [b_k cB cC cI cJ cZ oA rA Γ, b_p cB cC cI cJ cZ oA rA Γ, b_o cB cC cI cJ cZ oA rA Γ, b_s cB cC cI cJ cZ oA rA Γ, b_c cB cC cI cJ cZ oA rA Γ, b_t cB cC cI cJ cZ oA rA Γ, b_d cB cC cI cJ cZ oA rA Γ]) (ws' := (b_k cB cC cI cJ cZ oA rA Γ ++ b_p cB cC cI cJ cZ oA rA Γ ++ b_o cB cC cI cJ cZ oA rA Γ ++ b_s cB cC cI cJ cZ oA rA Γ ++ b_c cB cC cI cJ cZ oA rA Γ ++ b_t cB cC cI cJ cZ oA rA Γ ++ b_d cB cC cI cJ cZ oA rA Γ)) hP fl_7 fl_7 [0, 1, 2, 3, 4, 5, 6] rfl
    have hDc := bx_D (bs := [b_k cB cC cI cJ cZ oA rA Γ, b_p cB cC cI cJ cZ oA rA Γ, b_o cB cC cI cJ cZ oA rA Γ, b_s cB cC cI cJ cZ oA rA Γ, b_c cB cC cI cJ cZ oA rA Γ, b_t cB cC cI cJ cZ oA rA Γ, b_d cB cC cI cJ cZ oA rA Γ]) (bs' := [b_k cB cC cI cJ cZ oA rA Γ, b_p cB cC cI cJ cZ oA rA Γ, b_o cB cC cI cJ cZ oA rA Γ, b_s cB cC cI cJ cZ oA rA Γ, b_c cB cC cI cJ cZ oA rA Γ, b_t cB cC cI cJ cZ oA rA Γ, b_d cB cC cI cJ cZ oA rA Γ]) (ws' := (b_k cB cC cI cJ cZ oA rA Γ ++ b_p cB cC cI cJ cZ oA rA Γ ++ b_o cB cC cI cJ cZ oA rA Γ ++ b_s cB cC cI cJ cZ oA rA Γ ++ b_c cB cC cI cJ cZ oA rA Γ ++ b_t cB cC cI cJ cZ oA rA Γ ++ b_d cB cC cI cJ cZ oA rA Γ)) (hDD Γ) fl_7 fl_7 [0, 1, 2, 3, 4, 5, 6] (by decide +kernel) rfl
    have hFc := bx_F (bs := [b_k cB cC cI cJ cZ oA rA Γ, b_p cB cC cI cJ cZ oA rA Γ, b_o cB cC cI cJ cZ oA rA Γ, b_s cB cC cI cJ cZ oA rA Γ, b_c cB cC cI cJ cZ oA rA Γ, b_t cB cC cI cJ cZ oA rA Γ, b_d cB cC cI cJ cZ oA rA Γ]) (bs' := [b_k cB cC cI cJ cZ oA rA Γ, b_p cB cC cI cJ cZ oA rA Γ, b_o cB cC cI cJ cZ oA rA Γ, b_s cB cC cI cJ cZ oA rA Γ, b_c cB cC cI cJ cZ oA rA Γ, b_t cB cC cI cJ cZ oA rA Γ, b_d cB cC cI cJ cZ oA rA Γ]) (wc := (b_k cB cC cI cJ cZ oA rA Γ ++ b_p cB cC cI cJ cZ oA rA Γ ++ b_o cB cC cI cJ cZ oA rA Γ ++ b_s cB cC cI cJ cZ oA rA Γ ++ b_c cB cC cI cJ cZ oA rA Γ ++ b_t cB cC cI cJ cZ oA rA Γ ++ b_d cB cC cI cJ cZ oA rA Γ)) (hDD Γ) hS hA fl_7 fl_7 [0, 1, 2, 3, 4, 5, 6] rfl
    refine g_ofi (wc := (b_k cB cC cI cJ cZ oA rA Γ ++ b_p cB cC cI cJ cZ oA rA Γ ++ b_o cB cC cI cJ cZ oA rA Γ ++ b_s cB cC cI cJ cZ oA rA Γ ++ b_c cB cC cI cJ cZ oA rA Γ ++ b_t cB cC cI cJ cZ oA rA Γ ++ b_d cB cC cI cJ cZ oA rA Γ)) (wr := ([] : va_W)) hP (hDD Γ) hS hFc (bx_ix [b_k cB cC cI cJ cZ oA rA Γ, b_p cB cC cI cJ cZ oA rA Γ, b_o cB cC cI cJ cZ oA rA Γ, b_s cB cC cI cJ cZ oA rA Γ, b_c cB cC cI cJ cZ oA rA Γ, b_t cB cC cI cJ cZ oA rA Γ, b_d cB cC cI cJ cZ oA rA Γ] [0, 1, 2, 3, 4, 5, 6]) (bx_ix [b_k cB cC cI cJ cZ oA rA Γ, b_p cB cC cI cJ cZ oA rA Γ, b_o cB cC cI cJ cZ oA rA Γ, b_s cB cC cI cJ cZ oA rA Γ, b_c cB cC cI cJ cZ oA rA Γ, b_t cB cC cI cJ cZ oA rA Γ, b_d cB cC cI cJ cZ oA rA Γ] []) (bx_C (bs := [b_k cB cC cI cJ cZ oA rA Γ, b_p cB cC cI cJ cZ oA rA Γ, b_o cB cC cI cJ cZ oA rA Γ, b_s cB cC cI cJ cZ oA rA Γ, b_c cB cC cI cJ cZ oA rA Γ, b_t cB cC cI cJ cZ oA rA Γ, b_d cB cC cI cJ cZ oA rA Γ]) (bs' := [b_k cB cC cI cJ cZ oA rA Γ, b_p cB cC cI cJ cZ oA rA Γ, b_o cB cC cI cJ cZ oA rA Γ, b_s cB cC cI cJ cZ oA rA Γ, b_c cB cC cI cJ cZ oA rA Γ, b_t cB cC cI cJ cZ oA rA Γ, b_d cB cC cI cJ cZ oA rA Γ]) (is := [0, 1, 2, 3, 4, 5, 6]) fl_7 fl_7 rfl) (bx_C (bs := [b_k cB cC cI cJ cZ oA rA Γ, b_p cB cC cI cJ cZ oA rA Γ, b_o cB cC cI cJ cZ oA rA Γ, b_s cB cC cI cJ cZ oA rA Γ, b_c cB cC cI cJ cZ oA rA Γ, b_t cB cC cI cJ cZ oA rA Γ, b_d cB cC cI cJ cZ oA rA Γ]) (bs' := []) (is := []) fl_7 fl_0 rfl) (bx_n (by decide +kernel)) (bx_d (by decide +kernel)) (va_runV (As := []) (rest := [.int (((Γ 10).1 8) + p1), .ref (rA 10 6)]) ⟨hx, hb, hml, hown, hts⟩ (k_X3_pop l dC dI cB cC cI cJ cZ cP oA rA s.heap.size  Γ _ hu_44) (cwV 0 hts (g_gV wq_1144 wq_1145 wq_2086 wq_11 wq_1146) rfl rfl rfl (by decide +kernel) ⟨Nat.le_of_ble_eq_true rfl, Nat.le_of_ble_eq_true rfl⟩) (g_preV g_bl0 hK hPc hDc hS hE hFc g_to0 (q0 := 0) (ci := 3) rfl rfl) rfl rfl hl.1 rfl (lv_room (Nat.le_of_ble_eq_true rfl)) dX3_wideOp_143 ⟨Nat.le_of_ble_eq_true rfl, Nat.le_of_ble_eq_true rfl⟩) (fun r9 u9 H locs hw9 hP' hD' hS => ?_)
    clear hPc hDc hFc
    subst hw9
    have hP : va_P (dC, dI) vwCl (b_k cB cC cI cJ cZ oA rA u_44.2 ++ b_p cB cC cI cJ cZ oA rA u_44.2 ++ b_o cB cC cI cJ cZ oA rA u_44.2 ++ b_s cB cC cI cJ cZ oA rA u_44.2 ++ b_c cB cC cI cJ cZ oA rA u_44.2 ++ b_t cB cC cI cJ cZ oA rA u_44.2 ++ b_d cB cC cI cJ cZ oA rA u_44.2) H := hP'
    clear hP' hD'
    have hq9 : ((b_k cB cC cI cJ cZ oA rA u_44.2 ++ b_p cB cC cI cJ cZ oA rA u_44.2 ++ b_o cB cC cI cJ cZ oA rA u_44.2 ++ b_s cB cC cI cJ cZ oA rA u_44.2 ++ b_c cB cC cI cJ cZ oA rA u_44.2 ++ b_t cB cC cI cJ cZ oA rA u_44.2 ++ b_d cB cC cI cJ cZ oA rA u_44.2))[1]? = some (rA 10 6, .inl (cI, 9000, .inl ((u_44.2 10).2.1 6))) := rfl
    have hPc := hP.sub (ws' := [(rA 10 6, .inl (cI, 9000, .inl ((u_44.2 10).2.1 6)))]) [1] (pk_fm (er_C hq9))
    have hDc := (hDD u_44.2).sub (ws' := [(rA 10 6, .inl (cI, 9000, .inl ((u_44.2 10).2.1 6)))]) [1] (by decide +kernel) (er_C hq9)
    have hFc := va_free (wc := [(rA 10 6, .inl (cI, 9000, .inl ((u_44.2 10).2.1 6)))]) (hDD u_44.2) hS hA [1] (er_C hq9)
    refine g_ofv (wc := [(rA 10 6, .inl (cI, 9000, .inl ((u_44.2 10).2.1 6)))]) (wr := (((b_k cB cC cI cJ cZ oA rA u_44.2 ++ b_p cB cC cI cJ cZ oA rA u_44.2 ++ b_o cB cC cI cJ cZ oA rA u_44.2 ++ b_s cB cC cI cJ cZ oA rA u_44.2 ++ b_c cB cC cI cJ cZ oA rA u_44.2 ++ b_t cB cC cI cJ cZ oA rA u_44.2 ++ b_d cB cC cI cJ cZ oA rA u_44.2)).eraseIdx 1)) hP (hDD u_44.2) hS hFc [1] ((List.range ((b_k cB cC cI cJ cZ oA rA u_44.2 ++ b_p cB cC cI cJ cZ oA rA u_44.2 ++ b_o cB cC cI cJ cZ oA rA u_44.2 ++ b_s cB cC cI cJ cZ oA rA u_44.2 ++ b_c cB cC cI cJ cZ oA rA u_44.2 ++ b_t cB cC cI cJ cZ oA rA u_44.2 ++ b_d cB cC cI cJ cZ oA rA u_44.2)).length).eraseIdx 1) (er_C hq9) er_R er_n er_d (va_runSN (As := [.ref (rA 10 6), .int (((Γ 10).1 8) + p1), .int u_44.1]) (rest := []) ⟨hx, hb, hml, hown, hts⟩ (c_X11_put l dC dI cB cC cI cJ cZ cP H.size (rA 10 6) (((Γ 10).1 8) + p1) u_44.1 9000 ((u_44.2 10).2.1 6) (by decide)) ⟨va_cnB 3 hts (g_gA wq_412) rfl rfl rfl (nw_35 hN) (hts (.initialized RX11) wq_1) (by decide +kernel) ⟨Nat.le_of_ble_eq_true rfl, Nat.le_of_ble_eq_true rfl⟩, (hts (.static yX11_put) wq_411), trivial⟩ (g_preS g_bl0 hK hPc hDc hS hE hFc g_to0) rfl rfl hl.1 rfl (lv_room (Nat.le_of_ble_eq_true rfl)) dX3_wideOp_146 ⟨Nat.le_of_ble_eq_true rfl, Nat.le_of_ble_eq_true rfl⟩) (fun g9 H locs hw9 hP' hD' hS => ?_)
    clear hPc hDc hFc hD'
    obtain ⟨σ_46, eσ_46, hF_47⟩ := bnd_e hF_45
    clear hF_45
    subst hw9
    have hP : va_P (dC, dI) vwCl (b_k cB cC cI cJ cZ oA rA σ_46 ++ b_p cB cC cI cJ cZ oA rA σ_46 ++ b_o cB cC cI cJ cZ oA rA σ_46 ++ b_s cB cC cI cJ cZ oA rA σ_46 ++ b_c cB cC cI cJ cZ oA rA σ_46 ++ b_t cB cC cI cJ cZ oA rA σ_46 ++ b_d cB cC cI cJ cZ oA rA σ_46) H := by rw [eσ_46]; exact cs_kposctd_k_6 ▸ er_P hP' (er_lt hq9)
    clear hP' hq9
    refine lv_goto (tgt := 242) hx hb dX3_wideOp_149 (by decide) ?_
    have h9 := Option.some.inj hF_47
    subst h9
    exact W.vret hx hb hr (fun t ht hW => ⟨⟨(), rfl, trivial, m_end ht hP, hDD _⟩, hS.F ht⟩) hS.2.2 dX3_wideOp_242
  have hF_48 := ineg c_42 hF_41
  clear hF_41
  by_cases c_49 : p0 = 40
  · have hF_50 := ipos c_49 hF_48
    clear hF_48
    refine lv_tableIn (off := 170) (tgt := 171) hx hb dX3_wideOp_1 (by rw [c_49]; decide +kernel) (by rw [c_49]; decide +kernel) (by rw [c_49]; decide +kernel) (by decide) ?_
    refine lv_aload_n hx hb dX3_wideOp_171 rfl (lv_at hl 0 rfl) ?_
    refine lv_iload_n hx hb dX3_wideOp_172 rfl (lv_at hl 2 rfl) ?_
    obtain ⟨u_51, hu_51, hF_52⟩ := Option.bind_eq_some_iff.mp hF_50
    clear hF_50
    have hPc := bx_P (bs := [b_k cB cC cI cJ cZ oA rA Γ, b_p cB cC cI cJ cZ oA rA Γ, b_o cB cC cI cJ cZ oA rA Γ, b_s cB cC cI cJ cZ oA rA Γ, b_c cB cC cI cJ cZ oA rA Γ, b_t cB cC cI cJ cZ oA rA Γ, b_d cB cC cI cJ cZ oA rA Γ]) (bs' := [b_k cB cC cI cJ cZ oA rA Γ, b_p cB cC cI cJ cZ oA rA Γ, b_o cB cC cI cJ cZ oA rA Γ, b_s cB cC cI cJ cZ oA rA Γ, b_c cB cC cI cJ cZ oA rA Γ, b_t cB cC cI cJ cZ oA rA Γ, b_d cB cC cI cJ cZ oA rA Γ]) (ws' := (b_k cB cC cI cJ cZ oA rA Γ ++ b_p cB cC cI cJ cZ oA rA Γ ++ b_o cB cC cI cJ cZ oA rA Γ ++ b_s cB cC cI cJ cZ oA rA Γ ++ b_c cB cC cI cJ cZ oA rA Γ ++ b_t cB cC cI cJ cZ oA rA Γ ++ b_d cB cC cI cJ cZ oA rA Γ)) hP fl_7 fl_7 [0, 1, 2, 3, 4, 5, 6] rfl
    have hDc := bx_D (bs := [b_k cB cC cI cJ cZ oA rA Γ, b_p cB cC cI cJ cZ oA rA Γ, b_o cB cC cI cJ cZ oA rA Γ, b_s cB cC cI cJ cZ oA rA Γ, b_c cB cC cI cJ cZ oA rA Γ, b_t cB cC cI cJ cZ oA rA Γ, b_d cB cC cI cJ cZ oA rA Γ]) (bs' := [b_k cB cC cI cJ cZ oA rA Γ, b_p cB cC cI cJ cZ oA rA Γ, b_o cB cC cI cJ cZ oA rA Γ, b_s cB cC cI cJ cZ oA rA Γ, b_c cB cC cI cJ cZ oA rA Γ, b_t cB cC cI cJ cZ oA rA Γ, b_d cB cC cI cJ cZ oA rA Γ]) (ws' := (b_k cB cC cI cJ cZ oA rA Γ ++ b_p cB cC cI cJ cZ oA rA Γ ++ b_o cB cC cI cJ cZ oA rA Γ ++ b_s cB cC cI cJ cZ oA rA Γ ++ b_c cB cC cI cJ cZ oA rA Γ ++ b_t cB cC cI cJ cZ oA rA Γ ++ b_d cB cC cI cJ cZ oA rA Γ)) (hDD Γ) fl_7 fl_7 [0, 1, 2, 3, 4, 5, 6] (by decide +kernel) rfl
    have hFc := bx_F (bs := [b_k cB cC cI cJ cZ oA rA Γ, b_p cB cC cI cJ cZ oA rA Γ, b_o cB cC cI cJ cZ oA rA Γ, b_s cB cC cI cJ cZ oA rA Γ, b_c cB cC cI cJ cZ oA rA Γ, b_t cB cC cI cJ cZ oA rA Γ, b_d cB cC cI cJ cZ oA rA Γ]) (bs' := [b_k cB cC cI cJ cZ oA rA Γ, b_p cB cC cI cJ cZ oA rA Γ, b_o cB cC cI cJ cZ oA rA Γ, b_s cB cC cI cJ cZ oA rA Γ, b_c cB cC cI cJ cZ oA rA Γ, b_t cB cC cI cJ cZ oA rA Γ, b_d cB cC cI cJ cZ oA rA Γ]) (wc := (b_k cB cC cI cJ cZ oA rA Γ ++ b_p cB cC cI cJ cZ oA rA Γ ++ b_o cB cC cI cJ cZ oA rA Γ ++ b_s cB cC cI cJ cZ oA rA Γ ++ b_c cB cC cI cJ cZ oA rA Γ ++ b_t cB cC cI cJ cZ oA rA Γ ++ b_d cB cC cI cJ cZ oA rA Γ)) (hDD Γ) hS hA fl_7 fl_7 [0, 1, 2, 3, 4, 5, 6] rfl
    refine g_ofv (wc := (b_k cB cC cI cJ cZ oA rA Γ ++ b_p cB cC cI cJ cZ oA rA Γ ++ b_o cB cC cI cJ cZ oA rA Γ ++ b_s cB cC cI cJ cZ oA rA Γ ++ b_c cB cC cI cJ cZ oA rA Γ ++ b_t cB cC cI cJ cZ oA rA Γ ++ b_d cB cC cI cJ cZ oA rA Γ)) (wr := ([] : va_W)) hP (hDD Γ) hS hFc (bx_ix [b_k cB cC cI cJ cZ oA rA Γ, b_p cB cC cI cJ cZ oA rA Γ, b_o cB cC cI cJ cZ oA rA Γ, b_s cB cC cI cJ cZ oA rA Γ, b_c cB cC cI cJ cZ oA rA Γ, b_t cB cC cI cJ cZ oA rA Γ, b_d cB cC cI cJ cZ oA rA Γ] [0, 1, 2, 3, 4, 5, 6]) (bx_ix [b_k cB cC cI cJ cZ oA rA Γ, b_p cB cC cI cJ cZ oA rA Γ, b_o cB cC cI cJ cZ oA rA Γ, b_s cB cC cI cJ cZ oA rA Γ, b_c cB cC cI cJ cZ oA rA Γ, b_t cB cC cI cJ cZ oA rA Γ, b_d cB cC cI cJ cZ oA rA Γ] []) (bx_C (bs := [b_k cB cC cI cJ cZ oA rA Γ, b_p cB cC cI cJ cZ oA rA Γ, b_o cB cC cI cJ cZ oA rA Γ, b_s cB cC cI cJ cZ oA rA Γ, b_c cB cC cI cJ cZ oA rA Γ, b_t cB cC cI cJ cZ oA rA Γ, b_d cB cC cI cJ cZ oA rA Γ]) (bs' := [b_k cB cC cI cJ cZ oA rA Γ, b_p cB cC cI cJ cZ oA rA Γ, b_o cB cC cI cJ cZ oA rA Γ, b_s cB cC cI cJ cZ oA rA Γ, b_c cB cC cI cJ cZ oA rA Γ, b_t cB cC cI cJ cZ oA rA Γ, b_d cB cC cI cJ cZ oA rA Γ]) (is := [0, 1, 2, 3, 4, 5, 6]) fl_7 fl_7 rfl) (bx_C (bs := [b_k cB cC cI cJ cZ oA rA Γ, b_p cB cC cI cJ cZ oA rA Γ, b_o cB cC cI cJ cZ oA rA Γ, b_s cB cC cI cJ cZ oA rA Γ, b_c cB cC cI cJ cZ oA rA Γ, b_t cB cC cI cJ cZ oA rA Γ, b_d cB cC cI cJ cZ oA rA Γ]) (bs' := []) (is := []) fl_7 fl_0 rfl) (bx_n (by decide +kernel)) (bx_d (by decide +kernel)) (va_runV (As := [.int p1]) (rest := []) ⟨hx, hb, hml, hown, hts⟩ (k_X3_call l dC dI cB cC cI cJ cZ cP oA rA s.heap.size  p1 Γ _ hu_51) (cwV 1 hts (g_gV wq_1157 wq_1158 wq_2089 wq_11 wq_1159) rfl rfl rfl (by decide +kernel) ⟨Nat.le_of_ble_eq_true rfl, Nat.le_of_ble_eq_true rfl⟩) (g_preV g_bl0 hK hPc hDc hS hE hFc g_to0 (q0 := 0) (ci := 3) rfl rfl) rfl rfl hl.1 rfl (lv_room (Nat.le_of_ble_eq_true rfl)) dX3_wideOp_173 ⟨Nat.le_of_ble_eq_true rfl, Nat.le_of_ble_eq_true rfl⟩) (fun u9 H locs hw9 hP' hD' hS => ?_)
    clear hPc hDc hFc
    have hP : va_P (dC, dI) vwCl (b_k cB cC cI cJ cZ oA rA u_51.2 ++ b_p cB cC cI cJ cZ oA rA u_51.2 ++ b_o cB cC cI cJ cZ oA rA u_51.2 ++ b_s cB cC cI cJ cZ oA rA u_51.2 ++ b_c cB cC cI cJ cZ oA rA u_51.2 ++ b_t cB cC cI cJ cZ oA rA u_51.2 ++ b_d cB cC cI cJ cZ oA rA u_51.2) H := hP'
    clear hP' hD'
    refine lv_goto (tgt := 242) hx hb dX3_wideOp_176 (by decide) ?_
    have h9 := Option.some.inj hF_52
    subst h9
    exact W.vret hx hb hr (fun t ht hW => ⟨⟨(), rfl, trivial, m_end ht hP, hDD _⟩, hS.F ht⟩) hS.2.2 dX3_wideOp_242
  have hF_53 := ineg c_49 hF_48
  clear hF_48
  by_cases c_54 : p0 = 41
  · have hF_55 := ipos c_54 hF_53
    clear hF_53
    refine lv_tableIn (off := 178) (tgt := 179) hx hb dX3_wideOp_1 (by rw [c_54]; decide +kernel) (by rw [c_54]; decide +kernel) (by rw [c_54]; decide +kernel) (by decide) ?_
    refine lv_aload_n hx hb dX3_wideOp_179 rfl (lv_at hl 0 rfl) ?_
    refine lv_iload_n hx hb dX3_wideOp_180 rfl (lv_at hl 2 rfl) ?_
    obtain ⟨σ_56, eσ_56, hF_57⟩ := bnd_e hF_55
    clear hF_55
    refine va_put (D := (dC, dI)) (ci := 3) (v := .int p1) (ty := .int) (C := RX3) (T := TX3) (N := 16) hx hb hts ii_X3 tyX3 tyX3_ok nmX3 hown hK hP (hDD _) hS 0 rfl rfl 9 (by decide) (hts (.fieldLink RX3 68 "StoryHouse$Machine" "pc" "I") wq_273) (fun _ h9 => h9) rfl (by decide +kernel) rfl rfl (Nat.le_of_ble_eq_true rfl) dX3_wideOp_181 (fun H locs hP' _ hS => ?_)
    have hP : va_P (dC, dI) vwCl (b_k cB cC cI cJ cZ oA rA σ_56 ++ b_p cB cC cI cJ cZ oA rA σ_56 ++ b_o cB cC cI cJ cZ oA rA σ_56 ++ b_s cB cC cI cJ cZ oA rA σ_56 ++ b_c cB cC cI cJ cZ oA rA σ_56 ++ b_t cB cC cI cJ cZ oA rA σ_56 ++ b_d cB cC cI cJ cZ oA rA σ_56) H := by rw [eσ_56]; exact cs_kposctd_k_9 ▸ hP'
    clear hP'
    refine lv_goto (tgt := 242) hx hb dX3_wideOp_184 (by decide) ?_
    have h9 := Option.some.inj hF_57
    subst h9
    exact W.vret hx hb hr (fun t ht hW => ⟨⟨(), rfl, trivial, m_end ht hP, hDD _⟩, hS.F ht⟩) hS.2.2 dX3_wideOp_242
  have hF_58 := ineg c_54 hF_53
  clear hF_53
  by_cases c_59 : p0 = 42
  · have hF_60 := ipos c_59 hF_58
    clear hF_58
    refine lv_tableIn (off := 186) (tgt := 187) hx hb dX3_wideOp_1 (by rw [c_59]; decide +kernel) (by rw [c_59]; decide +kernel) (by rw [c_59]; decide +kernel) (by decide) ?_
    refine lv_aload_n hx hb dX3_wideOp_187 rfl (lv_at hl 0 rfl) ?_
    refine lv_aload_n hx hb dX3_wideOp_188 rfl (lv_at hl 0 rfl) ?_
    obtain ⟨u_61, hu_61, hF_62⟩ := Option.bind_eq_some_iff.mp hF_60
    clear hF_60
    have hPc := bx_P (bs := [b_k cB cC cI cJ cZ oA rA Γ, b_p cB cC cI cJ cZ oA rA Γ, b_o cB cC cI cJ cZ oA rA Γ, b_s cB cC cI cJ cZ oA rA Γ, b_c cB cC cI cJ cZ oA rA Γ, b_t cB cC cI cJ cZ oA rA Γ, b_d cB cC cI cJ cZ oA rA Γ]) (bs' := [b_k cB cC cI cJ cZ oA rA Γ, b_p cB cC cI cJ cZ oA rA Γ, b_o cB cC cI cJ cZ oA rA Γ, b_s cB cC cI cJ cZ oA rA Γ, b_c cB cC cI cJ cZ oA rA Γ, b_t cB cC cI cJ cZ oA rA Γ, b_d cB cC cI cJ cZ oA rA Γ]) (ws' := (b_k cB cC cI cJ cZ oA rA Γ ++ b_p cB cC cI cJ cZ oA rA Γ ++ b_o cB cC cI cJ cZ oA rA Γ ++ b_s cB cC cI cJ cZ oA rA Γ ++ b_c cB cC cI cJ cZ oA rA Γ ++ b_t cB cC cI cJ cZ oA rA Γ ++ b_d cB cC cI cJ cZ oA rA Γ)) hP fl_7 fl_7 [0, 1, 2, 3, 4, 5, 6] rfl
    have hDc := bx_D (bs := [b_k cB cC cI cJ cZ oA rA Γ, b_p cB cC cI cJ cZ oA rA Γ, b_o cB cC cI cJ cZ oA rA Γ, b_s cB cC cI cJ cZ oA rA Γ, b_c cB cC cI cJ cZ oA rA Γ, b_t cB cC cI cJ cZ oA rA Γ, b_d cB cC cI cJ cZ oA rA Γ]) (bs' := [b_k cB cC cI cJ cZ oA rA Γ, b_p cB cC cI cJ cZ oA rA Γ, b_o cB cC cI cJ cZ oA rA Γ, b_s cB cC cI cJ cZ oA rA Γ, b_c cB cC cI cJ cZ oA rA Γ, b_t cB cC cI cJ cZ oA rA Γ, b_d cB cC cI cJ cZ oA rA Γ]) (ws' := (b_k cB cC cI cJ cZ oA rA Γ ++ b_p cB cC cI cJ cZ oA rA Γ ++ b_o cB cC cI cJ cZ oA rA Γ ++ b_s cB cC cI cJ cZ oA rA Γ ++ b_c cB cC cI cJ cZ oA rA Γ ++ b_t cB cC cI cJ cZ oA rA Γ ++ b_d cB cC cI cJ cZ oA rA Γ)) (hDD Γ) fl_7 fl_7 [0, 1, 2, 3, 4, 5, 6] (by decide +kernel) rfl
    have hFc := bx_F (bs := [b_k cB cC cI cJ cZ oA rA Γ, b_p cB cC cI cJ cZ oA rA Γ, b_o cB cC cI cJ cZ oA rA Γ, b_s cB cC cI cJ cZ oA rA Γ, b_c cB cC cI cJ cZ oA rA Γ, b_t cB cC cI cJ cZ oA rA Γ, b_d cB cC cI cJ cZ oA rA Γ]) (bs' := [b_k cB cC cI cJ cZ oA rA Γ, b_p cB cC cI cJ cZ oA rA Γ, b_o cB cC cI cJ cZ oA rA Γ, b_s cB cC cI cJ cZ oA rA Γ, b_c cB cC cI cJ cZ oA rA Γ, b_t cB cC cI cJ cZ oA rA Γ, b_d cB cC cI cJ cZ oA rA Γ]) (wc := (b_k cB cC cI cJ cZ oA rA Γ ++ b_p cB cC cI cJ cZ oA rA Γ ++ b_o cB cC cI cJ cZ oA rA Γ ++ b_s cB cC cI cJ cZ oA rA Γ ++ b_c cB cC cI cJ cZ oA rA Γ ++ b_t cB cC cI cJ cZ oA rA Γ ++ b_d cB cC cI cJ cZ oA rA Γ)) (hDD Γ) hS hA fl_7 fl_7 [0, 1, 2, 3, 4, 5, 6] rfl
    refine g_ofi (wc := (b_k cB cC cI cJ cZ oA rA Γ ++ b_p cB cC cI cJ cZ oA rA Γ ++ b_o cB cC cI cJ cZ oA rA Γ ++ b_s cB cC cI cJ cZ oA rA Γ ++ b_c cB cC cI cJ cZ oA rA Γ ++ b_t cB cC cI cJ cZ oA rA Γ ++ b_d cB cC cI cJ cZ oA rA Γ)) (wr := ([] : va_W)) hP (hDD Γ) hS hFc (bx_ix [b_k cB cC cI cJ cZ oA rA Γ, b_p cB cC cI cJ cZ oA rA Γ, b_o cB cC cI cJ cZ oA rA Γ, b_s cB cC cI cJ cZ oA rA Γ, b_c cB cC cI cJ cZ oA rA Γ, b_t cB cC cI cJ cZ oA rA Γ, b_d cB cC cI cJ cZ oA rA Γ] [0, 1, 2, 3, 4, 5, 6]) (bx_ix [b_k cB cC cI cJ cZ oA rA Γ, b_p cB cC cI cJ cZ oA rA Γ, b_o cB cC cI cJ cZ oA rA Γ, b_s cB cC cI cJ cZ oA rA Γ, b_c cB cC cI cJ cZ oA rA Γ, b_t cB cC cI cJ cZ oA rA Γ, b_d cB cC cI cJ cZ oA rA Γ] []) (bx_C (bs := [b_k cB cC cI cJ cZ oA rA Γ, b_p cB cC cI cJ cZ oA rA Γ, b_o cB cC cI cJ cZ oA rA Γ, b_s cB cC cI cJ cZ oA rA Γ, b_c cB cC cI cJ cZ oA rA Γ, b_t cB cC cI cJ cZ oA rA Γ, b_d cB cC cI cJ cZ oA rA Γ]) (bs' := [b_k cB cC cI cJ cZ oA rA Γ, b_p cB cC cI cJ cZ oA rA Γ, b_o cB cC cI cJ cZ oA rA Γ, b_s cB cC cI cJ cZ oA rA Γ, b_c cB cC cI cJ cZ oA rA Γ, b_t cB cC cI cJ cZ oA rA Γ, b_d cB cC cI cJ cZ oA rA Γ]) (is := [0, 1, 2, 3, 4, 5, 6]) fl_7 fl_7 rfl) (bx_C (bs := [b_k cB cC cI cJ cZ oA rA Γ, b_p cB cC cI cJ cZ oA rA Γ, b_o cB cC cI cJ cZ oA rA Γ, b_s cB cC cI cJ cZ oA rA Γ, b_c cB cC cI cJ cZ oA rA Γ, b_t cB cC cI cJ cZ oA rA Γ, b_d cB cC cI cJ cZ oA rA Γ]) (bs' := []) (is := []) fl_7 fl_0 rfl) (bx_n (by decide +kernel)) (bx_d (by decide +kernel)) (va_runV (As := []) (rest := [.ref (oA 10)]) ⟨hx, hb, hml, hown, hts⟩ (k_X3_pop l dC dI cB cC cI cJ cZ cP oA rA s.heap.size  Γ _ hu_61) (cwV 0 hts (g_gV wq_1144 wq_1145 wq_2086 wq_11 wq_1146) rfl rfl rfl (by decide +kernel) ⟨Nat.le_of_ble_eq_true rfl, Nat.le_of_ble_eq_true rfl⟩) (g_preV g_bl0 hK hPc hDc hS hE hFc g_to0 (q0 := 0) (ci := 3) rfl rfl) rfl rfl hl.1 rfl (lv_room (Nat.le_of_ble_eq_true rfl)) dX3_wideOp_189 ⟨Nat.le_of_ble_eq_true rfl, Nat.le_of_ble_eq_true rfl⟩) (fun r9 u9 H locs hw9 hP' hD' hS => ?_)
    clear hPc hDc hFc
    subst hw9
    have hP : va_P (dC, dI) vwCl (b_k cB cC cI cJ cZ oA rA u_61.2 ++ b_p cB cC cI cJ cZ oA rA u_61.2 ++ b_o cB cC cI cJ cZ oA rA u_61.2 ++ b_s cB cC cI cJ cZ oA rA u_61.2 ++ b_c cB cC cI cJ cZ oA rA u_61.2 ++ b_t cB cC cI cJ cZ oA rA u_61.2 ++ b_d cB cC cI cJ cZ oA rA u_61.2) H := hP'
    clear hP' hD'
    obtain ⟨j_65, ej_65, hF_66⟩ := bnd_e hF_62
    clear hF_62
    have Jj_65 : ∀ (t_63 : Int32) (σ_64 : HS), j_65 t_63 σ_64 = some res → ∀ (H : Heap) (locs : List Loc), va_P (dC, dI) vwCl (b_k cB cC cI cJ cZ oA rA σ_64 ++ b_p cB cC cI cJ cZ oA rA σ_64 ++ b_o cB cC cI cJ cZ oA rA σ_64 ++ b_s cB cC cI cJ cZ oA rA σ_64 ++ b_c cB cC cI cJ cZ oA rA σ_64 ++ b_t cB cC cI cJ cZ oA rA σ_64 ++ b_d cB cC cI cJ cZ oA rA σ_64) H → va_S A s.heap H locs → ∀ ls : Array Slot, lv_has ls 3 [] → W p l e (headSpec (g_ws yX3_wideOp cX3_wideOp 3 none) { frames := 7, cells := 0, slots := 0, locals := 176 }).room s m ([.ref (oA 10), .int p0, .int p1] : List Value).toArray below meth c H locs 0 0 (MQ below (va_Qv (fun (_ : Unit) => True) (g_Bo (dC, dI) A (fun (_ : Unit) => (b_k cB cC cI cJ cZ oA rA res.2 ++ b_p cB cC cI cJ cZ oA rA res.2 ++ b_o cB cC cI cJ cZ oA rA res.2 ++ b_s cB cC cI cJ cZ oA rA res.2 ++ b_c cB cC cI cJ cZ oA rA res.2 ++ b_t cB cC cI cJ cZ oA rA res.2 ++ b_d cB cC cI cJ cZ oA rA res.2))) A) ([.ref (oA 10), .int p0, .int p1] : List Value).toArray s 0 0 A) (F0 m 203 ls [.int t_63, .ref (oA 10)]) := by
      intro t_63 σ_64 hF0 H locs hP hS ls hl
      subst ej_65
      have hF_67 := hF0
      clear hF0
      obtain ⟨σ_68, eσ_68, hF_69⟩ := bnd_e hF_67
      clear hF_67
      refine va_put (D := (dC, dI)) (ci := 3) (v := .int t_63) (ty := .int) (C := RX3) (T := TX3) (N := 16) hx hb hts ii_X3 tyX3 tyX3_ok nmX3 hown hK hP (hDD _) hS 0 rfl rfl 9 (by decide) (hts (.fieldLink RX3 68 "StoryHouse$Machine" "pc" "I") wq_273) (fun _ h9 => h9) rfl (by decide +kernel) rfl rfl (Nat.le_of_ble_eq_true rfl) dX3_wideOp_203 (fun H locs hP' _ hS => ?_)
      have hP : va_P (dC, dI) vwCl (b_k cB cC cI cJ cZ oA rA σ_68 ++ b_p cB cC cI cJ cZ oA rA σ_68 ++ b_o cB cC cI cJ cZ oA rA σ_68 ++ b_s cB cC cI cJ cZ oA rA σ_68 ++ b_c cB cC cI cJ cZ oA rA σ_68 ++ b_t cB cC cI cJ cZ oA rA σ_68 ++ b_d cB cC cI cJ cZ oA rA σ_68) H := by rw [eσ_68]; exact cs_kposctd_k_9 ▸ hP'
      clear hP'
      refine lv_goto (tgt := 242) hx hb dX3_wideOp_206 (by decide) ?_
      have h9 := Option.some.inj hF_69
      subst h9
      exact W.vret hx hb hr (fun t ht hW => ⟨⟨(), rfl, trivial, m_end ht hP, hDD _⟩, hS.F ht⟩) hS.2.2 dX3_wideOp_242
    refine lv_if_ne (tgt := 199) hx hb dX3_wideOp_192 (by decide) (fun c_70 => ?_) (fun c_70 => ?_)
    · have hF_72 := ineg c_70 hF_66
      clear hF_66
      refine lv_aload_n hx hb dX3_wideOp_199 rfl (lv_at hl 0 rfl) ?_
      refine va_get (D := (dC, dI)) (ci := 3) (v := .int ((u_61.2 10).1 9)) (C := RX3) (T := TX3) (N := 16) hx hb hts ii_X3 hown hK hP 0 rfl rfl 9 (by decide) (hts (.fieldLink RX3 68 "StoryHouse$Machine" "pc" "I") wq_273) (fun _ h9 => h9) rfl dX3_wideOp_200 ?_
      exact Jj_65 ((u_61.2 10).1 9) u_61.2 hF_72 _ _ hP hS ls (lv_sub hl [] rfl)
    · have hF_71 := ipos c_70 hF_66
      clear hF_66
      refine lv_iload_n hx hb dX3_wideOp_195 rfl (lv_at hl 2 rfl) ?_
      refine lv_goto (tgt := 203) hx hb dX3_wideOp_196 (by decide) ?_
      exact Jj_65 p1 u_61.2 hF_71 _ _ hP hS ls (lv_sub hl [] rfl)
  have hF_73 := ineg c_59 hF_58
  clear hF_58
  by_cases c_74 : p0 = 43 ∨ p0 = 44
  · have hF_75 := ipos c_74 hF_73
    clear hF_73
    refine lv_tableIn (off := 208) (tgt := 209) hx hb dX3_wideOp_1 (by rcases c_74 with q9 | q9 <;> (rw [q9]; decide +kernel)) (by rcases c_74 with q9 | q9 <;> (rw [q9]; decide +kernel)) (by rcases c_74 with q9 | q9 <;> (rw [q9]; decide +kernel)) (by decide) ?_
    refine lv_aload_n hx hb dX3_wideOp_209 rfl (lv_at hl 0 rfl) ?_
    refine lv_iload_n hx hb dX3_wideOp_210 rfl (lv_at hl 1 rfl) ?_
    refine lv_bipush (v := 44) hx hb dX3_wideOp_211 (by decide +kernel) ?_
    obtain ⟨j_78, ej_78, hF_79⟩ := bnd_e hF_75
    clear hF_75
    have Jj_78 : ∀ (t_76 : Int32) (σ_77 : HS), j_78 t_76 σ_77 = some res → ∀ (H : Heap) (locs : List Loc), va_P (dC, dI) vwCl (b_k cB cC cI cJ cZ oA rA σ_77 ++ b_p cB cC cI cJ cZ oA rA σ_77 ++ b_o cB cC cI cJ cZ oA rA σ_77 ++ b_s cB cC cI cJ cZ oA rA σ_77 ++ b_c cB cC cI cJ cZ oA rA σ_77 ++ b_t cB cC cI cJ cZ oA rA σ_77 ++ b_d cB cC cI cJ cZ oA rA σ_77) H → va_S A s.heap H locs → ∀ ls : Array Slot, lv_has ls 3 [(2, .int p1)] → W p l e (headSpec (g_ws yX3_wideOp cX3_wideOp 3 none) { frames := 7, cells := 0, slots := 0, locals := 176 }).room s m ([.ref (oA 10), .int p0, .int p1] : List Value).toArray below meth c H locs 0 0 (MQ below (va_Qv (fun (_ : Unit) => True) (g_Bo (dC, dI) A (fun (_ : Unit) => (b_k cB cC cI cJ cZ oA rA res.2 ++ b_p cB cC cI cJ cZ oA rA res.2 ++ b_o cB cC cI cJ cZ oA rA res.2 ++ b_s cB cC cI cJ cZ oA rA res.2 ++ b_c cB cC cI cJ cZ oA rA res.2 ++ b_t cB cC cI cJ cZ oA rA res.2 ++ b_d cB cC cI cJ cZ oA rA res.2))) A) ([.ref (oA 10), .int p0, .int p1] : List Value).toArray s 0 0 A) (F0 m 221 ls [.int t_76, .ref (oA 10)]) := by
      intro t_76 σ_77 hF0 H locs hP hS ls hl
      subst ej_78
      have hF_80 := hF0
      clear hF0
      refine lv_iload_n hx hb dX3_wideOp_221 rfl (lv_at hl 0 rfl) ?_
      obtain ⟨u_81, hu_81, hF_82⟩ := Option.bind_eq_some_iff.mp hF_80
      clear hF_80
      have hPc := bx_P (bs := [b_k cB cC cI cJ cZ oA rA σ_77, b_p cB cC cI cJ cZ oA rA σ_77, b_o cB cC cI cJ cZ oA rA σ_77, b_s cB cC cI cJ cZ oA rA σ_77, b_c cB cC cI cJ cZ oA rA σ_77, b_t cB cC cI cJ cZ oA rA σ_77, b_d cB cC cI cJ cZ oA rA σ_77]) (bs' := [b_k cB cC cI cJ cZ oA rA σ_77, b_p cB cC cI cJ cZ oA rA σ_77, b_o cB cC cI cJ cZ oA rA σ_77, b_s cB cC cI cJ cZ oA rA σ_77, b_c cB cC cI cJ cZ oA rA σ_77, b_t cB cC cI cJ cZ oA rA σ_77, b_d cB cC cI cJ cZ oA rA σ_77]) (ws' := (b_k cB cC cI cJ cZ oA rA σ_77 ++ b_p cB cC cI cJ cZ oA rA σ_77 ++ b_o cB cC cI cJ cZ oA rA σ_77 ++ b_s cB cC cI cJ cZ oA rA σ_77 ++ b_c cB cC cI cJ cZ oA rA σ_77 ++ b_t cB cC cI cJ cZ oA rA σ_77 ++ b_d cB cC cI cJ cZ oA rA σ_77)) hP fl_7 fl_7 [0, 1, 2, 3, 4, 5, 6] rfl
      have hDc := bx_D (bs := [b_k cB cC cI cJ cZ oA rA σ_77, b_p cB cC cI cJ cZ oA rA σ_77, b_o cB cC cI cJ cZ oA rA σ_77, b_s cB cC cI cJ cZ oA rA σ_77, b_c cB cC cI cJ cZ oA rA σ_77, b_t cB cC cI cJ cZ oA rA σ_77, b_d cB cC cI cJ cZ oA rA σ_77]) (bs' := [b_k cB cC cI cJ cZ oA rA σ_77, b_p cB cC cI cJ cZ oA rA σ_77, b_o cB cC cI cJ cZ oA rA σ_77, b_s cB cC cI cJ cZ oA rA σ_77, b_c cB cC cI cJ cZ oA rA σ_77, b_t cB cC cI cJ cZ oA rA σ_77, b_d cB cC cI cJ cZ oA rA σ_77]) (ws' := (b_k cB cC cI cJ cZ oA rA σ_77 ++ b_p cB cC cI cJ cZ oA rA σ_77 ++ b_o cB cC cI cJ cZ oA rA σ_77 ++ b_s cB cC cI cJ cZ oA rA σ_77 ++ b_c cB cC cI cJ cZ oA rA σ_77 ++ b_t cB cC cI cJ cZ oA rA σ_77 ++ b_d cB cC cI cJ cZ oA rA σ_77)) (hDD σ_77) fl_7 fl_7 [0, 1, 2, 3, 4, 5, 6] (by decide +kernel) rfl
      have hFc := bx_F (bs := [b_k cB cC cI cJ cZ oA rA σ_77, b_p cB cC cI cJ cZ oA rA σ_77, b_o cB cC cI cJ cZ oA rA σ_77, b_s cB cC cI cJ cZ oA rA σ_77, b_c cB cC cI cJ cZ oA rA σ_77, b_t cB cC cI cJ cZ oA rA σ_77, b_d cB cC cI cJ cZ oA rA σ_77]) (bs' := [b_k cB cC cI cJ cZ oA rA σ_77, b_p cB cC cI cJ cZ oA rA σ_77, b_o cB cC cI cJ cZ oA rA σ_77, b_s cB cC cI cJ cZ oA rA σ_77, b_c cB cC cI cJ cZ oA rA σ_77, b_t cB cC cI cJ cZ oA rA σ_77, b_d cB cC cI cJ cZ oA rA σ_77]) (wc := (b_k cB cC cI cJ cZ oA rA σ_77 ++ b_p cB cC cI cJ cZ oA rA σ_77 ++ b_o cB cC cI cJ cZ oA rA σ_77 ++ b_s cB cC cI cJ cZ oA rA σ_77 ++ b_c cB cC cI cJ cZ oA rA σ_77 ++ b_t cB cC cI cJ cZ oA rA σ_77 ++ b_d cB cC cI cJ cZ oA rA σ_77)) (hDD σ_77) hS hA fl_7 fl_7 [0, 1, 2, 3, 4, 5, 6] rfl
      refine g_ofv (wc := (b_k cB cC cI cJ cZ oA rA σ_77 ++ b_p cB cC cI cJ cZ oA rA σ_77 ++ b_o cB cC cI cJ cZ oA rA σ_77 ++ b_s cB cC cI cJ cZ oA rA σ_77 ++ b_c cB cC cI cJ cZ oA rA σ_77 ++ b_t cB cC cI cJ cZ oA rA σ_77 ++ b_d cB cC cI cJ cZ oA rA σ_77)) (wr := ([] : va_W)) hP (hDD σ_77) hS hFc (bx_ix [b_k cB cC cI cJ cZ oA rA σ_77, b_p cB cC cI cJ cZ oA rA σ_77, b_o cB cC cI cJ cZ oA rA σ_77, b_s cB cC cI cJ cZ oA rA σ_77, b_c cB cC cI cJ cZ oA rA σ_77, b_t cB cC cI cJ cZ oA rA σ_77, b_d cB cC cI cJ cZ oA rA σ_77] [0, 1, 2, 3, 4, 5, 6]) (bx_ix [b_k cB cC cI cJ cZ oA rA σ_77, b_p cB cC cI cJ cZ oA rA σ_77, b_o cB cC cI cJ cZ oA rA σ_77, b_s cB cC cI cJ cZ oA rA σ_77, b_c cB cC cI cJ cZ oA rA σ_77, b_t cB cC cI cJ cZ oA rA σ_77, b_d cB cC cI cJ cZ oA rA σ_77] []) (bx_C (bs := [b_k cB cC cI cJ cZ oA rA σ_77, b_p cB cC cI cJ cZ oA rA σ_77, b_o cB cC cI cJ cZ oA rA σ_77, b_s cB cC cI cJ cZ oA rA σ_77, b_c cB cC cI cJ cZ oA rA σ_77, b_t cB cC cI cJ cZ oA rA σ_77, b_d cB cC cI cJ cZ oA rA σ_77]) (bs' := [b_k cB cC cI cJ cZ oA rA σ_77, b_p cB cC cI cJ cZ oA rA σ_77, b_o cB cC cI cJ cZ oA rA σ_77, b_s cB cC cI cJ cZ oA rA σ_77, b_c cB cC cI cJ cZ oA rA σ_77, b_t cB cC cI cJ cZ oA rA σ_77, b_d cB cC cI cJ cZ oA rA σ_77]) (is := [0, 1, 2, 3, 4, 5, 6]) fl_7 fl_7 rfl) (bx_C (bs := [b_k cB cC cI cJ cZ oA rA σ_77, b_p cB cC cI cJ cZ oA rA σ_77, b_o cB cC cI cJ cZ oA rA σ_77, b_s cB cC cI cJ cZ oA rA σ_77, b_c cB cC cI cJ cZ oA rA σ_77, b_t cB cC cI cJ cZ oA rA σ_77, b_d cB cC cI cJ cZ oA rA σ_77]) (bs' := []) (is := []) fl_7 fl_0 rfl) (bx_n (by decide +kernel)) (bx_d (by decide +kernel)) (va_runV (As := [.int t_76, .int p1]) (rest := []) ⟨hx, hb, hml, hown, hts⟩ (k_X3_pairOp l dC dI cB cC cI cJ cZ cP oA rA H.size  t_76 p1 σ_77 _ hu_81) (cwV 2 hts (g_gV wq_1163 wq_1164 wq_2091 wq_11 wq_1165) rfl rfl rfl (by decide +kernel) ⟨Nat.le_of_ble_eq_true rfl, Nat.le_of_ble_eq_true rfl⟩) (g_preV g_bl0 hK hPc hDc hS hE hFc g_to0 (q0 := 0) (ci := 3) rfl rfl) rfl rfl hl.1 rfl (lv_room (Nat.le_of_ble_eq_true rfl)) dX3_wideOp_222 ⟨Nat.le_of_ble_eq_true rfl, Nat.le_of_ble_eq_true rfl⟩) (fun u9 H locs hw9 hP' hD' hS => ?_)
      clear hPc hDc hFc
      have hP : va_P (dC, dI) vwCl (b_k cB cC cI cJ cZ oA rA u_81.2 ++ b_p cB cC cI cJ cZ oA rA u_81.2 ++ b_o cB cC cI cJ cZ oA rA u_81.2 ++ b_s cB cC cI cJ cZ oA rA u_81.2 ++ b_c cB cC cI cJ cZ oA rA u_81.2 ++ b_t cB cC cI cJ cZ oA rA u_81.2 ++ b_d cB cC cI cJ cZ oA rA u_81.2) H := hP'
      clear hP' hD'
      refine lv_goto (tgt := 242) hx hb dX3_wideOp_225 (by decide) ?_
      have h9 := Option.some.inj hF_82
      subst h9
      exact W.vret hx hb hr (fun t ht hW => ⟨⟨(), rfl, trivial, m_end ht hP, hDD _⟩, hS.F ht⟩) hS.2.2 dX3_wideOp_242
    refine lv_icmp_ne (tgt := 220) hx hb dX3_wideOp_213 (by decide) (fun c_83 => ?_) (fun c_83 => ?_)
    · have hF_85 := ineg c_83 hF_79
      clear hF_79
      refine lv_iconst (v := 0) hx hb dX3_wideOp_220 (by decide +kernel) ?_
      exact Jj_78 0 Γ hF_85 _ _ hP hS ls (lv_sub hl [2] rfl)
    · have hF_84 := ipos c_83 hF_79
      clear hF_79
      refine lv_iconst (v := 1) hx hb dX3_wideOp_216 (by decide +kernel) ?_
      refine lv_goto (tgt := 221) hx hb dX3_wideOp_217 (by decide) ?_
      exact Jj_78 1 Γ hF_84 _ _ hP hS ls (lv_sub hl [2] rfl)
  have hF_86 := ineg c_74 hF_73
  clear hF_73
  by_cases c_87 : p0 = 45
  · have hF_88 := ipos c_87 hF_86
    clear hF_86
    refine lv_tableIn (off := 227) (tgt := 228) hx hb dX3_wideOp_1 (by rw [c_87]; decide +kernel) (by rw [c_87]; decide +kernel) (by rw [c_87]; decide +kernel) (by decide) ?_
    refine lv_aload_n hx hb dX3_wideOp_228 rfl (lv_at hl 0 rfl) ?_
    refine lv_iload_n hx hb dX3_wideOp_229 rfl (lv_at hl 2 rfl) ?_
    obtain ⟨u_89, hu_89, hF_90⟩ := Option.bind_eq_some_iff.mp hF_88
    clear hF_88
    have hPc := bx_P (bs := [b_k cB cC cI cJ cZ oA rA Γ, b_p cB cC cI cJ cZ oA rA Γ, b_o cB cC cI cJ cZ oA rA Γ, b_s cB cC cI cJ cZ oA rA Γ, b_c cB cC cI cJ cZ oA rA Γ, b_t cB cC cI cJ cZ oA rA Γ, b_d cB cC cI cJ cZ oA rA Γ]) (bs' := [b_k cB cC cI cJ cZ oA rA Γ, b_p cB cC cI cJ cZ oA rA Γ, b_o cB cC cI cJ cZ oA rA Γ, b_s cB cC cI cJ cZ oA rA Γ, b_c cB cC cI cJ cZ oA rA Γ, b_t cB cC cI cJ cZ oA rA Γ, b_d cB cC cI cJ cZ oA rA Γ]) (ws' := (b_k cB cC cI cJ cZ oA rA Γ ++ b_p cB cC cI cJ cZ oA rA Γ ++ b_o cB cC cI cJ cZ oA rA Γ ++ b_s cB cC cI cJ cZ oA rA Γ ++ b_c cB cC cI cJ cZ oA rA Γ ++ b_t cB cC cI cJ cZ oA rA Γ ++ b_d cB cC cI cJ cZ oA rA Γ)) hP fl_7 fl_7 [0, 1, 2, 3, 4, 5, 6] rfl
    have hDc := bx_D (bs := [b_k cB cC cI cJ cZ oA rA Γ, b_p cB cC cI cJ cZ oA rA Γ, b_o cB cC cI cJ cZ oA rA Γ, b_s cB cC cI cJ cZ oA rA Γ, b_c cB cC cI cJ cZ oA rA Γ, b_t cB cC cI cJ cZ oA rA Γ, b_d cB cC cI cJ cZ oA rA Γ]) (bs' := [b_k cB cC cI cJ cZ oA rA Γ, b_p cB cC cI cJ cZ oA rA Γ, b_o cB cC cI cJ cZ oA rA Γ, b_s cB cC cI cJ cZ oA rA Γ, b_c cB cC cI cJ cZ oA rA Γ, b_t cB cC cI cJ cZ oA rA Γ, b_d cB cC cI cJ cZ oA rA Γ]) (ws' := (b_k cB cC cI cJ cZ oA rA Γ ++ b_p cB cC cI cJ cZ oA rA Γ ++ b_o cB cC cI cJ cZ oA rA Γ ++ b_s cB cC cI cJ cZ oA rA Γ ++ b_c cB cC cI cJ cZ oA rA Γ ++ b_t cB cC cI cJ cZ oA rA Γ ++ b_d cB cC cI cJ cZ oA rA Γ)) (hDD Γ) fl_7 fl_7 [0, 1, 2, 3, 4, 5, 6] (by decide +kernel) rfl
    have hFc := bx_F (bs := [b_k cB cC cI cJ cZ oA rA Γ, b_p cB cC cI cJ cZ oA rA Γ, b_o cB cC cI cJ cZ oA rA Γ, b_s cB cC cI cJ cZ oA rA Γ, b_c cB cC cI cJ cZ oA rA Γ, b_t cB cC cI cJ cZ oA rA Γ, b_d cB cC cI cJ cZ oA rA Γ]) (bs' := [b_k cB cC cI cJ cZ oA rA Γ, b_p cB cC cI cJ cZ oA rA Γ, b_o cB cC cI cJ cZ oA rA Γ, b_s cB cC cI cJ cZ oA rA Γ, b_c cB cC cI cJ cZ oA rA Γ, b_t cB cC cI cJ cZ oA rA Γ, b_d cB cC cI cJ cZ oA rA Γ]) (wc := (b_k cB cC cI cJ cZ oA rA Γ ++ b_p cB cC cI cJ cZ oA rA Γ ++ b_o cB cC cI cJ cZ oA rA Γ ++ b_s cB cC cI cJ cZ oA rA Γ ++ b_c cB cC cI cJ cZ oA rA Γ ++ b_t cB cC cI cJ cZ oA rA Γ ++ b_d cB cC cI cJ cZ oA rA Γ)) (hDD Γ) hS hA fl_7 fl_7 [0, 1, 2, 3, 4, 5, 6] rfl
    refine g_ofv (wc := (b_k cB cC cI cJ cZ oA rA Γ ++ b_p cB cC cI cJ cZ oA rA Γ ++ b_o cB cC cI cJ cZ oA rA Γ ++ b_s cB cC cI cJ cZ oA rA Γ ++ b_c cB cC cI cJ cZ oA rA Γ ++ b_t cB cC cI cJ cZ oA rA Γ ++ b_d cB cC cI cJ cZ oA rA Γ)) (wr := ([] : va_W)) hP (hDD Γ) hS hFc (bx_ix [b_k cB cC cI cJ cZ oA rA Γ, b_p cB cC cI cJ cZ oA rA Γ, b_o cB cC cI cJ cZ oA rA Γ, b_s cB cC cI cJ cZ oA rA Γ, b_c cB cC cI cJ cZ oA rA Γ, b_t cB cC cI cJ cZ oA rA Γ, b_d cB cC cI cJ cZ oA rA Γ] [0, 1, 2, 3, 4, 5, 6]) (bx_ix [b_k cB cC cI cJ cZ oA rA Γ, b_p cB cC cI cJ cZ oA rA Γ, b_o cB cC cI cJ cZ oA rA Γ, b_s cB cC cI cJ cZ oA rA Γ, b_c cB cC cI cJ cZ oA rA Γ, b_t cB cC cI cJ cZ oA rA Γ, b_d cB cC cI cJ cZ oA rA Γ] []) (bx_C (bs := [b_k cB cC cI cJ cZ oA rA Γ, b_p cB cC cI cJ cZ oA rA Γ, b_o cB cC cI cJ cZ oA rA Γ, b_s cB cC cI cJ cZ oA rA Γ, b_c cB cC cI cJ cZ oA rA Γ, b_t cB cC cI cJ cZ oA rA Γ, b_d cB cC cI cJ cZ oA rA Γ]) (bs' := [b_k cB cC cI cJ cZ oA rA Γ, b_p cB cC cI cJ cZ oA rA Γ, b_o cB cC cI cJ cZ oA rA Γ, b_s cB cC cI cJ cZ oA rA Γ, b_c cB cC cI cJ cZ oA rA Γ, b_t cB cC cI cJ cZ oA rA Γ, b_d cB cC cI cJ cZ oA rA Γ]) (is := [0, 1, 2, 3, 4, 5, 6]) fl_7 fl_7 rfl) (bx_C (bs := [b_k cB cC cI cJ cZ oA rA Γ, b_p cB cC cI cJ cZ oA rA Γ, b_o cB cC cI cJ cZ oA rA Γ, b_s cB cC cI cJ cZ oA rA Γ, b_c cB cC cI cJ cZ oA rA Γ, b_t cB cC cI cJ cZ oA rA Γ, b_d cB cC cI cJ cZ oA rA Γ]) (bs' := []) (is := []) fl_7 fl_0 rfl) (bx_n (by decide +kernel)) (bx_d (by decide +kernel)) (va_runV (As := [.int p1]) (rest := []) ⟨hx, hb, hml, hown, hts⟩ (k_X3_sayText l dC dI cB cC cI cJ cZ cP oA rA s.heap.size  p1 Γ _ hu_89) (cwV 1 hts (g_gV wq_1018 wq_1019 wq_1020 wq_11 wq_1021) rfl rfl rfl (by decide +kernel) ⟨Nat.le_of_ble_eq_true rfl, Nat.le_of_ble_eq_true rfl⟩) (g_preV g_bl0 hK hPc hDc hS hE hFc g_to0 (q0 := 0) (ci := 3) rfl rfl) rfl rfl hl.1 rfl (lv_room (Nat.le_of_ble_eq_true rfl)) dX3_wideOp_230 ⟨Nat.le_of_ble_eq_true rfl, Nat.le_of_ble_eq_true rfl⟩) (fun u9 H locs hw9 hP' hD' hS => ?_)
    clear hPc hDc hFc
    have hP : va_P (dC, dI) vwCl (b_k cB cC cI cJ cZ oA rA u_89.2 ++ b_p cB cC cI cJ cZ oA rA u_89.2 ++ b_o cB cC cI cJ cZ oA rA u_89.2 ++ b_s cB cC cI cJ cZ oA rA u_89.2 ++ b_c cB cC cI cJ cZ oA rA u_89.2 ++ b_t cB cC cI cJ cZ oA rA u_89.2 ++ b_d cB cC cI cJ cZ oA rA u_89.2) H := hP'
    clear hP' hD'
    refine lv_goto (tgt := 242) hx hb dX3_wideOp_233 (by decide) ?_
    have h9 := Option.some.inj hF_90
    subst h9
    exact W.vret hx hb hr (fun t ht hW => ⟨⟨(), rfl, trivial, m_end ht hP, hDD _⟩, hS.F ht⟩) hS.2.2 dX3_wideOp_242
  have hF_91 := ineg c_87 hF_86
  clear hF_86
  refine m_tabD (lo := 33) (n := 13) (tgt := 236) hx hb dX3_wideOp_1 (by decide +kernel) (by decide) (fun j9 h9 e9 => by
      match j9, h9 with
      | 0, _ => exact absurd ((by rw [e9]; decide +kernel)) c_1
      | 1, _ => exact absurd ((by rw [e9]; decide +kernel)) c_6
      | 2, _ => exact absurd ((by rw [e9]; decide +kernel)) c_13
      | 3, _ => exact absurd (Or.inl (by rw [e9]; decide +kernel)) c_22
      | 4, _ => exact absurd ((by rw [e9]; decide +kernel)) c_35
      | 5, _ => exact absurd ((by rw [e9]; decide +kernel)) c_42
      | 6, _ => exact absurd (Or.inr ((by rw [e9]; decide +kernel))) c_22
      | 7, _ => exact absurd ((by rw [e9]; decide +kernel)) c_49
      | 8, _ => exact absurd ((by rw [e9]; decide +kernel)) c_54
      | 9, _ => exact absurd ((by rw [e9]; decide +kernel)) c_59
      | 10, _ => exact absurd (Or.inl (by rw [e9]; decide +kernel)) c_74
      | 11, _ => exact absurd (Or.inr ((by rw [e9]; decide +kernel))) c_74
      | 12, _ => exact absurd ((by rw [e9]; decide +kernel)) c_87
      | n9 + 13, h9 => exact absurd h9 (by omega)) ?_
  refine lv_aload_n hx hb dX3_wideOp_236 rfl (lv_at hl 0 rfl) ?_
  refine lv_iload_n hx hb dX3_wideOp_237 rfl (lv_at hl 1 rfl) ?_
  refine lv_iload_n hx hb dX3_wideOp_238 rfl (lv_at hl 2 rfl) ?_
  obtain ⟨u_92, hu_92, hF_93⟩ := Option.bind_eq_some_iff.mp hF_91
  clear hF_91
  have hPc := bx_P (bs := [b_k cB cC cI cJ cZ oA rA Γ, b_p cB cC cI cJ cZ oA rA Γ, b_o cB cC cI cJ cZ oA rA Γ, b_s cB cC cI cJ cZ oA rA Γ, b_c cB cC cI cJ cZ oA rA Γ, b_t cB cC cI cJ cZ oA rA Γ, b_d cB cC cI cJ cZ oA rA Γ]) (bs' := [b_k cB cC cI cJ cZ oA rA Γ, b_p cB cC cI cJ cZ oA rA Γ, b_o cB cC cI cJ cZ oA rA Γ, b_s cB cC cI cJ cZ oA rA Γ, b_c cB cC cI cJ cZ oA rA Γ, b_t cB cC cI cJ cZ oA rA Γ, b_d cB cC cI cJ cZ oA rA Γ]) (ws' := (b_k cB cC cI cJ cZ oA rA Γ ++ b_p cB cC cI cJ cZ oA rA Γ ++ b_o cB cC cI cJ cZ oA rA Γ ++ b_s cB cC cI cJ cZ oA rA Γ ++ b_c cB cC cI cJ cZ oA rA Γ ++ b_t cB cC cI cJ cZ oA rA Γ ++ b_d cB cC cI cJ cZ oA rA Γ)) hP fl_7 fl_7 [0, 1, 2, 3, 4, 5, 6] rfl
  have hDc := bx_D (bs := [b_k cB cC cI cJ cZ oA rA Γ, b_p cB cC cI cJ cZ oA rA Γ, b_o cB cC cI cJ cZ oA rA Γ, b_s cB cC cI cJ cZ oA rA Γ, b_c cB cC cI cJ cZ oA rA Γ, b_t cB cC cI cJ cZ oA rA Γ, b_d cB cC cI cJ cZ oA rA Γ]) (bs' := [b_k cB cC cI cJ cZ oA rA Γ, b_p cB cC cI cJ cZ oA rA Γ, b_o cB cC cI cJ cZ oA rA Γ, b_s cB cC cI cJ cZ oA rA Γ, b_c cB cC cI cJ cZ oA rA Γ, b_t cB cC cI cJ cZ oA rA Γ, b_d cB cC cI cJ cZ oA rA Γ]) (ws' := (b_k cB cC cI cJ cZ oA rA Γ ++ b_p cB cC cI cJ cZ oA rA Γ ++ b_o cB cC cI cJ cZ oA rA Γ ++ b_s cB cC cI cJ cZ oA rA Γ ++ b_c cB cC cI cJ cZ oA rA Γ ++ b_t cB cC cI cJ cZ oA rA Γ ++ b_d cB cC cI cJ cZ oA rA Γ)) (hDD Γ) fl_7 fl_7 [0, 1, 2, 3, 4, 5, 6] (by decide +kernel) rfl
  have hFc := bx_F (bs := [b_k cB cC cI cJ cZ oA rA Γ, b_p cB cC cI cJ cZ oA rA Γ, b_o cB cC cI cJ cZ oA rA Γ, b_s cB cC cI cJ cZ oA rA Γ, b_c cB cC cI cJ cZ oA rA Γ, b_t cB cC cI cJ cZ oA rA Γ, b_d cB cC cI cJ cZ oA rA Γ]) (bs' := [b_k cB cC cI cJ cZ oA rA Γ, b_p cB cC cI cJ cZ oA rA Γ, b_o cB cC cI cJ cZ oA rA Γ, b_s cB cC cI cJ cZ oA rA Γ, b_c cB cC cI cJ cZ oA rA Γ, b_t cB cC cI cJ cZ oA rA Γ, b_d cB cC cI cJ cZ oA rA Γ]) (wc := (b_k cB cC cI cJ cZ oA rA Γ ++ b_p cB cC cI cJ cZ oA rA Γ ++ b_o cB cC cI cJ cZ oA rA Γ ++ b_s cB cC cI cJ cZ oA rA Γ ++ b_c cB cC cI cJ cZ oA rA Γ ++ b_t cB cC cI cJ cZ oA rA Γ ++ b_d cB cC cI cJ cZ oA rA Γ)) (hDD Γ) hS hA fl_7 fl_7 [0, 1, 2, 3, 4, 5, 6] rfl
  refine g_ofv (wc := (b_k cB cC cI cJ cZ oA rA Γ ++ b_p cB cC cI cJ cZ oA rA Γ ++ b_o cB cC cI cJ cZ oA rA Γ ++ b_s cB cC cI cJ cZ oA rA Γ ++ b_c cB cC cI cJ cZ oA rA Γ ++ b_t cB cC cI cJ cZ oA rA Γ ++ b_d cB cC cI cJ cZ oA rA Γ)) (wr := ([] : va_W)) hP (hDD Γ) hS hFc (bx_ix [b_k cB cC cI cJ cZ oA rA Γ, b_p cB cC cI cJ cZ oA rA Γ, b_o cB cC cI cJ cZ oA rA Γ, b_s cB cC cI cJ cZ oA rA Γ, b_c cB cC cI cJ cZ oA rA Γ, b_t cB cC cI cJ cZ oA rA Γ, b_d cB cC cI cJ cZ oA rA Γ] [0, 1, 2, 3, 4, 5, 6]) (bx_ix [b_k cB cC cI cJ cZ oA rA Γ, b_p cB cC cI cJ cZ oA rA Γ, b_o cB cC cI cJ cZ oA rA Γ, b_s cB cC cI cJ cZ oA rA Γ, b_c cB cC cI cJ cZ oA rA Γ, b_t cB cC cI cJ cZ oA rA Γ, b_d cB cC cI cJ cZ oA rA Γ] []) (bx_C (bs := [b_k cB cC cI cJ cZ oA rA Γ, b_p cB cC cI cJ cZ oA rA Γ, b_o cB cC cI cJ cZ oA rA Γ, b_s cB cC cI cJ cZ oA rA Γ, b_c cB cC cI cJ cZ oA rA Γ, b_t cB cC cI cJ cZ oA rA Γ, b_d cB cC cI cJ cZ oA rA Γ]) (bs' := [b_k cB cC cI cJ cZ oA rA Γ, b_p cB cC cI cJ cZ oA rA Γ, b_o cB cC cI cJ cZ oA rA Γ, b_s cB cC cI cJ cZ oA rA Γ, b_c cB cC cI cJ cZ oA rA Γ, b_t cB cC cI cJ cZ oA rA Γ, b_d cB cC cI cJ cZ oA rA Γ]) (is := [0, 1, 2, 3, 4, 5, 6]) fl_7 fl_7 rfl) (bx_C (bs := [b_k cB cC cI cJ cZ oA rA Γ, b_p cB cC cI cJ cZ oA rA Γ, b_o cB cC cI cJ cZ oA rA Γ, b_s cB cC cI cJ cZ oA rA Γ, b_c cB cC cI cJ cZ oA rA Γ, b_t cB cC cI cJ cZ oA rA Γ, b_d cB cC cI cJ cZ oA rA Γ]) (bs' := []) (is := []) fl_7 fl_0 rfl) (bx_n (by decide +kernel)) (bx_d (by decide +kernel)) (va_runV (As := [.int p0, .int p1]) (rest := []) ⟨hx, hb, hml, hown, hts⟩ (k_X3_traitOp l dC dI cB cC cI cJ cZ cP oA rA s.heap.size  p0 p1 Γ _ hu_92) (cwV 2 hts (g_gV wq_1166 wq_1167 wq_2092 wq_11 wq_1168) rfl rfl rfl (by decide +kernel) ⟨Nat.le_of_ble_eq_true rfl, Nat.le_of_ble_eq_true rfl⟩) (g_preV g_bl0 hK hPc hDc hS hE hFc g_to0 (q0 := 0) (ci := 3) rfl rfl) rfl rfl hl.1 rfl (lv_room (Nat.le_of_ble_eq_true rfl)) dX3_wideOp_239 ⟨Nat.le_of_ble_eq_true rfl, Nat.le_of_ble_eq_true rfl⟩) (fun u9 H locs hw9 hP' hD' hS => ?_)
  clear hPc hDc hFc
  have hP : va_P (dC, dI) vwCl (b_k cB cC cI cJ cZ oA rA u_92.2 ++ b_p cB cC cI cJ cZ oA rA u_92.2 ++ b_o cB cC cI cJ cZ oA rA u_92.2 ++ b_s cB cC cI cJ cZ oA rA u_92.2 ++ b_c cB cC cI cJ cZ oA rA u_92.2 ++ b_t cB cC cI cJ cZ oA rA u_92.2 ++ b_d cB cC cI cJ cZ oA rA u_92.2) H := hP'
  clear hP' hD'
  have h9 := Option.some.inj hF_93
  subst h9
  exact W.vret hx hb hr (fun t ht hW => ⟨⟨(), rfl, trivial, m_end ht hP, hDD _⟩, hS.F ht⟩) hS.2.2 dX3_wideOp_242
theorem dX3_draw_0 : decode cX3_draw 0 = .ok (.iload_n 1, 1) := by decide +kernel
theorem dX3_draw_1 : decode cX3_draw 1 = .ok (.iconst 1, 1) := by decide +kernel
theorem dX3_draw_2 : decode cX3_draw 2 = .ok (.if_icmp .ge 5, 3) := by decide +kernel
theorem dX3_draw_5 : decode cX3_draw 5 = .ok (.iconst 0, 1) := by decide +kernel
theorem dX3_draw_6 : decode cX3_draw 6 = .ok (.ireturn, 1) := by decide +kernel
theorem dX3_draw_7 : decode cX3_draw 7 = .ok (.aload_n 0, 1) := by decide +kernel
theorem dX3_draw_8 : decode cX3_draw 8 = .ok (.getfield 29, 3) := by decide +kernel
theorem dX3_draw_11 : decode cX3_draw 11 = .ok (.aload_n 0, 1) := by decide +kernel
theorem dX3_draw_12 : decode cX3_draw 12 = .ok (.getfield 29, 3) := by decide +kernel
theorem dX3_draw_15 : decode cX3_draw 15 = .ok (.getfield 198, 3) := by decide +kernel
theorem dX3_draw_18 : decode cX3_draw 18 = .ok (.ldc 201, 2) := by decide +kernel
theorem dX3_draw_20 : decode cX3_draw 20 = .ok (.imul, 1) := by decide +kernel
theorem dX3_draw_21 : decode cX3_draw 21 = .ok (.iconst 1, 1) := by decide +kernel
theorem dX3_draw_22 : decode cX3_draw 22 = .ok (.iadd, 1) := by decide +kernel
theorem dX3_draw_23 : decode cX3_draw 23 = .ok (.putfield 198, 3) := by decide +kernel
theorem dX3_draw_26 : decode cX3_draw 26 = .ok (.iconst 1, 1) := by decide +kernel
theorem dX3_draw_27 : decode cX3_draw 27 = .ok (.aload_n 0, 1) := by decide +kernel
theorem dX3_draw_28 : decode cX3_draw 28 = .ok (.getfield 29, 3) := by decide +kernel
theorem dX3_draw_31 : decode cX3_draw 31 = .ok (.getfield 198, 3) := by decide +kernel
theorem dX3_draw_34 : decode cX3_draw 34 = .ok (.bipush 16, 2) := by decide +kernel
theorem dX3_draw_36 : decode cX3_draw 36 = .ok (.iushr, 1) := by decide +kernel
theorem dX3_draw_37 : decode cX3_draw 37 = .ok (.sipush 32767, 3) := by decide +kernel
theorem dX3_draw_40 : decode cX3_draw 40 = .ok (.iand, 1) := by decide +kernel
theorem dX3_draw_41 : decode cX3_draw 41 = .ok (.iload_n 1, 1) := by decide +kernel
theorem dX3_draw_42 : decode cX3_draw 42 = .ok (.irem, 1) := by decide +kernel
theorem dX3_draw_43 : decode cX3_draw 43 = .ok (.iadd, 1) := by decide +kernel
theorem dX3_draw_44 : decode cX3_draw 44 = .ok (.ireturn, 1) := by decide +kernel
def F_X3_draw (p0 : Int32) (Γ : HS) : HR :=
  if 1 ≤ p0 then (
    bnd (cI' Γ 9 8 ((((Γ 9).1 8) * 69069) + 1)) fun σ_3 =>
    bnd ((((σ_3 9).1 8).toUInt32 >>> ((16 : Int32).toUInt32 &&& Int32.toUInt32 31)).toInt32) fun (x_5 : Int32) =>
    if p0 = 0 then none else
    bnd (((x_5 &&& 32767) - (x_5 &&& 32767) / p0 * p0)) fun (x_9 : Int32) =>
    some ((1 + x_9), σ_3)
  ) else (
    some (0, Γ)
  )
set_option maxHeartbeats 4000000 in
set_option maxRecDepth 100000 in
theorem k_X3_draw (l : Launch) (dC : Nat → ClassId) (dI : Nat → Nat → Nat) (cB cC cI cJ cZ cP : ClassId) (oA : Nat → Nat) (rA : Nat → Nat → Nat) (sz : Nat)  (p0 : Int32) (Γ : HS) (res : Int32 × HS) (hF : F_X3_draw p0 Γ = some res) : Met l yX3_draw (g_ws yX3_draw cX3_draw 2 (some .int)) ({ frames := 1, cells := 0, slots := 0, locals := 40 }) (va_Pc [.ref (oA 10), .int p0] (g_B (dC, dI) [(cB, .byte), (cC, .char), (cI, .int), (cJ, .long), (cZ, .boolean), (cP, .object "StoryHouse$Play")] sz (b_k cB cC cI cJ cZ oA rA Γ ++ b_p cB cC cI cJ cZ oA rA Γ ++ b_o cB cC cI cJ cZ oA rA Γ ++ b_s cB cC cI cJ cZ oA rA Γ ++ b_c cB cC cI cJ cZ oA rA Γ ++ b_t cB cC cI cJ cZ oA rA Γ ++ b_d cB cC cI cJ cZ oA rA Γ) g_0)) (va_Qi (fun r (_ : Unit) => r = res.1) (g_Bo (dC, dI) (va_A (b_k cB cC cI cJ cZ oA rA Γ ++ b_p cB cC cI cJ cZ oA rA Γ ++ b_o cB cC cI cJ cZ oA rA Γ ++ b_s cB cC cI cJ cZ oA rA Γ ++ b_c cB cC cI cJ cZ oA rA Γ ++ b_t cB cC cI cJ cZ oA rA Γ ++ b_d cB cC cI cJ cZ oA rA Γ) sz) (fun (_ : Unit) => (b_k cB cC cI cJ cZ oA rA res.2 ++ b_p cB cC cI cJ cZ oA rA res.2 ++ b_o cB cC cI cJ cZ oA rA res.2 ++ b_s cB cC cI cJ cZ oA rA res.2 ++ b_c cB cC cI cJ cZ oA rA res.2 ++ b_t cB cC cI cJ cZ oA rA res.2 ++ b_d cB cC cI cJ cZ oA rA res.2))) (va_A (b_k cB cC cI cJ cZ oA rA Γ ++ b_p cB cC cI cJ cZ oA rA Γ ++ b_o cB cC cI cJ cZ oA rA Γ ++ b_s cB cC cI cJ cZ oA rA Γ ++ b_c cB cC cI cJ cZ oA rA Γ ++ b_t cB cC cI cJ cZ oA rA Γ ++ b_d cB cC cI cJ cZ oA rA Γ) sz)) 0 0 (va_A (b_k cB cC cI cJ cZ oA rA Γ ++ b_p cB cC cI cJ cZ oA rA Γ ++ b_o cB cC cI cJ cZ oA rA Γ ++ b_s cB cC cI cJ cZ oA rA Γ ++ b_c cB cC cI cJ cZ oA rA Γ ++ b_t cB cC cI cJ cZ oA rA Γ ++ b_d cB cC cI cJ cZ oA rA Γ) sz) := by
  refine Met.ofW (cc := cX3_draw) (maxL := 2) (ret := (some .int)) (by decide) rfl ?_
  intro p e s m args below meth c s₁ B hml hv
  obtain ⟨rfl, hsz, hP, hK, hD0, hE, hX⟩ := hv
  have hx := B.exec
  have hb := B.bytes
  have hr := B.returns
  have hts0 := atoms_spec (ws := g_ws yX3_draw cX3_draw 2 (some .int)) B.pre
  have hts : ∀ w ∈ lw_good, w.before ([.ref (oA 10), .int p0] : List Value).toArray s = true := fun w z => hts0 w (List.mem_cons_of_mem _ z)
  have hown : s.vm.findClass RX3 = some m.cls := findClass_of_methodNamed B.named
  have hlocks := B.notSynchronized
  subst hsz
  have hD1 := hD0.self (sz := s.heap.size)
  generalize hAe : va_A (b_k cB cC cI cJ cZ oA rA Γ ++ b_p cB cC cI cJ cZ oA rA Γ ++ b_o cB cC cI cJ cZ oA rA Γ ++ b_s cB cC cI cJ cZ oA rA Γ ++ b_c cB cC cI cJ cZ oA rA Γ ++ b_t cB cC cI cJ cZ oA rA Γ ++ b_d cB cC cI cJ cZ oA rA Γ) s.heap.size = A at hD1 hE hX ⊢
  have hA : ∀ q : Nat, s.heap.size ≤ q → A q := fun q z => by rw [← hAe]; exact Or.inr z
  have hDD : ∀ Γ : HS, va_D A (b_k cB cC cI cJ cZ oA rA Γ ++ b_p cB cC cI cJ cZ oA rA Γ ++ b_o cB cC cI cJ cZ oA rA Γ ++ b_s cB cC cI cJ cZ oA rA Γ ++ b_c cB cC cI cJ cZ oA rA Γ ++ b_t cB cC cI cJ cZ oA rA Γ ++ b_d cB cC cI cJ cZ oA rA Γ) := fun Γ9 => va_D_fst (ws := (b_k cB cC cI cJ cZ oA rA Γ ++ b_p cB cC cI cJ cZ oA rA Γ ++ b_o cB cC cI cJ cZ oA rA Γ ++ b_s cB cC cI cJ cZ oA rA Γ ++ b_c cB cC cI cJ cZ oA rA Γ ++ b_t cB cC cI cJ cZ oA rA Γ ++ b_d cB cC cI cJ cZ oA rA Γ)) (ws' := (b_k cB cC cI cJ cZ oA rA Γ9 ++ b_p cB cC cI cJ cZ oA rA Γ9 ++ b_o cB cC cI cJ cZ oA rA Γ9 ++ b_s cB cC cI cJ cZ oA rA Γ9 ++ b_c cB cC cI cJ cZ oA rA Γ9 ++ b_t cB cC cI cJ cZ oA rA Γ9 ++ b_d cB cC cI cJ cZ oA rA Γ9)) rfl hD1
  have hN := hE.1
  have hS : va_S A s.heap s.heap [] := va_S.rf
  have hl := lv_entry ([.ref (oA 10), .int p0]) (n := 2) (Nat.le_of_ble_eq_true rfl)
  rw [lg_entry_eq]
  generalize (lg_sl ([.ref (oA 10), .int p0]) ++ List.replicate (2 - (lg_sl ([.ref (oA 10), .int p0])).length) Slot.unset).toArray = ls at hl ⊢
  have hl : lv_has ls 2 [(0, .ref (oA 10)), (1, .int p0)] := hl
  unfold F_X3_draw at hF
  refine lv_iload_n hx hb dX3_draw_0 rfl (lv_at hl 1 rfl) ?_
  refine lv_iconst (v := 1) hx hb dX3_draw_1 (by decide +kernel) ?_
  refine lv_icmp_ge (tgt := 7) hx hb dX3_draw_2 (by decide) (fun c_1 => ?_) (fun c_1 => ?_)
  · have hF_2 := ipos c_1 hF
    clear hF
    refine lv_aload_n hx hb dX3_draw_7 rfl (lv_at hl 0 rfl) ?_
    refine va_get (D := (dC, dI)) (ci := 3) (v := .ref (oA 9)) (C := RX3) (T := TX3) (N := 16) hx hb hts ii_X3 hown hK hP 0 rfl rfl 0 (by decide) (hts (.fieldLink RX3 29 "StoryHouse$Machine" "play" "LStoryHouse$Play;") wq_259) (fun _ h9 => h9) rfl dX3_draw_8 ?_
    refine lv_aload_n hx hb dX3_draw_11 rfl (lv_at hl 0 rfl) ?_
    refine va_get (D := (dC, dI)) (ci := 3) (v := .ref (oA 9)) (C := RX3) (T := TX3) (N := 16) hx hb hts ii_X3 hown hK hP 0 rfl rfl 0 (by decide) (hts (.fieldLink RX3 29 "StoryHouse$Machine" "play" "LStoryHouse$Play;") wq_259) (fun _ h9 => h9) rfl dX3_draw_12 ?_
    refine va_get (D := (dC, dI)) (ci := 6) (v := .int ((Γ 9).1 8)) (C := RX6) (T := TX6) (N := 12) hx hb hts ii_X6 hown hK hP 5 rfl rfl 8 (by decide) (hts (.fieldLink RX3 198 "StoryHouse$Play" "seed" "I") wq_242) (fun _ h9 => h9) rfl dX3_draw_15 ?_
    refine lv_ldc (v := 69069) hx hb hown (hts (.constant RX3 201 (69069)) wq_1190) dX3_draw_18 ?_
    refine lv_imul hx hb dX3_draw_20 ?_
    refine lv_iconst (v := 1) hx hb dX3_draw_21 (by decide +kernel) ?_
    refine lv_iadd hx hb dX3_draw_22 ?_
    obtain ⟨σ_3, eσ_3, hF_4⟩ := bnd_e hF_2
    clear hF_2
    refine va_put (D := (dC, dI)) (ci := 6) (v := .int ((((Γ 9).1 8) * 69069) + 1)) (ty := .int) (C := RX6) (T := TX6) (N := 12) hx hb hts ii_X6 tyX6 tyX6_ok nmX6 hown hK hP (hDD _) hS 5 rfl rfl 8 (by decide) (hts (.fieldLink RX3 198 "StoryHouse$Play" "seed" "I") wq_242) (fun _ h9 => h9) rfl (by decide +kernel) rfl rfl (Nat.le_of_ble_eq_true rfl) dX3_draw_23 (fun H locs hP' _ hS => ?_)
    have hP : va_P (dC, dI) vwCl (b_k cB cC cI cJ cZ oA rA σ_3 ++ b_p cB cC cI cJ cZ oA rA σ_3 ++ b_o cB cC cI cJ cZ oA rA σ_3 ++ b_s cB cC cI cJ cZ oA rA σ_3 ++ b_c cB cC cI cJ cZ oA rA σ_3 ++ b_t cB cC cI cJ cZ oA rA σ_3 ++ b_d cB cC cI cJ cZ oA rA σ_3) H := by rw [eσ_3]; exact cs_kposctd_p_8 ▸ hP'
    clear hP'
    refine lv_iconst (v := 1) hx hb dX3_draw_26 (by decide +kernel) ?_
    refine lv_aload_n hx hb dX3_draw_27 rfl (lv_at hl 0 rfl) ?_
    refine va_get (D := (dC, dI)) (ci := 3) (v := .ref (oA 9)) (C := RX3) (T := TX3) (N := 16) hx hb hts ii_X3 hown hK hP 0 rfl rfl 0 (by decide) (hts (.fieldLink RX3 29 "StoryHouse$Machine" "play" "LStoryHouse$Play;") wq_259) (fun _ h9 => h9) rfl dX3_draw_28 ?_
    refine va_get (D := (dC, dI)) (ci := 6) (v := .int ((σ_3 9).1 8)) (C := RX6) (T := TX6) (N := 12) hx hb hts ii_X6 hown hK hP 5 rfl rfl 8 (by decide) (hts (.fieldLink RX3 198 "StoryHouse$Play" "seed" "I") wq_242) (fun _ h9 => h9) rfl dX3_draw_31 ?_
    refine lv_bipush (v := 16) hx hb dX3_draw_34 (by decide +kernel) ?_
    refine lv_iushr hx hb dX3_draw_36 rfl ?_
    obtain ⟨x_5, ex_5, hF_6⟩ := bnd_e hF_4
    clear hF_4
    refine m_top ex_5 ?_
    refine lv_sipush (v := 32767) hx hb dX3_draw_37 (by decide +kernel) ?_
    refine lv_iand hx hb dX3_draw_40 ?_
    refine lv_iload_n hx hb dX3_draw_41 rfl (lv_at hl 1 rfl) ?_
    obtain ⟨g_7, hF_8⟩ := nif_e hF_6
    clear hF_6
    refine lv_irem hx hb dX3_draw_42 g_7 ?_
    obtain ⟨x_9, ex_9, hF_10⟩ := bnd_e hF_8
    clear hF_8
    refine m_top ex_9 ?_
    refine lv_iadd hx hb dX3_draw_43 ?_
    have h9 := Option.some.inj hF_10
    subst h9
    exact W.iret (v := (1 + x_9)) hx hb hr (fun t ht hW => ⟨⟨(1 + x_9), (), rfl, rfl, m_end ht hP, hDD _⟩, hS.F ht⟩) hS.2.2 dX3_draw_44
  · have hF_11 := ineg c_1 hF
    clear hF
    refine lv_iconst (v := 0) hx hb dX3_draw_5 (by decide +kernel) ?_
    have h9 := Option.some.inj hF_11
    subst h9
    exact W.iret (v := 0) hx hb hr (fun t ht hW => ⟨⟨0, (), rfl, rfl, m_end ht hP, hDD _⟩, hS.F ht⟩) hS.2.2 dX3_draw_6
theorem dX5_number_0 : decode cX5_number 0 = .ok (.iload_n 1, 1) := by decide +kernel
theorem dX5_number_1 : decode cX5_number 1 = .ok (.ifCond .ge 9, 3) := by decide +kernel
theorem dX5_number_4 : decode cX5_number 4 = .ok (.aload_n 0, 1) := by decide +kernel
theorem dX5_number_5 : decode cX5_number 5 = .ok (.bipush 45, 2) := by decide +kernel
theorem dX5_number_7 : decode cX5_number 7 = .ok (.invokevirtual 28, 3) := by decide +kernel
theorem dX5_number_10 : decode cX5_number 10 = .ok (.iload_n 1, 1) := by decide +kernel
theorem dX5_number_11 : decode cX5_number 11 = .ok (.invokestatic 48, 3) := by decide +kernel
theorem dX5_number_14 : decode cX5_number 14 = .ok (.istore_n 2, 1) := by decide +kernel
theorem dX5_number_15 : decode cX5_number 15 = .ok (.sipush 10000, 3) := by decide +kernel
theorem dX5_number_18 : decode cX5_number 18 = .ok (.istore_n 3, 1) := by decide +kernel
theorem dX5_number_19 : decode cX5_number 19 = .ok (.iload_n 3, 1) := by decide +kernel
theorem dX5_number_20 : decode cX5_number 20 = .ok (.ifCond .le 34, 3) := by decide +kernel
theorem dX5_number_23 : decode cX5_number 23 = .ok (.iload_n 2, 1) := by decide +kernel
theorem dX5_number_24 : decode cX5_number 24 = .ok (.iload_n 3, 1) := by decide +kernel
theorem dX5_number_25 : decode cX5_number 25 = .ok (.if_icmp .ge 8, 3) := by decide +kernel
theorem dX5_number_28 : decode cX5_number 28 = .ok (.iload_n 3, 1) := by decide +kernel
theorem dX5_number_29 : decode cX5_number 29 = .ok (.iconst 1, 1) := by decide +kernel
theorem dX5_number_30 : decode cX5_number 30 = .ok (.if_icmp .ne 16, 3) := by decide +kernel
theorem dX5_number_33 : decode cX5_number 33 = .ok (.aload_n 0, 1) := by decide +kernel
theorem dX5_number_34 : decode cX5_number 34 = .ok (.bipush 48, 2) := by decide +kernel
theorem dX5_number_36 : decode cX5_number 36 = .ok (.iload_n 2, 1) := by decide +kernel
theorem dX5_number_37 : decode cX5_number 37 = .ok (.iload_n 3, 1) := by decide +kernel
theorem dX5_number_38 : decode cX5_number 38 = .ok (.idiv, 1) := by decide +kernel
theorem dX5_number_39 : decode cX5_number 39 = .ok (.bipush 10, 2) := by decide +kernel
theorem dX5_number_41 : decode cX5_number 41 = .ok (.irem, 1) := by decide +kernel
theorem dX5_number_42 : decode cX5_number 42 = .ok (.iadd, 1) := by decide +kernel
theorem dX5_number_43 : decode cX5_number 43 = .ok (.invokevirtual 28, 3) := by decide +kernel
theorem dX5_number_46 : decode cX5_number 46 = .ok (.iload_n 3, 1) := by decide +kernel
theorem dX5_number_47 : decode cX5_number 47 = .ok (.bipush 10, 2) := by decide +kernel
theorem dX5_number_49 : decode cX5_number 49 = .ok (.idiv, 1) := by decide +kernel
theorem dX5_number_50 : decode cX5_number 50 = .ok (.istore_n 3, 1) := by decide +kernel
theorem dX5_number_51 : decode cX5_number 51 = .ok (.goto (-32), 3) := by decide +kernel
theorem dX5_number_54 : decode cX5_number 54 = .ok (.return_, 1) := by decide +kernel
def F_X5_number (p0 : Int32) (Γ : HS) : HR :=
  bnd (fun  (σ_1 : HS) => (
    bnd ((if p0 < 0 then -p0 else p0)) fun (x_5 : Int32) =>
    loopF (fun (again_8 : (Int32 × HS) → HR) (s_7 : Int32 × HS) => (
      if s_7.1 ≤ 0 then (
        some (0, s_7.2)
      ) else (
        bnd (fun  (σ_14 : HS) => (
          bnd ((s_7.1 / 10)) fun (x_18 : Int32) =>
          again_8 (x_18, σ_14)
        ) : HS → HR) fun j_15 =>
        bnd (fun  (σ_20 : HS) => (
          if s_7.1 = 0 then none else
          bnd ((x_5 / s_7.1)) fun (x_26 : Int32) =>
          bnd ((x_26 - x_26 / 10 * 10)) fun (x_28 : Int32) =>
          (F_X5_sign (48 + x_28) σ_20).bind fun u_30 =>
          j_15  u_30.2
        ) : HS → HR) fun j_21 =>
        if s_7.1 ≤ x_5 then (
          j_21  s_7.2
        ) else (
          if s_7.1 = 1 then (
            j_21  s_7.2
          ) else (
            j_15  s_7.2
          )
        )
      )
    )) FU (10000, σ_1)
  ) : HS → HR) fun j_2 =>
  if 0 ≤ p0 then (
    j_2  Γ
  ) else (
    (F_X5_sign 45 Γ).bind fun u_41 =>
    j_2  u_41.2
  )
set_option maxHeartbeats 4000000 in
set_option maxRecDepth 100000 in
theorem k_X5_number (l : Launch) (dC : Nat → ClassId) (dI : Nat → Nat → Nat) (cB cC cI cJ cZ cP : ClassId) (oA : Nat → Nat) (rA : Nat → Nat → Nat) (sz : Nat)  (p0 : Int32) (Γ : HS) (res : Int32 × HS) (hF : F_X5_number p0 Γ = some res) : Met l yX5_number (g_ws yX5_number cX5_number 4 none) ({ frames := 2, cells := 0, slots := 0, locals := 61 }) (va_Pc [.ref (oA 8), .int p0] (g_B (dC, dI) [(cB, .byte), (cC, .char), (cI, .int), (cJ, .long), (cZ, .boolean), (cP, .object "StoryHouse$Play")] sz (b_o cB cC cI cJ cZ oA rA Γ) g_0)) (va_Qv (fun (_ : Unit) => True) (g_Bo (dC, dI) (va_A (b_o cB cC cI cJ cZ oA rA Γ) sz) (fun (_ : Unit) => (b_o cB cC cI cJ cZ oA rA res.2))) (va_A (b_o cB cC cI cJ cZ oA rA Γ) sz)) 0 0 (va_A (b_o cB cC cI cJ cZ oA rA Γ) sz) := by
  refine Met.ofW (cc := cX5_number) (maxL := 4) (ret := none) (by decide) rfl ?_
  intro p e s m args below meth c s₁ B hml hv
  obtain ⟨rfl, hsz, hP, hK, hD0, hE, hX⟩ := hv
  have hx := B.exec
  have hb := B.bytes
  have hr := B.returns
  have hts0 := atoms_spec (ws := g_ws yX5_number cX5_number 4 none) B.pre
  have hts : ∀ w ∈ lw_good, w.before ([.ref (oA 8), .int p0] : List Value).toArray s = true := fun w z => hts0 w (List.mem_cons_of_mem _ z)
  have hown : s.vm.findClass RX5 = some m.cls := findClass_of_methodNamed B.named
  have hlocks := B.notSynchronized
  subst hsz
  have hD1 := hD0.self (sz := s.heap.size)
  generalize hAe : va_A (b_o cB cC cI cJ cZ oA rA Γ) s.heap.size = A at hD1 hE hX ⊢
  have hA : ∀ q : Nat, s.heap.size ≤ q → A q := fun q z => by rw [← hAe]; exact Or.inr z
  have hDD : ∀ Γ : HS, va_D A (b_o cB cC cI cJ cZ oA rA Γ) := fun Γ9 => va_D_fst (ws := (b_o cB cC cI cJ cZ oA rA Γ)) (ws' := (b_o cB cC cI cJ cZ oA rA Γ9)) rfl hD1
  have hN := hE.1
  have hS : va_S A s.heap s.heap [] := va_S.rf
  have hl := lv_entry ([.ref (oA 8), .int p0]) (n := 4) (Nat.le_of_ble_eq_true rfl)
  rw [lg_entry_eq]
  generalize (lg_sl ([.ref (oA 8), .int p0]) ++ List.replicate (4 - (lg_sl ([.ref (oA 8), .int p0])).length) Slot.unset).toArray = ls at hl ⊢
  have hl : lv_has ls 4 [(0, .ref (oA 8)), (1, .int p0)] := hl
  unfold F_X5_number at hF
  refine lv_iload_n hx hb dX5_number_0 rfl (lv_at hl 1 rfl) ?_
  obtain ⟨j_2, ej_2, hF_3⟩ := bnd_e hF
  clear hF
  have Jj_2 : ∀  (σ_1 : HS), j_2  σ_1 = some res → ∀ (H : Heap) (locs : List Loc), va_P (dC, dI) vwCl (b_o cB cC cI cJ cZ oA rA σ_1) H → va_S A s.heap H locs → ∀ ls : Array Slot, lv_has ls 4 [(0, .ref (oA 8)), (1, .int p0)] → W p l e (headSpec (g_ws yX5_number cX5_number 4 none) { frames := 2, cells := 0, slots := 0, locals := 61 }).room s m ([.ref (oA 8), .int p0] : List Value).toArray below meth c H locs 0 0 (MQ below (va_Qv (fun (_ : Unit) => True) (g_Bo (dC, dI) A (fun (_ : Unit) => (b_o cB cC cI cJ cZ oA rA res.2))) A) ([.ref (oA 8), .int p0] : List Value).toArray s 0 0 A) (F0 m 10 ls []) := by
    intro  σ_1 hF0 H locs hP hS ls hl
    subst ej_2
    have hF_4 := hF0
    clear hF0
    refine lv_iload_n hx hb dX5_number_10 rfl (lv_at hl 1 rfl) ?_
    refine va_mabs hx hb (hml.trans hl.1.symm) hown (hts (.methodLink RX5 48 yJ9_abs_0f7a4) wq_1196) (hts (.static yJ9_abs_0f7a4) wq_1197) (hts (.initialized RJ9) wq_19) (hts (.code yJ9_abs_0f7a4 cJ9_abs_0f7a4 1 (some .int)) wq_1198) (Nat.le_of_ble_eq_true rfl) (Nat.le_of_ble_eq_true rfl) (Nat.le_of_ble_eq_true rfl) (Nat.le_of_ble_eq_true rfl) dX5_number_11 ?_
    rw [m_abs p0]
    obtain ⟨x_5, ex_5, hF_6⟩ := bnd_e hF_4
    clear hF_4
    refine m_top ex_5 ?_
    refine lv_istore_n (lv' := [(2, .int x_5), (0, .ref (oA 8)), (1, .int p0)]) hx hb dX5_number_14 rfl hl (by decide) rfl (fun ls hl => ?_)
    refine lv_sipush (v := 10000) hx hb dX5_number_15 (by decide +kernel) ?_
    refine lv_istore_n (lv' := [(3, .int 10000), (2, .int x_5), (0, .ref (oA 8)), (1, .int p0)]) hx hb dX5_number_18 rfl hl (by decide) rfl (fun ls hl => ?_)
    refine loopF_ind (P := fun (s_7 : Int32 × HS) => ∀ (H : Heap) (locs : List Loc), va_P (dC, dI) vwCl (b_o cB cC cI cJ cZ oA rA s_7.2) H → va_S A s.heap H locs → ∀ ls : Array Slot, lv_has ls 4 [(0, .ref (oA 8)), (2, .int x_5), (3, .int s_7.1)] → W p l e (headSpec (g_ws yX5_number cX5_number 4 none) { frames := 2, cells := 0, slots := 0, locals := 61 }).room s m ([.ref (oA 8), .int p0] : List Value).toArray below meth c H locs 0 0 (MQ below (va_Qv (fun (_ : Unit) => True) (g_Bo (dC, dI) A (fun (_ : Unit) => (b_o cB cC cI cJ cZ oA rA res.2))) A) ([.ref (oA 8), .int p0] : List Value).toArray s 0 0 A) (F0 m 19 ls [])) ?_ _ _ hF_6 _ _ hP hS ls (lv_sub hl [2, 1, 0] rfl)
    intro again_8 s_7 ih_9 hF_10
    intro H locs hP hS ls hl
    refine lv_iload_n hx hb dX5_number_19 rfl (lv_at hl 2 rfl) ?_
    refine lv_if_le (tgt := 54) hx hb dX5_number_20 (by decide) (fun c_11 => ?_) (fun c_11 => ?_)
    · have hF_12 := ipos c_11 hF_10
      clear hF_10
      have h9 := Option.some.inj hF_12
      subst h9
      exact W.vret hx hb hr (fun t ht hW => ⟨⟨(), rfl, trivial, m_end ht hP, hDD _⟩, hS.F ht⟩) hS.2.2 dX5_number_54
    · have hF_13 := ineg c_11 hF_10
      clear hF_10
      refine lv_iload_n hx hb dX5_number_23 rfl (lv_at hl 1 rfl) ?_
      refine lv_iload_n hx hb dX5_number_24 rfl (lv_at hl 2 rfl) ?_
      obtain ⟨j_15, ej_15, hF_16⟩ := bnd_e hF_13
      clear hF_13
      have Jj_15 : ∀  (σ_14 : HS), j_15  σ_14 = some res → ∀ (H : Heap) (locs : List Loc), va_P (dC, dI) vwCl (b_o cB cC cI cJ cZ oA rA σ_14) H → va_S A s.heap H locs → ∀ ls : Array Slot, lv_has ls 4 [(0, .ref (oA 8)), (2, .int x_5), (3, .int s_7.1)] → W p l e (headSpec (g_ws yX5_number cX5_number 4 none) { frames := 2, cells := 0, slots := 0, locals := 61 }).room s m ([.ref (oA 8), .int p0] : List Value).toArray below meth c H locs 0 0 (MQ below (va_Qv (fun (_ : Unit) => True) (g_Bo (dC, dI) A (fun (_ : Unit) => (b_o cB cC cI cJ cZ oA rA res.2))) A) ([.ref (oA 8), .int p0] : List Value).toArray s 0 0 A) (F0 m 46 ls []) := by
        intro  σ_14 hF0 H locs hP hS ls hl
        subst ej_15
        have hF_17 := hF0
        clear hF0
        refine lv_iload_n hx hb dX5_number_46 rfl (lv_at hl 2 rfl) ?_
        refine lv_bipush (v := 10) hx hb dX5_number_47 (by decide +kernel) ?_
        refine lv_idiv hx hb dX5_number_49 (by decide +kernel) ?_
        obtain ⟨x_18, ex_18, hF_19⟩ := bnd_e hF_17
        clear hF_17
        refine m_top ex_18 ?_
        refine lv_istore_n (lv' := [(3, .int x_18), (0, .ref (oA 8)), (2, .int x_5)]) hx hb dX5_number_50 rfl hl (by decide) rfl (fun ls hl => ?_)
        refine lv_goto (tgt := 19) hx hb dX5_number_51 (by decide) ?_
        exact ih_9 (x_18, σ_14) hF_19 _ _ hP hS ls (lv_sub hl [1, 2, 0] rfl)
      obtain ⟨j_21, ej_21, hF_22⟩ := bnd_e hF_16
      clear hF_16
      have Jj_21 : ∀  (σ_20 : HS), j_21  σ_20 = some res → ∀ (H : Heap) (locs : List Loc), va_P (dC, dI) vwCl (b_o cB cC cI cJ cZ oA rA σ_20) H → va_S A s.heap H locs → ∀ ls : Array Slot, lv_has ls 4 [(0, .ref (oA 8)), (2, .int x_5), (3, .int s_7.1)] → W p l e (headSpec (g_ws yX5_number cX5_number 4 none) { frames := 2, cells := 0, slots := 0, locals := 61 }).room s m ([.ref (oA 8), .int p0] : List Value).toArray below meth c H locs 0 0 (MQ below (va_Qv (fun (_ : Unit) => True) (g_Bo (dC, dI) A (fun (_ : Unit) => (b_o cB cC cI cJ cZ oA rA res.2))) A) ([.ref (oA 8), .int p0] : List Value).toArray s 0 0 A) (F0 m 33 ls []) := by
        intro  σ_20 hF0 H locs hP hS ls hl
        subst ej_21
        have hF_23 := hF0
        clear hF0
        refine lv_aload_n hx hb dX5_number_33 rfl (lv_at hl 0 rfl) ?_
        refine lv_bipush (v := 48) hx hb dX5_number_34 (by decide +kernel) ?_
        refine lv_iload_n hx hb dX5_number_36 rfl (lv_at hl 1 rfl) ?_
        refine lv_iload_n hx hb dX5_number_37 rfl (lv_at hl 2 rfl) ?_
        obtain ⟨g_24, hF_25⟩ := nif_e hF_23
        clear hF_23
        refine lv_idiv hx hb dX5_number_38 g_24 ?_
        obtain ⟨x_26, ex_26, hF_27⟩ := bnd_e hF_25
        clear hF_25
        refine m_top ex_26 ?_
        refine lv_bipush (v := 10) hx hb dX5_number_39 (by decide +kernel) ?_
        refine lv_irem hx hb dX5_number_41 (by decide +kernel) ?_
        obtain ⟨x_28, ex_28, hF_29⟩ := bnd_e hF_27
        clear hF_27
        refine m_top ex_28 ?_
        refine lv_iadd hx hb dX5_number_42 ?_
        obtain ⟨u_30, hu_30, hF_31⟩ := Option.bind_eq_some_iff.mp hF_29
        clear hF_29
        have hPc := bx_P (bs := [b_o cB cC cI cJ cZ oA rA σ_20]) (bs' := [b_o cB cC cI cJ cZ oA rA σ_20]) (ws' := (b_o cB cC cI cJ cZ oA rA σ_20)) hP fl_1 fl_1 [0] rfl
        have hDc := bx_D (bs := [b_o cB cC cI cJ cZ oA rA σ_20]) (bs' := [b_o cB cC cI cJ cZ oA rA σ_20]) (ws' := (b_o cB cC cI cJ cZ oA rA σ_20)) (hDD σ_20) fl_1 fl_1 [0] (by decide +kernel) rfl
        have hFc := bx_F (bs := [b_o cB cC cI cJ cZ oA rA σ_20]) (bs' := [b_o cB cC cI cJ cZ oA rA σ_20]) (wc := (b_o cB cC cI cJ cZ oA rA σ_20)) (hDD σ_20) hS hA fl_1 fl_1 [0] rfl
        refine g_ofv (wc := (b_o cB cC cI cJ cZ oA rA σ_20)) (wr := ([] : va_W)) hP (hDD σ_20) hS hFc (bx_ix [b_o cB cC cI cJ cZ oA rA σ_20] [0]) (bx_ix [b_o cB cC cI cJ cZ oA rA σ_20] []) (bx_C (bs := [b_o cB cC cI cJ cZ oA rA σ_20]) (bs' := [b_o cB cC cI cJ cZ oA rA σ_20]) (is := [0]) fl_1 fl_1 rfl) (bx_C (bs := [b_o cB cC cI cJ cZ oA rA σ_20]) (bs' := []) (is := []) fl_1 fl_0 rfl) (bx_n (by decide +kernel)) (bx_d (by decide +kernel)) (va_runV (As := [.int (48 + x_28)]) (rest := []) ⟨hx, hb, hml, hown, hts⟩ (k_X5_sign l dC dI cB cC cI cJ cZ cP oA rA H.size  (48 + x_28) σ_20 _ hu_30) (cwV 1 hts (g_gV wq_1008 wq_1009 wq_1010 wq_9 wq_1011) rfl rfl rfl (by decide +kernel) ⟨Nat.le_of_ble_eq_true rfl, Nat.le_of_ble_eq_true rfl⟩) (g_preV g_bl0 hK hPc hDc hS hE hFc g_to0 (q0 := 0) (ci := 5) rfl rfl) rfl rfl hl.1 rfl (lv_room (Nat.le_of_ble_eq_true rfl)) dX5_number_43 ⟨Nat.le_of_ble_eq_true rfl, Nat.le_of_ble_eq_true rfl⟩) (fun u9 H locs hw9 hP' hD' hS => ?_)
        clear hPc hDc hFc
        have hP : va_P (dC, dI) vwCl (b_o cB cC cI cJ cZ oA rA u_30.2) H := hP'
        clear hP' hD'
        exact Jj_15  u_30.2 hF_31 _ _ hP hS ls (lv_sub hl [0, 1, 2] rfl)
      refine lv_icmp_ge (tgt := 33) hx hb dX5_number_25 (by decide) (fun c_32 => ?_) (fun c_32 => ?_)
      · have hF_33 := ipos c_32 hF_22
        clear hF_22
        exact Jj_21  s_7.2 hF_33 _ _ hP hS ls (lv_sub hl [0, 1, 2] rfl)
      · have hF_34 := ineg c_32 hF_22
        clear hF_22
        refine lv_iload_n hx hb dX5_number_28 rfl (lv_at hl 2 rfl) ?_
        refine lv_iconst (v := 1) hx hb dX5_number_29 (by decide +kernel) ?_
        refine lv_icmp_ne (tgt := 46) hx hb dX5_number_30 (by decide) (fun c_35 => ?_) (fun c_35 => ?_)
        · have hF_37 := ineg c_35 hF_34
          clear hF_34
          exact Jj_15  s_7.2 hF_37 _ _ hP hS ls (lv_sub hl [0, 1, 2] rfl)
        · have hF_36 := ipos c_35 hF_34
          clear hF_34
          exact Jj_21  s_7.2 hF_36 _ _ hP hS ls (lv_sub hl [0, 1, 2] rfl)
  refine lv_if_ge (tgt := 10) hx hb dX5_number_1 (by decide) (fun c_38 => ?_) (fun c_38 => ?_)
  · have hF_39 := ipos c_38 hF_3
    clear hF_3
    exact Jj_2  Γ hF_39 _ _ hP hS ls (lv_sub hl [0, 1] rfl)
  · have hF_40 := ineg c_38 hF_3
    clear hF_3
    refine lv_aload_n hx hb dX5_number_4 rfl (lv_at hl 0 rfl) ?_
    refine lv_bipush (v := 45) hx hb dX5_number_5 (by decide +kernel) ?_
    obtain ⟨u_41, hu_41, hF_42⟩ := Option.bind_eq_some_iff.mp hF_40
    clear hF_40
    have hPc := bx_P (bs := [b_o cB cC cI cJ cZ oA rA Γ]) (bs' := [b_o cB cC cI cJ cZ oA rA Γ]) (ws' := (b_o cB cC cI cJ cZ oA rA Γ)) hP fl_1 fl_1 [0] rfl
    have hDc := bx_D (bs := [b_o cB cC cI cJ cZ oA rA Γ]) (bs' := [b_o cB cC cI cJ cZ oA rA Γ]) (ws' := (b_o cB cC cI cJ cZ oA rA Γ)) (hDD Γ) fl_1 fl_1 [0] (by decide +kernel) rfl
    have hFc := bx_F (bs := [b_o cB cC cI cJ cZ oA rA Γ]) (bs' := [b_o cB cC cI cJ cZ oA rA Γ]) (wc := (b_o cB cC cI cJ cZ oA rA Γ)) (hDD Γ) hS hA fl_1 fl_1 [0] rfl
    refine g_ofv (wc := (b_o cB cC cI cJ cZ oA rA Γ)) (wr := ([] : va_W)) hP (hDD Γ) hS hFc (bx_ix [b_o cB cC cI cJ cZ oA rA Γ] [0]) (bx_ix [b_o cB cC cI cJ cZ oA rA Γ] []) (bx_C (bs := [b_o cB cC cI cJ cZ oA rA Γ]) (bs' := [b_o cB cC cI cJ cZ oA rA Γ]) (is := [0]) fl_1 fl_1 rfl) (bx_C (bs := [b_o cB cC cI cJ cZ oA rA Γ]) (bs' := []) (is := []) fl_1 fl_0 rfl) (bx_n (by decide +kernel)) (bx_d (by decide +kernel)) (va_runV (As := [.int 45]) (rest := []) ⟨hx, hb, hml, hown, hts⟩ (k_X5_sign l dC dI cB cC cI cJ cZ cP oA rA s.heap.size  45 Γ _ hu_41) (cwV 1 hts (g_gV wq_1008 wq_1009 wq_1010 wq_9 wq_1011) rfl rfl rfl (by decide +kernel) ⟨Nat.le_of_ble_eq_true rfl, Nat.le_of_ble_eq_true rfl⟩) (g_preV g_bl0 hK hPc hDc hS hE hFc g_to0 (q0 := 0) (ci := 5) rfl rfl) rfl rfl hl.1 rfl (lv_room (Nat.le_of_ble_eq_true rfl)) dX5_number_7 ⟨Nat.le_of_ble_eq_true rfl, Nat.le_of_ble_eq_true rfl⟩) (fun u9 H locs hw9 hP' hD' hS => ?_)
    clear hPc hDc hFc
    have hP : va_P (dC, dI) vwCl (b_o cB cC cI cJ cZ oA rA u_41.2) H := hP'
    clear hP' hD'
    exact Jj_2  u_41.2 hF_42 _ _ hP hS ls (lv_sub hl [0, 1] rfl)
theorem dX6_here_0 : decode cX6_here 0 = .ok (.aload_n 0, 1) := by decide +kernel
theorem dX6_here_1 : decode cX6_here 1 = .ok (.getfield 9, 3) := by decide +kernel
theorem dX6_here_4 : decode cX6_here 4 = .ok (.iconst 1, 1) := by decide +kernel
theorem dX6_here_5 : decode cX6_here 5 = .ok (.iaload, 1) := by decide +kernel
theorem dX6_here_6 : decode cX6_here 6 = .ok (.ireturn, 1) := by decide +kernel
def F_X6_here  (Γ : HS) : HR :=
  some (((Γ 9).2.1 0 (1 : Int32).toNatClampNeg), Γ)
set_option maxHeartbeats 4000000 in
set_option maxRecDepth 100000 in
theorem k_X6_here (l : Launch) (dC : Nat → ClassId) (dI : Nat → Nat → Nat) (cB cC cI cJ cZ cP : ClassId) (oA : Nat → Nat) (rA : Nat → Nat → Nat) (sz : Nat)   (Γ : HS) (res : Int32 × HS) (hF : F_X6_here  Γ = some res) : Met l yX6_here (g_ws yX6_here cX6_here 1 (some .int)) ({ frames := 1, cells := 0, slots := 0, locals := 40 }) (va_Pc [.ref (oA 9)] (g_B (dC, dI) [(cB, .byte), (cC, .char), (cI, .int), (cJ, .long), (cZ, .boolean), (cP, .object "StoryHouse$Play")] sz (b_p cB cC cI cJ cZ oA rA Γ) g_0)) (va_Qi (fun r (_ : Unit) => r = res.1) (g_Bo (dC, dI) (va_A (b_p cB cC cI cJ cZ oA rA Γ) sz) (fun (_ : Unit) => (b_p cB cC cI cJ cZ oA rA res.2))) (va_A (b_p cB cC cI cJ cZ oA rA Γ) sz)) 0 0 (va_A (b_p cB cC cI cJ cZ oA rA Γ) sz) := by
  refine Met.ofW (cc := cX6_here) (maxL := 1) (ret := (some .int)) (by decide) rfl ?_
  intro p e s m args below meth c s₁ B hml hv
  obtain ⟨rfl, hsz, hP, hK, hD0, hE, hX⟩ := hv
  have hx := B.exec
  have hb := B.bytes
  have hr := B.returns
  have hts0 := atoms_spec (ws := g_ws yX6_here cX6_here 1 (some .int)) B.pre
  have hts : ∀ w ∈ lw_good, w.before ([.ref (oA 9)] : List Value).toArray s = true := fun w z => hts0 w (List.mem_cons_of_mem _ z)
  have hown : s.vm.findClass RX6 = some m.cls := findClass_of_methodNamed B.named
  have hlocks := B.notSynchronized
  subst hsz
  have hD1 := hD0.self (sz := s.heap.size)
  generalize hAe : va_A (b_p cB cC cI cJ cZ oA rA Γ) s.heap.size = A at hD1 hE hX ⊢
  have hA : ∀ q : Nat, s.heap.size ≤ q → A q := fun q z => by rw [← hAe]; exact Or.inr z
  have hDD : ∀ Γ : HS, va_D A (b_p cB cC cI cJ cZ oA rA Γ) := fun Γ9 => va_D_fst (ws := (b_p cB cC cI cJ cZ oA rA Γ)) (ws' := (b_p cB cC cI cJ cZ oA rA Γ9)) rfl hD1
  have hN := hE.1
  have hS : va_S A s.heap s.heap [] := va_S.rf
  have hl := lv_entry ([.ref (oA 9)]) (n := 1) (Nat.le_of_ble_eq_true rfl)
  rw [lg_entry_eq]
  generalize (lg_sl ([.ref (oA 9)]) ++ List.replicate (1 - (lg_sl ([.ref (oA 9)])).length) Slot.unset).toArray = ls at hl ⊢
  have hl : lv_has ls 1 [(0, .ref (oA 9))] := hl
  unfold F_X6_here at hF
  refine lv_aload_n hx hb dX6_here_0 rfl (lv_at hl 0 rfl) ?_
  refine va_get (D := (dC, dI)) (ci := 6) (v := .ref (rA 9 0)) (C := RX6) (T := TX6) (N := 12) hx hb hts ii_X6 hown hK hP 0 rfl rfl 0 (by decide) (hts (.fieldLink RX6 9 "StoryHouse$Play" "parents" "[I") wq_217) (fun _ h9 => h9) rfl dX6_here_1 ?_
  refine lv_iconst (v := 1) hx hb dX6_here_4 (by decide +kernel) ?_
  refine va_iald (f := (Γ 9).2.1 0) hx hb hK hP 1 2 rfl rfl (vp_in_iff.mpr (by decide +kernel)) dX6_here_5 ?_
  have h9 := Option.some.inj hF
  subst h9
  exact W.iret (v := ((Γ 9).2.1 0 (1 : Int32).toNatClampNeg)) hx hb hr (fun t ht hW => ⟨⟨((Γ 9).2.1 0 (1 : Int32).toNatClampNeg), (), rfl, rfl, m_end ht hP, hDD _⟩, hS.F ht⟩) hS.2.2 dX6_here_6
