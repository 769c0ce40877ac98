/-! methods of the class: what each does is its function -/
theorem dX3_wideOp_0 : decode cX3_wideOp 0 = .ok (.iload_n 1, 1) := by decide +kernel
theorem dX3_wideOp_1 : decode cX3_wideOp 1 = .ok (.tableswitch 235 33 45 #[67, 75, 93, 151, 113, 131, 151, 170, 178, 186, 208, 208, 227], 67) := by decide +kernel
theorem dX3_wideOp_68 : decode cX3_wideOp 68 = .ok (.aload_n 0, 1) := by decide +kernel
theorem dX3_wideOp_69 : decode cX3_wideOp 69 = .ok (.iload_n 2, 1) := by decide +kernel
theorem dX3_wideOp_70 : decode cX3_wideOp 70 = .ok (.invokevirtual 113, 3) := by decide +kernel
theorem dX3_wideOp_73 : decode cX3_wideOp 73 = .ok (.goto 169, 3) := by decide +kernel
theorem dX3_wideOp_76 : decode cX3_wideOp 76 = .ok (.aload_n 0, 1) := by decide +kernel
theorem dX3_wideOp_77 : decode cX3_wideOp 77 = .ok (.aload_n 0, 1) := by decide +kernel
theorem dX3_wideOp_78 : decode cX3_wideOp 78 = .ok (.getfield 29, 3) := by decide +kernel
theorem dX3_wideOp_81 : decode cX3_wideOp 81 = .ok (.getfield 145, 3) := by decide +kernel
theorem dX3_wideOp_84 : decode cX3_wideOp 84 = .ok (.iload_n 2, 1) := by decide +kernel
theorem dX3_wideOp_85 : decode cX3_wideOp 85 = .ok (.invokestatic 98, 3) := by decide +kernel
theorem dX3_wideOp_88 : decode cX3_wideOp 88 = .ok (.invokevirtual 113, 3) := by decide +kernel
theorem dX3_wideOp_91 : decode cX3_wideOp 91 = .ok (.goto 151, 3) := by decide +kernel
theorem dX3_wideOp_94 : decode cX3_wideOp 94 = .ok (.aload_n 0, 1) := by decide +kernel
theorem dX3_wideOp_95 : decode cX3_wideOp 95 = .ok (.aload_n 0, 1) := by decide +kernel
theorem dX3_wideOp_96 : decode cX3_wideOp 96 = .ok (.getfield 11, 3) := by decide +kernel
theorem dX3_wideOp_99 : decode cX3_wideOp 99 = .ok (.aload_n 0, 1) := by decide +kernel
theorem dX3_wideOp_100 : decode cX3_wideOp 100 = .ok (.getfield 46, 3) := by decide +kernel
theorem dX3_wideOp_103 : decode cX3_wideOp 103 = .ok (.iload_n 2, 1) := by decide +kernel
theorem dX3_wideOp_104 : decode cX3_wideOp 104 = .ok (.iadd, 1) := by decide +kernel
theorem dX3_wideOp_105 : decode cX3_wideOp 105 = .ok (.invokestatic 98, 3) := by decide +kernel
theorem dX3_wideOp_108 : decode cX3_wideOp 108 = .ok (.invokevirtual 113, 3) := by decide +kernel
theorem dX3_wideOp_111 : decode cX3_wideOp 111 = .ok (.goto 131, 3) := by decide +kernel
theorem dX3_wideOp_114 : decode cX3_wideOp 114 = .ok (.aload_n 0, 1) := by decide +kernel
theorem dX3_wideOp_115 : decode cX3_wideOp 115 = .ok (.getfield 29, 3) := by decide +kernel
theorem dX3_wideOp_118 : decode cX3_wideOp 118 = .ok (.getfield 145, 3) := by decide +kernel
theorem dX3_wideOp_121 : decode cX3_wideOp 121 = .ok (.iload_n 2, 1) := by decide +kernel
theorem dX3_wideOp_122 : decode cX3_wideOp 122 = .ok (.aload_n 0, 1) := by decide +kernel
theorem dX3_wideOp_123 : decode cX3_wideOp 123 = .ok (.invokevirtual 102, 3) := by decide +kernel
theorem dX3_wideOp_126 : decode cX3_wideOp 126 = .ok (.invokestatic 138, 3) := by decide +kernel
theorem dX3_wideOp_129 : decode cX3_wideOp 129 = .ok (.goto 113, 3) := by decide +kernel
theorem dX3_wideOp_132 : decode cX3_wideOp 132 = .ok (.aload_n 0, 1) := by decide +kernel
theorem dX3_wideOp_133 : decode cX3_wideOp 133 = .ok (.getfield 11, 3) := by decide +kernel
theorem dX3_wideOp_136 : decode cX3_wideOp 136 = .ok (.aload_n 0, 1) := by decide +kernel
theorem dX3_wideOp_137 : decode cX3_wideOp 137 = .ok (.getfield 46, 3) := by decide +kernel
theorem dX3_wideOp_140 : decode cX3_wideOp 140 = .ok (.iload_n 2, 1) := by decide +kernel
theorem dX3_wideOp_141 : decode cX3_wideOp 141 = .ok (.iadd, 1) := by decide +kernel
theorem dX3_wideOp_142 : decode cX3_wideOp 142 = .ok (.aload_n 0, 1) := by decide +kernel
theorem dX3_wideOp_143 : decode cX3_wideOp 143 = .ok (.invokevirtual 102, 3) := by decide +kernel
theorem dX3_wideOp_146 : decode cX3_wideOp 146 = .ok (.invokestatic 138, 3) := by decide +kernel
theorem dX3_wideOp_149 : decode cX3_wideOp 149 = .ok (.goto 93, 3) := by decide +kernel
theorem dX3_wideOp_152 : decode cX3_wideOp 152 = .ok (.aload_n 0, 1) := by decide +kernel
theorem dX3_wideOp_153 : decode cX3_wideOp 153 = .ok (.iload_n 1, 1) := by decide +kernel
theorem dX3_wideOp_154 : decode cX3_wideOp 154 = .ok (.bipush 39, 2) := by decide +kernel
theorem dX3_wideOp_156 : decode cX3_wideOp 156 = .ok (.if_icmp .ne 7, 3) := by decide +kernel
theorem dX3_wideOp_159 : decode cX3_wideOp 159 = .ok (.iconst 1, 1) := by decide +kernel
theorem dX3_wideOp_160 : decode cX3_wideOp 160 = .ok (.goto 4, 3) := by decide +kernel
theorem dX3_wideOp_163 : decode cX3_wideOp 163 = .ok (.iconst 0, 1) := by decide +kernel
theorem dX3_wideOp_164 : decode cX3_wideOp 164 = .ok (.iload_n 2, 1) := by decide +kernel
theorem dX3_wideOp_165 : decode cX3_wideOp 165 = .ok (.invokevirtual 148, 3) := by decide +kernel
theorem dX3_wideOp_168 : decode cX3_wideOp 168 = .ok (.goto 74, 3) := by decide +kernel
theorem dX3_wideOp_171 : decode cX3_wideOp 171 = .ok (.aload_n 0, 1) := by decide +kernel
theorem dX3_wideOp_172 : decode cX3_wideOp 172 = .ok (.iload_n 2, 1) := by decide +kernel
theorem dX3_wideOp_173 : decode cX3_wideOp 173 = .ok (.invokevirtual 152, 3) := by decide +kernel
theorem dX3_wideOp_176 : decode cX3_wideOp 176 = .ok (.goto 66, 3) := by decide +kernel
theorem dX3_wideOp_179 : decode cX3_wideOp 179 = .ok (.aload_n 0, 1) := by decide +kernel
theorem dX3_wideOp_180 : decode cX3_wideOp 180 = .ok (.iload_n 2, 1) := by decide +kernel
theorem dX3_wideOp_181 : decode cX3_wideOp 181 = .ok (.putfield 68, 3) := by decide +kernel
theorem dX3_wideOp_184 : decode cX3_wideOp 184 = .ok (.goto 58, 3) := by decide +kernel
theorem dX3_wideOp_187 : decode cX3_wideOp 187 = .ok (.aload_n 0, 1) := by decide +kernel
theorem dX3_wideOp_188 : decode cX3_wideOp 188 = .ok (.aload_n 0, 1) := by decide +kernel
theorem dX3_wideOp_189 : decode cX3_wideOp 189 = .ok (.invokevirtual 102, 3) := by decide +kernel
theorem dX3_wideOp_192 : decode cX3_wideOp 192 = .ok (.ifCond .ne 7, 3) := by decide +kernel
theorem dX3_wideOp_195 : decode cX3_wideOp 195 = .ok (.iload_n 2, 1) := by decide +kernel
theorem dX3_wideOp_196 : decode cX3_wideOp 196 = .ok (.goto 7, 3) := by decide +kernel
theorem dX3_wideOp_199 : decode cX3_wideOp 199 = .ok (.aload_n 0, 1) := by decide +kernel
theorem dX3_wideOp_200 : decode cX3_wideOp 200 = .ok (.getfield 68, 3) := by decide +kernel
theorem dX3_wideOp_203 : decode cX3_wideOp 203 = .ok (.putfield 68, 3) := by decide +kernel
theorem dX3_wideOp_206 : decode cX3_wideOp 206 = .ok (.goto 36, 3) := by decide +kernel
theorem dX3_wideOp_209 : decode cX3_wideOp 209 = .ok (.aload_n 0, 1) := by decide +kernel
theorem dX3_wideOp_210 : decode cX3_wideOp 210 = .ok (.iload_n 1, 1) := by decide +kernel
theorem dX3_wideOp_211 : decode cX3_wideOp 211 = .ok (.bipush 44, 2) := by decide +kernel
theorem dX3_wideOp_213 : decode cX3_wideOp 213 = .ok (.if_icmp .ne 7, 3) := by decide +kernel
theorem dX3_wideOp_216 : decode cX3_wideOp 216 = .ok (.iconst 1, 1) := by decide +kernel
theorem dX3_wideOp_217 : decode cX3_wideOp 217 = .ok (.goto 4, 3) := by decide +kernel
theorem dX3_wideOp_220 : decode cX3_wideOp 220 = .ok (.iconst 0, 1) := by decide +kernel
theorem dX3_wideOp_221 : decode cX3_wideOp 221 = .ok (.iload_n 2, 1) := by decide +kernel
theorem dX3_wideOp_222 : decode cX3_wideOp 222 = .ok (.invokevirtual 155, 3) := by decide +kernel
theorem dX3_wideOp_225 : decode cX3_wideOp 225 = .ok (.goto 17, 3) := by decide +kernel
theorem dX3_wideOp_228 : decode cX3_wideOp 228 = .ok (.aload_n 0, 1) := by decide +kernel
theorem dX3_wideOp_229 : decode cX3_wideOp 229 = .ok (.iload_n 2, 1) := by decide +kernel
theorem dX3_wideOp_230 : decode cX3_wideOp 230 = .ok (.invokevirtual 158, 3) := by decide +kernel
theorem dX3_wideOp_233 : decode cX3_wideOp 233 = .ok (.goto 9, 3) := by decide +kernel
theorem dX3_wideOp_236 : decode cX3_wideOp 236 = .ok (.aload_n 0, 1) := by decide +kernel
theorem dX3_wideOp_237 : decode cX3_wideOp 237 = .ok (.iload_n 1, 1) := by decide +kernel
theorem dX3_wideOp_238 : decode cX3_wideOp 238 = .ok (.iload_n 2, 1) := by decide +kernel
theorem dX3_wideOp_239 : decode cX3_wideOp 239 = .ok (.invokevirtual 161, 3) := by decide +kernel
theorem dX3_wideOp_242 : decode cX3_wideOp 242 = .ok (.return_, 1) := by decide +kernel
def F_X3_wideOp (p0 : Int32) (p1 : Int32) (Γ : HS) : HR :=
  if p0 = 33 then (
    (F_X3_push p1 Γ).bind fun u_3 =>
    some (0, u_3.2)
  ) else
  if p0 = 34 then (
    bnd ((g_at 100 ((Γ 9).2.1 4) p1)) fun (x_8 : Int32) =>
    (F_X3_push x_8 Γ).bind fun u_10 =>
    some (0, u_10.2)
  ) else
  if p0 = 35 then (
    bnd ((((Γ 10).1 8) + p1)) fun (x_15 : Int32) =>
    bnd ((g_at 9000 ((Γ 10).2.1 6) x_15)) fun (x_17 : Int32) =>
    (F_X3_push x_17 Γ).bind fun u_19 =>
    some (0, u_19.2)
  ) else
  if p0 = 36 ∨ p0 = 39 then (
    bnd (fun (t_24 : Int32) (σ_25 : HS) => (
      (F_X3_cellOp t_24 p1 σ_25).bind fun u_29 =>
      some (0, u_29.2)
    ) : Int32 → HS → HR) fun j_26 =>
    if p0 = 39 then (
      j_26 1 Γ
    ) else (
      j_26 0 Γ
    )
  ) else
  if p0 = 37 then (
    (F_X3_pop Γ).bind fun u_37 =>
    bnd (cA' u_37.2 9 4 (g_put 100 ((u_37.2 9).2.1 4) p1 u_37.1)) fun σ_39 =>
    some (0, σ_39)
  ) else
  if p0 = 38 then (
    (F_X3_pop Γ).bind fun u_44 =>
    bnd (cA' u_44.2 10 6 (g_put 9000 ((u_44.2 10).2.1 6) (((Γ 10).1 8) + p1) u_44.1)) fun σ_46 =>
    some (0, σ_46)
  ) else
  if p0 = 40 then (
    (F_X3_call p1 Γ).bind fun u_51 =>
    some (0, u_51.2)
  ) else
  if p0 = 41 then (
    bnd (cI' Γ 10 9 p1) fun σ_56 =>
    some (0, σ_56)
  ) else
  if p0 = 42 then (
    (F_X3_pop Γ).bind fun u_61 =>
    bnd (fun (t_63 : Int32) (σ_64 : HS) => (
      bnd (cI' σ_64 10 9 t_63) fun σ_68 =>
      some (0, σ_68)
    ) : Int32 → HS → HR) fun j_65 =>
    if u_61.1 = 0 then (
      j_65 p1 u_61.2
    ) else (
      j_65 ((u_61.2 10).1 9) u_61.2
    )
  ) else
  if p0 = 43 ∨ p0 = 44 then (
    bnd (fun (t_76 : Int32) (σ_77 : HS) => (
      (F_X3_pairOp t_76 p1 σ_77).bind fun u_81 =>
      some (0, u_81.2)
    ) : Int32 → HS → HR) fun j_78 =>
    if p0 = 44 then (
      j_78 1 Γ
    ) else (
      j_78 0 Γ
    )
  ) else
  if p0 = 45 then (
    (F_X3_sayText p1 Γ).bind fun u_89 =>
    some (0, u_89.2)
  ) else
  (
    (F_X3_traitOp p0 p1 Γ).bind fun u_92 =>
    some (0, u_92.2)
  )
set_option maxHeartbeats 4000000 in
set_option maxRecDepth 100000 in
theorem k_X3_wideOp (l : Launch) (dC : Nat → ClassId) (dI : Nat → Nat → Nat) (cB cC cI cJ cZ cP : ClassId) (oA : Nat → Nat) (rA : Nat → Nat → Nat) (sz : Nat)  (p0 : Int32) (p1 : Int32) (Γ : HS) (res : Int32 × HS) (hF : F_X3_wideOp p0 p1 Γ = some res) : Met l yX3_wideOp (g_ws yX3_wideOp cX3_wideOp 3 none) ({ frames := 7, cells := 0, slots := 0, locals := 176 }) (va_Pc [.ref (oA 10), .int p0, .int p1] (g_B (dC, dI) [(cB, .byte), (cC, .char), (cI, .int), (cJ, .long), (cZ, .boolean), (cP, .object "StoryHouse$Play")] sz (b_k cB cC cI cJ cZ oA rA Γ ++ b_p cB cC cI cJ cZ oA rA Γ ++ b_o cB cC cI cJ cZ oA rA Γ ++ b_s cB cC cI cJ cZ oA rA Γ ++ b_c cB cC cI cJ cZ oA rA Γ ++ b_t cB cC cI cJ cZ oA rA Γ ++ b_d cB cC cI cJ cZ oA rA Γ) g_0)) (va_Qv (fun (_ : Unit) => True) (g_Bo (dC, dI) (va_A (b_k cB cC cI cJ cZ oA rA Γ ++ b_p cB cC cI cJ cZ oA rA Γ ++ b_o cB cC cI cJ cZ oA rA Γ ++ b_s cB cC cI cJ cZ oA rA Γ ++ b_c cB cC cI cJ cZ oA rA Γ ++ b_t cB cC cI cJ cZ oA rA Γ ++ b_d cB cC cI cJ cZ oA rA Γ) sz) (fun (_ : Unit) => (b_k cB cC cI cJ cZ oA rA res.2 ++ b_p cB cC cI cJ cZ oA rA res.2 ++ b_o cB cC cI cJ cZ oA rA res.2 ++ b_s cB cC cI cJ cZ oA rA res.2 ++ b_c cB cC cI cJ cZ oA rA res.2 ++ b_t cB cC cI cJ cZ oA rA res.2 ++ b_d cB cC cI cJ cZ oA rA res.2))) (va_A (b_k cB cC cI cJ cZ oA rA Γ ++ b_p cB cC cI cJ cZ oA rA Γ ++ b_o cB cC cI cJ cZ oA rA Γ ++ b_s cB cC cI cJ cZ oA rA Γ ++ b_c cB cC cI cJ cZ oA rA Γ ++ b_t cB cC cI cJ cZ oA rA Γ ++ b_d cB cC cI cJ cZ oA rA Γ) sz)) 0 0 (va_A (b_k cB cC cI cJ cZ oA rA Γ ++ b_p cB cC cI cJ cZ oA rA Γ ++ b_o cB cC cI cJ cZ oA rA Γ ++ b_s cB cC cI cJ cZ oA rA Γ ++ b_c cB cC cI cJ cZ oA rA Γ ++ b_t cB cC cI cJ cZ oA rA Γ ++ b_d cB cC cI cJ cZ oA rA Γ) sz) := by
  refine Met.ofW (cc := cX3_wideOp) (maxL := 3) (ret := none) (by decide) rfl ?_
  intro p e s m args below meth c s₁ B hml hv
  obtain ⟨rfl, hsz, hP, hK, hD0, hE, hX⟩ := hv
  have hx := B.exec
  have hb := B.bytes
  have hr := B.returns
  have hts0 := atoms_spec (ws := g_ws yX3_wideOp cX3_wideOp 3 none) B.pre
  have hts : ∀ w ∈ lw_good, w.before ([.ref (oA 10), .int p0, .int p1] : List Value).toArray s = true := fun w z => hts0 w (List.mem_cons_of_mem _ z)
  have hown : s.vm.findClass RX3 = some m.cls := findClass_of_methodNamed B.named
  have hlocks := B.notSynchronized
  subst hsz
  have hD1 := hD0.self (sz := s.heap.size)
  generalize hAe : va_A (b_k cB cC cI cJ cZ oA rA Γ ++ b_p cB cC cI cJ cZ oA rA Γ ++ b_o cB cC cI cJ cZ oA rA Γ ++ b_s cB cC cI cJ cZ oA rA Γ ++ b_c cB cC cI cJ cZ oA rA Γ ++ b_t cB cC cI cJ cZ oA rA Γ ++ b_d cB cC cI cJ cZ oA rA Γ) s.heap.size = A at hD1 hE hX ⊢
  have hA : ∀ q : Nat, s.heap.size ≤ q → A q := fun q z => by rw [← hAe]; exact Or.inr z
  have hDD : ∀ Γ : HS, va_D A (b_k cB cC cI cJ cZ oA rA Γ ++ b_p cB cC cI cJ cZ oA rA Γ ++ b_o cB cC cI cJ cZ oA rA Γ ++ b_s cB cC cI cJ cZ oA rA Γ ++ b_c cB cC cI cJ cZ oA rA Γ ++ b_t cB cC cI cJ cZ oA rA Γ ++ b_d cB cC cI cJ cZ oA rA Γ) := fun Γ9 => va_D_fst (ws := (b_k cB cC cI cJ cZ oA rA Γ ++ b_p cB cC cI cJ cZ oA rA Γ ++ b_o cB cC cI cJ cZ oA rA Γ ++ b_s cB cC cI cJ cZ oA rA Γ ++ b_c cB cC cI cJ cZ oA rA Γ ++ b_t cB cC cI cJ cZ oA rA Γ ++ b_d cB cC cI cJ cZ oA rA Γ)) (ws' := (b_k cB cC cI cJ cZ oA rA Γ9 ++ b_p cB cC cI cJ cZ oA rA Γ9 ++ b_o cB cC cI cJ cZ oA rA Γ9 ++ b_s cB cC cI cJ cZ oA rA Γ9 ++ b_c cB cC cI cJ cZ oA rA Γ9 ++ b_t cB cC cI cJ cZ oA rA Γ9 ++ b_d cB cC cI cJ cZ oA rA Γ9)) rfl hD1
  have hN := hE.1
  have hS : va_S A s.heap s.heap [] := va_S.rf
  have hl := lv_entry ([.ref (oA 10), .int p0, .int p1]) (n := 3) (Nat.le_of_ble_eq_true rfl)
  rw [lg_entry_eq]
  generalize (lg_sl ([.ref (oA 10), .int p0, .int p1]) ++ List.replicate (3 - (lg_sl ([.ref (oA 10), .int p0, .int p1])).length) Slot.unset).toArray = ls at hl ⊢
  have hl : lv_has ls 3 [(0, .ref (oA 10)), (1, .int p0), (2, .int p1)] := hl
  unfold F_X3_wideOp at hF
  refine lv_iload_n hx hb dX3_wideOp_0 rfl (lv_at hl 1 rfl) ?_
  by_cases c_1 : p0 = 33
  · have hF_2 := ipos c_1 hF
    clear hF
    refine lv_tableIn (off := 67) (tgt := 68) hx hb dX3_wideOp_1 (by rw [c_1]; decide +kernel) (by rw [c_1]; decide +kernel) (by rw [c_1]; decide +kernel) (by decide) ?_
    refine lv_aload_n hx hb dX3_wideOp_68 rfl (lv_at hl 0 rfl) ?_
    refine lv_iload_n hx hb dX3_wideOp_69 rfl (lv_at hl 2 rfl) ?_
    obtain ⟨u_3, hu_3, hF_4⟩ := Option.bind_eq_some_iff.mp hF_2
    clear hF_2
    have hPc := hP.sub (ws' := (b_k cB cC cI cJ cZ oA rA Γ ++ b_p cB cC cI cJ cZ oA rA Γ ++ b_o cB cC cI cJ cZ oA rA Γ ++ b_s cB cC cI cJ cZ oA rA Γ ++ b_c cB cC cI cJ cZ oA rA Γ ++ b_t cB cC cI cJ cZ oA rA Γ ++ b_d cB cC cI cJ cZ oA rA Γ)) [0, 1, 2, 3, 4, 5, 6, 7, 8, 9, 10, 11, 12, 13, 14, 15, 16, 17, 18, 19, 20, 21, 22, 23, 24, 25, 26, 27, 28, 29, 30, 31, 32, 33, 34, 35, 36, 37, 38, 39, 40, 41, 42, 43, 44, 45] rfl
    have hDc := (hDD Γ).sub (ws' := (b_k cB cC cI cJ cZ oA rA Γ ++ b_p cB cC cI cJ cZ oA rA Γ ++ b_o cB cC cI cJ cZ oA rA Γ ++ b_s cB cC cI cJ cZ oA rA Γ ++ b_c cB cC cI cJ cZ oA rA Γ ++ b_t cB cC cI cJ cZ oA rA Γ ++ b_d cB cC cI cJ cZ oA rA Γ)) [0, 1, 2, 3, 4, 5, 6, 7, 8, 9, 10, 11, 12, 13, 14, 15, 16, 17, 18, 19, 20, 21, 22, 23, 24, 25, 26, 27, 28, 29, 30, 31, 32, 33, 34, 35, 36, 37, 38, 39, 40, 41, 42, 43, 44, 45] (by decide +kernel) rfl
    have hFc := va_free (wc := (b_k cB cC cI cJ cZ oA rA Γ ++ b_p cB cC cI cJ cZ oA rA Γ ++ b_o cB cC cI cJ cZ oA rA Γ ++ b_s cB cC cI cJ cZ oA rA Γ ++ b_c cB cC cI cJ cZ oA rA Γ ++ b_t cB cC cI cJ cZ oA rA Γ ++ b_d cB cC cI cJ cZ oA rA Γ)) (hDD Γ) hS hA [0, 1, 2, 3, 4, 5, 6, 7, 8, 9, 10, 11, 12, 13, 14, 15, 16, 17, 18, 19, 20, 21, 22, 23, 24, 25, 26, 27, 28, 29, 30, 31, 32, 33, 34, 35, 36, 37, 38, 39, 40, 41, 42, 43, 44, 45] rfl
    refine g_ofv (wc := (b_k cB cC cI cJ cZ oA rA Γ ++ b_p cB cC cI cJ cZ oA rA Γ ++ b_o cB cC cI cJ cZ oA rA Γ ++ b_s cB cC cI cJ cZ oA rA Γ ++ b_c cB cC cI cJ cZ oA rA Γ ++ b_t cB cC cI cJ cZ oA rA Γ ++ b_d cB cC cI cJ cZ oA rA Γ)) (wr := ([] : va_W)) hP (hDD Γ) hS hFc [0, 1, 2, 3, 4, 5, 6, 7, 8, 9, 10, 11, 12, 13, 14, 15, 16, 17, 18, 19, 20, 21, 22, 23, 24, 25, 26, 27, 28, 29, 30, 31, 32, 33, 34, 35, 36, 37, 38, 39, 40, 41, 42, 43, 44, 45] [] rfl rfl (by decide +kernel) (by decide +kernel) (va_runV (As := [.int p1]) (rest := []) ⟨hx, hb, hml, hown, hts⟩ (k_X3_push l dC dI cB cC cI cJ cZ cP oA rA s.heap.size  p1 Γ _ hu_3) (cwV 1 hts (g_gV wq_1141 wq_1142 wq_2085 wq_11 wq_1143) rfl rfl rfl (by decide +kernel) ⟨Nat.le_of_ble_eq_true rfl, Nat.le_of_ble_eq_true rfl⟩) (g_preV g_bl0 hK hPc hDc hS hE hFc g_to0 (q0 := 0) (ci := 3) rfl rfl) rfl rfl hl.1 rfl (lv_room (Nat.le_of_ble_eq_true rfl)) dX3_wideOp_70 ⟨Nat.le_of_ble_eq_true rfl, Nat.le_of_ble_eq_true rfl⟩) (fun u9 H locs hw9 hP' hD' hS => ?_)
    clear hPc hDc hFc
    have hP : va_P (dC, dI) vwCl (b_k cB cC cI cJ cZ oA rA u_3.2 ++ b_p cB cC cI cJ cZ oA rA u_3.2 ++ b_o cB cC cI cJ cZ oA rA u_3.2 ++ b_s cB cC cI cJ cZ oA rA u_3.2 ++ b_c cB cC cI cJ cZ oA rA u_3.2 ++ b_t cB cC cI cJ cZ oA rA u_3.2 ++ b_d cB cC cI cJ cZ oA rA u_3.2) H := hP'
    clear hP' hD'
    refine lv_goto (tgt := 242) hx hb dX3_wideOp_73 (by decide) ?_
    have h9 := Option.some.inj hF_4
    subst h9
    exact W.vret hx hb hr (fun t ht hW => ⟨⟨(), rfl, trivial, m_end ht hP, hDD _⟩, hS.F ht⟩) hS.2.2 dX3_wideOp_242
  have hF_5 := ineg c_1 hF
  clear hF
  by_cases c_6 : p0 = 34
  · have hF_7 := ipos c_6 hF_5
    clear hF_5
    refine lv_tableIn (off := 75) (tgt := 76) hx hb dX3_wideOp_1 (by rw [c_6]; decide +kernel) (by rw [c_6]; decide +kernel) (by rw [c_6]; decide +kernel) (by decide) ?_
    refine lv_aload_n hx hb dX3_wideOp_76 rfl (lv_at hl 0 rfl) ?_
    refine lv_aload_n hx hb dX3_wideOp_77 rfl (lv_at hl 0 rfl) ?_
    refine va_get (D := (dC, dI)) (ci := 3) (v := .ref (oA 9)) (C := RX3) (T := TX3) (N := 16) hx hb hts ii_X3 hown hK hP 0 rfl rfl 0 (by decide) (hts (.fieldLink RX3 29 "StoryHouse$Machine" "play" "LStoryHouse$Play;") wq_259) (fun _ h9 => h9) rfl dX3_wideOp_78 ?_
    refine va_get (D := (dC, dI)) (ci := 6) (v := .ref (rA 9 4)) (C := RX6) (T := TX6) (N := 12) hx hb hts ii_X6 hown hK hP 5 rfl rfl 4 (by decide) (hts (.fieldLink RX3 145 "StoryHouse$Play" "vars" "[I") wq_231) (fun _ h9 => h9) rfl dX3_wideOp_81 ?_
    refine lv_iload_n hx hb dX3_wideOp_84 rfl (lv_at hl 2 rfl) ?_
    have hPc := hP.sub (ws' := [(rA 9 4, .inl (cI, 100, .inl ((Γ 9).2.1 4)))]) [10] rfl
    have hDc := (hDD Γ).sub (ws' := [(rA 9 4, .inl (cI, 100, .inl ((Γ 9).2.1 4)))]) [10] (by decide +kernel) rfl
    have hFc := va_free (wc := [(rA 9 4, .inl (cI, 100, .inl ((Γ 9).2.1 4)))]) (hDD Γ) hS hA [10] rfl
    refine g_ofi (wc := [(rA 9 4, .inl (cI, 100, .inl ((Γ 9).2.1 4)))]) (wr := (((b_k cB cC cI cJ cZ oA rA Γ ++ b_p cB cC cI cJ cZ oA rA Γ ++ b_o cB cC cI cJ cZ oA rA Γ ++ b_s cB cC cI cJ cZ oA rA Γ ++ b_c cB cC cI cJ cZ oA rA Γ ++ b_t cB cC cI cJ cZ oA rA Γ ++ b_d cB cC cI cJ cZ oA rA Γ)).eraseIdx 10)) hP (hDD Γ) hS hFc [10] [0, 1, 2, 3, 4, 5, 6, 7, 8, 9, 11, 12, 13, 14, 15, 16, 17, 18, 19, 20, 21, 22, 23, 24, 25, 26, 27, 28, 29, 30, 31, 32, 33, 34, 35, 36, 37, 38, 39, 40, 41, 42, 43, 44, 45] rfl rfl (by decide +kernel) (by decide +kernel) (va_runSN (As := [.ref (rA 9 4), .int p1]) (rest := [.ref (oA 10)]) ⟨hx, hb, hml, hown, hts⟩ (c_X11_at l dC dI cB cC cI cJ cZ cP s.heap.size (rA 9 4) p1 100 ((Γ 9).2.1 4) (by decide)) ⟨va_cnB 2 hts (g_gA wq_407) rfl rfl rfl (hN.at 30 rfl) (hts (.initialized RX11) wq_1) (by decide +kernel) ⟨Nat.le_of_ble_eq_true rfl, Nat.le_of_ble_eq_true rfl⟩, (hts (.static yX11_at) wq_406), trivial⟩ (g_preS g_bl0 hK hPc hDc hS hE hFc g_to0) rfl rfl hl.1 rfl (lv_room (Nat.le_of_ble_eq_true rfl)) dX3_wideOp_85 ⟨Nat.le_of_ble_eq_true rfl, Nat.le_of_ble_eq_true rfl⟩) (fun r9 u9 H locs hw9 hP' hD' hS => ?_)
    clear hPc hDc hFc hD'
    have hP : va_P (dC, dI) vwCl (b_k cB cC cI cJ cZ oA rA Γ ++ b_p cB cC cI cJ cZ oA rA Γ ++ b_o cB cC cI cJ cZ oA rA Γ ++ b_s cB cC cI cJ cZ oA rA Γ ++ b_c cB cC cI cJ cZ oA rA Γ ++ b_t cB cC cI cJ cZ oA rA Γ ++ b_d cB cC cI cJ cZ oA rA Γ) H := hP'.sub [0, 1, 2, 3, 4, 5, 6, 7, 8, 9, 45, 10, 11, 12, 13, 14, 15, 16, 17, 18, 19, 20, 21, 22, 23, 24, 25, 26, 27, 28, 29, 30, 31, 32, 33, 34, 35, 36, 37, 38, 39, 40, 41, 42, 43, 44] rfl
    clear hP'
    subst hw9
    obtain ⟨x_8, ex_8, hF_9⟩ := bnd_e hF_7
    clear hF_7
    refine m_top ex_8 ?_
    obtain ⟨u_10, hu_10, hF_11⟩ := Option.bind_eq_some_iff.mp hF_9
    clear hF_9
    have hPc := hP.sub (ws' := (b_k cB cC cI cJ cZ oA rA Γ ++ b_p cB cC cI cJ cZ oA rA Γ ++ b_o cB cC cI cJ cZ oA rA Γ ++ b_s cB cC cI cJ cZ oA rA Γ ++ b_c cB cC cI cJ cZ oA rA Γ ++ b_t cB cC cI cJ cZ oA rA Γ ++ b_d cB cC cI cJ cZ oA rA Γ)) [0, 1, 2, 3, 4, 5, 6, 7, 8, 9, 10, 11, 12, 13, 14, 15, 16, 17, 18, 19, 20, 21, 22, 23, 24, 25, 26, 27, 28, 29, 30, 31, 32, 33, 34, 35, 36, 37, 38, 39, 40, 41, 42, 43, 44, 45] rfl
    have hDc := (hDD Γ).sub (ws' := (b_k cB cC cI cJ cZ oA rA Γ ++ b_p cB cC cI cJ cZ oA rA Γ ++ b_o cB cC cI cJ cZ oA rA Γ ++ b_s cB cC cI cJ cZ oA rA Γ ++ b_c cB cC cI cJ cZ oA rA Γ ++ b_t cB cC cI cJ cZ oA rA Γ ++ b_d cB cC cI cJ cZ oA rA Γ)) [0, 1, 2, 3, 4, 5, 6, 7, 8, 9, 10, 11, 12, 13, 14, 15, 16, 17, 18, 19, 20, 21, 22, 23, 24, 25, 26, 27, 28, 29, 30, 31, 32, 33, 34, 35, 36, 37, 38, 39, 40, 41, 42, 43, 44, 45] (by decide +kernel) rfl
    have hFc := va_free (wc := (b_k cB cC cI cJ cZ oA rA Γ ++ b_p cB cC cI cJ cZ oA rA Γ ++ b_o cB cC cI cJ cZ oA rA Γ ++ b_s cB cC cI cJ cZ oA rA Γ ++ b_c cB cC cI cJ cZ oA rA Γ ++ b_t cB cC cI cJ cZ oA rA Γ ++ b_d cB cC cI cJ cZ oA rA Γ)) (hDD Γ) hS hA [0, 1, 2, 3, 4, 5, 6, 7, 8, 9, 10, 11, 12, 13, 14, 15, 16, 17, 18, 19, 20, 21, 22, 23, 24, 25, 26, 27, 28, 29, 30, 31, 32, 33, 34, 35, 36, 37, 38, 39, 40, 41, 42, 43, 44, 45] rfl
    refine g_ofv (wc := (b_k cB cC cI cJ cZ oA rA Γ ++ b_p cB cC cI cJ cZ oA rA Γ ++ b_o cB cC cI cJ cZ oA rA Γ ++ b_s cB cC cI cJ cZ oA rA Γ ++ b_c cB cC cI cJ cZ oA rA Γ ++ b_t cB cC cI cJ cZ oA rA Γ ++ b_d cB cC cI cJ cZ oA rA Γ)) (wr := ([] : va_W)) hP (hDD Γ) hS hFc [0, 1, 2, 3, 4, 5, 6, 7, 8, 9, 10, 11, 12, 13, 14, 15, 16, 17, 18, 19, 20, 21, 22, 23, 24, 25, 26, 27, 28, 29, 30, 31, 32, 33, 34, 35, 36, 37, 38, 39, 40, 41, 42, 43, 44, 45] [] rfl rfl (by decide +kernel) (by decide +kernel) (va_runV (As := [.int x_8]) (rest := []) ⟨hx, hb, hml, hown, hts⟩ (k_X3_push l dC dI cB cC cI cJ cZ cP oA rA H.size  x_8 Γ _ hu_10) (cwV 1 hts (g_gV wq_1141 wq_1142 wq_2085 wq_11 wq_1143) rfl rfl rfl (by decide +kernel) ⟨Nat.le_of_ble_eq_true rfl, Nat.le_of_ble_eq_true rfl⟩) (g_preV g_bl0 hK hPc hDc hS hE hFc g_to0 (q0 := 0) (ci := 3) rfl rfl) rfl rfl hl.1 rfl (lv_room (Nat.le_of_ble_eq_true rfl)) dX3_wideOp_88 ⟨Nat.le_of_ble_eq_true rfl, Nat.le_of_ble_eq_true rfl⟩) (fun u9 H locs hw9 hP' hD' hS => ?_)
    clear hPc hDc hFc
    have hP : va_P (dC, dI) vwCl (b_k cB cC cI cJ cZ oA rA u_10.2 ++ b_p cB cC cI cJ cZ oA rA u_10.2 ++ b_o cB cC cI cJ cZ oA rA u_10.2 ++ b_s cB cC cI cJ cZ oA rA u_10.2 ++ b_c cB cC cI cJ cZ oA rA u_10.2 ++ b_t cB cC cI cJ cZ oA rA u_10.2 ++ b_d cB cC cI cJ cZ oA rA u_10.2) H := hP'
    clear hP' hD'
    refine lv_goto (tgt := 242) hx hb dX3_wideOp_91 (by decide) ?_
    have h9 := Option.some.inj hF_11
    subst h9
    exact W.vret hx hb hr (fun t ht hW => ⟨⟨(), rfl, trivial, m_end ht hP, hDD _⟩, hS.F ht⟩) hS.2.2 dX3_wideOp_242
  have hF_12 := ineg c_6 hF_5
  clear hF_5
  by_cases c_13 : p0 = 35
  · have hF_14 := ipos c_13 hF_12
    clear hF_12
    refine lv_tableIn (off := 93) (tgt := 94) hx hb dX3_wideOp_1 (by rw [c_13]; decide +kernel) (by rw [c_13]; decide +kernel) (by rw [c_13]; decide +kernel) (by decide) ?_
    refine lv_aload_n hx hb dX3_wideOp_94 rfl (lv_at hl 0 rfl) ?_
    refine lv_aload_n hx hb dX3_wideOp_95 rfl (lv_at hl 0 rfl) ?_
    refine va_get (D := (dC, dI)) (ci := 3) (v := .ref (rA 10 6)) (C := RX3) (T := TX3) (N := 16) hx hb hts ii_X3 hown hK hP 0 rfl rfl 6 (by decide) (hts (.fieldLink RX3 11 "StoryHouse$Machine" "stack" "[I") wq_270) (fun _ h9 => h9) rfl dX3_wideOp_96 ?_
    refine lv_aload_n hx hb dX3_wideOp_99 rfl (lv_at hl 0 rfl) ?_
    refine va_get (D := (dC, dI)) (ci := 3) (v := .int ((Γ 10).1 8)) (C := RX3) (T := TX3) (N := 16) hx hb hts ii_X3 hown hK hP 0 rfl rfl 8 (by decide) (hts (.fieldLink RX3 46 "StoryHouse$Machine" "base" "I") wq_272) (fun _ h9 => h9) rfl dX3_wideOp_100 ?_
    refine lv_iload_n hx hb dX3_wideOp_103 rfl (lv_at hl 2 rfl) ?_
    refine lv_iadd hx hb dX3_wideOp_104 ?_
    obtain ⟨x_15, ex_15, hF_16⟩ := bnd_e hF_14
    clear hF_14
    refine m_top ex_15 ?_
    have hPc := hP.sub (ws' := [(rA 10 6, .inl (cI, 9000, .inl ((Γ 10).2.1 6)))]) [1] rfl
    have hDc := (hDD Γ).sub (ws' := [(rA 10 6, .inl (cI, 9000, .inl ((Γ 10).2.1 6)))]) [1] (by decide +kernel) rfl
    have hFc := va_free (wc := [(rA 10 6, .inl (cI, 9000, .inl ((Γ 10).2.1 6)))]) (hDD Γ) hS hA [1] rfl
    refine g_ofi (wc := [(rA 10 6, .inl (cI, 9000, .inl ((Γ 10).2.1 6)))]) (wr := (((b_k cB cC cI cJ cZ oA rA Γ ++ b_p cB cC cI cJ cZ oA rA Γ ++ b_o cB cC cI cJ cZ oA rA Γ ++ b_s cB cC cI cJ cZ oA rA Γ ++ b_c cB cC cI cJ cZ oA rA Γ ++ b_t cB cC cI cJ cZ oA rA Γ ++ b_d cB cC cI cJ cZ oA rA Γ)).eraseIdx 1)) hP (hDD Γ) hS hFc [1] [0, 2, 3, 4, 5, 6, 7, 8, 9, 10, 11, 12, 13, 14, 15, 16, 17, 18, 19, 20, 21, 22, 23, 24, 25, 26, 27, 28, 29, 30, 31, 32, 33, 34, 35, 36, 37, 38, 39, 40, 41, 42, 43, 44, 45] rfl rfl (by decide +kernel) (by decide +kernel) (va_runSN (As := [.ref (rA 10 6), .int x_15]) (rest := [.ref (oA 10)]) ⟨hx, hb, hml, hown, hts⟩ (c_X11_at l dC dI cB cC cI cJ cZ cP s.heap.size (rA 10 6) x_15 9000 ((Γ 10).2.1 6) (by decide)) ⟨va_cnB 2 hts (g_gA wq_407) rfl rfl rfl (hN.at 30 rfl) (hts (.initialized RX11) wq_1) (by decide +kernel) ⟨Nat.le_of_ble_eq_true rfl, Nat.le_of_ble_eq_true rfl⟩, (hts (.static yX11_at) wq_406), trivial⟩ (g_preS g_bl0 hK hPc hDc hS hE hFc g_to0) rfl rfl hl.1 rfl (lv_room (Nat.le_of_ble_eq_true rfl)) dX3_wideOp_105 ⟨Nat.le_of_ble_eq_true rfl, Nat.le_of_ble_eq_true rfl⟩) (fun r9 u9 H locs hw9 hP' hD' hS => ?_)
    clear hPc hDc hFc hD'
    have hP : va_P (dC, dI) vwCl (b_k cB cC cI cJ cZ oA rA Γ ++ b_p cB cC cI cJ cZ oA rA Γ ++ b_o cB cC cI cJ cZ oA rA Γ ++ b_s cB cC cI cJ cZ oA rA Γ ++ b_c cB cC cI cJ cZ oA rA Γ ++ b_t cB cC cI cJ cZ oA rA Γ ++ b_d cB cC cI cJ cZ oA rA Γ) H := hP'.sub [0, 45, 1, 2, 3, 4, 5, 6, 7, 8, 9, 10, 11, 12, 13, 14, 15, 16, 17, 18, 19, 20, 21, 22, 23, 24, 25, 26, 27, 28, 29, 30, 31, 32, 33, 34, 35, 36, 37, 38, 39, 40, 41, 42, 43, 44] rfl
    clear hP'
    subst hw9
    obtain ⟨x_17, ex_17, hF_18⟩ := bnd_e hF_16
    clear hF_16
    refine m_top ex_17 ?_
    obtain ⟨u_19, hu_19, hF_20⟩ := Option.bind_eq_some_iff.mp hF_18
    clear hF_18
    have hPc := hP.sub (ws' := (b_k cB cC cI cJ cZ oA rA Γ ++ b_p cB cC cI cJ cZ oA rA Γ ++ b_o cB cC cI cJ cZ oA rA Γ ++ b_s cB cC cI cJ cZ oA rA Γ ++ b_c cB cC cI cJ cZ oA rA Γ ++ b_t cB cC cI cJ cZ oA rA Γ ++ b_d cB cC cI cJ cZ oA rA Γ)) [0, 1, 2, 3, 4, 5, 6, 7, 8, 9, 10, 11, 12, 13, 14, 15, 16, 17, 18, 19, 20, 21, 22, 23, 24, 25, 26, 27, 28, 29, 30, 31, 32, 33, 34, 35, 36, 37, 38, 39, 40, 41, 42, 43, 44, 45] rfl
    have hDc := (hDD Γ).sub (ws' := (b_k cB cC cI cJ cZ oA rA Γ ++ b_p cB cC cI cJ cZ oA rA Γ ++ b_o cB cC cI cJ cZ oA rA Γ ++ b_s cB cC cI cJ cZ oA rA Γ ++ b_c cB cC cI cJ cZ oA rA Γ ++ b_t cB cC cI cJ cZ oA rA Γ ++ b_d cB cC cI cJ cZ oA rA Γ)) [0, 1, 2, 3, 4, 5, 6, 7, 8, 9, 10, 11, 12, 13, 14, 15, 16, 17, 18, 19, 20, 21, 22, 23, 24, 25, 26, 27, 28, 29, 30, 31, 32, 33, 34, 35, 36, 37, 38, 39, 40, 41, 42, 43, 44, 45] (by decide +kernel) rfl
    have hFc := va_free (wc := (b_k cB cC cI cJ cZ oA rA Γ ++ b_p cB cC cI cJ cZ oA rA Γ ++ b_o cB cC cI cJ cZ oA rA Γ ++ b_s cB cC cI cJ cZ oA rA Γ ++ b_c cB cC cI cJ cZ oA rA Γ ++ b_t cB cC cI cJ cZ oA rA Γ ++ b_d cB cC cI cJ cZ oA rA Γ)) (hDD Γ) hS hA [0, 1, 2, 3, 4, 5, 6, 7, 8, 9, 10, 11, 12, 13, 14, 15, 16, 17, 18, 19, 20, 21, 22, 23, 24, 25, 26, 27, 28, 29, 30, 31, 32, 33, 34, 35, 36, 37, 38, 39, 40, 41, 42, 43, 44, 45] rfl
    refine g_ofv (wc := (b_k cB cC cI cJ cZ oA rA Γ ++ b_p cB cC cI cJ cZ oA rA Γ ++ b_o cB cC cI cJ cZ oA rA Γ ++ b_s cB cC cI cJ cZ oA rA Γ ++ b_c cB cC cI cJ cZ oA rA Γ ++ b_t cB cC cI cJ cZ oA rA Γ ++ b_d cB cC cI cJ cZ oA rA Γ)) (wr := ([] : va_W)) hP (hDD Γ) hS hFc [0, 1, 2, 3, 4, 5, 6, 7, 8, 9, 10, 11, 12, 13, 14, 15, 16, 17, 18, 19, 20, 21, 22, 23, 24, 25, 26, 27, 28, 29, 30, 31, 32, 33, 34, 35, 36, 37, 38, 39, 40, 41, 42, 43, 44, 45] [] rfl rfl (by decide +kernel) (by decide +kernel) (va_runV (As := [.int x_17]) (rest := []) ⟨hx, hb, hml, hown, hts⟩ (k_X3_push l dC dI cB cC cI cJ cZ cP oA rA H.size  x_17 Γ _ hu_19) (cwV 1 hts (g_gV wq_1141 wq_1142 wq_2085 wq_11 wq_1143) rfl rfl rfl (by decide +kernel) ⟨Nat.le_of_ble_eq_true rfl, Nat.le_of_ble_eq_true rfl⟩) (g_preV g_bl0 hK hPc hDc hS hE hFc g_to0 (q0 := 0) (ci := 3) rfl rfl) rfl rfl hl.1 rfl (lv_room (Nat.le_of_ble_eq_true rfl)) dX3_wideOp_108 ⟨Nat.le_of_ble_eq_true rfl, Nat.le_of_ble_eq_true rfl⟩) (fun u9 H locs hw9 hP' hD' hS => ?_)
    clear hPc hDc hFc
    have hP : va_P (dC, dI) vwCl (b_k cB cC cI cJ cZ oA rA u_19.2 ++ b_p cB cC cI cJ cZ oA rA u_19.2 ++ b_o cB cC cI cJ cZ oA rA u_19.2 ++ b_s cB cC cI cJ cZ oA rA u_19.2 ++ b_c cB cC cI cJ cZ oA rA u_19.2 ++ b_t cB cC cI cJ cZ oA rA u_19.2 ++ b_d cB cC cI cJ cZ oA rA u_19.2) H := hP'
    clear hP' hD'
    refine lv_goto (tgt := 242) hx hb dX3_wideOp_111 (by decide) ?_
    have h9 := Option.some.inj hF_20
    subst h9
    exact W.vret hx hb hr (fun t ht hW => ⟨⟨(), rfl, trivial, m_end ht hP, hDD _⟩, hS.F ht⟩) hS.2.2 dX3_wideOp_242
  have hF_21 := ineg c_13 hF_12
  clear hF_12
  by_cases c_22 : p0 = 36 ∨ p0 = 39
  · have hF_23 := ipos c_22 hF_21
    clear hF_21
    refine lv_tableIn (off := 151) (tgt := 152) hx hb dX3_wideOp_1 (by rcases c_22 with q9 | q9 <;> (rw [q9]; decide +kernel)) (by rcases c_22 with q9 | q9 <;> (rw [q9]; decide +kernel)) (by rcases c_22 with q9 | q9 <;> (rw [q9]; decide +kernel)) (by decide) ?_
    refine lv_aload_n hx hb dX3_wideOp_152 rfl (lv_at hl 0 rfl) ?_
    refine lv_iload_n hx hb dX3_wideOp_153 rfl (lv_at hl 1 rfl) ?_
    refine lv_bipush (v := 39) hx hb dX3_wideOp_154 (by decide +kernel) ?_
    obtain ⟨j_26, ej_26, hF_27⟩ := bnd_e hF_23
    clear hF_23
    have Jj_26 : ∀ (t_24 : Int32) (σ_25 : HS), j_26 t_24 σ_25 = some res → ∀ (H : Heap) (locs : List Loc), va_P (dC, dI) vwCl (b_k cB cC cI cJ cZ oA rA σ_25 ++ b_p cB cC cI cJ cZ oA rA σ_25 ++ b_o cB cC cI cJ cZ oA rA σ_25 ++ b_s cB cC cI cJ cZ oA rA σ_25 ++ b_c cB cC cI cJ cZ oA rA σ_25 ++ b_t cB cC cI cJ cZ oA rA σ_25 ++ b_d cB cC cI cJ cZ oA rA σ_25) H → va_S A s.heap H locs → ∀ ls : Array Slot, lv_has ls 3 [(2, .int p1)] → W p l e (headSpec (g_ws yX3_wideOp cX3_wideOp 3 none) { frames := 7, cells := 0, slots := 0, locals := 176 }).room s m ([.ref (oA 10), .int p0, .int p1] : List Value).toArray below meth c H locs 0 0 (MQ below (va_Qv (fun (_ : Unit) => True) (g_Bo (dC, dI) A (fun (_ : Unit) => (b_k cB cC cI cJ cZ oA rA res.2 ++ b_p cB cC cI cJ cZ oA rA res.2 ++ b_o cB cC cI cJ cZ oA rA res.2 ++ b_s cB cC cI cJ cZ oA rA res.2 ++ b_c cB cC cI cJ cZ oA rA res.2 ++ b_t cB cC cI cJ cZ oA rA res.2 ++ b_d cB cC cI cJ cZ oA rA res.2))) A) ([.ref (oA 10), .int p0, .int p1] : List Value).toArray s 0 0 A) (F0 m 164 ls [.int t_24, .ref (oA 10)]) := by
      intro t_24 σ_25 hF0 H locs hP hS ls hl
      subst ej_26
      have hF_28 := hF0
      clear hF0
      refine lv_iload_n hx hb dX3_wideOp_164 rfl (lv_at hl 0 rfl) ?_
      obtain ⟨u_29, hu_29, hF_30⟩ := Option.bind_eq_some_iff.mp hF_28
      clear hF_28
      have hPc := hP.sub (ws' := (b_k cB cC cI cJ cZ oA rA σ_25 ++ b_p cB cC cI cJ cZ oA rA σ_25 ++ b_o cB cC cI cJ cZ oA rA σ_25 ++ b_s cB cC cI cJ cZ oA rA σ_25 ++ b_c cB cC cI cJ cZ oA rA σ_25 ++ b_t cB cC cI cJ cZ oA rA σ_25 ++ b_d cB cC cI cJ cZ oA rA σ_25)) [0, 1, 2, 3, 4, 5, 6, 7, 8, 9, 10, 11, 12, 13, 14, 15, 16, 17, 18, 19, 20, 21, 22, 23, 24, 25, 26, 27, 28, 29, 30, 31, 32, 33, 34, 35, 36, 37, 38, 39, 40, 41, 42, 43, 44, 45] rfl
      have hDc := (hDD σ_25).sub (ws' := (b_k cB cC cI cJ cZ oA rA σ_25 ++ b_p cB cC cI cJ cZ oA rA σ_25 ++ b_o cB cC cI cJ cZ oA rA σ_25 ++ b_s cB cC cI cJ cZ oA rA σ_25 ++ b_c cB cC cI cJ cZ oA rA σ_25 ++ b_t cB cC cI cJ cZ oA rA σ_25 ++ b_d cB cC cI cJ cZ oA rA σ_25)) [0, 1, 2, 3, 4, 5, 6, 7, 8, 9, 10, 11, 12, 13, 14, 15, 16, 17, 18, 19, 20, 21, 22, 23, 24, 25, 26, 27, 28, 29, 30, 31, 32, 33, 34, 35, 36, 37, 38, 39, 40, 41, 42, 43, 44, 45] (by decide +kernel) rfl
      have hFc := va_free (wc := (b_k cB cC cI cJ cZ oA rA σ_25 ++ b_p cB cC cI cJ cZ oA rA σ_25 ++ b_o cB cC cI cJ cZ oA rA σ_25 ++ b_s cB cC cI cJ cZ oA rA σ_25 ++ b_c cB cC cI cJ cZ oA rA σ_25 ++ b_t cB cC cI cJ cZ oA rA σ_25 ++ b_d cB cC cI cJ cZ oA rA σ_25)) (hDD σ_25) hS hA [0, 1, 2, 3, 4, 5, 6, 7, 8, 9, 10, 11, 12, 13, 14, 15, 16, 17, 18, 19, 20, 21, 22, 23, 24, 25, 26, 27, 28, 29, 30, 31, 32, 33, 34, 35, 36, 37, 38, 39, 40, 41, 42, 43, 44, 45] rfl
      refine g_ofv (wc := (b_k cB cC cI cJ cZ oA rA σ_25 ++ b_p cB cC cI cJ cZ oA rA σ_25 ++ b_o cB cC cI cJ cZ oA rA σ_25 ++ b_s cB cC cI cJ cZ oA rA σ_25 ++ b_c cB cC cI cJ cZ oA rA σ_25 ++ b_t cB cC cI cJ cZ oA rA σ_25 ++ b_d cB cC cI cJ cZ oA rA σ_25)) (wr := ([] : va_W)) hP (hDD σ_25) hS hFc [0, 1, 2, 3, 4, 5, 6, 7, 8, 9, 10, 11, 12, 13, 14, 15, 16, 17, 18, 19, 20, 21, 22, 23, 24, 25, 26, 27, 28, 29, 30, 31, 32, 33, 34, 35, 36, 37, 38, 39, 40, 41, 42, 43, 44, 45] [] rfl rfl (by decide +kernel) (by decide +kernel) (va_runV (As := [.int t_24, .int p1]) (rest := []) ⟨hx, hb, hml, hown, hts⟩ (k_X3_cellOp l dC dI cB cC cI cJ cZ cP oA rA H.size  t_24 p1 σ_25 _ hu_29) (cwV 2 hts (g_gV wq_1147 wq_1148 wq_2087 wq_11 wq_1149) rfl rfl rfl (by decide +kernel) ⟨Nat.le_of_ble_eq_true rfl, Nat.le_of_ble_eq_true rfl⟩) (g_preV g_bl0 hK hPc hDc hS hE hFc g_to0 (q0 := 0) (ci := 3) rfl rfl) rfl rfl hl.1 rfl (lv_room (Nat.le_of_ble_eq_true rfl)) dX3_wideOp_165 ⟨Nat.le_of_ble_eq_true rfl, Nat.le_of_ble_eq_true rfl⟩) (fun u9 H locs hw9 hP' hD' hS => ?_)
      clear hPc hDc hFc
      have hP : va_P (dC, dI) vwCl (b_k cB cC cI cJ cZ oA rA u_29.2 ++ b_p cB cC cI cJ cZ oA rA u_29.2 ++ b_o cB cC cI cJ cZ oA rA u_29.2 ++ b_s cB cC cI cJ cZ oA rA u_29.2 ++ b_c cB cC cI cJ cZ oA rA u_29.2 ++ b_t cB cC cI cJ cZ oA rA u_29.2 ++ b_d cB cC cI cJ cZ oA rA u_29.2) H := hP'
      clear hP' hD'
      refine lv_goto (tgt := 242) hx hb dX3_wideOp_168 (by decide) ?_
      have h9 := Option.some.inj hF_30
      subst h9
      exact W.vret hx hb hr (fun t ht hW => ⟨⟨(), rfl, trivial, m_end ht hP, hDD _⟩, hS.F ht⟩) hS.2.2 dX3_wideOp_242
    refine lv_icmp_ne (tgt := 163) hx hb dX3_wideOp_156 (by decide) (fun c_31 => ?_) (fun c_31 => ?_)
    · have hF_33 := ineg c_31 hF_27
      clear hF_27
      refine lv_iconst (v := 0) hx hb dX3_wideOp_163 (by decide +kernel) ?_
      exact Jj_26 0 Γ hF_33 _ _ hP hS ls (lv_sub hl [2] rfl)
    · have hF_32 := ipos c_31 hF_27
      clear hF_27
      refine lv_iconst (v := 1) hx hb dX3_wideOp_159 (by decide +kernel) ?_
      refine lv_goto (tgt := 164) hx hb dX3_wideOp_160 (by decide) ?_
      exact Jj_26 1 Γ hF_32 _ _ hP hS ls (lv_sub hl [2] rfl)
  have hF_34 := ineg c_22 hF_21
  clear hF_21
  by_cases c_35 : p0 = 37
  · have hF_36 := ipos c_35 hF_34
    clear hF_34
    refine lv_tableIn (off := 113) (tgt := 114) hx hb dX3_wideOp_1 (by rw [c_35]; decide +kernel) (by rw [c_35]; decide +kernel) (by rw [c_35]; decide +kernel) (by decide) ?_
    refine lv_aload_n hx hb dX3_wideOp_114 rfl (lv_at hl 0 rfl) ?_
    refine va_get (D := (dC, dI)) (ci := 3) (v := .ref (oA 9)) (C := RX3) (T := TX3) (N := 16) hx hb hts ii_X3 hown hK hP 0 rfl rfl 0 (by decide) (hts (.fieldLink RX3 29 "StoryHouse$Machine" "play" "LStoryHouse$Play;") wq_259) (fun _ h9 => h9) rfl dX3_wideOp_115 ?_
    refine va_get (D := (dC, dI)) (ci := 6) (v := .ref (rA 9 4)) (C := RX6) (T := TX6) (N := 12) hx hb hts ii_X6 hown hK hP 5 rfl rfl 4 (by decide) (hts (.fieldLink RX3 145 "StoryHouse$Play" "vars" "[I") wq_231) (fun _ h9 => h9) rfl dX3_wideOp_118 ?_
    refine lv_iload_n hx hb dX3_wideOp_121 rfl (lv_at hl 2 rfl) ?_
    refine lv_aload_n hx hb dX3_wideOp_122 rfl (lv_at hl 0 rfl) ?_
    obtain ⟨u_37, hu_37, hF_38⟩ := Option.bind_eq_some_iff.mp hF_36
    clear hF_36
    have hPc := hP.sub (ws' := (b_k cB cC cI cJ cZ oA rA Γ ++ b_p cB cC cI cJ cZ oA rA Γ ++ b_o cB cC cI cJ cZ oA rA Γ ++ b_s cB cC cI cJ cZ oA rA Γ ++ b_c cB cC cI cJ cZ oA rA Γ ++ b_t cB cC cI cJ cZ oA rA Γ ++ b_d cB cC cI cJ cZ oA rA Γ)) [0, 1, 2, 3, 4, 5, 6, 7, 8, 9, 10, 11, 12, 13, 14, 15, 16, 17, 18, 19, 20, 21, 22, 23, 24, 25, 26, 27, 28, 29, 30, 31, 32, 33, 34, 35, 36, 37, 38, 39, 40, 41, 42, 43, 44, 45] rfl
    have hDc := (hDD Γ).sub (ws' := (b_k cB cC cI cJ cZ oA rA Γ ++ b_p cB cC cI cJ cZ oA rA Γ ++ b_o cB cC cI cJ cZ oA rA Γ ++ b_s cB cC cI cJ cZ oA rA Γ ++ b_c cB cC cI cJ cZ oA rA Γ ++ b_t cB cC cI cJ cZ oA rA Γ ++ b_d cB cC cI cJ cZ oA rA Γ)) [0, 1, 2, 3, 4, 5, 6, 7, 8, 9, 10, 11, 12, 13, 14, 15, 16, 17, 18, 19, 20, 21, 22, 23, 24, 25, 26, 27, 28, 29, 30, 31, 32, 33, 34, 35, 36, 37, 38, 39, 40, 41, 42, 43, 44, 45] (by decide +kernel) rfl
    have hFc := va_free (wc := (b_k cB cC cI cJ cZ oA rA Γ ++ b_p cB cC cI cJ cZ oA rA Γ ++ b_o cB cC cI cJ cZ oA rA Γ ++ b_s cB cC cI cJ cZ oA rA Γ ++ b_c cB cC cI cJ cZ oA rA Γ ++ b_t cB cC cI cJ cZ oA rA Γ ++ b_d cB cC cI cJ cZ oA rA Γ)) (hDD Γ) hS hA [0, 1, 2, 3, 4, 5, 6, 7, 8, 9, 10, 11, 12, 13, 14, 15, 16, 17, 18, 19, 20, 21, 22, 23, 24, 25, 26, 27, 28, 29, 30, 31, 32, 33, 34, 35, 36, 37, 38, 39, 40, 41, 42, 43, 44, 45] rfl
    refine g_ofi (wc := (b_k cB cC cI cJ cZ oA rA Γ ++ b_p cB cC cI cJ cZ oA rA Γ ++ b_o cB cC cI cJ cZ oA rA Γ ++ b_s cB cC cI cJ cZ oA rA Γ ++ b_c cB cC cI cJ cZ oA rA Γ ++ b_t cB cC cI cJ cZ oA rA Γ ++ b_d cB cC cI cJ cZ oA rA Γ)) (wr := ([] : va_W)) hP (hDD Γ) hS hFc [0, 1, 2, 3, 4, 5, 6, 7, 8, 9, 10, 11, 12, 13, 14, 15, 16, 17, 18, 19, 20, 21, 22, 23, 24, 25, 26, 27, 28, 29, 30, 31, 32, 33, 34, 35, 36, 37, 38, 39, 40, 41, 42, 43, 44, 45] [] rfl rfl (by decide +kernel) (by decide +kernel) (va_runV (As := []) (rest := [.int p1, .ref (rA 9 4)]) ⟨hx, hb, hml, hown, hts⟩ (k_X3_pop l dC dI cB cC cI cJ cZ cP oA rA s.heap.size  Γ _ hu_37) (cwV 0 hts (g_gV wq_1144 wq_1145 wq_2086 wq_11 wq_1146) rfl rfl rfl (by decide +kernel) ⟨Nat.le_of_ble_eq_true rfl, Nat.le_of_ble_eq_true rfl⟩) (g_preV g_bl0 hK hPc hDc hS hE hFc g_to0 (q0 := 0) (ci := 3) rfl rfl) rfl rfl hl.1 rfl (lv_room (Nat.le_of_ble_eq_true rfl)) dX3_wideOp_123 ⟨Nat.le_of_ble_eq_true rfl, Nat.le_of_ble_eq_true rfl⟩) (fun r9 u9 H locs hw9 hP' hD' hS => ?_)
    clear hPc hDc hFc
    subst hw9
    have hP : va_P (dC, dI) vwCl (b_k cB cC cI cJ cZ oA rA u_37.2 ++ b_p cB cC cI cJ cZ oA rA u_37.2 ++ b_o cB cC cI cJ cZ oA rA u_37.2 ++ b_s cB cC cI cJ cZ oA rA u_37.2 ++ b_c cB cC cI cJ cZ oA rA u_37.2 ++ b_t cB cC cI cJ cZ oA rA u_37.2 ++ b_d cB cC cI cJ cZ oA rA u_37.2) H := hP'
    clear hP' hD'
    have hPc := hP.sub (ws' := [(rA 9 4, .inl (cI, 100, .inl ((u_37.2 9).2.1 4)))]) [10] rfl
    have hDc := (hDD u_37.2).sub (ws' := [(rA 9 4, .inl (cI, 100, .inl ((u_37.2 9).2.1 4)))]) [10] (by decide +kernel) rfl
    have hFc := va_free (wc := [(rA 9 4, .inl (cI, 100, .inl ((u_37.2 9).2.1 4)))]) (hDD u_37.2) hS hA [10] rfl
    refine g_ofv (wc := [(rA 9 4, .inl (cI, 100, .inl ((u_37.2 9).2.1 4)))]) (wr := (((b_k cB cC cI cJ cZ oA rA u_37.2 ++ b_p cB cC cI cJ cZ oA rA u_37.2 ++ b_o cB cC cI cJ cZ oA rA u_37.2 ++ b_s cB cC cI cJ cZ oA rA u_37.2 ++ b_c cB cC cI cJ cZ oA rA u_37.2 ++ b_t cB cC cI cJ cZ oA rA u_37.2 ++ b_d cB cC cI cJ cZ oA rA u_37.2)).eraseIdx 10)) hP (hDD u_37.2) hS hFc [10] [0, 1, 2, 3, 4, 5, 6, 7, 8, 9, 11, 12, 13, 14, 15, 16, 17, 18, 19, 20, 21, 22, 23, 24, 25, 26, 27, 28, 29, 30, 31, 32, 33, 34, 35, 36, 37, 38, 39, 40, 41, 42, 43, 44, 45] rfl rfl (by decide +kernel) (by decide +kernel) (va_runSN (As := [.ref (rA 9 4), .int p1, .int u_37.1]) (rest := []) ⟨hx, hb, hml, hown, hts⟩ (c_X11_put l dC dI cB cC cI cJ cZ cP H.size (rA 9 4) p1 u_37.1 100 ((u_37.2 9).2.1 4) (by decide)) ⟨va_cnB 3 hts (g_gA wq_412) rfl rfl rfl (hN.at 35 rfl) (hts (.initialized RX11) wq_1) (by decide +kernel) ⟨Nat.le_of_ble_eq_true rfl, Nat.le_of_ble_eq_true rfl⟩, (hts (.static yX11_put) wq_411), trivial⟩ (g_preS g_bl0 hK hPc hDc hS hE hFc g_to0) rfl rfl hl.1 rfl (lv_room (Nat.le_of_ble_eq_true rfl)) dX3_wideOp_126 ⟨Nat.le_of_ble_eq_true rfl, Nat.le_of_ble_eq_true rfl⟩) (fun g9 H locs hw9 hP' hD' hS => ?_)
    clear hPc hDc hFc hD'
    obtain ⟨σ_39, eσ_39, hF_40⟩ := bnd_e hF_38
    clear hF_38
    subst hw9
    have hP : va_P (dC, dI) vwCl (b_k cB cC cI cJ cZ oA rA σ_39 ++ b_p cB cC cI cJ cZ oA rA σ_39 ++ b_o cB cC cI cJ cZ oA rA σ_39 ++ b_s cB cC cI cJ cZ oA rA σ_39 ++ b_c cB cC cI cJ cZ oA rA σ_39 ++ b_t cB cC cI cJ cZ oA rA σ_39 ++ b_d cB cC cI cJ cZ oA rA σ_39) H := by rw [eσ_39]; exact hP'.sub [0, 1, 2, 3, 4, 5, 6, 7, 8, 9, 45, 10, 11, 12, 13, 14, 15, 16, 17, 18, 19, 20, 21, 22, 23, 24, 25, 26, 27, 28, 29, 30, 31, 32, 33, 34, 35, 36, 37, 38, 39, 40, 41, 42, 43, 44] rfl
    clear hP'
    refine lv_goto (tgt := 242) hx hb dX3_wideOp_129 (by decide) ?_
    have h9 := Option.some.inj hF_40
    subst h9
    exact W.vret hx hb hr (fun t ht hW => ⟨⟨(), rfl, trivial, m_end ht hP, hDD _⟩, hS.F ht⟩) hS.2.2 dX3_wideOp_242
  have hF_41 := ineg c_35 hF_34
  clear hF_34
  by_cases c_42 : p0 = 38
  · have hF_43 := ipos c_42 hF_41
    clear hF_41
    refine lv_tableIn (off := 131) (tgt := 132) hx hb dX3_wideOp_1 (by rw [c_42]; decide +kernel) (by rw [c_42]; decide +kernel) (by rw [c_42]; decide +kernel) (by decide) ?_
    refine lv_aload_n hx hb dX3_wideOp_132 rfl (lv_at hl 0 rfl) ?_
    refine va_get (D := (dC, dI)) (ci := 3) (v := .ref (rA 10 6)) (C := RX3) (T := TX3) (N := 16) hx hb hts ii_X3 hown hK hP 0 rfl rfl 6 (by decide) (hts (.fieldLink RX3 11 "StoryHouse$Machine" "stack" "[I") wq_270) (fun _ h9 => h9) rfl dX3_wideOp_133 ?_
    refine lv_aload_n hx hb dX3_wideOp_136 rfl (lv_at hl 0 rfl) ?_
    refine va_get (D := (dC, dI)) (ci := 3) (v := .int ((Γ 10).1 8)) (C := RX3) (T := TX3) (N := 16) hx hb hts ii_X3 hown hK hP 0 rfl rfl 8 (by decide) (hts (.fieldLink RX3 46 "StoryHouse$Machine" "base" "I") wq_272) (fun _ h9 => h9) rfl dX3_wideOp_137 ?_
    refine lv_iload_n hx hb dX3_wideOp_140 rfl (lv_at hl 2 rfl) ?_
    refine lv_iadd hx hb dX3_wideOp_141 ?_
    refine lv_aload_n hx hb dX3_wideOp_142 rfl (lv_at hl 0 rfl) ?_
    obtain ⟨u_44, hu_44, hF_45⟩ := Option.bind_eq_some_iff.mp hF_43
    clear hF_43
    have hPc := hP.sub (ws' := (b_k cB cC cI cJ cZ oA rA Γ ++ b_p cB cC cI cJ cZ oA rA Γ ++ b_o cB cC cI cJ cZ oA rA Γ ++ b_s cB cC cI cJ cZ oA rA Γ ++ b_c cB cC cI cJ cZ oA rA Γ ++ b_t cB cC cI cJ cZ oA rA Γ ++ b_d cB cC cI cJ cZ oA rA Γ)) [0, 1, 2, 3, 4, 5, 6, 7, 8, 9, 10, 11, 12, 13, 14, 15, 16, 17, 18, 19, 20, 21, 22, 23, 24, 25, 26, 27, 28, 29, 30, 31, 32, 33, 34, 35, 36, 37, 38, 39, 40, 41, 42, 43, 44, 45] rfl
    have hDc := (hDD Γ).sub (ws' := (b_k cB cC cI cJ cZ oA rA Γ ++ b_p cB cC cI cJ cZ oA rA Γ ++ b_o cB cC cI cJ cZ oA rA Γ ++ b_s cB cC cI cJ cZ oA rA Γ ++ b_c cB cC cI cJ cZ oA rA Γ ++ b_t cB cC cI cJ cZ oA rA Γ ++ b_d cB cC cI cJ cZ oA rA Γ)) [0, 1, 2, 3, 4, 5, 6, 7, 8, 9, 10, 11, 12, 13, 14, 15, 16, 17, 18, 19, 20, 21, 22, 23, 24, 25, 26, 27, 28, 29, 30, 31, 32, 33, 34, 35, 36, 37, 38, 39, 40, 41, 42, 43, 44, 45] (by decide +kernel) rfl
    have hFc := va_free (wc := (b_k cB cC cI cJ cZ oA rA Γ ++ b_p cB cC cI cJ cZ oA rA Γ ++ b_o cB cC cI cJ cZ oA rA Γ ++ b_s cB cC cI cJ cZ oA rA Γ ++ b_c cB cC cI cJ cZ oA rA Γ ++ b_t cB cC cI cJ cZ oA rA Γ ++ b_d cB cC cI cJ cZ oA rA Γ)) (hDD Γ) hS hA [0, 1, 2, 3, 4, 5, 6, 7, 8, 9, 10, 11, 12, 13, 14, 15, 16, 17, 18, 19, 20, 21, 22, 23, 24, 25, 26, 27, 28, 29, 30, 31, 32, 33, 34, 35, 36, 37, 38, 39, 40, 41, 42, 43, 44, 45] rfl
    refine g_ofi (wc := (b_k cB cC cI cJ cZ oA rA Γ ++ b_p cB cC cI cJ cZ oA rA Γ ++ b_o cB cC cI cJ cZ oA rA Γ ++ b_s cB cC cI cJ cZ oA rA Γ ++ b_c cB cC cI cJ cZ oA rA Γ ++ b_t cB cC cI cJ cZ oA rA Γ ++ b_d cB cC cI cJ cZ oA rA Γ)) (wr := ([] : va_W)) hP (hDD Γ) hS hFc [0, 1, 2, 3, 4, 5, 6, 7, 8, 9, 10, 11, 12, 13, 14, 15, 16, 17, 18, 19, 20, 21, 22, 23, 24, 25, 26, 27, 28, 29, 30, 31, 32, 33, 34, 35, 36, 37, 38, 39, 40, 41, 42, 43, 44, 45] [] rfl rfl (by decide +kernel) (by decide +kernel) (va_runV (As := []) (rest := [.int (((Γ 10).1 8) + p1), .ref (rA 10 6)]) ⟨hx, hb, hml, hown, hts⟩ (k_X3_pop l dC dI cB cC cI cJ cZ cP oA rA s.heap.size  Γ _ hu_44) (cwV 0 hts (g_gV wq_1144 wq_1145 wq_2086 wq_11 wq_1146) rfl rfl rfl (by decide +kernel) ⟨Nat.le_of_ble_eq_true rfl, Nat.le_of_ble_eq_true rfl⟩) (g_preV g_bl0 hK hPc hDc hS hE hFc g_to0 (q0 := 0) (ci := 3) rfl rfl) rfl rfl hl.1 rfl (lv_room (Nat.le_of_ble_eq_true rfl)) dX3_wideOp_143 ⟨Nat.le_of_ble_eq_true rfl, Nat.le_of_ble_eq_true rfl⟩) (fun r9 u9 H locs hw9 hP' hD' hS => ?_)
    clear hPc hDc hFc
    subst hw9
    have hP : va_P (dC, dI) vwCl (b_k cB cC cI cJ cZ oA rA u_44.2 ++ b_p cB cC cI cJ cZ oA rA u_44.2 ++ b_o cB cC cI cJ cZ oA rA u_44.2 ++ b_s cB cC cI cJ cZ oA rA u_44.2 ++ b_c cB cC cI cJ cZ oA rA u_44.2 ++ b_t cB cC cI cJ cZ oA rA u_44.2 ++ b_d cB cC cI cJ cZ oA rA u_44.2) H := hP'
    clear hP' hD'
    have hPc := hP.sub (ws' := [(rA 10 6, .inl (cI, 9000, .inl ((u_44.2 10).2.1 6)))]) [1] rfl
    have hDc := (hDD u_44.2).sub (ws' := [(rA 10 6, .inl (cI, 9000, .inl ((u_44.2 10).2.1 6)))]) [1] (by decide +kernel) rfl
    have hFc := va_free (wc := [(rA 10 6, .inl (cI, 9000, .inl ((u_44.2 10).2.1 6)))]) (hDD u_44.2) hS hA [1] rfl
    refine g_ofv (wc := [(rA 10 6, .inl (cI, 9000, .inl ((u_44.2 10).2.1 6)))]) (wr := (((b_k cB cC cI cJ cZ oA rA u_44.2 ++ b_p cB cC cI cJ cZ oA rA u_44.2 ++ b_o cB cC cI cJ cZ oA rA u_44.2 ++ b_s cB cC cI cJ cZ oA rA u_44.2 ++ b_c cB cC cI cJ cZ oA rA u_44.2 ++ b_t cB cC cI cJ cZ oA rA u_44.2 ++ b_d cB cC cI cJ cZ oA rA u_44.2)).eraseIdx 1)) hP (hDD u_44.2) hS hFc [1] [0, 2, 3, 4, 5, 6, 7, 8, 9, 10, 11, 12, 13, 14, 15, 16, 17, 18, 19, 20, 21, 22, 23, 24, 25, 26, 27, 28, 29, 30, 31, 32, 33, 34, 35, 36, 37, 38, 39, 40, 41, 42, 43, 44, 45] rfl rfl (by decide +kernel) (by decide +kernel) (va_runSN (As := [.ref (rA 10 6), .int (((Γ 10).1 8) + p1), .int u_44.1]) (rest := []) ⟨hx, hb, hml, hown, hts⟩ (c_X11_put l dC dI cB cC cI cJ cZ cP H.size (rA 10 6) (((Γ 10).1 8) + p1) u_44.1 9000 ((u_44.2 10).2.1 6) (by decide)) ⟨va_cnB 3 hts (g_gA wq_412) rfl rfl rfl (hN.at 35 rfl) (hts (.initialized RX11) wq_1) (by decide +kernel) ⟨Nat.le_of_ble_eq_true rfl, Nat.le_of_ble_eq_true rfl⟩, (hts (.static yX11_put) wq_411), trivial⟩ (g_preS g_bl0 hK hPc hDc hS hE hFc g_to0) rfl rfl hl.1 rfl (lv_room (Nat.le_of_ble_eq_true rfl)) dX3_wideOp_146 ⟨Nat.le_of_ble_eq_true rfl, Nat.le_of_ble_eq_true rfl⟩) (fun g9 H locs hw9 hP' hD' hS => ?_)
    clear hPc hDc hFc hD'
    obtain ⟨σ_46, eσ_46, hF_47⟩ := bnd_e hF_45
    clear hF_45
    subst hw9
    have hP : va_P (dC, dI) vwCl (b_k cB cC cI cJ cZ oA rA σ_46 ++ b_p cB cC cI cJ cZ oA rA σ_46 ++ b_o cB cC cI cJ cZ oA rA σ_46 ++ b_s cB cC cI cJ cZ oA rA σ_46 ++ b_c cB cC cI cJ cZ oA rA σ_46 ++ b_t cB cC cI cJ cZ oA rA σ_46 ++ b_d cB cC cI cJ cZ oA rA σ_46) H := by rw [eσ_46]; exact hP'.sub [0, 45, 1, 2, 3, 4, 5, 6, 7, 8, 9, 10, 11, 12, 13, 14, 15, 16, 17, 18, 19, 20, 21, 22, 23, 24, 25, 26, 27, 28, 29, 30, 31, 32, 33, 34, 35, 36, 37, 38, 39, 40, 41, 42, 43, 44] rfl
    clear hP'
    refine lv_goto (tgt := 242) hx hb dX3_wideOp_149 (by decide) ?_
    have h9 := Option.some.inj hF_47
    subst h9
    exact W.vret hx hb hr (fun t ht hW => ⟨⟨(), rfl, trivial, m_end ht hP, hDD _⟩, hS.F ht⟩) hS.2.2 dX3_wideOp_242
  have hF_48 := ineg c_42 hF_41
  clear hF_41
  by_cases c_49 : p0 = 40
  · have hF_50 := ipos c_49 hF_48
    clear hF_48
    refine lv_tableIn (off := 170) (tgt := 171) hx hb dX3_wideOp_1 (by rw [c_49]; decide +kernel) (by rw [c_49]; decide +kernel) (by rw [c_49]; decide +kernel) (by decide) ?_
    refine lv_aload_n hx hb dX3_wideOp_171 rfl (lv_at hl 0 rfl) ?_
    refine lv_iload_n hx hb dX3_wideOp_172 rfl (lv_at hl 2 rfl) ?_
    obtain ⟨u_51, hu_51, hF_52⟩ := Option.bind_eq_some_iff.mp hF_50
    clear hF_50
    have hPc := hP.sub (ws' := (b_k cB cC cI cJ cZ oA rA Γ ++ b_p cB cC cI cJ cZ oA rA Γ ++ b_o cB cC cI cJ cZ oA rA Γ ++ b_s cB cC cI cJ cZ oA rA Γ ++ b_c cB cC cI cJ cZ oA rA Γ ++ b_t cB cC cI cJ cZ oA rA Γ ++ b_d cB cC cI cJ cZ oA rA Γ)) [0, 1, 2, 3, 4, 5, 6, 7, 8, 9, 10, 11, 12, 13, 14, 15, 16, 17, 18, 19, 20, 21, 22, 23, 24, 25, 26, 27, 28, 29, 30, 31, 32, 33, 34, 35, 36, 37, 38, 39, 40, 41, 42, 43, 44, 45] rfl
    have hDc := (hDD Γ).sub (ws' := (b_k cB cC cI cJ cZ oA rA Γ ++ b_p cB cC cI cJ cZ oA rA Γ ++ b_o cB cC cI cJ cZ oA rA Γ ++ b_s cB cC cI cJ cZ oA rA Γ ++ b_c cB cC cI cJ cZ oA rA Γ ++ b_t cB cC cI cJ cZ oA rA Γ ++ b_d cB cC cI cJ cZ oA rA Γ)) [0, 1, 2, 3, 4, 5, 6, 7, 8, 9, 10, 11, 12, 13, 14, 15, 16, 17, 18, 19, 20, 21, 22, 23, 24, 25, 26, 27, 28, 29, 30, 31, 32, 33, 34, 35, 36, 37, 38, 39, 40, 41, 42, 43, 44, 45] (by decide +kernel) rfl
    have hFc := va_free (wc := (b_k cB cC cI cJ cZ oA rA Γ ++ b_p cB cC cI cJ cZ oA rA Γ ++ b_o cB cC cI cJ cZ oA rA Γ ++ b_s cB cC cI cJ cZ oA rA Γ ++ b_c cB cC cI cJ cZ oA rA Γ ++ b_t cB cC cI cJ cZ oA rA Γ ++ b_d cB cC cI cJ cZ oA rA Γ)) (hDD Γ) hS hA [0, 1, 2, 3, 4, 5, 6, 7, 8, 9, 10, 11, 12, 13, 14, 15, 16, 17, 18, 19, 20, 21, 22, 23, 24, 25, 26, 27, 28, 29, 30, 31, 32, 33, 34, 35, 36, 37, 38, 39, 40, 41, 42, 43, 44, 45] rfl
    refine g_ofv (wc := (b_k cB cC cI cJ cZ oA rA Γ ++ b_p cB cC cI cJ cZ oA rA Γ ++ b_o cB cC cI cJ cZ oA rA Γ ++ b_s cB cC cI cJ cZ oA rA Γ ++ b_c cB cC cI cJ cZ oA rA Γ ++ b_t cB cC cI cJ cZ oA rA Γ ++ b_d cB cC cI cJ cZ oA rA Γ)) (wr := ([] : va_W)) hP (hDD Γ) hS hFc [0, 1, 2, 3, 4, 5, 6, 7, 8, 9, 10, 11, 12, 13, 14, 15, 16, 17, 18, 19, 20, 21, 22, 23, 24, 25, 26, 27, 28, 29, 30, 31, 32, 33, 34, 35, 36, 37, 38, 39, 40, 41, 42, 43, 44, 45] [] rfl rfl (by decide +kernel) (by decide +kernel) (va_runV (As := [.int p1]) (rest := []) ⟨hx, hb, hml, hown, hts⟩ (k_X3_call l dC dI cB cC cI cJ cZ cP oA rA s.heap.size  p1 Γ _ hu_51) (cwV 1 hts (g_gV wq_1157 wq_1158 wq_2089 wq_11 wq_1159) rfl rfl rfl (by decide +kernel) ⟨Nat.le_of_ble_eq_true rfl, Nat.le_of_ble_eq_true rfl⟩) (g_preV g_bl0 hK hPc hDc hS hE hFc g_to0 (q0 := 0) (ci := 3) rfl rfl) rfl rfl hl.1 rfl (lv_room (Nat.le_of_ble_eq_true rfl)) dX3_wideOp_173 ⟨Nat.le_of_ble_eq_true rfl, Nat.le_of_ble_eq_true rfl⟩) (fun u9 H locs hw9 hP' hD' hS => ?_)
    clear hPc hDc hFc
    have hP : va_P (dC, dI) vwCl (b_k cB cC cI cJ cZ oA rA u_51.2 ++ b_p cB cC cI cJ cZ oA rA u_51.2 ++ b_o cB cC cI cJ cZ oA rA u_51.2 ++ b_s cB cC cI cJ cZ oA rA u_51.2 ++ b_c cB cC cI cJ cZ oA rA u_51.2 ++ b_t cB cC cI cJ cZ oA rA u_51.2 ++ b_d cB cC cI cJ cZ oA rA u_51.2) H := hP'
    clear hP' hD'
    refine lv_goto (tgt := 242) hx hb dX3_wideOp_176 (by decide) ?_
    have h9 := Option.some.inj hF_52
    subst h9
    exact W.vret hx hb hr (fun t ht hW => ⟨⟨(), rfl, trivial, m_end ht hP, hDD _⟩, hS.F ht⟩) hS.2.2 dX3_wideOp_242
  have hF_53 := ineg c_49 hF_48
  clear hF_48
  by_cases c_54 : p0 = 41
  · have hF_55 := ipos c_54 hF_53
    clear hF_53
    refine lv_tableIn (off := 178) (tgt := 179) hx hb dX3_wideOp_1 (by rw [c_54]; decide +kernel) (by rw [c_54]; decide +kernel) (by rw [c_54]; decide +kernel) (by decide) ?_
    refine lv_aload_n hx hb dX3_wideOp_179 rfl (lv_at hl 0 rfl) ?_
    refine lv_iload_n hx hb dX3_wideOp_180 rfl (lv_at hl 2 rfl) ?_
    obtain ⟨σ_56, eσ_56, hF_57⟩ := bnd_e hF_55
    clear hF_55
    refine va_put (D := (dC, dI)) (ci := 3) (v := .int p1) (ty := .int) (C := RX3) (T := TX3) (N := 16) hx hb hts ii_X3 tyX3 tyX3_ok nmX3 hown hK hP (hDD _) hS 0 rfl rfl 9 (by decide) (hts (.fieldLink RX3 68 "StoryHouse$Machine" "pc" "I") wq_273) (fun _ h9 => h9) rfl (by decide +kernel) rfl rfl (Nat.le_of_ble_eq_true rfl) dX3_wideOp_181 (fun H locs hP' _ hS => ?_)
    have hP : va_P (dC, dI) vwCl (b_k cB cC cI cJ cZ oA rA σ_56 ++ b_p cB cC cI cJ cZ oA rA σ_56 ++ b_o cB cC cI cJ cZ oA rA σ_56 ++ b_s cB cC cI cJ cZ oA rA σ_56 ++ b_c cB cC cI cJ cZ oA rA σ_56 ++ b_t cB cC cI cJ cZ oA rA σ_56 ++ b_d cB cC cI cJ cZ oA rA σ_56) H := by rw [eσ_56]; exact cs_kposctd_k_9 ▸ hP'
    clear hP'
    refine lv_goto (tgt := 242) hx hb dX3_wideOp_184 (by decide) ?_
    have h9 := Option.some.inj hF_57
    subst h9
    exact W.vret hx hb hr (fun t ht hW => ⟨⟨(), rfl, trivial, m_end ht hP, hDD _⟩, hS.F ht⟩) hS.2.2 dX3_wideOp_242
  have hF_58 := ineg c_54 hF_53
  clear hF_53
  by_cases c_59 : p0 = 42
  · have hF_60 := ipos c_59 hF_58
    clear hF_58
    refine lv_tableIn (off := 186) (tgt := 187) hx hb dX3_wideOp_1 (by rw [c_59]; decide +kernel) (by rw [c_59]; decide +kernel) (by rw [c_59]; decide +kernel) (by decide) ?_
    refine lv_aload_n hx hb dX3_wideOp_187 rfl (lv_at hl 0 rfl) ?_
    refine lv_aload_n hx hb dX3_wideOp_188 rfl (lv_at hl 0 rfl) ?_
    obtain ⟨u_61, hu_61, hF_62⟩ := Option.bind_eq_some_iff.mp hF_60
    clear hF_60
    have hPc := hP.sub (ws' := (b_k cB cC cI cJ cZ oA rA Γ ++ b_p cB cC cI cJ cZ oA rA Γ ++ b_o cB cC cI cJ cZ oA rA Γ ++ b_s cB cC cI cJ cZ oA rA Γ ++ b_c cB cC cI cJ cZ oA rA Γ ++ b_t cB cC cI cJ cZ oA rA Γ ++ b_d cB cC cI cJ cZ oA rA Γ)) [0, 1, 2, 3, 4, 5, 6, 7, 8, 9, 10, 11, 12, 13, 14, 15, 16, 17, 18, 19, 20, 21, 22, 23, 24, 25, 26, 27, 28, 29, 30, 31, 32, 33, 34, 35, 36, 37, 38, 39, 40, 41, 42, 43, 44, 45] rfl
    have hDc := (hDD Γ).sub (ws' := (b_k cB cC cI cJ cZ oA rA Γ ++ b_p cB cC cI cJ cZ oA rA Γ ++ b_o cB cC cI cJ cZ oA rA Γ ++ b_s cB cC cI cJ cZ oA rA Γ ++ b_c cB cC cI cJ cZ oA rA Γ ++ b_t cB cC cI cJ cZ oA rA Γ ++ b_d cB cC cI cJ cZ oA rA Γ)) [0, 1, 2, 3, 4, 5, 6, 7, 8, 9, 10, 11, 12, 13, 14, 15, 16, 17, 18, 19, 20, 21, 22, 23, 24, 25, 26, 27, 28, 29, 30, 31, 32, 33, 34, 35, 36, 37, 38, 39, 40, 41, 42, 43, 44, 45] (by decide +kernel) rfl
    have hFc := va_free (wc := (b_k cB cC cI cJ cZ oA rA Γ ++ b_p cB cC cI cJ cZ oA rA Γ ++ b_o cB cC cI cJ cZ oA rA Γ ++ b_s cB cC cI cJ cZ oA rA Γ ++ b_c cB cC cI cJ cZ oA rA Γ ++ b_t cB cC cI cJ cZ oA rA Γ ++ b_d cB cC cI cJ cZ oA rA Γ)) (hDD Γ) hS hA [0, 1, 2, 3, 4, 5, 6, 7, 8, 9, 10, 11, 12, 13, 14, 15, 16, 17, 18, 19, 20, 21, 22, 23, 24, 25, 26, 27, 28, 29, 30, 31, 32, 33, 34, 35, 36, 37, 38, 39, 40, 41, 42, 43, 44, 45] rfl
    refine g_ofi (wc := (b_k cB cC cI cJ cZ oA rA Γ ++ b_p cB cC cI cJ cZ oA rA Γ ++ b_o cB cC cI cJ cZ oA rA Γ ++ b_s cB cC cI cJ cZ oA rA Γ ++ b_c cB cC cI cJ cZ oA rA Γ ++ b_t cB cC cI cJ cZ oA rA Γ ++ b_d cB cC cI cJ cZ oA rA Γ)) (wr := ([] : va_W)) hP (hDD Γ) hS hFc [0, 1, 2, 3, 4, 5, 6, 7, 8, 9, 10, 11, 12, 13, 14, 15, 16, 17, 18, 19, 20, 21, 22, 23, 24, 25, 26, 27, 28, 29, 30, 31, 32, 33, 34, 35, 36, 37, 38, 39, 40, 41, 42, 43, 44, 45] [] rfl rfl (by decide +kernel) (by decide +kernel) (va_runV (As := []) (rest := [.ref (oA 10)]) ⟨hx, hb, hml, hown, hts⟩ (k_X3_pop l dC dI cB cC cI cJ cZ cP oA rA s.heap.size  Γ _ hu_61) (cwV 0 hts (g_gV wq_1144 wq_1145 wq_2086 wq_11 wq_1146) rfl rfl rfl (by decide +kernel) ⟨Nat.le_of_ble_eq_true rfl, Nat.le_of_ble_eq_true rfl⟩) (g_preV g_bl0 hK hPc hDc hS hE hFc g_to0 (q0 := 0) (ci := 3) rfl rfl) rfl rfl hl.1 rfl (lv_room (Nat.le_of_ble_eq_true rfl)) dX3_wideOp_189 ⟨Nat.le_of_ble_eq_true rfl, Nat.le_of_ble_eq_true rfl⟩) (fun r9 u9 H locs hw9 hP' hD' hS => ?_)
    clear hPc hDc hFc
    subst hw9
    have hP : va_P (dC, dI) vwCl (b_k cB cC cI cJ cZ oA rA u_61.2 ++ b_p cB cC cI cJ cZ oA rA u_61.2 ++ b_o cB cC cI cJ cZ oA rA u_61.2 ++ b_s cB cC cI cJ cZ oA rA u_61.2 ++ b_c cB cC cI cJ cZ oA rA u_61.2 ++ b_t cB cC cI cJ cZ oA rA u_61.2 ++ b_d cB cC cI cJ cZ oA rA u_61.2) H := hP'
    clear hP' hD'
    obtain ⟨j_65, ej_65, hF_66⟩ := bnd_e hF_62
    clear hF_62
    have Jj_65 : ∀ (t_63 : Int32) (σ_64 : HS), j_65 t_63 σ_64 = some res → ∀ (H : Heap) (locs : List Loc), va_P (dC, dI) vwCl (b_k cB cC cI cJ cZ oA rA σ_64 ++ b_p cB cC cI cJ cZ oA rA σ_64 ++ b_o cB cC cI cJ cZ oA rA σ_64 ++ b_s cB cC cI cJ cZ oA rA σ_64 ++ b_c cB cC cI cJ cZ oA rA σ_64 ++ b_t cB cC cI cJ cZ oA rA σ_64 ++ b_d cB cC cI cJ cZ oA rA σ_64) H → va_S A s.heap H locs → ∀ ls : Array Slot, lv_has ls 3 [] → W p l e (headSpec (g_ws yX3_wideOp cX3_wideOp 3 none) { frames := 7, cells := 0, slots := 0, locals := 176 }).room s m ([.ref (oA 10), .int p0, .int p1] : List Value).toArray below meth c H locs 0 0 (MQ below (va_Qv (fun (_ : Unit) => True) (g_Bo (dC, dI) A (fun (_ : Unit) => (b_k cB cC cI cJ cZ oA rA res.2 ++ b_p cB cC cI cJ cZ oA rA res.2 ++ b_o cB cC cI cJ cZ oA rA res.2 ++ b_s cB cC cI cJ cZ oA rA res.2 ++ b_c cB cC cI cJ cZ oA rA res.2 ++ b_t cB cC cI cJ cZ oA rA res.2 ++ b_d cB cC cI cJ cZ oA rA res.2))) A) ([.ref (oA 10), .int p0, .int p1] : List Value).toArray s 0 0 A) (F0 m 203 ls [.int t_63, .ref (oA 10)]) := by
      intro t_63 σ_64 hF0 H locs hP hS ls hl
      subst ej_65
      have hF_67 := hF0
      clear hF0
      obtain ⟨σ_68, eσ_68, hF_69⟩ := bnd_e hF_67
      clear hF_67
      refine va_put (D := (dC, dI)) (ci := 3) (v := .int t_63) (ty := .int) (C := RX3) (T := TX3) (N := 16) hx hb hts ii_X3 tyX3 tyX3_ok nmX3 hown hK hP (hDD _) hS 0 rfl rfl 9 (by decide) (hts (.fieldLink RX3 68 "StoryHouse$Machine" "pc" "I") wq_273) (fun _ h9 => h9) rfl (by decide +kernel) rfl rfl (Nat.le_of_ble_eq_true rfl) dX3_wideOp_203 (fun H locs hP' _ hS => ?_)
      have hP : va_P (dC, dI) vwCl (b_k cB cC cI cJ cZ oA rA σ_68 ++ b_p cB cC cI cJ cZ oA rA σ_68 ++ b_o cB cC cI cJ cZ oA rA σ_68 ++ b_s cB cC cI cJ cZ oA rA σ_68 ++ b_c cB cC cI cJ cZ oA rA σ_68 ++ b_t cB cC cI cJ cZ oA rA σ_68 ++ b_d cB cC cI cJ cZ oA rA σ_68) H := by rw [eσ_68]; exact cs_kposctd_k_9 ▸ hP'
      clear hP'
      refine lv_goto (tgt := 242) hx hb dX3_wideOp_206 (by decide) ?_
      have h9 := Option.some.inj hF_69
      subst h9
      exact W.vret hx hb hr (fun t ht hW => ⟨⟨(), rfl, trivial, m_end ht hP, hDD _⟩, hS.F ht⟩) hS.2.2 dX3_wideOp_242
    refine lv_if_ne (tgt := 199) hx hb dX3_wideOp_192 (by decide) (fun c_70 => ?_) (fun c_70 => ?_)
    · have hF_72 := ineg c_70 hF_66
      clear hF_66
      refine lv_aload_n hx hb dX3_wideOp_199 rfl (lv_at hl 0 rfl) ?_
      refine va_get (D := (dC, dI)) (ci := 3) (v := .int ((u_61.2 10).1 9)) (C := RX3) (T := TX3) (N := 16) hx hb hts ii_X3 hown hK hP 0 rfl rfl 9 (by decide) (hts (.fieldLink RX3 68 "StoryHouse$Machine" "pc" "I") wq_273) (fun _ h9 => h9) rfl dX3_wideOp_200 ?_
      exact Jj_65 ((u_61.2 10).1 9) u_61.2 hF_72 _ _ hP hS ls (lv_sub hl [] rfl)
    · have hF_71 := ipos c_70 hF_66
      clear hF_66
      refine lv_iload_n hx hb dX3_wideOp_195 rfl (lv_at hl 2 rfl) ?_
      refine lv_goto (tgt := 203) hx hb dX3_wideOp_196 (by decide) ?_
      exact Jj_65 p1 u_61.2 hF_71 _ _ hP hS ls (lv_sub hl [] rfl)
  have hF_73 := ineg c_59 hF_58
  clear hF_58
  by_cases c_74 : p0 = 43 ∨ p0 = 44
  · have hF_75 := ipos c_74 hF_73
    clear hF_73
    refine lv_tableIn (off := 208) (tgt := 209) hx hb dX3_wideOp_1 (by rcases c_74 with q9 | q9 <;> (rw [q9]; decide +kernel)) (by rcases c_74 with q9 | q9 <;> (rw [q9]; decide +kernel)) (by rcases c_74 with q9 | q9 <;> (rw [q9]; decide +kernel)) (by decide) ?_
    refine lv_aload_n hx hb dX3_wideOp_209 rfl (lv_at hl 0 rfl) ?_
    refine lv_iload_n hx hb dX3_wideOp_210 rfl (lv_at hl 1 rfl) ?_
    refine lv_bipush (v := 44) hx hb dX3_wideOp_211 (by decide +kernel) ?_
    obtain ⟨j_78, ej_78, hF_79⟩ := bnd_e hF_75
    clear hF_75
    have Jj_78 : ∀ (t_76 : Int32) (σ_77 : HS), j_78 t_76 σ_77 = some res → ∀ (H : Heap) (locs : List Loc), va_P (dC, dI) vwCl (b_k cB cC cI cJ cZ oA rA σ_77 ++ b_p cB cC cI cJ cZ oA rA σ_77 ++ b_o cB cC cI cJ cZ oA rA σ_77 ++ b_s cB cC cI cJ cZ oA rA σ_77 ++ b_c cB cC cI cJ cZ oA rA σ_77 ++ b_t cB cC cI cJ cZ oA rA σ_77 ++ b_d cB cC cI cJ cZ oA rA σ_77) H → va_S A s.heap H locs → ∀ ls : Array Slot, lv_has ls 3 [(2, .int p1)] → W p l e (headSpec (g_ws yX3_wideOp cX3_wideOp 3 none) { frames := 7, cells := 0, slots := 0, locals := 176 }).room s m ([.ref (oA 10), .int p0, .int p1] : List Value).toArray below meth c H locs 0 0 (MQ below (va_Qv (fun (_ : Unit) => True) (g_Bo (dC, dI) A (fun (_ : Unit) => (b_k cB cC cI cJ cZ oA rA res.2 ++ b_p cB cC cI cJ cZ oA rA res.2 ++ b_o cB cC cI cJ cZ oA rA res.2 ++ b_s cB cC cI cJ cZ oA rA res.2 ++ b_c cB cC cI cJ cZ oA rA res.2 ++ b_t cB cC cI cJ cZ oA rA res.2 ++ b_d cB cC cI cJ cZ oA rA res.2))) A) ([.ref (oA 10), .int p0, .int p1] : List Value).toArray s 0 0 A) (F0 m 221 ls [.int t_76, .ref (oA 10)]) := by
      intro t_76 σ_77 hF0 H locs hP hS ls hl
      subst ej_78
      have hF_80 := hF0
      clear hF0
      refine lv_iload_n hx hb dX3_wideOp_221 rfl (lv_at hl 0 rfl) ?_
      obtain ⟨u_81, hu_81, hF_82⟩ := Option.bind_eq_some_iff.mp hF_80
      clear hF_80
      have hPc := hP.sub (ws' := (b_k cB cC cI cJ cZ oA rA σ_77 ++ b_p cB cC cI cJ cZ oA rA σ_77 ++ b_o cB cC cI cJ cZ oA rA σ_77 ++ b_s cB cC cI cJ cZ oA rA σ_77 ++ b_c cB cC cI cJ cZ oA rA σ_77 ++ b_t cB cC cI cJ cZ oA rA σ_77 ++ b_d cB cC cI cJ cZ oA rA σ_77)) [0, 1, 2, 3, 4, 5, 6, 7, 8, 9, 10, 11, 12, 13, 14, 15, 16, 17, 18, 19, 20, 21, 22, 23, 24, 25, 26, 27, 28, 29, 30, 31, 32, 33, 34, 35, 36, 37, 38, 39, 40, 41, 42, 43, 44, 45] rfl
      have hDc := (hDD σ_77).sub (ws' := (b_k cB cC cI cJ cZ oA rA σ_77 ++ b_p cB cC cI cJ cZ oA rA σ_77 ++ b_o cB cC cI cJ cZ oA rA σ_77 ++ b_s cB cC cI cJ cZ oA rA σ_77 ++ b_c cB cC cI cJ cZ oA rA σ_77 ++ b_t cB cC cI cJ cZ oA rA σ_77 ++ b_d cB cC cI cJ cZ oA rA σ_77)) [0, 1, 2, 3, 4, 5, 6, 7, 8, 9, 10, 11, 12, 13, 14, 15, 16, 17, 18, 19, 20, 21, 22, 23, 24, 25, 26, 27, 28, 29, 30, 31, 32, 33, 34, 35, 36, 37, 38, 39, 40, 41, 42, 43, 44, 45] (by decide +kernel) rfl
      have hFc := va_free (wc := (b_k cB cC cI cJ cZ oA rA σ_77 ++ b_p cB cC cI cJ cZ oA rA σ_77 ++ b_o cB cC cI cJ cZ oA rA σ_77 ++ b_s cB cC cI cJ cZ oA rA σ_77 ++ b_c cB cC cI cJ cZ oA rA σ_77 ++ b_t cB cC cI cJ cZ oA rA σ_77 ++ b_d cB cC cI cJ cZ oA rA σ_77)) (hDD σ_77) hS hA [0, 1, 2, 3, 4, 5, 6, 7, 8, 9, 10, 11, 12, 13, 14, 15, 16, 17, 18, 19, 20, 21, 22, 23, 24, 25, 26, 27, 28, 29, 30, 31, 32, 33, 34, 35, 36, 37, 38, 39, 40, 41, 42, 43, 44, 45] rfl
      refine g_ofv (wc := (b_k cB cC cI cJ cZ oA rA σ_77 ++ b_p cB cC cI cJ cZ oA rA σ_77 ++ b_o cB cC cI cJ cZ oA rA σ_77 ++ b_s cB cC cI cJ cZ oA rA σ_77 ++ b_c cB cC cI cJ cZ oA rA σ_77 ++ b_t cB cC cI cJ cZ oA rA σ_77 ++ b_d cB cC cI cJ cZ oA rA σ_77)) (wr := ([] : va_W)) hP (hDD σ_77) hS hFc [0, 1, 2, 3, 4, 5, 6, 7, 8, 9, 10, 11, 12, 13, 14, 15, 16, 17, 18, 19, 20, 21, 22, 23, 24, 25, 26, 27, 28, 29, 30, 31, 32, 33, 34, 35, 36, 37, 38, 39, 40, 41, 42, 43, 44, 45] [] rfl rfl (by decide +kernel) (by decide +kernel) (va_runV (As := [.int t_76, .int p1]) (rest := []) ⟨hx, hb, hml, hown, hts⟩ (k_X3_pairOp l dC dI cB cC cI cJ cZ cP oA rA H.size  t_76 p1 σ_77 _ hu_81) (cwV 2 hts (g_gV wq_1163 wq_1164 wq_2091 wq_11 wq_1165) rfl rfl rfl (by decide +kernel) ⟨Nat.le_of_ble_eq_true rfl, Nat.le_of_ble_eq_true rfl⟩) (g_preV g_bl0 hK hPc hDc hS hE hFc g_to0 (q0 := 0) (ci := 3) rfl rfl) rfl rfl hl.1 rfl (lv_room (Nat.le_of_ble_eq_true rfl)) dX3_wideOp_222 ⟨Nat.le_of_ble_eq_true rfl, Nat.le_of_ble_eq_true rfl⟩) (fun u9 H locs hw9 hP' hD' hS => ?_)
      clear hPc hDc hFc
      have hP : va_P (dC, dI) vwCl (b_k cB cC cI cJ cZ oA rA u_81.2 ++ b_p cB cC cI cJ cZ oA rA u_81.2 ++ b_o cB cC cI cJ cZ oA rA u_81.2 ++ b_s cB cC cI cJ cZ oA rA u_81.2 ++ b_c cB cC cI cJ cZ oA rA u_81.2 ++ b_t cB cC cI cJ cZ oA rA u_81.2 ++ b_d cB cC cI cJ cZ oA rA u_81.2) H := hP'
      clear hP' hD'
      refine lv_goto (tgt := 242) hx hb dX3_wideOp_225 (by decide) ?_
      have h9 := Option.some.inj hF_82
      subst h9
      exact W.vret hx hb hr (fun t ht hW => ⟨⟨(), rfl, trivial, m_end ht hP, hDD _⟩, hS.F ht⟩) hS.2.2 dX3_wideOp_242
    refine lv_icmp_ne (tgt := 220) hx hb dX3_wideOp_213 (by decide) (fun c_83 => ?_) (fun c_83 => ?_)
    · have hF_85 := ineg c_83 hF_79
      clear hF_79
      refine lv_iconst (v := 0) hx hb dX3_wideOp_220 (by decide +kernel) ?_
      exact Jj_78 0 Γ hF_85 _ _ hP hS ls (lv_sub hl [2] rfl)
    · have hF_84 := ipos c_83 hF_79
      clear hF_79
      refine lv_iconst (v := 1) hx hb dX3_wideOp_216 (by decide +kernel) ?_
      refine lv_goto (tgt := 221) hx hb dX3_wideOp_217 (by decide) ?_
      exact Jj_78 1 Γ hF_84 _ _ hP hS ls (lv_sub hl [2] rfl)
  have hF_86 := ineg c_74 hF_73
  clear hF_73
  by_cases c_87 : p0 = 45
  · have hF_88 := ipos c_87 hF_86
    clear hF_86
    refine lv_tableIn (off := 227) (tgt := 228) hx hb dX3_wideOp_1 (by rw [c_87]; decide +kernel) (by rw [c_87]; decide +kernel) (by rw [c_87]; decide +kernel) (by decide) ?_
    refine lv_aload_n hx hb dX3_wideOp_228 rfl (lv_at hl 0 rfl) ?_
    refine lv_iload_n hx hb dX3_wideOp_229 rfl (lv_at hl 2 rfl) ?_
    obtain ⟨u_89, hu_89, hF_90⟩ := Option.bind_eq_some_iff.mp hF_88
    clear hF_88
    have hPc := hP.sub (ws' := (b_k cB cC cI cJ cZ oA rA Γ ++ b_p cB cC cI cJ cZ oA rA Γ ++ b_o cB cC cI cJ cZ oA rA Γ ++ b_s cB cC cI cJ cZ oA rA Γ ++ b_c cB cC cI cJ cZ oA rA Γ ++ b_t cB cC cI cJ cZ oA rA Γ ++ b_d cB cC cI cJ cZ oA rA Γ)) [0, 1, 2, 3, 4, 5, 6, 7, 8, 9, 10, 11, 12, 13, 14, 15, 16, 17, 18, 19, 20, 21, 22, 23, 24, 25, 26, 27, 28, 29, 30, 31, 32, 33, 34, 35, 36, 37, 38, 39, 40, 41, 42, 43, 44, 45] rfl
    have hDc := (hDD Γ).sub (ws' := (b_k cB cC cI cJ cZ oA rA Γ ++ b_p cB cC cI cJ cZ oA rA Γ ++ b_o cB cC cI cJ cZ oA rA Γ ++ b_s cB cC cI cJ cZ oA rA Γ ++ b_c cB cC cI cJ cZ oA rA Γ ++ b_t cB cC cI cJ cZ oA rA Γ ++ b_d cB cC cI cJ cZ oA rA Γ)) [0, 1, 2, 3, 4, 5, 6, 7, 8, 9, 10, 11, 12, 13, 14, 15, 16, 17, 18, 19, 20, 21, 22, 23, 24, 25, 26, 27, 28, 29, 30, 31, 32, 33, 34, 35, 36, 37, 38, 39, 40, 41, 42, 43, 44, 45] (by decide +kernel) rfl
    have hFc := va_free (wc := (b_k cB cC cI cJ cZ oA rA Γ ++ b_p cB cC cI cJ cZ oA rA Γ ++ b_o cB cC cI cJ cZ oA rA Γ ++ b_s cB cC cI cJ cZ oA rA Γ ++ b_c cB cC cI cJ cZ oA rA Γ ++ b_t cB cC cI cJ cZ oA rA Γ ++ b_d cB cC cI cJ cZ oA rA Γ)) (hDD Γ) hS hA [0, 1, 2, 3, 4, 5, 6, 7, 8, 9, 10, 11, 12, 13, 14, 15, 16, 17, 18, 19, 20, 21, 22, 23, 24, 25, 26, 27, 28, 29, 30, 31, 32, 33, 34, 35, 36, 37, 38, 39, 40, 41, 42, 43, 44, 45] rfl
    refine g_ofv (wc := (b_k cB cC cI cJ cZ oA rA Γ ++ b_p cB cC cI cJ cZ oA rA Γ ++ b_o cB cC cI cJ cZ oA rA Γ ++ b_s cB cC cI cJ cZ oA rA Γ ++ b_c cB cC cI cJ cZ oA rA Γ ++ b_t cB cC cI cJ cZ oA rA Γ ++ b_d cB cC cI cJ cZ oA rA Γ)) (wr := ([] : va_W)) hP (hDD Γ) hS hFc [0, 1, 2, 3, 4, 5, 6, 7, 8, 9, 10, 11, 12, 13, 14, 15, 16, 17, 18, 19, 20, 21, 22, 23, 24, 25, 26, 27, 28, 29, 30, 31, 32, 33, 34, 35, 36, 37, 38, 39, 40, 41, 42, 43, 44, 45] [] rfl rfl (by decide +kernel) (by decide +kernel) (va_runV (As := [.int p1]) (rest := []) ⟨hx, hb, hml, hown, hts⟩ (k_X3_sayText l dC dI cB cC cI cJ cZ cP oA rA s.heap.size  p1 Γ _ hu_89) (cwV 1 hts (g_gV wq_1018 wq_1019 wq_1020 wq_11 wq_1021) rfl rfl rfl (by decide +kernel) ⟨Nat.le_of_ble_eq_true rfl, Nat.le_of_ble_eq_true rfl⟩) (g_preV g_bl0 hK hPc hDc hS hE hFc g_to0 (q0 := 0) (ci := 3) rfl rfl) rfl rfl hl.1 rfl (lv_room (Nat.le_of_ble_eq_true rfl)) dX3_wideOp_230 ⟨Nat.le_of_ble_eq_true rfl, Nat.le_of_ble_eq_true rfl⟩) (fun u9 H locs hw9 hP' hD' hS => ?_)
    clear hPc hDc hFc
    have hP : va_P (dC, dI) vwCl (b_k cB cC cI cJ cZ oA rA u_89.2 ++ b_p cB cC cI cJ cZ oA rA u_89.2 ++ b_o cB cC cI cJ cZ oA rA u_89.2 ++ b_s cB cC cI cJ cZ oA rA u_89.2 ++ b_c cB cC cI cJ cZ oA rA u_89.2 ++ b_t cB cC cI cJ cZ oA rA u_89.2 ++ b_d cB cC cI cJ cZ oA rA u_89.2) H := hP'
    clear hP' hD'
    refine lv_goto (tgt := 242) hx hb dX3_wideOp_233 (by decide) ?_
    have h9 := Option.some.inj hF_90
    subst h9
    exact W.vret hx hb hr (fun t ht hW => ⟨⟨(), rfl, trivial, m_end ht hP, hDD _⟩, hS.F ht⟩) hS.2.2 dX3_wideOp_242
  have hF_91 := ineg c_87 hF_86
  clear hF_86
  refine m_tabD (lo := 33) (n := 13) (tgt := 236) hx hb dX3_wideOp_1 (by decide +kernel) (by decide) (fun j9 h9 e9 => by
      match j9, h9 with
      | 0, _ => exact absurd ((by rw [e9]; decide +kernel)) c_1
      | 1, _ => exact absurd ((by rw [e9]; decide +kernel)) c_6
      | 2, _ => exact absurd ((by rw [e9]; decide +kernel)) c_13
      | 3, _ => exact absurd (Or.inl (by rw [e9]; decide +kernel)) c_22
      | 4, _ => exact absurd ((by rw [e9]; decide +kernel)) c_35
      | 5, _ => exact absurd ((by rw [e9]; decide +kernel)) c_42
      | 6, _ => exact absurd (Or.inr ((by rw [e9]; decide +kernel))) c_22
      | 7, _ => exact absurd ((by rw [e9]; decide +kernel)) c_49
      | 8, _ => exact absurd ((by rw [e9]; decide +kernel)) c_54
      | 9, _ => exact absurd ((by rw [e9]; decide +kernel)) c_59
      | 10, _ => exact absurd (Or.inl (by rw [e9]; decide +kernel)) c_74
      | 11, _ => exact absurd (Or.inr ((by rw [e9]; decide +kernel))) c_74
      | 12, _ => exact absurd ((by rw [e9]; decide +kernel)) c_87
      | n9 + 13, h9 => exact absurd h9 (by omega)) ?_
  refine lv_aload_n hx hb dX3_wideOp_236 rfl (lv_at hl 0 rfl) ?_
  refine lv_iload_n hx hb dX3_wideOp_237 rfl (lv_at hl 1 rfl) ?_
  refine lv_iload_n hx hb dX3_wideOp_238 rfl (lv_at hl 2 rfl) ?_
  obtain ⟨u_92, hu_92, hF_93⟩ := Option.bind_eq_some_iff.mp hF_91
  clear hF_91
  have hPc := hP.sub (ws' := (b_k cB cC cI cJ cZ oA rA Γ ++ b_p cB cC cI cJ cZ oA rA Γ ++ b_o cB cC cI cJ cZ oA rA Γ ++ b_s cB cC cI cJ cZ oA rA Γ ++ b_c cB cC cI cJ cZ oA rA Γ ++ b_t cB cC cI cJ cZ oA rA Γ ++ b_d cB cC cI cJ cZ oA rA Γ)) [0, 1, 2, 3, 4, 5, 6, 7, 8, 9, 10, 11, 12, 13, 14, 15, 16, 17, 18, 19, 20, 21, 22, 23, 24, 25, 26, 27, 28, 29, 30, 31, 32, 33, 34, 35, 36, 37, 38, 39, 40, 41, 42, 43, 44, 45] rfl
  have hDc := (hDD Γ).sub (ws' := (b_k cB cC cI cJ cZ oA rA Γ ++ b_p cB cC cI cJ cZ oA rA Γ ++ b_o cB cC cI cJ cZ oA rA Γ ++ b_s cB cC cI cJ cZ oA rA Γ ++ b_c cB cC cI cJ cZ oA rA Γ ++ b_t cB cC cI cJ cZ oA rA Γ ++ b_d cB cC cI cJ cZ oA rA Γ)) [0, 1, 2, 3, 4, 5, 6, 7, 8, 9, 10, 11, 12, 13, 14, 15, 16, 17, 18, 19, 20, 21, 22, 23, 24, 25, 26, 27, 28, 29, 30, 31, 32, 33, 34, 35, 36, 37, 38, 39, 40, 41, 42, 43, 44, 45] (by decide +kernel) rfl
  have hFc := va_free (wc := (b_k cB cC cI cJ cZ oA rA Γ ++ b_p cB cC cI cJ cZ oA rA Γ ++ b_o cB cC cI cJ cZ oA rA Γ ++ b_s cB cC cI cJ cZ oA rA Γ ++ b_c cB cC cI cJ cZ oA rA Γ ++ b_t cB cC cI cJ cZ oA rA Γ ++ b_d cB cC cI cJ cZ oA rA Γ)) (hDD Γ) hS hA [0, 1, 2, 3, 4, 5, 6, 7, 8, 9, 10, 11, 12, 13, 14, 15, 16, 17, 18, 19, 20, 21, 22, 23, 24, 25, 26, 27, 28, 29, 30, 31, 32, 33, 34, 35, 36, 37, 38, 39, 40, 41, 42, 43, 44, 45] rfl
  refine g_ofv (wc := (b_k cB cC cI cJ cZ oA rA Γ ++ b_p cB cC cI cJ cZ oA rA Γ ++ b_o cB cC cI cJ cZ oA rA Γ ++ b_s cB cC cI cJ cZ oA rA Γ ++ b_c cB cC cI cJ cZ oA rA Γ ++ b_t cB cC cI cJ cZ oA rA Γ ++ b_d cB cC cI cJ cZ oA rA Γ)) (wr := ([] : va_W)) hP (hDD Γ) hS hFc [0, 1, 2, 3, 4, 5, 6, 7, 8, 9, 10, 11, 12, 13, 14, 15, 16, 17, 18, 19, 20, 21, 22, 23, 24, 25, 26, 27, 28, 29, 30, 31, 32, 33, 34, 35, 36, 37, 38, 39, 40, 41, 42, 43, 44, 45] [] rfl rfl (by decide +kernel) (by decide +kernel) (va_runV (As := [.int p0, .int p1]) (rest := []) ⟨hx, hb, hml, hown, hts⟩ (k_X3_traitOp l dC dI cB cC cI cJ cZ cP oA rA s.heap.size  p0 p1 Γ _ hu_92) (cwV 2 hts (g_gV wq_1166 wq_1167 wq_2092 wq_11 wq_1168) rfl rfl rfl (by decide +kernel) ⟨Nat.le_of_ble_eq_true rfl, Nat.le_of_ble_eq_true rfl⟩) (g_preV g_bl0 hK hPc hDc hS hE hFc g_to0 (q0 := 0) (ci := 3) rfl rfl) rfl rfl hl.1 rfl (lv_room (Nat.le_of_ble_eq_true rfl)) dX3_wideOp_239 ⟨Nat.le_of_ble_eq_true rfl, Nat.le_of_ble_eq_true rfl⟩) (fun u9 H locs hw9 hP' hD' hS => ?_)
  clear hPc hDc hFc
  have hP : va_P (dC, dI) vwCl (b_k cB cC cI cJ cZ oA rA u_92.2 ++ b_p cB cC cI cJ cZ oA rA u_92.2 ++ b_o cB cC cI cJ cZ oA rA u_92.2 ++ b_s cB cC cI cJ cZ oA rA u_92.2 ++ b_c cB cC cI cJ cZ oA rA u_92.2 ++ b_t cB cC cI cJ cZ oA rA u_92.2 ++ b_d cB cC cI cJ cZ oA rA u_92.2) H := hP'
  clear hP' hD'
  have h9 := Option.some.inj hF_93
  subst h9
  exact W.vret hx hb hr (fun t ht hW => ⟨⟨(), rfl, trivial, m_end ht hP, hDD _⟩, hS.F ht⟩) hS.2.2 dX3_wideOp_242
theorem dX3_draw_0 : decode cX3_draw 0 = .ok (.iload_n 1, 1) := by decide +kernel
theorem dX3_draw_1 : decode cX3_draw 1 = .ok (.iconst 1, 1) := by decide +kernel
theorem dX3_draw_2 : decode cX3_draw 2 = .ok (.if_icmp .ge 5, 3) := by decide +kernel
theorem dX3_draw_5 : decode cX3_draw 5 = .ok (.iconst 0, 1) := by decide +kernel
theorem dX3_draw_6 : decode cX3_draw 6 = .ok (.ireturn, 1) := by decide +kernel
theorem dX3_draw_7 : decode cX3_draw 7 = .ok (.aload_n 0, 1) := by decide +kernel
theorem dX3_draw_8 : decode cX3_draw 8 = .ok (.getfield 29, 3) := by decide +kernel
theorem dX3_draw_11 : decode cX3_draw 11 = .ok (.aload_n 0, 1) := by decide +kernel
theorem dX3_draw_12 : decode cX3_draw 12 = .ok (.getfield 29, 3) := by decide +kernel
theorem dX3_draw_15 : decode cX3_draw 15 = .ok (.getfield 198, 3) := by decide +kernel
theorem dX3_draw_18 : decode cX3_draw 18 = .ok (.ldc 201, 2) := by decide +kernel
theorem dX3_draw_20 : decode cX3_draw 20 = .ok (.imul, 1) := by decide +kernel
theorem dX3_draw_21 : decode cX3_draw 21 = .ok (.iconst 1, 1) := by decide +kernel
theorem dX3_draw_22 : decode cX3_draw 22 = .ok (.iadd, 1) := by decide +kernel
theorem dX3_draw_23 : decode cX3_draw 23 = .ok (.putfield 198, 3) := by decide +kernel
theorem dX3_draw_26 : decode cX3_draw 26 = .ok (.iconst 1, 1) := by decide +kernel
theorem dX3_draw_27 : decode cX3_draw 27 = .ok (.aload_n 0, 1) := by decide +kernel
theorem dX3_draw_28 : decode cX3_draw 28 = .ok (.getfield 29, 3) := by decide +kernel
theorem dX3_draw_31 : decode cX3_draw 31 = .ok (.getfield 198, 3) := by decide +kernel
theorem dX3_draw_34 : decode cX3_draw 34 = .ok (.bipush 16, 2) := by decide +kernel
theorem dX3_draw_36 : decode cX3_draw 36 = .ok (.iushr, 1) := by decide +kernel
theorem dX3_draw_37 : decode cX3_draw 37 = .ok (.sipush 32767, 3) := by decide +kernel
theorem dX3_draw_40 : decode cX3_draw 40 = .ok (.iand, 1) := by decide +kernel
theorem dX3_draw_41 : decode cX3_draw 41 = .ok (.iload_n 1, 1) := by decide +kernel
theorem dX3_draw_42 : decode cX3_draw 42 = .ok (.irem, 1) := by decide +kernel
theorem dX3_draw_43 : decode cX3_draw 43 = .ok (.iadd, 1) := by decide +kernel
theorem dX3_draw_44 : decode cX3_draw 44 = .ok (.ireturn, 1) := by decide +kernel
def F_X3_draw (p0 : Int32) (Γ : HS) : HR :=
  if 1 ≤ p0 then (
    bnd (cI' Γ 9 8 ((((Γ 9).1 8) * 69069) + 1)) fun σ_3 =>
    bnd ((((σ_3 9).1 8).toUInt32 >>> ((16 : Int32).toUInt32 &&& Int32.toUInt32 31)).toInt32) fun (x_5 : Int32) =>
    if p0 = 0 then none else
    bnd (((x_5 &&& 32767) - (x_5 &&& 32767) / p0 * p0)) fun (x_9 : Int32) =>
    some ((1 + x_9), σ_3)
  ) else (
    some (0, Γ)
  )
set_option maxHeartbeats 4000000 in
set_option maxRecDepth 100000 in
theorem k_X3_draw (l : Launch) (dC : Nat → ClassId) (dI : Nat → Nat → Nat) (cB cC cI cJ cZ cP : ClassId) (oA : Nat → Nat) (rA : Nat → Nat → Nat) (sz : Nat)  (p0 : Int32) (Γ : HS) (res : Int32 × HS) (hF : F_X3_draw p0 Γ = some res) : Met l yX3_draw (g_ws yX3_draw cX3_draw 2 (some .int)) ({ frames := 1, cells := 0, slots := 0, locals := 40 }) (va_Pc [.ref (oA 10), .int p0] (g_B (dC, dI) [(cB, .byte), (cC, .char), (cI, .int), (cJ, .long), (cZ, .boolean), (cP, .object "StoryHouse$Play")] sz (b_k cB cC cI cJ cZ oA rA Γ ++ b_p cB cC cI cJ cZ oA rA Γ ++ b_o cB cC cI cJ cZ oA rA Γ ++ b_s cB cC cI cJ cZ oA rA Γ ++ b_c cB cC cI cJ cZ oA rA Γ ++ b_t cB cC cI cJ cZ oA rA Γ ++ b_d cB cC cI cJ cZ oA rA Γ) g_0)) (va_Qi (fun r (_ : Unit) => r = res.1) (g_Bo (dC, dI) (va_A (b_k cB cC cI cJ cZ oA rA Γ ++ b_p cB cC cI cJ cZ oA rA Γ ++ b_o cB cC cI cJ cZ oA rA Γ ++ b_s cB cC cI cJ cZ oA rA Γ ++ b_c cB cC cI cJ cZ oA rA Γ ++ b_t cB cC cI cJ cZ oA rA Γ ++ b_d cB cC cI cJ cZ oA rA Γ) sz) (fun (_ : Unit) => (b_k cB cC cI cJ cZ oA rA res.2 ++ b_p cB cC cI cJ cZ oA rA res.2 ++ b_o cB cC cI cJ cZ oA rA res.2 ++ b_s cB cC cI cJ cZ oA rA res.2 ++ b_c cB cC cI cJ cZ oA rA res.2 ++ b_t cB cC cI cJ cZ oA rA res.2 ++ b_d cB cC cI cJ cZ oA rA res.2))) (va_A (b_k cB cC cI cJ cZ oA rA Γ ++ b_p cB cC cI cJ cZ oA rA Γ ++ b_o cB cC cI cJ cZ oA rA Γ ++ b_s cB cC cI cJ cZ oA rA Γ ++ b_c cB cC cI cJ cZ oA rA Γ ++ b_t cB cC cI cJ cZ oA rA Γ ++ b_d cB cC cI cJ cZ oA rA Γ) sz)) 0 0 (va_A (b_k cB cC cI cJ cZ oA rA Γ ++ b_p cB cC cI cJ cZ oA rA Γ ++ b_o cB cC cI cJ cZ oA rA Γ ++ b_s cB cC cI cJ cZ oA rA Γ ++ b_c cB cC cI cJ cZ oA rA Γ ++ b_t cB cC cI cJ cZ oA rA Γ ++ b_d cB cC cI cJ cZ oA rA Γ) sz) := by
  refine Met.ofW (cc := cX3_draw) (maxL := 2) (ret := (some .int)) (by decide) rfl ?_
  intro p e s m args below meth c s₁ B hml hv
  obtain ⟨rfl, hsz, hP, hK, hD0, hE, hX⟩ := hv
  have hx := B.exec
  have hb := B.bytes
  have hr := B.returns
  have hts0 := atoms_spec (ws := g_ws yX3_draw cX3_draw 2 (some .int)) B.pre
  have hts : ∀ w ∈ lw_good, w.before ([.ref (oA 10), .int p0] : List Value).toArray s = true := fun w z => hts0 w (List.mem_cons_of_mem _ z)
  have hown : s.vm.findClass RX3 = some m.cls := findClass_of_methodNamed B.named
  have hlocks := B.notSynchronized
  subst hsz
  have hD1 := hD0.self (sz := s.heap.size)
  generalize hAe : va_A (b_k cB cC cI cJ cZ oA rA Γ ++ b_p cB cC cI cJ cZ oA rA Γ ++ b_o cB cC cI cJ cZ oA rA Γ ++ b_s cB cC cI cJ cZ oA rA Γ ++ b_c cB cC cI cJ cZ oA rA Γ ++ b_t cB cC cI cJ cZ oA rA Γ ++ b_d cB cC cI cJ cZ oA rA Γ) s.heap.size = A at hD1 hE hX ⊢
  have hA : ∀ q : Nat, s.heap.size ≤ q → A q := fun q z => by rw [← hAe]; exact Or.inr z
  have hDD : ∀ Γ : HS, va_D A (b_k cB cC cI cJ cZ oA rA Γ ++ b_p cB cC cI cJ cZ oA rA Γ ++ b_o cB cC cI cJ cZ oA rA Γ ++ b_s cB cC cI cJ cZ oA rA Γ ++ b_c cB cC cI cJ cZ oA rA Γ ++ b_t cB cC cI cJ cZ oA rA Γ ++ b_d cB cC cI cJ cZ oA rA Γ) := fun Γ9 => va_D_fst (ws := (b_k cB cC cI cJ cZ oA rA Γ ++ b_p cB cC cI cJ cZ oA rA Γ ++ b_o cB cC cI cJ cZ oA rA Γ ++ b_s cB cC cI cJ cZ oA rA Γ ++ b_c cB cC cI cJ cZ oA rA Γ ++ b_t cB cC cI cJ cZ oA rA Γ ++ b_d cB cC cI cJ cZ oA rA Γ)) (ws' := (b_k cB cC cI cJ cZ oA rA Γ9 ++ b_p cB cC cI cJ cZ oA rA Γ9 ++ b_o cB cC cI cJ cZ oA rA Γ9 ++ b_s cB cC cI cJ cZ oA rA Γ9 ++ b_c cB cC cI cJ cZ oA rA Γ9 ++ b_t cB cC cI cJ cZ oA rA Γ9 ++ b_d cB cC cI cJ cZ oA rA Γ9)) rfl hD1
  have hN := hE.1
  have hS : va_S A s.heap s.heap [] := va_S.rf
  have hl := lv_entry ([.ref (oA 10), .int p0]) (n := 2) (Nat.le_of_ble_eq_true rfl)
  rw [lg_entry_eq]
  generalize (lg_sl ([.ref (oA 10), .int p0]) ++ List.replicate (2 - (lg_sl ([.ref (oA 10), .int p0])).length) Slot.unset).toArray = ls at hl ⊢
  have hl : lv_has ls 2 [(0, .ref (oA 10)), (1, .int p0)] := hl
  unfold F_X3_draw at hF
  refine lv_iload_n hx hb dX3_draw_0 rfl (lv_at hl 1 rfl) ?_
  refine lv_iconst (v := 1) hx hb dX3_draw_1 (by decide +kernel) ?_
  refine lv_icmp_ge (tgt := 7) hx hb dX3_draw_2 (by decide) (fun c_1 => ?_) (fun c_1 => ?_)
  · have hF_2 := ipos c_1 hF
    clear hF
    refine lv_aload_n hx hb dX3_draw_7 rfl (lv_at hl 0 rfl) ?_
    refine va_get (D := (dC, dI)) (ci := 3) (v := .ref (oA 9)) (C := RX3) (T := TX3) (N := 16) hx hb hts ii_X3 hown hK hP 0 rfl rfl 0 (by decide) (hts (.fieldLink RX3 29 "StoryHouse$Machine" "play" "LStoryHouse$Play;") wq_259) (fun _ h9 => h9) rfl dX3_draw_8 ?_
    refine lv_aload_n hx hb dX3_draw_11 rfl (lv_at hl 0 rfl) ?_
    refine va_get (D := (dC, dI)) (ci := 3) (v := .ref (oA 9)) (C := RX3) (T := TX3) (N := 16) hx hb hts ii_X3 hown hK hP 0 rfl rfl 0 (by decide) (hts (.fieldLink RX3 29 "StoryHouse$Machine" "play" "LStoryHouse$Play;") wq_259) (fun _ h9 => h9) rfl dX3_draw_12 ?_
    refine va_get (D := (dC, dI)) (ci := 6) (v := .int ((Γ 9).1 8)) (C := RX6) (T := TX6) (N := 12) hx hb hts ii_X6 hown hK hP 5 rfl rfl 8 (by decide) (hts (.fieldLink RX3 198 "StoryHouse$Play" "seed" "I") wq_242) (fun _ h9 => h9) rfl dX3_draw_15 ?_
    refine lv_ldc (v := 69069) hx hb hown (hts (.constant RX3 201 (69069)) wq_1190) dX3_draw_18 ?_
    refine lv_imul hx hb dX3_draw_20 ?_
    refine lv_iconst (v := 1) hx hb dX3_draw_21 (by decide +kernel) ?_
    refine lv_iadd hx hb dX3_draw_22 ?_
    obtain ⟨σ_3, eσ_3, hF_4⟩ := bnd_e hF_2
    clear hF_2
    refine va_put (D := (dC, dI)) (ci := 6) (v := .int ((((Γ 9).1 8) * 69069) + 1)) (ty := .int) (C := RX6) (T := TX6) (N := 12) hx hb hts ii_X6 tyX6 tyX6_ok nmX6 hown hK hP (hDD _) hS 5 rfl rfl 8 (by decide) (hts (.fieldLink RX3 198 "StoryHouse$Play" "seed" "I") wq_242) (fun _ h9 => h9) rfl (by decide +kernel) rfl rfl (Nat.le_of_ble_eq_true rfl) dX3_draw_23 (fun H locs hP' _ hS => ?_)
    have hP : va_P (dC, dI) vwCl (b_k cB cC cI cJ cZ oA rA σ_3 ++ b_p cB cC cI cJ cZ oA rA σ_3 ++ b_o cB cC cI cJ cZ oA rA σ_3 ++ b_s cB cC cI cJ cZ oA rA σ_3 ++ b_c cB cC cI cJ cZ oA rA σ_3 ++ b_t cB cC cI cJ cZ oA rA σ_3 ++ b_d cB cC cI cJ cZ oA rA σ_3) H := by rw [eσ_3]; exact cs_kposctd_p_8 ▸ hP'
    clear hP'
    refine lv_iconst (v := 1) hx hb dX3_draw_26 (by decide +kernel) ?_
    refine lv_aload_n hx hb dX3_draw_27 rfl (lv_at hl 0 rfl) ?_
    refine va_get (D := (dC, dI)) (ci := 3) (v := .ref (oA 9)) (C := RX3) (T := TX3) (N := 16) hx hb hts ii_X3 hown hK hP 0 rfl rfl 0 (by decide) (hts (.fieldLink RX3 29 "StoryHouse$Machine" "play" "LStoryHouse$Play;") wq_259) (fun _ h9 => h9) rfl dX3_draw_28 ?_
    refine va_get (D := (dC, dI)) (ci := 6) (v := .int ((σ_3 9).1 8)) (C := RX6) (T := TX6) (N := 12) hx hb hts ii_X6 hown hK hP 5 rfl rfl 8 (by decide) (hts (.fieldLink RX3 198 "StoryHouse$Play" "seed" "I") wq_242) (fun _ h9 => h9) rfl dX3_draw_31 ?_
    refine lv_bipush (v := 16) hx hb dX3_draw_34 (by decide +kernel) ?_
    refine lv_iushr hx hb dX3_draw_36 rfl ?_
    obtain ⟨x_5, ex_5, hF_6⟩ := bnd_e hF_4
    clear hF_4
    refine m_top ex_5 ?_
    refine lv_sipush (v := 32767) hx hb dX3_draw_37 (by decide +kernel) ?_
    refine lv_iand hx hb dX3_draw_40 ?_
    refine lv_iload_n hx hb dX3_draw_41 rfl (lv_at hl 1 rfl) ?_
    obtain ⟨g_7, hF_8⟩ := nif_e hF_6
    clear hF_6
    refine lv_irem hx hb dX3_draw_42 g_7 ?_
    obtain ⟨x_9, ex_9, hF_10⟩ := bnd_e hF_8
    clear hF_8
    refine m_top ex_9 ?_
    refine lv_iadd hx hb dX3_draw_43 ?_
    have h9 := Option.some.inj hF_10
    subst h9
    exact W.iret (v := (1 + x_9)) hx hb hr (fun t ht hW => ⟨⟨(1 + x_9), (), rfl, rfl, m_end ht hP, hDD _⟩, hS.F ht⟩) hS.2.2 dX3_draw_44
  · have hF_11 := ineg c_1 hF
    clear hF
    refine lv_iconst (v := 0) hx hb dX3_draw_5 (by decide +kernel) ?_
    have h9 := Option.some.inj hF_11
    subst h9
    exact W.iret (v := 0) hx hb hr (fun t ht hW => ⟨⟨0, (), rfl, rfl, m_end ht hP, hDD _⟩, hS.F ht⟩) hS.2.2 dX3_draw_6
theorem dX5_number_0 : decode cX5_number 0 = .ok (.iload_n 1, 1) := by decide +kernel
theorem dX5_number_1 : decode cX5_number 1 = .ok (.ifCond .ge 9, 3) := by decide +kernel
theorem dX5_number_4 : decode cX5_number 4 = .ok (.aload_n 0, 1) := by decide +kernel
theorem dX5_number_5 : decode cX5_number 5 = .ok (.bipush 45, 2) := by decide +kernel
theorem dX5_number_7 : decode cX5_number 7 = .ok (.invokevirtual 28, 3) := by decide +kernel
theorem dX5_number_10 : decode cX5_number 10 = .ok (.iload_n 1, 1) := by decide +kernel
theorem dX5_number_11 : decode cX5_number 11 = .ok (.invokestatic 48, 3) := by decide +kernel
theorem dX5_number_14 : decode cX5_number 14 = .ok (.istore_n 2, 1) := by decide +kernel
theorem dX5_number_15 : decode cX5_number 15 = .ok (.sipush 10000, 3) := by decide +kernel
theorem dX5_number_18 : decode cX5_number 18 = .ok (.istore_n 3, 1) := by decide +kernel
theorem dX5_number_19 : decode cX5_number 19 = .ok (.iload_n 3, 1) := by decide +kernel
theorem dX5_number_20 : decode cX5_number 20 = .ok (.ifCond .le 34, 3) := by decide +kernel
theorem dX5_number_23 : decode cX5_number 23 = .ok (.iload_n 2, 1) := by decide +kernel
theorem dX5_number_24 : decode cX5_number 24 = .ok (.iload_n 3, 1) := by decide +kernel
theorem dX5_number_25 : decode cX5_number 25 = .ok (.if_icmp .ge 8, 3) := by decide +kernel
theorem dX5_number_28 : decode cX5_number 28 = .ok (.iload_n 3, 1) := by decide +kernel
theorem dX5_number_29 : decode cX5_number 29 = .ok (.iconst 1, 1) := by decide +kernel
theorem dX5_number_30 : decode cX5_number 30 = .ok (.if_icmp .ne 16, 3) := by decide +kernel
theorem dX5_number_33 : decode cX5_number 33 = .ok (.aload_n 0, 1) := by decide +kernel
theorem dX5_number_34 : decode cX5_number 34 = .ok (.bipush 48, 2) := by decide +kernel
theorem dX5_number_36 : decode cX5_number 36 = .ok (.iload_n 2, 1) := by decide +kernel
theorem dX5_number_37 : decode cX5_number 37 = .ok (.iload_n 3, 1) := by decide +kernel
theorem dX5_number_38 : decode cX5_number 38 = .ok (.idiv, 1) := by decide +kernel
theorem dX5_number_39 : decode cX5_number 39 = .ok (.bipush 10, 2) := by decide +kernel
theorem dX5_number_41 : decode cX5_number 41 = .ok (.irem, 1) := by decide +kernel
theorem dX5_number_42 : decode cX5_number 42 = .ok (.iadd, 1) := by decide +kernel
theorem dX5_number_43 : decode cX5_number 43 = .ok (.invokevirtual 28, 3) := by decide +kernel
theorem dX5_number_46 : decode cX5_number 46 = .ok (.iload_n 3, 1) := by decide +kernel
theorem dX5_number_47 : decode cX5_number 47 = .ok (.bipush 10, 2) := by decide +kernel
theorem dX5_number_49 : decode cX5_number 49 = .ok (.idiv, 1) := by decide +kernel
theorem dX5_number_50 : decode cX5_number 50 = .ok (.istore_n 3, 1) := by decide +kernel
theorem dX5_number_51 : decode cX5_number 51 = .ok (.goto (-32), 3) := by decide +kernel
theorem dX5_number_54 : decode cX5_number 54 = .ok (.return_, 1) := by decide +kernel
def F_X5_number (p0 : Int32) (Γ : HS) : HR :=
  bnd (fun  (σ_1 : HS) => (
    bnd ((if p0 < 0 then -p0 else p0)) fun (x_5 : Int32) =>
    loopF (fun (again_8 : (Int32 × HS) → HR) (s_7 : Int32 × HS) => (
      if s_7.1 ≤ 0 then (
        some (0, s_7.2)
      ) else (
        bnd (fun  (σ_14 : HS) => (
          bnd ((s_7.1 / 10)) fun (x_18 : Int32) =>
          again_8 (x_18, σ_14)
        ) : HS → HR) fun j_15 =>
        bnd (fun  (σ_20 : HS) => (
          if s_7.1 = 0 then none else
          bnd ((x_5 / s_7.1)) fun (x_26 : Int32) =>
          bnd ((x_26 - x_26 / 10 * 10)) fun (x_28 : Int32) =>
          (F_X5_sign (48 + x_28) σ_20).bind fun u_30 =>
          j_15  u_30.2
        ) : HS → HR) fun j_21 =>
        if s_7.1 ≤ x_5 then (
          j_21  s_7.2
        ) else (
          if s_7.1 = 1 then (
            j_21  s_7.2
          ) else (
            j_15  s_7.2
          )
        )
      )
    )) FU (10000, σ_1)
  ) : HS → HR) fun j_2 =>
  if 0 ≤ p0 then (
    j_2  Γ
  ) else (
    (F_X5_sign 45 Γ).bind fun u_41 =>
    j_2  u_41.2
  )
set_option maxHeartbeats 4000000 in
set_option maxRecDepth 100000 in
theorem k_X5_number (l : Launch) (dC : Nat → ClassId) (dI : Nat → Nat → Nat) (cB cC cI cJ cZ cP : ClassId) (oA : Nat → Nat) (rA : Nat → Nat → Nat) (sz : Nat)  (p0 : Int32) (Γ : HS) (res : Int32 × HS) (hF : F_X5_number p0 Γ = some res) : Met l yX5_number (g_ws yX5_number cX5_number 4 none) ({ frames := 2, cells := 0, slots := 0, locals := 61 }) (va_Pc [.ref (oA 8), .int p0] (g_B (dC, dI) [(cB, .byte), (cC, .char), (cI, .int), (cJ, .long), (cZ, .boolean), (cP, .object "StoryHouse$Play")] sz (b_o cB cC cI cJ cZ oA rA Γ) g_0)) (va_Qv (fun (_ : Unit) => True) (g_Bo (dC, dI) (va_A (b_o cB cC cI cJ cZ oA rA Γ) sz) (fun (_ : Unit) => (b_o cB cC cI cJ cZ oA rA res.2))) (va_A (b_o cB cC cI cJ cZ oA rA Γ) sz)) 0 0 (va_A (b_o cB cC cI cJ cZ oA rA Γ) sz) := by
  refine Met.ofW (cc := cX5_number) (maxL := 4) (ret := none) (by decide) rfl ?_
  intro p e s m args below meth c s₁ B hml hv
  obtain ⟨rfl, hsz, hP, hK, hD0, hE, hX⟩ := hv
  have hx := B.exec
  have hb := B.bytes
  have hr := B.returns
  have hts0 := atoms_spec (ws := g_ws yX5_number cX5_number 4 none) B.pre
  have hts : ∀ w ∈ lw_good, w.before ([.ref (oA 8), .int p0] : List Value).toArray s = true := fun w z => hts0 w (List.mem_cons_of_mem _ z)
  have hown : s.vm.findClass RX5 = some m.cls := findClass_of_methodNamed B.named
  have hlocks := B.notSynchronized
  subst hsz
  have hD1 := hD0.self (sz := s.heap.size)
  generalize hAe : va_A (b_o cB cC cI cJ cZ oA rA Γ) s.heap.size = A at hD1 hE hX ⊢
  have hA : ∀ q : Nat, s.heap.size ≤ q → A q := fun q z => by rw [← hAe]; exact Or.inr z
  have hDD : ∀ Γ : HS, va_D A (b_o cB cC cI cJ cZ oA rA Γ) := fun Γ9 => va_D_fst (ws := (b_o cB cC cI cJ cZ oA rA Γ)) (ws' := (b_o cB cC cI cJ cZ oA rA Γ9)) rfl hD1
  have hN := hE.1
  have hS : va_S A s.heap s.heap [] := va_S.rf
  have hl := lv_entry ([.ref (oA 8), .int p0]) (n := 4) (Nat.le_of_ble_eq_true rfl)
  rw [lg_entry_eq]
  generalize (lg_sl ([.ref (oA 8), .int p0]) ++ List.replicate (4 - (lg_sl ([.ref (oA 8), .int p0])).length) Slot.unset).toArray = ls at hl ⊢
  have hl : lv_has ls 4 [(0, .ref (oA 8)), (1, .int p0)] := hl
  unfold F_X5_number at hF
  refine lv_iload_n hx hb dX5_number_0 rfl (lv_at hl 1 rfl) ?_
  obtain ⟨j_2, ej_2, hF_3⟩ := bnd_e hF
  clear hF
  have Jj_2 : ∀  (σ_1 : HS), j_2  σ_1 = some res → ∀ (H : Heap) (locs : List Loc), va_P (dC, dI) vwCl (b_o cB cC cI cJ cZ oA rA σ_1) H → va_S A s.heap H locs → ∀ ls : Array Slot, lv_has ls 4 [(0, .ref (oA 8)), (1, .int p0)] → W p l e (headSpec (g_ws yX5_number cX5_number 4 none) { frames := 2, cells := 0, slots := 0, locals := 61 }).room s m ([.ref (oA 8), .int p0] : List Value).toArray below meth c H locs 0 0 (MQ below (va_Qv (fun (_ : Unit) => True) (g_Bo (dC, dI) A (fun (_ : Unit) => (b_o cB cC cI cJ cZ oA rA res.2))) A) ([.ref (oA 8), .int p0] : List Value).toArray s 0 0 A) (F0 m 10 ls []) := by
    intro  σ_1 hF0 H locs hP hS ls hl
    subst ej_2
    have hF_4 := hF0
    clear hF0
    refine lv_iload_n hx hb dX5_number_10 rfl (lv_at hl 1 rfl) ?_
    refine va_mabs hx hb (hml.trans hl.1.symm) hown (hts (.methodLink RX5 48 yJ9_abs_0f7a4) wq_1196) (hts (.static yJ9_abs_0f7a4) wq_1197) (hts (.initialized RJ9) wq_19) (hts (.code yJ9_abs_0f7a4 cJ9_abs_0f7a4 1 (some .int)) wq_1198) (Nat.le_of_ble_eq_true rfl) (Nat.le_of_ble_eq_true rfl) (Nat.le_of_ble_eq_true rfl) (Nat.le_of_ble_eq_true rfl) dX5_number_11 ?_
    obtain ⟨x_5, ex_5, hF_6⟩ := bnd_e hF_4
    clear hF_4
    refine m_top ex_5 ?_
    refine lv_istore_n (lv' := [(2, .int x_5), (0, .ref (oA 8)), (1, .int p0)]) hx hb dX5_number_14 rfl hl (by decide) rfl (fun ls hl => ?_)
    refine lv_sipush (v := 10000) hx hb dX5_number_15 (by decide +kernel) ?_
    refine lv_istore_n (lv' := [(3, .int 10000), (2, .int x_5), (0, .ref (oA 8)), (1, .int p0)]) hx hb dX5_number_18 rfl hl (by decide) rfl (fun ls hl => ?_)
    refine loopF_ind (P := fun (s_7 : Int32 × HS) => ∀ (H : Heap) (locs : List Loc), va_P (dC, dI) vwCl (b_o cB cC cI cJ cZ oA rA s_7.2) H → va_S A s.heap H locs → ∀ ls : Array Slot, lv_has ls 4 [(0, .ref (oA 8)), (2, .int x_5), (3, .int s_7.1)] → W p l e (headSpec (g_ws yX5_number cX5_number 4 none) { frames := 2, cells := 0, slots := 0, locals := 61 }).room s m ([.ref (oA 8), .int p0] : List Value).toArray below meth c H locs 0 0 (MQ below (va_Qv (fun (_ : Unit) => True) (g_Bo (dC, dI) A (fun (_ : Unit) => (b_o cB cC cI cJ cZ oA rA res.2))) A) ([.ref (oA 8), .int p0] : List Value).toArray s 0 0 A) (F0 m 19 ls [])) ?_ _ _ hF_6 _ _ hP hS ls (lv_sub hl [2, 1, 0] rfl)
    intro again_8 s_7 ih_9 hF_10
    intro H locs hP hS ls hl
    refine lv_iload_n hx hb dX5_number_19 rfl (lv_at hl 2 rfl) ?_
    refine lv_if_le (tgt := 54) hx hb dX5_number_20 (by decide) (fun c_11 => ?_) (fun c_11 => ?_)
    · have hF_12 := ipos c_11 hF_10
      clear hF_10
      have h9 := Option.some.inj hF_12
      subst h9
      exact W.vret hx hb hr (fun t ht hW => ⟨⟨(), rfl, trivial, m_end ht hP, hDD _⟩, hS.F ht⟩) hS.2.2 dX5_number_54
    · have hF_13 := ineg c_11 hF_10
      clear hF_10
      refine lv_iload_n hx hb dX5_number_23 rfl (lv_at hl 1 rfl) ?_
      refine lv_iload_n hx hb dX5_number_24 rfl (lv_at hl 2 rfl) ?_
      obtain ⟨j_15, ej_15, hF_16⟩ := bnd_e hF_13
      clear hF_13
      have Jj_15 : ∀  (σ_14 : HS), j_15  σ_14 = some res → ∀ (H : Heap) (locs : List Loc), va_P (dC, dI) vwCl (b_o cB cC cI cJ cZ oA rA σ_14) H → va_S A s.heap H locs → ∀ ls : Array Slot, lv_has ls 4 [(0, .ref (oA 8)), (2, .int x_5), (3, .int s_7.1)] → W p l e (headSpec (g_ws yX5_number cX5_number 4 none) { frames := 2, cells := 0, slots := 0, locals := 61 }).room s m ([.ref (oA 8), .int p0] : List Value).toArray below meth c H locs 0 0 (MQ below (va_Qv (fun (_ : Unit) => True) (g_Bo (dC, dI) A (fun (_ : Unit) => (b_o cB cC cI cJ cZ oA rA res.2))) A) ([.ref (oA 8), .int p0] : List Value).toArray s 0 0 A) (F0 m 46 ls []) := by
        intro  σ_14 hF0 H locs hP hS ls hl
        subst ej_15
        have hF_17 := hF0
        clear hF0
        refine lv_iload_n hx hb dX5_number_46 rfl (lv_at hl 2 rfl) ?_
        refine lv_bipush (v := 10) hx hb dX5_number_47 (by decide +kernel) ?_
        refine lv_idiv hx hb dX5_number_49 (by decide +kernel) ?_
        obtain ⟨x_18, ex_18, hF_19⟩ := bnd_e hF_17
        clear hF_17
        refine m_top ex_18 ?_
        refine lv_istore_n (lv' := [(3, .int x_18), (0, .ref (oA 8)), (2, .int x_5)]) hx hb dX5_number_50 rfl hl (by decide) rfl (fun ls hl => ?_)
        refine lv_goto (tgt := 19) hx hb dX5_number_51 (by decide) ?_
        exact ih_9 (x_18, σ_14) hF_19 _ _ hP hS ls (lv_sub hl [1, 2, 0] rfl)
      obtain ⟨j_21, ej_21, hF_22⟩ := bnd_e hF_16
      clear hF_16
      have Jj_21 : ∀  (σ_20 : HS), j_21  σ_20 = some res → ∀ (H : Heap) (locs : List Loc), va_P (dC, dI) vwCl (b_o cB cC cI cJ cZ oA rA σ_20) H → va_S A s.heap H locs → ∀ ls : Array Slot, lv_has ls 4 [(0, .ref (oA 8)), (2, .int x_5), (3, .int s_7.1)] → W p l e (headSpec (g_ws yX5_number cX5_number 4 none) { frames := 2, cells := 0, slots := 0, locals := 61 }).room s m ([.ref (oA 8), .int p0] : List Value).toArray below meth c H locs 0 0 (MQ below (va_Qv (fun (_ : Unit) => True) (g_Bo (dC, dI) A (fun (_ : Unit) => (b_o cB cC cI cJ cZ oA rA res.2))) A) ([.ref (oA 8), .int p0] : List Value).toArray s 0 0 A) (F0 m 33 ls []) := by
        intro  σ_20 hF0 H locs hP hS ls hl
        subst ej_21
        have hF_23 := hF0
        clear hF0
        refine lv_aload_n hx hb dX5_number_33 rfl (lv_at hl 0 rfl) ?_
        refine lv_bipush (v := 48) hx hb dX5_number_34 (by decide +kernel) ?_
        refine lv_iload_n hx hb dX5_number_36 rfl (lv_at hl 1 rfl) ?_
        refine lv_iload_n hx hb dX5_number_37 rfl (lv_at hl 2 rfl) ?_
        obtain ⟨g_24, hF_25⟩ := nif_e hF_23
        clear hF_23
        refine lv_idiv hx hb dX5_number_38 g_24 ?_
        obtain ⟨x_26, ex_26, hF_27⟩ := bnd_e hF_25
        clear hF_25
        refine m_top ex_26 ?_
        refine lv_bipush (v := 10) hx hb dX5_number_39 (by decide +kernel) ?_
        refine lv_irem hx hb dX5_number_41 (by decide +kernel) ?_
        obtain ⟨x_28, ex_28, hF_29⟩ := bnd_e hF_27
        clear hF_27
        refine m_top ex_28 ?_
        refine lv_iadd hx hb dX5_number_42 ?_
        obtain ⟨u_30, hu_30, hF_31⟩ := Option.bind_eq_some_iff.mp hF_29
        clear hF_29
        have hPc := hP.sub (ws' := (b_o cB cC cI cJ cZ oA rA σ_20)) [0, 1] rfl
        have hDc := (hDD σ_20).sub (ws' := (b_o cB cC cI cJ cZ oA rA σ_20)) [0, 1] (by decide +kernel) rfl
        have hFc := va_free (wc := (b_o cB cC cI cJ cZ oA rA σ_20)) (hDD σ_20) hS hA [0, 1] rfl
        refine g_ofv (wc := (b_o cB cC cI cJ cZ oA rA σ_20)) (wr := ([] : va_W)) hP (hDD σ_20) hS hFc [0, 1] [] rfl rfl (by decide +kernel) (by decide +kernel) (va_runV (As := [.int (48 + x_28)]) (rest := []) ⟨hx, hb, hml, hown, hts⟩ (k_X5_sign l dC dI cB cC cI cJ cZ cP oA rA H.size  (48 + x_28) σ_20 _ hu_30) (cwV 1 hts (g_gV wq_1008 wq_1009 wq_1010 wq_9 wq_1011) rfl rfl rfl (by decide +kernel) ⟨Nat.le_of_ble_eq_true rfl, Nat.le_of_ble_eq_true rfl⟩) (g_preV g_bl0 hK hPc hDc hS hE hFc g_to0 (q0 := 0) (ci := 5) rfl rfl) rfl rfl hl.1 rfl (lv_room (Nat.le_of_ble_eq_true rfl)) dX5_number_43 ⟨Nat.le_of_ble_eq_true rfl, Nat.le_of_ble_eq_true rfl⟩) (fun u9 H locs hw9 hP' hD' hS => ?_)
        clear hPc hDc hFc
        have hP : va_P (dC, dI) vwCl (b_o cB cC cI cJ cZ oA rA u_30.2) H := hP'
        clear hP' hD'
        exact Jj_15  u_30.2 hF_31 _ _ hP hS ls (lv_sub hl [0, 1, 2] rfl)
      refine lv_icmp_ge (tgt := 33) hx hb dX5_number_25 (by decide) (fun c_32 => ?_) (fun c_32 => ?_)
      · have hF_33 := ipos c_32 hF_22
        clear hF_22
        exact Jj_21  s_7.2 hF_33 _ _ hP hS ls (lv_sub hl [0, 1, 2] rfl)
      · have hF_34 := ineg c_32 hF_22
        clear hF_22
        refine lv_iload_n hx hb dX5_number_28 rfl (lv_at hl 2 rfl) ?_
        refine lv_iconst (v := 1) hx hb dX5_number_29 (by decide +kernel) ?_
        refine lv_icmp_ne (tgt := 46) hx hb dX5_number_30 (by decide) (fun c_35 => ?_) (fun c_35 => ?_)
        · have hF_37 := ineg c_35 hF_34
          clear hF_34
          exact Jj_15  s_7.2 hF_37 _ _ hP hS ls (lv_sub hl [0, 1, 2] rfl)
        · have hF_36 := ipos c_35 hF_34
          clear hF_34
          exact Jj_21  s_7.2 hF_36 _ _ hP hS ls (lv_sub hl [0, 1, 2] rfl)
  refine lv_if_ge (tgt := 10) hx hb dX5_number_1 (by decide) (fun c_38 => ?_) (fun c_38 => ?_)
  · have hF_39 := ipos c_38 hF_3
    clear hF_3
    exact Jj_2  Γ hF_39 _ _ hP hS ls (lv_sub hl [0, 1] rfl)
  · have hF_40 := ineg c_38 hF_3
    clear hF_3
    refine lv_aload_n hx hb dX5_number_4 rfl (lv_at hl 0 rfl) ?_
    refine lv_bipush (v := 45) hx hb dX5_number_5 (by decide +kernel) ?_
    obtain ⟨u_41, hu_41, hF_42⟩ := Option.bind_eq_some_iff.mp hF_40
    clear hF_40
    have hPc := hP.sub (ws' := (b_o cB cC cI cJ cZ oA rA Γ)) [0, 1] rfl
    have hDc := (hDD Γ).sub (ws' := (b_o cB cC cI cJ cZ oA rA Γ)) [0, 1] (by decide +kernel) rfl
    have hFc := va_free (wc := (b_o cB cC cI cJ cZ oA rA Γ)) (hDD Γ) hS hA [0, 1] rfl
    refine g_ofv (wc := (b_o cB cC cI cJ cZ oA rA Γ)) (wr := ([] : va_W)) hP (hDD Γ) hS hFc [0, 1] [] rfl rfl (by decide +kernel) (by decide +kernel) (va_runV (As := [.int 45]) (rest := []) ⟨hx, hb, hml, hown, hts⟩ (k_X5_sign l dC dI cB cC cI cJ cZ cP oA rA s.heap.size  45 Γ _ hu_41) (cwV 1 hts (g_gV wq_1008 wq_1009 wq_1010 wq_9 wq_1011) rfl rfl rfl (by decide +kernel) ⟨Nat.le_of_ble_eq_true rfl, Nat.le_of_ble_eq_true rfl⟩) (g_preV g_bl0 hK hPc hDc hS hE hFc g_to0 (q0 := 0) (ci := 5) rfl rfl) rfl rfl hl.1 rfl (lv_room (Nat.le_of_ble_eq_true rfl)) dX5_number_7 ⟨Nat.le_of_ble_eq_true rfl, Nat.le_of_ble_eq_true rfl⟩) (fun u9 H locs hw9 hP' hD' hS => ?_)
    clear hPc hDc hFc
    have hP : va_P (dC, dI) vwCl (b_o cB cC cI cJ cZ oA rA u_41.2) H := hP'
    clear hP' hD'
    exact Jj_2  u_41.2 hF_42 _ _ hP hS ls (lv_sub hl [0, 1] rfl)
theorem dX6_here_0 : decode cX6_here 0 = .ok (.aload_n 0, 1) := by decide +kernel
theorem dX6_here_1 : decode cX6_here 1 = .ok (.getfield 9, 3) := by decide +kernel
theorem dX6_here_4 : decode cX6_here 4 = .ok (.iconst 1, 1) := by decide +kernel
theorem dX6_here_5 : decode cX6_here 5 = .ok (.iaload, 1) := by decide +kernel
theorem dX6_here_6 : decode cX6_here 6 = .ok (.ireturn, 1) := by decide +kernel
def F_X6_here  (Γ : HS) : HR :=
  some (((Γ 9).2.1 0 (1 : Int32).toNatClampNeg), Γ)
set_option maxHeartbeats 4000000 in
set_option maxRecDepth 100000 in
theorem k_X6_here (l : Launch) (dC : Nat → ClassId) (dI : Nat → Nat → Nat) (cB cC cI cJ cZ cP : ClassId) (oA : Nat → Nat) (rA : Nat → Nat → Nat) (sz : Nat)   (Γ : HS) (res : Int32 × HS) (hF : F_X6_here  Γ = some res) : Met l yX6_here (g_ws yX6_here cX6_here 1 (some .int)) ({ frames := 1, cells := 0, slots := 0, locals := 40 }) (va_Pc [.ref (oA 9)] (g_B (dC, dI) [(cB, .byte), (cC, .char), (cI, .int), (cJ, .long), (cZ, .boolean), (cP, .object "StoryHouse$Play")] sz (b_p cB cC cI cJ cZ oA rA Γ) g_0)) (va_Qi (fun r (_ : Unit) => r = res.1) (g_Bo (dC, dI) (va_A (b_p cB cC cI cJ cZ oA rA Γ) sz) (fun (_ : Unit) => (b_p cB cC cI cJ cZ oA rA res.2))) (va_A (b_p cB cC cI cJ cZ oA rA Γ) sz)) 0 0 (va_A (b_p cB cC cI cJ cZ oA rA Γ) sz) := by
  refine Met.ofW (cc := cX6_here) (maxL := 1) (ret := (some .int)) (by decide) rfl ?_
  intro p e s m args below meth c s₁ B hml hv
  obtain ⟨rfl, hsz, hP, hK, hD0, hE, hX⟩ := hv
  have hx := B.exec
  have hb := B.bytes
  have hr := B.returns
  have hts0 := atoms_spec (ws := g_ws yX6_here cX6_here 1 (some .int)) B.pre
  have hts : ∀ w ∈ lw_good, w.before ([.ref (oA 9)] : List Value).toArray s = true := fun w z => hts0 w (List.mem_cons_of_mem _ z)
  have hown : s.vm.findClass RX6 = some m.cls := findClass_of_methodNamed B.named
  have hlocks := B.notSynchronized
  subst hsz
  have hD1 := hD0.self (sz := s.heap.size)
  generalize hAe : va_A (b_p cB cC cI cJ cZ oA rA Γ) s.heap.size = A at hD1 hE hX ⊢
  have hA : ∀ q : Nat, s.heap.size ≤ q → A q := fun q z => by rw [← hAe]; exact Or.inr z
  have hDD : ∀ Γ : HS, va_D A (b_p cB cC cI cJ cZ oA rA Γ) := fun Γ9 => va_D_fst (ws := (b_p cB cC cI cJ cZ oA rA Γ)) (ws' := (b_p cB cC cI cJ cZ oA rA Γ9)) rfl hD1
  have hN := hE.1
  have hS : va_S A s.heap s.heap [] := va_S.rf
  have hl := lv_entry ([.ref (oA 9)]) (n := 1) (Nat.le_of_ble_eq_true rfl)
  rw [lg_entry_eq]
  generalize (lg_sl ([.ref (oA 9)]) ++ List.replicate (1 - (lg_sl ([.ref (oA 9)])).length) Slot.unset).toArray = ls at hl ⊢
  have hl : lv_has ls 1 [(0, .ref (oA 9))] := hl
  unfold F_X6_here at hF
  refine lv_aload_n hx hb dX6_here_0 rfl (lv_at hl 0 rfl) ?_
  refine va_get (D := (dC, dI)) (ci := 6) (v := .ref (rA 9 0)) (C := RX6) (T := TX6) (N := 12) hx hb hts ii_X6 hown hK hP 0 rfl rfl 0 (by decide) (hts (.fieldLink RX6 9 "StoryHouse$Play" "parents" "[I") wq_217) (fun _ h9 => h9) rfl dX6_here_1 ?_
  refine lv_iconst (v := 1) hx hb dX6_here_4 (by decide +kernel) ?_
  refine va_iald (f := (Γ 9).2.1 0) hx hb hK hP 1 2 rfl rfl (vp_in_iff.mpr (by decide +kernel)) dX6_here_5 ?_
  have h9 := Option.some.inj hF
  subst h9
  exact W.iret (v := ((Γ 9).2.1 0 (1 : Int32).toNatClampNeg)) hx hb hr (fun t ht hW => ⟨⟨((Γ 9).2.1 0 (1 : Int32).toNatClampNeg), (), rfl, rfl, m_end ht hP, hDD _⟩, hS.F ht⟩) hS.2.2 dX6_here_6
theorem dX3_worldOp_0 : decode cX3_worldOp 0 = .ok (.iload_n 1, 1) := by decide +kernel
theorem dX3_worldOp_1 : decode cX3_worldOp 1 = .ok (.tableswitch 82 27 30 #[31, 46, 60, 71], 31) := by decide +kernel
theorem dX3_worldOp_32 : decode cX3_worldOp 32 = .ok (.aload_n 0, 1) := by decide +kernel
theorem dX3_worldOp_33 : decode cX3_worldOp 33 = .ok (.aload_n 0, 1) := by decide +kernel
theorem dX3_worldOp_34 : decode cX3_worldOp 34 = .ok (.aload_n 0, 1) := by decide +kernel
theorem dX3_worldOp_35 : decode cX3_worldOp 35 = .ok (.invokevirtual 102, 3) := by decide +kernel
theorem dX3_worldOp_38 : decode cX3_worldOp 38 = .ok (.invokevirtual 183, 3) := by decide +kernel
theorem dX3_worldOp_41 : decode cX3_worldOp 41 = .ok (.invokevirtual 113, 3) := by decide +kernel
theorem dX3_worldOp_44 : decode cX3_worldOp 44 = .ok (.goto 50, 3) := by decide +kernel
theorem dX3_worldOp_47 : decode cX3_worldOp 47 = .ok (.aload_n 0, 1) := by decide +kernel
theorem dX3_worldOp_48 : decode cX3_worldOp 48 = .ok (.aload_n 0, 1) := by decide +kernel
theorem dX3_worldOp_49 : decode cX3_worldOp 49 = .ok (.getfield 29, 3) := by decide +kernel
theorem dX3_worldOp_52 : decode cX3_worldOp 52 = .ok (.invokevirtual 186, 3) := by decide +kernel
theorem dX3_worldOp_55 : decode cX3_worldOp 55 = .ok (.invokevirtual 113, 3) := by decide +kernel
theorem dX3_worldOp_58 : decode cX3_worldOp 58 = .ok (.goto 36, 3) := by decide +kernel
theorem dX3_worldOp_61 : decode cX3_worldOp 61 = .ok (.aload_n 0, 1) := by decide +kernel
theorem dX3_worldOp_62 : decode cX3_worldOp 62 = .ok (.aload_n 0, 1) := by decide +kernel
theorem dX3_worldOp_63 : decode cX3_worldOp 63 = .ok (.getfield 189, 3) := by decide +kernel
theorem dX3_worldOp_66 : decode cX3_worldOp 66 = .ok (.invokevirtual 113, 3) := by decide +kernel
theorem dX3_worldOp_69 : decode cX3_worldOp 69 = .ok (.goto 25, 3) := by decide +kernel
theorem dX3_worldOp_72 : decode cX3_worldOp 72 = .ok (.aload_n 0, 1) := by decide +kernel
theorem dX3_worldOp_73 : decode cX3_worldOp 73 = .ok (.aload_n 0, 1) := by decide +kernel
theorem dX3_worldOp_74 : decode cX3_worldOp 74 = .ok (.getfield 192, 3) := by decide +kernel
theorem dX3_worldOp_77 : decode cX3_worldOp 77 = .ok (.invokevirtual 113, 3) := by decide +kernel
theorem dX3_worldOp_80 : decode cX3_worldOp 80 = .ok (.goto 14, 3) := by decide +kernel
theorem dX3_worldOp_83 : decode cX3_worldOp 83 = .ok (.aload_n 0, 1) := by decide +kernel
theorem dX3_worldOp_84 : decode cX3_worldOp 84 = .ok (.getfield 33, 3) := by decide +kernel
theorem dX3_worldOp_87 : decode cX3_worldOp 87 = .ok (.aload_n 0, 1) := by decide +kernel
theorem dX3_worldOp_88 : decode cX3_worldOp 88 = .ok (.invokevirtual 102, 3) := by decide +kernel
theorem dX3_worldOp_91 : decode cX3_worldOp 91 = .ok (.invokevirtual 195, 3) := by decide +kernel
theorem dX3_worldOp_94 : decode cX3_worldOp 94 = .ok (.return_, 1) := by decide +kernel
def F_X3_worldOp (p0 : Int32) (Γ : HS) : HR :=
  if p0 = 27 then (
    (F_X3_pop Γ).bind fun u_3 =>
    (F_X3_draw u_3.1 u_3.2).bind fun u_5 =>
    (F_X3_push u_5.1 u_5.2).bind fun u_7 =>
    some (0, u_7.2)
  ) else
  if p0 = 28 then (
    (F_X6_here Γ).bind fun u_12 =>
    bnd (mrg (fun j => j == 9) Γ u_12.2) fun σ_14 =>
    (F_X3_push u_12.1 σ_14).bind fun u_16 =>
    some (0, u_16.2)
  ) else
  if p0 = 29 then (
    (F_X3_push ((Γ 10).1 3) Γ).bind fun u_21 =>
    some (0, u_21.2)
  ) else
  if p0 = 30 then (
    (F_X3_push ((Γ 10).1 4) Γ).bind fun u_26 =>
    some (0, u_26.2)
  ) else
  (
    (F_X3_pop Γ).bind fun u_29 =>
    (F_X5_number u_29.1 u_29.2).bind fun u_31 =>
    bnd (mrg (fun j => j == 8) u_29.2 u_31.2) fun σ_33 =>
    some (0, σ_33)
  )
set_option maxHeartbeats 4000000 in
set_option maxRecDepth 100000 in
theorem k_X3_worldOp (l : Launch) (dC : Nat → ClassId) (dI : Nat → Nat → Nat) (cB cC cI cJ cZ cP : ClassId) (oA : Nat → Nat) (rA : Nat → Nat → Nat) (sz : Nat)  (p0 : Int32) (Γ : HS) (res : Int32 × HS) (hF : F_X3_worldOp p0 Γ = some res) : Met l yX3_worldOp (g_ws yX3_worldOp cX3_worldOp 2 none) ({ frames := 4, cells := 0, slots := 0, locals := 101 }) (va_Pc [.ref (oA 10), .int p0] (g_B (dC, dI) [(cB, .byte), (cC, .char), (cI, .int), (cJ, .long), (cZ, .boolean), (cP, .object "StoryHouse$Play")] sz (b_k cB cC cI cJ cZ oA rA Γ ++ b_p cB cC cI cJ cZ oA rA Γ ++ b_o cB cC cI cJ cZ oA rA Γ ++ b_s cB cC cI cJ cZ oA rA Γ ++ b_c cB cC cI cJ cZ oA rA Γ ++ b_t cB cC cI cJ cZ oA rA Γ ++ b_d cB cC cI cJ cZ oA rA Γ) g_0)) (va_Qv (fun (_ : Unit) => True) (g_Bo (dC, dI) (va_A (b_k cB cC cI cJ cZ oA rA Γ ++ b_p cB cC cI cJ cZ oA rA Γ ++ b_o cB cC cI cJ cZ oA rA Γ ++ b_s cB cC cI cJ cZ oA rA Γ ++ b_c cB cC cI cJ cZ oA rA Γ ++ b_t cB cC cI cJ cZ oA rA Γ ++ b_d cB cC cI cJ cZ oA rA Γ) sz) (fun (_ : Unit) => (b_k cB cC cI cJ cZ oA rA res.2 ++ b_p cB cC cI cJ cZ oA rA res.2 ++ b_o cB cC cI cJ cZ oA rA res.2 ++ b_s cB cC cI cJ cZ oA rA res.2 ++ b_c cB cC cI cJ cZ oA rA res.2 ++ b_t cB cC cI cJ cZ oA rA res.2 ++ b_d cB cC cI cJ cZ oA rA res.2))) (va_A (b_k cB cC cI cJ cZ oA rA Γ ++ b_p cB cC cI cJ cZ oA rA Γ ++ b_o cB cC cI cJ cZ oA rA Γ ++ b_s cB cC cI cJ cZ oA rA Γ ++ b_c cB cC cI cJ cZ oA rA Γ ++ b_t cB cC cI cJ cZ oA rA Γ ++ b_d cB cC cI cJ cZ oA rA Γ) sz)) 0 0 (va_A (b_k cB cC cI cJ cZ oA rA Γ ++ b_p cB cC cI cJ cZ oA rA Γ ++ b_o cB cC cI cJ cZ oA rA Γ ++ b_s cB cC cI cJ cZ oA rA Γ ++ b_c cB cC cI cJ cZ oA rA Γ ++ b_t cB cC cI cJ cZ oA rA Γ ++ b_d cB cC cI cJ cZ oA rA Γ) sz) := by
  refine Met.ofW (cc := cX3_worldOp) (maxL := 2) (ret := none) (by decide) rfl ?_
  intro p e s m args below meth c s₁ B hml hv
  obtain ⟨rfl, hsz, hP, hK, hD0, hE, hX⟩ := hv
  have hx := B.exec
  have hb := B.bytes
  have hr := B.returns
  have hts0 := atoms_spec (ws := g_ws yX3_worldOp cX3_worldOp 2 none) B.pre
  have hts : ∀ w ∈ lw_good, w.before ([.ref (oA 10), .int p0] : List Value).toArray s = true := fun w z => hts0 w (List.mem_cons_of_mem _ z)
  have hown : s.vm.findClass RX3 = some m.cls := findClass_of_methodNamed B.named
  have hlocks := B.notSynchronized
  subst hsz
  have hD1 := hD0.self (sz := s.heap.size)
  generalize hAe : va_A (b_k cB cC cI cJ cZ oA rA Γ ++ b_p cB cC cI cJ cZ oA rA Γ ++ b_o cB cC cI cJ cZ oA rA Γ ++ b_s cB cC cI cJ cZ oA rA Γ ++ b_c cB cC cI cJ cZ oA rA Γ ++ b_t cB cC cI cJ cZ oA rA Γ ++ b_d cB cC cI cJ cZ oA rA Γ) s.heap.size = A at hD1 hE hX ⊢
  have hA : ∀ q : Nat, s.heap.size ≤ q → A q := fun q z => by rw [← hAe]; exact Or.inr z
  have hDD : ∀ Γ : HS, va_D A (b_k cB cC cI cJ cZ oA rA Γ ++ b_p cB cC cI cJ cZ oA rA Γ ++ b_o cB cC cI cJ cZ oA rA Γ ++ b_s cB cC cI cJ cZ oA rA Γ ++ b_c cB cC cI cJ cZ oA rA Γ ++ b_t cB cC cI cJ cZ oA rA Γ ++ b_d cB cC cI cJ cZ oA rA Γ) := fun Γ9 => va_D_fst (ws := (b_k cB cC cI cJ cZ oA rA Γ ++ b_p cB cC cI cJ cZ oA rA Γ ++ b_o cB cC cI cJ cZ oA rA Γ ++ b_s cB cC cI cJ cZ oA rA Γ ++ b_c cB cC cI cJ cZ oA rA Γ ++ b_t cB cC cI cJ cZ oA rA Γ ++ b_d cB cC cI cJ cZ oA rA Γ)) (ws' := (b_k cB cC cI cJ cZ oA rA Γ9 ++ b_p cB cC cI cJ cZ oA rA Γ9 ++ b_o cB cC cI cJ cZ oA rA Γ9 ++ b_s cB cC cI cJ cZ oA rA Γ9 ++ b_c cB cC cI cJ cZ oA rA Γ9 ++ b_t cB cC cI cJ cZ oA rA Γ9 ++ b_d cB cC cI cJ cZ oA rA Γ9)) rfl hD1
  have hN := hE.1
  have hS : va_S A s.heap s.heap [] := va_S.rf
  have hl := lv_entry ([.ref (oA 10), .int p0]) (n := 2) (Nat.le_of_ble_eq_true rfl)
  rw [lg_entry_eq]
  generalize (lg_sl ([.ref (oA 10), .int p0]) ++ List.replicate (2 - (lg_sl ([.ref (oA 10), .int p0])).length) Slot.unset).toArray = ls at hl ⊢
  have hl : lv_has ls 2 [(0, .ref (oA 10)), (1, .int p0)] := hl
  unfold F_X3_worldOp at hF
  refine lv_iload_n hx hb dX3_worldOp_0 rfl (lv_at hl 1 rfl) ?_
  by_cases c_1 : p0 = 27
  · have hF_2 := ipos c_1 hF
    clear hF
    refine lv_tableIn (off := 31) (tgt := 32) hx hb dX3_worldOp_1 (by rw [c_1]; decide +kernel) (by rw [c_1]; decide +kernel) (by rw [c_1]; decide +kernel) (by decide) ?_
    refine lv_aload_n hx hb dX3_worldOp_32 rfl (lv_at hl 0 rfl) ?_
    refine lv_aload_n hx hb dX3_worldOp_33 rfl (lv_at hl 0 rfl) ?_
    refine lv_aload_n hx hb dX3_worldOp_34 rfl (lv_at hl 0 rfl) ?_
    obtain ⟨u_3, hu_3, hF_4⟩ := Option.bind_eq_some_iff.mp hF_2
    clear hF_2
    have hPc := hP.sub (ws' := (b_k cB cC cI cJ cZ oA rA Γ ++ b_p cB cC cI cJ cZ oA rA Γ ++ b_o cB cC cI cJ cZ oA rA Γ ++ b_s cB cC cI cJ cZ oA rA Γ ++ b_c cB cC cI cJ cZ oA rA Γ ++ b_t cB cC cI cJ cZ oA rA Γ ++ b_d cB cC cI cJ cZ oA rA Γ)) [0, 1, 2, 3, 4, 5, 6, 7, 8, 9, 10, 11, 12, 13, 14, 15, 16, 17, 18, 19, 20, 21, 22, 23, 24, 25, 26, 27, 28, 29, 30, 31, 32, 33, 34, 35, 36, 37, 38, 39, 40, 41, 42, 43, 44, 45] rfl
    have hDc := (hDD Γ).sub (ws' := (b_k cB cC cI cJ cZ oA rA Γ ++ b_p cB cC cI cJ cZ oA rA Γ ++ b_o cB cC cI cJ cZ oA rA Γ ++ b_s cB cC cI cJ cZ oA rA Γ ++ b_c cB cC cI cJ cZ oA rA Γ ++ b_t cB cC cI cJ cZ oA rA Γ ++ b_d cB cC cI cJ cZ oA rA Γ)) [0, 1, 2, 3, 4, 5, 6, 7, 8, 9, 10, 11, 12, 13, 14, 15, 16, 17, 18, 19, 20, 21, 22, 23, 24, 25, 26, 27, 28, 29, 30, 31, 32, 33, 34, 35, 36, 37, 38, 39, 40, 41, 42, 43, 44, 45] (by decide +kernel) rfl
    have hFc := va_free (wc := (b_k cB cC cI cJ cZ oA rA Γ ++ b_p cB cC cI cJ cZ oA rA Γ ++ b_o cB cC cI cJ cZ oA rA Γ ++ b_s cB cC cI cJ cZ oA rA Γ ++ b_c cB cC cI cJ cZ oA rA Γ ++ b_t cB cC cI cJ cZ oA rA Γ ++ b_d cB cC cI cJ cZ oA rA Γ)) (hDD Γ) hS hA [0, 1, 2, 3, 4, 5, 6, 7, 8, 9, 10, 11, 12, 13, 14, 15, 16, 17, 18, 19, 20, 21, 22, 23, 24, 25, 26, 27, 28, 29, 30, 31, 32, 33, 34, 35, 36, 37, 38, 39, 40, 41, 42, 43, 44, 45] rfl
    refine g_ofi (wc := (b_k cB cC cI cJ cZ oA rA Γ ++ b_p cB cC cI cJ cZ oA rA Γ ++ b_o cB cC cI cJ cZ oA rA Γ ++ b_s cB cC cI cJ cZ oA rA Γ ++ b_c cB cC cI cJ cZ oA rA Γ ++ b_t cB cC cI cJ cZ oA rA Γ ++ b_d cB cC cI cJ cZ oA rA Γ)) (wr := ([] : va_W)) hP (hDD Γ) hS hFc [0, 1, 2, 3, 4, 5, 6, 7, 8, 9, 10, 11, 12, 13, 14, 15, 16, 17, 18, 19, 20, 21, 22, 23, 24, 25, 26, 27, 28, 29, 30, 31, 32, 33, 34, 35, 36, 37, 38, 39, 40, 41, 42, 43, 44, 45] [] rfl rfl (by decide +kernel) (by decide +kernel) (va_runV (As := []) (rest := [.ref (oA 10), .ref (oA 10)]) ⟨hx, hb, hml, hown, hts⟩ (k_X3_pop l dC dI cB cC cI cJ cZ cP oA rA s.heap.size  Γ _ hu_3) (cwV 0 hts (g_gV wq_1144 wq_1145 wq_2086 wq_11 wq_1146) rfl rfl rfl (by decide +kernel) ⟨Nat.le_of_ble_eq_true rfl, Nat.le_of_ble_eq_true rfl⟩) (g_preV g_bl0 hK hPc hDc hS hE hFc g_to0 (q0 := 0) (ci := 3) rfl rfl) rfl rfl hl.1 rfl (lv_room (Nat.le_of_ble_eq_true rfl)) dX3_worldOp_35 ⟨Nat.le_of_ble_eq_true rfl, Nat.le_of_ble_eq_true rfl⟩) (fun r9 u9 H locs hw9 hP' hD' hS => ?_)
    clear hPc hDc hFc
    subst hw9
    have hP : va_P (dC, dI) vwCl (b_k cB cC cI cJ cZ oA rA u_3.2 ++ b_p cB cC cI cJ cZ oA rA u_3.2 ++ b_o cB cC cI cJ cZ oA rA u_3.2 ++ b_s cB cC cI cJ cZ oA rA u_3.2 ++ b_c cB cC cI cJ cZ oA rA u_3.2 ++ b_t cB cC cI cJ cZ oA rA u_3.2 ++ b_d cB cC cI cJ cZ oA rA u_3.2) H := hP'
    clear hP' hD'
    obtain ⟨u_5, hu_5, hF_6⟩ := Option.bind_eq_some_iff.mp hF_4
    clear hF_4
    have hPc := hP.sub (ws' := (b_k cB cC cI cJ cZ oA rA u_3.2 ++ b_p cB cC cI cJ cZ oA rA u_3.2 ++ b_o cB cC cI cJ cZ oA rA u_3.2 ++ b_s cB cC cI cJ cZ oA rA u_3.2 ++ b_c cB cC cI cJ cZ oA rA u_3.2 ++ b_t cB cC cI cJ cZ oA rA u_3.2 ++ b_d cB cC cI cJ cZ oA rA u_3.2)) [0, 1, 2, 3, 4, 5, 6, 7, 8, 9, 10, 11, 12, 13, 14, 15, 16, 17, 18, 19, 20, 21, 22, 23, 24, 25, 26, 27, 28, 29, 30, 31, 32, 33, 34, 35, 36, 37, 38, 39, 40, 41, 42, 43, 44, 45] rfl
    have hDc := (hDD u_3.2).sub (ws' := (b_k cB cC cI cJ cZ oA rA u_3.2 ++ b_p cB cC cI cJ cZ oA rA u_3.2 ++ b_o cB cC cI cJ cZ oA rA u_3.2 ++ b_s cB cC cI cJ cZ oA rA u_3.2 ++ b_c cB cC cI cJ cZ oA rA u_3.2 ++ b_t cB cC cI cJ cZ oA rA u_3.2 ++ b_d cB cC cI cJ cZ oA rA u_3.2)) [0, 1, 2, 3, 4, 5, 6, 7, 8, 9, 10, 11, 12, 13, 14, 15, 16, 17, 18, 19, 20, 21, 22, 23, 24, 25, 26, 27, 28, 29, 30, 31, 32, 33, 34, 35, 36, 37, 38, 39, 40, 41, 42, 43, 44, 45] (by decide +kernel) rfl
    have hFc := va_free (wc := (b_k cB cC cI cJ cZ oA rA u_3.2 ++ b_p cB cC cI cJ cZ oA rA u_3.2 ++ b_o cB cC cI cJ cZ oA rA u_3.2 ++ b_s cB cC cI cJ cZ oA rA u_3.2 ++ b_c cB cC cI cJ cZ oA rA u_3.2 ++ b_t cB cC cI cJ cZ oA rA u_3.2 ++ b_d cB cC cI cJ cZ oA rA u_3.2)) (hDD u_3.2) hS hA [0, 1, 2, 3, 4, 5, 6, 7, 8, 9, 10, 11, 12, 13, 14, 15, 16, 17, 18, 19, 20, 21, 22, 23, 24, 25, 26, 27, 28, 29, 30, 31, 32, 33, 34, 35, 36, 37, 38, 39, 40, 41, 42, 43, 44, 45] rfl
    refine g_ofi (wc := (b_k cB cC cI cJ cZ oA rA u_3.2 ++ b_p cB cC cI cJ cZ oA rA u_3.2 ++ b_o cB cC cI cJ cZ oA rA u_3.2 ++ b_s cB cC cI cJ cZ oA rA u_3.2 ++ b_c cB cC cI cJ cZ oA rA u_3.2 ++ b_t cB cC cI cJ cZ oA rA u_3.2 ++ b_d cB cC cI cJ cZ oA rA u_3.2)) (wr := ([] : va_W)) hP (hDD u_3.2) hS hFc [0, 1, 2, 3, 4, 5, 6, 7, 8, 9, 10, 11, 12, 13, 14, 15, 16, 17, 18, 19, 20, 21, 22, 23, 24, 25, 26, 27, 28, 29, 30, 31, 32, 33, 34, 35, 36, 37, 38, 39, 40, 41, 42, 43, 44, 45] [] rfl rfl (by decide +kernel) (by decide +kernel) (va_runV (As := [.int u_3.1]) (rest := [.ref (oA 10)]) ⟨hx, hb, hml, hown, hts⟩ (k_X3_draw l dC dI cB cC cI cJ cZ cP oA rA H.size  u_3.1 u_3.2 _ hu_5) (cwV 1 hts (g_gV wq_1187 wq_1188 wq_2095 wq_11 wq_1189) rfl rfl rfl (by decide +kernel) ⟨Nat.le_of_ble_eq_true rfl, Nat.le_of_ble_eq_true rfl⟩) (g_preV g_bl0 hK hPc hDc hS hE hFc g_to0 (q0 := 0) (ci := 3) rfl rfl) rfl rfl hl.1 rfl (lv_room (Nat.le_of_ble_eq_true rfl)) dX3_worldOp_38 ⟨Nat.le_of_ble_eq_true rfl, Nat.le_of_ble_eq_true rfl⟩) (fun r9 u9 H locs hw9 hP' hD' hS => ?_)
    clear hPc hDc hFc
    subst hw9
    have hP : va_P (dC, dI) vwCl (b_k cB cC cI cJ cZ oA rA u_5.2 ++ b_p cB cC cI cJ cZ oA rA u_5.2 ++ b_o cB cC cI cJ cZ oA rA u_5.2 ++ b_s cB cC cI cJ cZ oA rA u_5.2 ++ b_c cB cC cI cJ cZ oA rA u_5.2 ++ b_t cB cC cI cJ cZ oA rA u_5.2 ++ b_d cB cC cI cJ cZ oA rA u_5.2) H := hP'
    clear hP' hD'
    obtain ⟨u_7, hu_7, hF_8⟩ := Option.bind_eq_some_iff.mp hF_6
    clear hF_6
    have hPc := hP.sub (ws' := (b_k cB cC cI cJ cZ oA rA u_5.2 ++ b_p cB cC cI cJ cZ oA rA u_5.2 ++ b_o cB cC cI cJ cZ oA rA u_5.2 ++ b_s cB cC cI cJ cZ oA rA u_5.2 ++ b_c cB cC cI cJ cZ oA rA u_5.2 ++ b_t cB cC cI cJ cZ oA rA u_5.2 ++ b_d cB cC cI cJ cZ oA rA u_5.2)) [0, 1, 2, 3, 4, 5, 6, 7, 8, 9, 10, 11, 12, 13, 14, 15, 16, 17, 18, 19, 20, 21, 22, 23, 24, 25, 26, 27, 28, 29, 30, 31, 32, 33, 34, 35, 36, 37, 38, 39, 40, 41, 42, 43, 44, 45] rfl
    have hDc := (hDD u_5.2).sub (ws' := (b_k cB cC cI cJ cZ oA rA u_5.2 ++ b_p cB cC cI cJ cZ oA rA u_5.2 ++ b_o cB cC cI cJ cZ oA rA u_5.2 ++ b_s cB cC cI cJ cZ oA rA u_5.2 ++ b_c cB cC cI cJ cZ oA rA u_5.2 ++ b_t cB cC cI cJ cZ oA rA u_5.2 ++ b_d cB cC cI cJ cZ oA rA u_5.2)) [0, 1, 2, 3, 4, 5, 6, 7, 8, 9, 10, 11, 12, 13, 14, 15, 16, 17, 18, 19, 20, 21, 22, 23, 24, 25, 26, 27, 28, 29, 30, 31, 32, 33, 34, 35, 36, 37, 38, 39, 40, 41, 42, 43, 44, 45] (by decide +kernel) rfl
    have hFc := va_free (wc := (b_k cB cC cI cJ cZ oA rA u_5.2 ++ b_p cB cC cI cJ cZ oA rA u_5.2 ++ b_o cB cC cI cJ cZ oA rA u_5.2 ++ b_s cB cC cI cJ cZ oA rA u_5.2 ++ b_c cB cC cI cJ cZ oA rA u_5.2 ++ b_t cB cC cI cJ cZ oA rA u_5.2 ++ b_d cB cC cI cJ cZ oA rA u_5.2)) (hDD u_5.2) hS hA [0, 1, 2, 3, 4, 5, 6, 7, 8, 9, 10, 11, 12, 13, 14, 15, 16, 17, 18, 19, 20, 21, 22, 23, 24, 25, 26, 27, 28, 29, 30, 31, 32, 33, 34, 35, 36, 37, 38, 39, 40, 41, 42, 43, 44, 45] rfl
    refine g_ofv (wc := (b_k cB cC cI cJ cZ oA rA u_5.2 ++ b_p cB cC cI cJ cZ oA rA u_5.2 ++ b_o cB cC cI cJ cZ oA rA u_5.2 ++ b_s cB cC cI cJ cZ oA rA u_5.2 ++ b_c cB cC cI cJ cZ oA rA u_5.2 ++ b_t cB cC cI cJ cZ oA rA u_5.2 ++ b_d cB cC cI cJ cZ oA rA u_5.2)) (wr := ([] : va_W)) hP (hDD u_5.2) hS hFc [0, 1, 2, 3, 4, 5, 6, 7, 8, 9, 10, 11, 12, 13, 14, 15, 16, 17, 18, 19, 20, 21, 22, 23, 24, 25, 26, 27, 28, 29, 30, 31, 32, 33, 34, 35, 36, 37, 38, 39, 40, 41, 42, 43, 44, 45] [] rfl rfl (by decide +kernel) (by decide +kernel) (va_runV (As := [.int u_5.1]) (rest := []) ⟨hx, hb, hml, hown, hts⟩ (k_X3_push l dC dI cB cC cI cJ cZ cP oA rA H.size  u_5.1 u_5.2 _ hu_7) (cwV 1 hts (g_gV wq_1141 wq_1142 wq_2085 wq_11 wq_1143) rfl rfl rfl (by decide +kernel) ⟨Nat.le_of_ble_eq_true rfl, Nat.le_of_ble_eq_true rfl⟩) (g_preV g_bl0 hK hPc hDc hS hE hFc g_to0 (q0 := 0) (ci := 3) rfl rfl) rfl rfl hl.1 rfl (lv_room (Nat.le_of_ble_eq_true rfl)) dX3_worldOp_41 ⟨Nat.le_of_ble_eq_true rfl, Nat.le_of_ble_eq_true rfl⟩) (fun u9 H locs hw9 hP' hD' hS => ?_)
    clear hPc hDc hFc
    have hP : va_P (dC, dI) vwCl (b_k cB cC cI cJ cZ oA rA u_7.2 ++ b_p cB cC cI cJ cZ oA rA u_7.2 ++ b_o cB cC cI cJ cZ oA rA u_7.2 ++ b_s cB cC cI cJ cZ oA rA u_7.2 ++ b_c cB cC cI cJ cZ oA rA u_7.2 ++ b_t cB cC cI cJ cZ oA rA u_7.2 ++ b_d cB cC cI cJ cZ oA rA u_7.2) H := hP'
    clear hP' hD'
    refine lv_goto (tgt := 94) hx hb dX3_worldOp_44 (by decide) ?_
    have h9 := Option.some.inj hF_8
    subst h9
    exact W.vret hx hb hr (fun t ht hW => ⟨⟨(), rfl, trivial, m_end ht hP, hDD _⟩, hS.F ht⟩) hS.2.2 dX3_worldOp_94
  have hF_9 := ineg c_1 hF
  clear hF
  by_cases c_10 : p0 = 28
  · have hF_11 := ipos c_10 hF_9
    clear hF_9
    refine lv_tableIn (off := 46) (tgt := 47) hx hb dX3_worldOp_1 (by rw [c_10]; decide +kernel) (by rw [c_10]; decide +kernel) (by rw [c_10]; decide +kernel) (by decide) ?_
    refine lv_aload_n hx hb dX3_worldOp_47 rfl (lv_at hl 0 rfl) ?_
    refine lv_aload_n hx hb dX3_worldOp_48 rfl (lv_at hl 0 rfl) ?_
    refine va_get (D := (dC, dI)) (ci := 3) (v := .ref (oA 9)) (C := RX3) (T := TX3) (N := 16) hx hb hts ii_X3 hown hK hP 0 rfl rfl 0 (by decide) (hts (.fieldLink RX3 29 "StoryHouse$Machine" "play" "LStoryHouse$Play;") wq_259) (fun _ h9 => h9) rfl dX3_worldOp_49 ?_
    obtain ⟨u_12, hu_12, hF_13⟩ := Option.bind_eq_some_iff.mp hF_11
    clear hF_11
    have hPc := hP.sub (ws' := (b_p cB cC cI cJ cZ oA rA Γ)) [5, 6, 7, 8, 9, 10, 11, 12] rfl
    have hDc := (hDD Γ).sub (ws' := (b_p cB cC cI cJ cZ oA rA Γ)) [5, 6, 7, 8, 9, 10, 11, 12] (by decide +kernel) rfl
    have hFc := va_free (wc := (b_p cB cC cI cJ cZ oA rA Γ)) (hDD Γ) hS hA [5, 6, 7, 8, 9, 10, 11, 12] rfl
    refine g_ofi (wc := (b_p cB cC cI cJ cZ oA rA Γ)) (wr := (b_k cB cC cI cJ cZ oA rA Γ ++ b_o cB cC cI cJ cZ oA rA Γ ++ b_s cB cC cI cJ cZ oA rA Γ ++ b_c cB cC cI cJ cZ oA rA Γ ++ b_t cB cC cI cJ cZ oA rA Γ ++ b_d cB cC cI cJ cZ oA rA Γ)) hP (hDD Γ) hS hFc [5, 6, 7, 8, 9, 10, 11, 12] [0, 1, 2, 3, 4, 13, 14, 15, 16, 17, 18, 19, 20, 21, 22, 23, 24, 25, 26, 27, 28, 29, 30, 31, 32, 33, 34, 35, 36, 37, 38, 39, 40, 41, 42, 43, 44, 45] rfl rfl (by decide +kernel) (by decide +kernel) (va_runV (As := []) (rest := [.ref (oA 10)]) ⟨hx, hb, hml, hown, hts⟩ (k_X6_here l dC dI cB cC cI cJ cZ cP oA rA s.heap.size  Γ _ hu_12) (cwV 0 hts (g_gV wq_1191 wq_983 wq_984 wq_10 wq_985) rfl rfl rfl (by decide +kernel) ⟨Nat.le_of_ble_eq_true rfl, Nat.le_of_ble_eq_true rfl⟩) (g_preV g_bl0 hK hPc hDc hS hE hFc g_to0 (q0 := 0) (ci := 6) rfl rfl) rfl rfl hl.1 rfl (lv_room (Nat.le_of_ble_eq_true rfl)) dX3_worldOp_52 ⟨Nat.le_of_ble_eq_true rfl, Nat.le_of_ble_eq_true rfl⟩) (fun r9 u9 H locs hw9 hP' hD' hS => ?_)
    clear hPc hDc hFc
    subst hw9
    obtain ⟨σ_14, eσ_14, hF_15⟩ := bnd_e hF_13
    clear hF_13
    have hP : va_P (dC, dI) vwCl (b_k cB cC cI cJ cZ oA rA σ_14 ++ b_p cB cC cI cJ cZ oA rA σ_14 ++ b_o cB cC cI cJ cZ oA rA σ_14 ++ b_s cB cC cI cJ cZ oA rA σ_14 ++ b_c cB cC cI cJ cZ oA rA σ_14 ++ b_t cB cC cI cJ cZ oA rA σ_14 ++ b_d cB cC cI cJ cZ oA rA σ_14) H := by rw [eσ_14]; exact hP'.sub [0, 1, 2, 3, 4, 38, 39, 40, 41, 42, 43, 44, 45, 5, 6, 7, 8, 9, 10, 11, 12, 13, 14, 15, 16, 17, 18, 19, 20, 21, 22, 23, 24, 25, 26, 27, 28, 29, 30, 31, 32, 33, 34, 35, 36, 37] rfl
    clear hP' hD'
    obtain ⟨u_16, hu_16, hF_17⟩ := Option.bind_eq_some_iff.mp hF_15
    clear hF_15
    have hPc := hP.sub (ws' := (b_k cB cC cI cJ cZ oA rA σ_14 ++ b_p cB cC cI cJ cZ oA rA σ_14 ++ b_o cB cC cI cJ cZ oA rA σ_14 ++ b_s cB cC cI cJ cZ oA rA σ_14 ++ b_c cB cC cI cJ cZ oA rA σ_14 ++ b_t cB cC cI cJ cZ oA rA σ_14 ++ b_d cB cC cI cJ cZ oA rA σ_14)) [0, 1, 2, 3, 4, 5, 6, 7, 8, 9, 10, 11, 12, 13, 14, 15, 16, 17, 18, 19, 20, 21, 22, 23, 24, 25, 26, 27, 28, 29, 30, 31, 32, 33, 34, 35, 36, 37, 38, 39, 40, 41, 42, 43, 44, 45] rfl
    have hDc := (hDD σ_14).sub (ws' := (b_k cB cC cI cJ cZ oA rA σ_14 ++ b_p cB cC cI cJ cZ oA rA σ_14 ++ b_o cB cC cI cJ cZ oA rA σ_14 ++ b_s cB cC cI cJ cZ oA rA σ_14 ++ b_c cB cC cI cJ cZ oA rA σ_14 ++ b_t cB cC cI cJ cZ oA rA σ_14 ++ b_d cB cC cI cJ cZ oA rA σ_14)) [0, 1, 2, 3, 4, 5, 6, 7, 8, 9, 10, 11, 12, 13, 14, 15, 16, 17, 18, 19, 20, 21, 22, 23, 24, 25, 26, 27, 28, 29, 30, 31, 32, 33, 34, 35, 36, 37, 38, 39, 40, 41, 42, 43, 44, 45] (by decide +kernel) rfl
    have hFc := va_free (wc := (b_k cB cC cI cJ cZ oA rA σ_14 ++ b_p cB cC cI cJ cZ oA rA σ_14 ++ b_o cB cC cI cJ cZ oA rA σ_14 ++ b_s cB cC cI cJ cZ oA rA σ_14 ++ b_c cB cC cI cJ cZ oA rA σ_14 ++ b_t cB cC cI cJ cZ oA rA σ_14 ++ b_d cB cC cI cJ cZ oA rA σ_14)) (hDD σ_14) hS hA [0, 1, 2, 3, 4, 5, 6, 7, 8, 9, 10, 11, 12, 13, 14, 15, 16, 17, 18, 19, 20, 21, 22, 23, 24, 25, 26, 27, 28, 29, 30, 31, 32, 33, 34, 35, 36, 37, 38, 39, 40, 41, 42, 43, 44, 45] rfl
    refine g_ofv (wc := (b_k cB cC cI cJ cZ oA rA σ_14 ++ b_p cB cC cI cJ cZ oA rA σ_14 ++ b_o cB cC cI cJ cZ oA rA σ_14 ++ b_s cB cC cI cJ cZ oA rA σ_14 ++ b_c cB cC cI cJ cZ oA rA σ_14 ++ b_t cB cC cI cJ cZ oA rA σ_14 ++ b_d cB cC cI cJ cZ oA rA σ_14)) (wr := ([] : va_W)) hP (hDD σ_14) hS hFc [0, 1, 2, 3, 4, 5, 6, 7, 8, 9, 10, 11, 12, 13, 14, 15, 16, 17, 18, 19, 20, 21, 22, 23, 24, 25, 26, 27, 28, 29, 30, 31, 32, 33, 34, 35, 36, 37, 38, 39, 40, 41, 42, 43, 44, 45] [] rfl rfl (by decide +kernel) (by decide +kernel) (va_runV (As := [.int u_12.1]) (rest := []) ⟨hx, hb, hml, hown, hts⟩ (k_X3_push l dC dI cB cC cI cJ cZ cP oA rA H.size  u_12.1 σ_14 _ hu_16) (cwV 1 hts (g_gV wq_1141 wq_1142 wq_2085 wq_11 wq_1143) rfl rfl rfl (by decide +kernel) ⟨Nat.le_of_ble_eq_true rfl, Nat.le_of_ble_eq_true rfl⟩) (g_preV g_bl0 hK hPc hDc hS hE hFc g_to0 (q0 := 0) (ci := 3) rfl rfl) rfl rfl hl.1 rfl (lv_room (Nat.le_of_ble_eq_true rfl)) dX3_worldOp_55 ⟨Nat.le_of_ble_eq_true rfl, Nat.le_of_ble_eq_true rfl⟩) (fun u9 H locs hw9 hP' hD' hS => ?_)
    clear hPc hDc hFc
    have hP : va_P (dC, dI) vwCl (b_k cB cC cI cJ cZ oA rA u_16.2 ++ b_p cB cC cI cJ cZ oA rA u_16.2 ++ b_o cB cC cI cJ cZ oA rA u_16.2 ++ b_s cB cC cI cJ cZ oA rA u_16.2 ++ b_c cB cC cI cJ cZ oA rA u_16.2 ++ b_t cB cC cI cJ cZ oA rA u_16.2 ++ b_d cB cC cI cJ cZ oA rA u_16.2) H := hP'
    clear hP' hD'
    refine lv_goto (tgt := 94) hx hb dX3_worldOp_58 (by decide) ?_
    have h9 := Option.some.inj hF_17
    subst h9
    exact W.vret hx hb hr (fun t ht hW => ⟨⟨(), rfl, trivial, m_end ht hP, hDD _⟩, hS.F ht⟩) hS.2.2 dX3_worldOp_94
  have hF_18 := ineg c_10 hF_9
  clear hF_9
  by_cases c_19 : p0 = 29
  · have hF_20 := ipos c_19 hF_18
    clear hF_18
    refine lv_tableIn (off := 60) (tgt := 61) hx hb dX3_worldOp_1 (by rw [c_19]; decide +kernel) (by rw [c_19]; decide +kernel) (by rw [c_19]; decide +kernel) (by decide) ?_
    refine lv_aload_n hx hb dX3_worldOp_61 rfl (lv_at hl 0 rfl) ?_
    refine lv_aload_n hx hb dX3_worldOp_62 rfl (lv_at hl 0 rfl) ?_
    refine va_get (D := (dC, dI)) (ci := 3) (v := .int ((Γ 10).1 3)) (C := RX3) (T := TX3) (N := 16) hx hb hts ii_X3 hown hK hP 0 rfl rfl 3 (by decide) (hts (.fieldLink RX3 189 "StoryHouse$Machine" "noun" "I") wq_264) (fun _ h9 => h9) rfl dX3_worldOp_63 ?_
    obtain ⟨u_21, hu_21, hF_22⟩ := Option.bind_eq_some_iff.mp hF_20
    clear hF_20
    have hPc := hP.sub (ws' := (b_k cB cC cI cJ cZ oA rA Γ ++ b_p cB cC cI cJ cZ oA rA Γ ++ b_o cB cC cI cJ cZ oA rA Γ ++ b_s cB cC cI cJ cZ oA rA Γ ++ b_c cB cC cI cJ cZ oA rA Γ ++ b_t cB cC cI cJ cZ oA rA Γ ++ b_d cB cC cI cJ cZ oA rA Γ)) [0, 1, 2, 3, 4, 5, 6, 7, 8, 9, 10, 11, 12, 13, 14, 15, 16, 17, 18, 19, 20, 21, 22, 23, 24, 25, 26, 27, 28, 29, 30, 31, 32, 33, 34, 35, 36, 37, 38, 39, 40, 41, 42, 43, 44, 45] rfl
    have hDc := (hDD Γ).sub (ws' := (b_k cB cC cI cJ cZ oA rA Γ ++ b_p cB cC cI cJ cZ oA rA Γ ++ b_o cB cC cI cJ cZ oA rA Γ ++ b_s cB cC cI cJ cZ oA rA Γ ++ b_c cB cC cI cJ cZ oA rA Γ ++ b_t cB cC cI cJ cZ oA rA Γ ++ b_d cB cC cI cJ cZ oA rA Γ)) [0, 1, 2, 3, 4, 5, 6, 7, 8, 9, 10, 11, 12, 13, 14, 15, 16, 17, 18, 19, 20, 21, 22, 23, 24, 25, 26, 27, 28, 29, 30, 31, 32, 33, 34, 35, 36, 37, 38, 39, 40, 41, 42, 43, 44, 45] (by decide +kernel) rfl
    have hFc := va_free (wc := (b_k cB cC cI cJ cZ oA rA Γ ++ b_p cB cC cI cJ cZ oA rA Γ ++ b_o cB cC cI cJ cZ oA rA Γ ++ b_s cB cC cI cJ cZ oA rA Γ ++ b_c cB cC cI cJ cZ oA rA Γ ++ b_t cB cC cI cJ cZ oA rA Γ ++ b_d cB cC cI cJ cZ oA rA Γ)) (hDD Γ) hS hA [0, 1, 2, 3, 4, 5, 6, 7, 8, 9, 10, 11, 12, 13, 14, 15, 16, 17, 18, 19, 20, 21, 22, 23, 24, 25, 26, 27, 28, 29, 30, 31, 32, 33, 34, 35, 36, 37, 38, 39, 40, 41, 42, 43, 44, 45] rfl
    refine g_ofv (wc := (b_k cB cC cI cJ cZ oA rA Γ ++ b_p cB cC cI cJ cZ oA rA Γ ++ b_o cB cC cI cJ cZ oA rA Γ ++ b_s cB cC cI cJ cZ oA rA Γ ++ b_c cB cC cI cJ cZ oA rA Γ ++ b_t cB cC cI cJ cZ oA rA Γ ++ b_d cB cC cI cJ cZ oA rA Γ)) (wr := ([] : va_W)) hP (hDD Γ) hS hFc [0, 1, 2, 3, 4, 5, 6, 7, 8, 9, 10, 11, 12, 13, 14, 15, 16, 17, 18, 19, 20, 21, 22, 23, 24, 25, 26, 27, 28, 29, 30, 31, 32, 33, 34, 35, 36, 37, 38, 39, 40, 41, 42, 43, 44, 45] [] rfl rfl (by decide +kernel) (by decide +kernel) (va_runV (As := [.int ((Γ 10).1 3)]) (rest := []) ⟨hx, hb, hml, hown, hts⟩ (k_X3_push l dC dI cB cC cI cJ cZ cP oA rA s.heap.size  ((Γ 10).1 3) Γ _ hu_21) (cwV 1 hts (g_gV wq_1141 wq_1142 wq_2085 wq_11 wq_1143) rfl rfl rfl (by decide +kernel) ⟨Nat.le_of_ble_eq_true rfl, Nat.le_of_ble_eq_true rfl⟩) (g_preV g_bl0 hK hPc hDc hS hE hFc g_to0 (q0 := 0) (ci := 3) rfl rfl) rfl rfl hl.1 rfl (lv_room (Nat.le_of_ble_eq_true rfl)) dX3_worldOp_66 ⟨Nat.le_of_ble_eq_true rfl, Nat.le_of_ble_eq_true rfl⟩) (fun u9 H locs hw9 hP' hD' hS => ?_)
    clear hPc hDc hFc
    have hP : va_P (dC, dI) vwCl (b_k cB cC cI cJ cZ oA rA u_21.2 ++ b_p cB cC cI cJ cZ oA rA u_21.2 ++ b_o cB cC cI cJ cZ oA rA u_21.2 ++ b_s cB cC cI cJ cZ oA rA u_21.2 ++ b_c cB cC cI cJ cZ oA rA u_21.2 ++ b_t cB cC cI cJ cZ oA rA u_21.2 ++ b_d cB cC cI cJ cZ oA rA u_21.2) H := hP'
    clear hP' hD'
    refine lv_goto (tgt := 94) hx hb dX3_worldOp_69 (by decide) ?_
    have h9 := Option.some.inj hF_22
    subst h9
    exact W.vret hx hb hr (fun t ht hW => ⟨⟨(), rfl, trivial, m_end ht hP, hDD _⟩, hS.F ht⟩) hS.2.2 dX3_worldOp_94
  have hF_23 := ineg c_19 hF_18
  clear hF_18
  by_cases c_24 : p0 = 30
  · have hF_25 := ipos c_24 hF_23
    clear hF_23
    refine lv_tableIn (off := 71) (tgt := 72) hx hb dX3_worldOp_1 (by rw [c_24]; decide +kernel) (by rw [c_24]; decide +kernel) (by rw [c_24]; decide +kernel) (by decide) ?_
    refine lv_aload_n hx hb dX3_worldOp_72 rfl (lv_at hl 0 rfl) ?_
    refine lv_aload_n hx hb dX3_worldOp_73 rfl (lv_at hl 0 rfl) ?_
    refine va_get (D := (dC, dI)) (ci := 3) (v := .int ((Γ 10).1 4)) (C := RX3) (T := TX3) (N := 16) hx hb hts ii_X3 hown hK hP 0 rfl rfl 4 (by decide) (hts (.fieldLink RX3 192 "StoryHouse$Machine" "second" "I") wq_266) (fun _ h9 => h9) rfl dX3_worldOp_74 ?_
    obtain ⟨u_26, hu_26, hF_27⟩ := Option.bind_eq_some_iff.mp hF_25
    clear hF_25
    have hPc := hP.sub (ws' := (b_k cB cC cI cJ cZ oA rA Γ ++ b_p cB cC cI cJ cZ oA rA Γ ++ b_o cB cC cI cJ cZ oA rA Γ ++ b_s cB cC cI cJ cZ oA rA Γ ++ b_c cB cC cI cJ cZ oA rA Γ ++ b_t cB cC cI cJ cZ oA rA Γ ++ b_d cB cC cI cJ cZ oA rA Γ)) [0, 1, 2, 3, 4, 5, 6, 7, 8, 9, 10, 11, 12, 13, 14, 15, 16, 17, 18, 19, 20, 21, 22, 23, 24, 25, 26, 27, 28, 29, 30, 31, 32, 33, 34, 35, 36, 37, 38, 39, 40, 41, 42, 43, 44, 45] rfl
    have hDc := (hDD Γ).sub (ws' := (b_k cB cC cI cJ cZ oA rA Γ ++ b_p cB cC cI cJ cZ oA rA Γ ++ b_o cB cC cI cJ cZ oA rA Γ ++ b_s cB cC cI cJ cZ oA rA Γ ++ b_c cB cC cI cJ cZ oA rA Γ ++ b_t cB cC cI cJ cZ oA rA Γ ++ b_d cB cC cI cJ cZ oA rA Γ)) [0, 1, 2, 3, 4, 5, 6, 7, 8, 9, 10, 11, 12, 13, 14, 15, 16, 17, 18, 19, 20, 21, 22, 23, 24, 25, 26, 27, 28, 29, 30, 31, 32, 33, 34, 35, 36, 37, 38, 39, 40, 41, 42, 43, 44, 45] (by decide +kernel) rfl
    have hFc := va_free (wc := (b_k cB cC cI cJ cZ oA rA Γ ++ b_p cB cC cI cJ cZ oA rA Γ ++ b_o cB cC cI cJ cZ oA rA Γ ++ b_s cB cC cI cJ cZ oA rA Γ ++ b_c cB cC cI cJ cZ oA rA Γ ++ b_t cB cC cI cJ cZ oA rA Γ ++ b_d cB cC cI cJ cZ oA rA Γ)) (hDD Γ) hS hA [0, 1, 2, 3, 4, 5, 6, 7, 8, 9, 10, 11, 12, 13, 14, 15, 16, 17, 18, 19, 20, 21, 22, 23, 24, 25, 26, 27, 28, 29, 30, 31, 32, 33, 34, 35, 36, 37, 38, 39, 40, 41, 42, 43, 44, 45] rfl
    refine g_ofv (wc := (b_k cB cC cI cJ cZ oA rA Γ ++ b_p cB cC cI cJ cZ oA rA Γ ++ b_o cB cC cI cJ cZ oA rA Γ ++ b_s cB cC cI cJ cZ oA rA Γ ++ b_c cB cC cI cJ cZ oA rA Γ ++ b_t cB cC cI cJ cZ oA rA Γ ++ b_d cB cC cI cJ cZ oA rA Γ)) (wr := ([] : va_W)) hP (hDD Γ) hS hFc [0, 1, 2, 3, 4, 5, 6, 7, 8, 9, 10, 11, 12, 13, 14, 15, 16, 17, 18, 19, 20, 21, 22, 23, 24, 25, 26, 27, 28, 29, 30, 31, 32, 33, 34, 35, 36, 37, 38, 39, 40, 41, 42, 43, 44, 45] [] rfl rfl (by decide +kernel) (by decide +kernel) (va_runV (As := [.int ((Γ 10).1 4)]) (rest := []) ⟨hx, hb, hml, hown, hts⟩ (k_X3_push l dC dI cB cC cI cJ cZ cP oA rA s.heap.size  ((Γ 10).1 4) Γ _ hu_26) (cwV 1 hts (g_gV wq_1141 wq_1142 wq_2085 wq_11 wq_1143) rfl rfl rfl (by decide +kernel) ⟨Nat.le_of_ble_eq_true rfl, Nat.le_of_ble_eq_true rfl⟩) (g_preV g_bl0 hK hPc hDc hS hE hFc g_to0 (q0 := 0) (ci := 3) rfl rfl) rfl rfl hl.1 rfl (lv_room (Nat.le_of_ble_eq_true rfl)) dX3_worldOp_77 ⟨Nat.le_of_ble_eq_true rfl, Nat.le_of_ble_eq_true rfl⟩) (fun u9 H locs hw9 hP' hD' hS => ?_)
    clear hPc hDc hFc
    have hP : va_P (dC, dI) vwCl (b_k cB cC cI cJ cZ oA rA u_26.2 ++ b_p cB cC cI cJ cZ oA rA u_26.2 ++ b_o cB cC cI cJ cZ oA rA u_26.2 ++ b_s cB cC cI cJ cZ oA rA u_26.2 ++ b_c cB cC cI cJ cZ oA rA u_26.2 ++ b_t cB cC cI cJ cZ oA rA u_26.2 ++ b_d cB cC cI cJ cZ oA rA u_26.2) H := hP'
    clear hP' hD'
    refine lv_goto (tgt := 94) hx hb dX3_worldOp_80 (by decide) ?_
    have h9 := Option.some.inj hF_27
    subst h9
    exact W.vret hx hb hr (fun t ht hW => ⟨⟨(), rfl, trivial, m_end ht hP, hDD _⟩, hS.F ht⟩) hS.2.2 dX3_worldOp_94
  have hF_28 := ineg c_24 hF_23
  clear hF_23
  refine m_tabD (lo := 27) (n := 4) (tgt := 83) hx hb dX3_worldOp_1 (by decide +kernel) (by decide) (fun j9 h9 e9 => by
      match j9, h9 with
      | 0, _ => exact absurd ((by rw [e9]; decide +kernel)) c_1
      | 1, _ => exact absurd ((by rw [e9]; decide +kernel)) c_10
      | 2, _ => exact absurd ((by rw [e9]; decide +kernel)) c_19
      | 3, _ => exact absurd ((by rw [e9]; decide +kernel)) c_24
      | n9 + 4, h9 => exact absurd h9 (by omega)) ?_
  refine lv_aload_n hx hb dX3_worldOp_83 rfl (lv_at hl 0 rfl) ?_
  refine va_get (D := (dC, dI)) (ci := 3) (v := .ref (oA 8)) (C := RX3) (T := TX3) (N := 16) hx hb hts ii_X3 hown hK hP 0 rfl rfl 1 (by decide) (hts (.fieldLink RX3 33 "StoryHouse$Machine" "told" "LStoryHouse$Out;") wq_260) (fun _ h9 => h9) rfl dX3_worldOp_84 ?_
  refine lv_aload_n hx hb dX3_worldOp_87 rfl (lv_at hl 0 rfl) ?_
  obtain ⟨u_29, hu_29, hF_30⟩ := Option.bind_eq_some_iff.mp hF_28
  clear hF_28
  have hPc := hP.sub (ws' := (b_k cB cC cI cJ cZ oA rA Γ ++ b_p cB cC cI cJ cZ oA rA Γ ++ b_o cB cC cI cJ cZ oA rA Γ ++ b_s cB cC cI cJ cZ oA rA Γ ++ b_c cB cC cI cJ cZ oA rA Γ ++ b_t cB cC cI cJ cZ oA rA Γ ++ b_d cB cC cI cJ cZ oA rA Γ)) [0, 1, 2, 3, 4, 5, 6, 7, 8, 9, 10, 11, 12, 13, 14, 15, 16, 17, 18, 19, 20, 21, 22, 23, 24, 25, 26, 27, 28, 29, 30, 31, 32, 33, 34, 35, 36, 37, 38, 39, 40, 41, 42, 43, 44, 45] rfl
  have hDc := (hDD Γ).sub (ws' := (b_k cB cC cI cJ cZ oA rA Γ ++ b_p cB cC cI cJ cZ oA rA Γ ++ b_o cB cC cI cJ cZ oA rA Γ ++ b_s cB cC cI cJ cZ oA rA Γ ++ b_c cB cC cI cJ cZ oA rA Γ ++ b_t cB cC cI cJ cZ oA rA Γ ++ b_d cB cC cI cJ cZ oA rA Γ)) [0, 1, 2, 3, 4, 5, 6, 7, 8, 9, 10, 11, 12, 13, 14, 15, 16, 17, 18, 19, 20, 21, 22, 23, 24, 25, 26, 27, 28, 29, 30, 31, 32, 33, 34, 35, 36, 37, 38, 39, 40, 41, 42, 43, 44, 45] (by decide +kernel) rfl
  have hFc := va_free (wc := (b_k cB cC cI cJ cZ oA rA Γ ++ b_p cB cC cI cJ cZ oA rA Γ ++ b_o cB cC cI cJ cZ oA rA Γ ++ b_s cB cC cI cJ cZ oA rA Γ ++ b_c cB cC cI cJ cZ oA rA Γ ++ b_t cB cC cI cJ cZ oA rA Γ ++ b_d cB cC cI cJ cZ oA rA Γ)) (hDD Γ) hS hA [0, 1, 2, 3, 4, 5, 6, 7, 8, 9, 10, 11, 12, 13, 14, 15, 16, 17, 18, 19, 20, 21, 22, 23, 24, 25, 26, 27, 28, 29, 30, 31, 32, 33, 34, 35, 36, 37, 38, 39, 40, 41, 42, 43, 44, 45] rfl
  refine g_ofi (wc := (b_k cB cC cI cJ cZ oA rA Γ ++ b_p cB cC cI cJ cZ oA rA Γ ++ b_o cB cC cI cJ cZ oA rA Γ ++ b_s cB cC cI cJ cZ oA rA Γ ++ b_c cB cC cI cJ cZ oA rA Γ ++ b_t cB cC cI cJ cZ oA rA Γ ++ b_d cB cC cI cJ cZ oA rA Γ)) (wr := ([] : va_W)) hP (hDD Γ) hS hFc [0, 1, 2, 3, 4, 5, 6, 7, 8, 9, 10, 11, 12, 13, 14, 15, 16, 17, 18, 19, 20, 21, 22, 23, 24, 25, 26, 27, 28, 29, 30, 31, 32, 33, 34, 35, 36, 37, 38, 39, 40, 41, 42, 43, 44, 45] [] rfl rfl (by decide +kernel) (by decide +kernel) (va_runV (As := []) (rest := [.ref (oA 8)]) ⟨hx, hb, hml, hown, hts⟩ (k_X3_pop l dC dI cB cC cI cJ cZ cP oA rA s.heap.size  Γ _ hu_29) (cwV 0 hts (g_gV wq_1144 wq_1145 wq_2086 wq_11 wq_1146) rfl rfl rfl (by decide +kernel) ⟨Nat.le_of_ble_eq_true rfl, Nat.le_of_ble_eq_true rfl⟩) (g_preV g_bl0 hK hPc hDc hS hE hFc g_to0 (q0 := 0) (ci := 3) rfl rfl) rfl rfl hl.1 rfl (lv_room (Nat.le_of_ble_eq_true rfl)) dX3_worldOp_88 ⟨Nat.le_of_ble_eq_true rfl, Nat.le_of_ble_eq_true rfl⟩) (fun r9 u9 H locs hw9 hP' hD' hS => ?_)
  clear hPc hDc hFc
  subst hw9
  have hP : va_P (dC, dI) vwCl (b_k cB cC cI cJ cZ oA rA u_29.2 ++ b_p cB cC cI cJ cZ oA rA u_29.2 ++ b_o cB cC cI cJ cZ oA rA u_29.2 ++ b_s cB cC cI cJ cZ oA rA u_29.2 ++ b_c cB cC cI cJ cZ oA rA u_29.2 ++ b_t cB cC cI cJ cZ oA rA u_29.2 ++ b_d cB cC cI cJ cZ oA rA u_29.2) H := hP'
  clear hP' hD'
  obtain ⟨u_31, hu_31, hF_32⟩ := Option.bind_eq_some_iff.mp hF_30
  clear hF_30
  have hPc := hP.sub (ws' := (b_o cB cC cI cJ cZ oA rA u_29.2)) [13, 14] rfl
  have hDc := (hDD u_29.2).sub (ws' := (b_o cB cC cI cJ cZ oA rA u_29.2)) [13, 14] (by decide +kernel) rfl
  have hFc := va_free (wc := (b_o cB cC cI cJ cZ oA rA u_29.2)) (hDD u_29.2) hS hA [13, 14] rfl
  refine g_ofv (wc := (b_o cB cC cI cJ cZ oA rA u_29.2)) (wr := (b_k cB cC cI cJ cZ oA rA u_29.2 ++ b_p cB cC cI cJ cZ oA rA u_29.2 ++ b_s cB cC cI cJ cZ oA rA u_29.2 ++ b_c cB cC cI cJ cZ oA rA u_29.2 ++ b_t cB cC cI cJ cZ oA rA u_29.2 ++ b_d cB cC cI cJ cZ oA rA u_29.2)) hP (hDD u_29.2) hS hFc [13, 14] [0, 1, 2, 3, 4, 5, 6, 7, 8, 9, 10, 11, 12, 15, 16, 17, 18, 19, 20, 21, 22, 23, 24, 25, 26, 27, 28, 29, 30, 31, 32, 33, 34, 35, 36, 37, 38, 39, 40, 41, 42, 43, 44, 45] rfl rfl (by decide +kernel) (by decide +kernel) (va_runV (As := [.int u_29.1]) (rest := []) ⟨hx, hb, hml, hown, hts⟩ (k_X5_number l dC dI cB cC cI cJ cZ cP oA rA H.size  u_29.1 u_29.2 _ hu_31) (cwV 1 hts (g_gV wq_1192 wq_1193 wq_1194 wq_9 wq_1195) rfl rfl rfl (by decide +kernel) ⟨Nat.le_of_ble_eq_true rfl, Nat.le_of_ble_eq_true rfl⟩) (g_preV g_bl0 hK hPc hDc hS hE hFc g_to0 (q0 := 0) (ci := 5) rfl rfl) rfl rfl hl.1 rfl (lv_room (Nat.le_of_ble_eq_true rfl)) dX3_worldOp_91 ⟨Nat.le_of_ble_eq_true rfl, Nat.le_of_ble_eq_true rfl⟩) (fun u9 H locs hw9 hP' hD' hS => ?_)
  clear hPc hDc hFc
  obtain ⟨σ_33, eσ_33, hF_34⟩ := bnd_e hF_32
  clear hF_32
  have hP : va_P (dC, dI) vwCl (b_k cB cC cI cJ cZ oA rA σ_33 ++ b_p cB cC cI cJ cZ oA rA σ_33 ++ b_o cB cC cI cJ cZ oA rA σ_33 ++ b_s cB cC cI cJ cZ oA rA σ_33 ++ b_c cB cC cI cJ cZ oA rA σ_33 ++ b_t cB cC cI cJ cZ oA rA σ_33 ++ b_d cB cC cI cJ cZ oA rA σ_33) H := by rw [eσ_33]; exact hP'.sub [0, 1, 2, 3, 4, 5, 6, 7, 8, 9, 10, 11, 12, 44, 45, 13, 14, 15, 16, 17, 18, 19, 20, 21, 22, 23, 24, 25, 26, 27, 28, 29, 30, 31, 32, 33, 34, 35, 36, 37, 38, 39, 40, 41, 42, 43] rfl
  clear hP' hD'
  have h9 := Option.some.inj hF_34
  subst h9
  exact W.vret hx hb hr (fun t ht hW => ⟨⟨(), rfl, trivial, m_end ht hP, hDD _⟩, hS.F ht⟩) hS.2.2 dX3_worldOp_94
theorem dX3_run_0 : decode cX3_run 0 = .ok (.aload_n 0, 1) := by decide +kernel
theorem dX3_run_1 : decode cX3_run 1 = .ok (.aload_n 0, 1) := by decide +kernel
theorem dX3_run_2 : decode cX3_run 2 = .ok (.getfield 52, 3) := by decide +kernel
theorem dX3_run_5 : decode cX3_run 5 = .ok (.getfield 56, 3) := by decide +kernel
theorem dX3_run_8 : decode cX3_run 8 = .ok (.iload_n 1, 1) := by decide +kernel
theorem dX3_run_9 : decode cX3_run 9 = .ok (.invokevirtual 62, 3) := by decide +kernel
theorem dX3_run_12 : decode cX3_run 12 = .ok (.putfield 68, 3) := by decide +kernel
theorem dX3_run_15 : decode cX3_run 15 = .ok (.aload_n 0, 1) := by decide +kernel
theorem dX3_run_16 : decode cX3_run 16 = .ok (.iconst 0, 1) := by decide +kernel
theorem dX3_run_17 : decode cX3_run 17 = .ok (.putfield 46, 3) := by decide +kernel
theorem dX3_run_20 : decode cX3_run 20 = .ok (.aload_n 0, 1) := by decide +kernel
theorem dX3_run_21 : decode cX3_run 21 = .ok (.bipush 14, 2) := by decide +kernel
theorem dX3_run_23 : decode cX3_run 23 = .ok (.putfield 49, 3) := by decide +kernel
theorem dX3_run_26 : decode cX3_run 26 = .ok (.aload_n 0, 1) := by decide +kernel
theorem dX3_run_27 : decode cX3_run 27 = .ok (.iconst 0, 1) := by decide +kernel
theorem dX3_run_28 : decode cX3_run 28 = .ok (.putfield 43, 3) := by decide +kernel
theorem dX3_run_31 : decode cX3_run 31 = .ok (.aload_n 0, 1) := by decide +kernel
theorem dX3_run_32 : decode cX3_run 32 = .ok (.iconst 0, 1) := by decide +kernel
theorem dX3_run_33 : decode cX3_run 33 = .ok (.putfield 21, 3) := by decide +kernel
theorem dX3_run_36 : decode cX3_run 36 = .ok (.iconst 0, 1) := by decide +kernel
theorem dX3_run_37 : decode cX3_run 37 = .ok (.istore_n 2, 1) := by decide +kernel
theorem dX3_run_38 : decode cX3_run 38 = .ok (.iload_n 2, 1) := by decide +kernel
theorem dX3_run_39 : decode cX3_run 39 = .ok (.ldc 71, 2) := by decide +kernel
theorem dX3_run_41 : decode cX3_run 41 = .ok (.if_icmp .ge 143, 3) := by decide +kernel
theorem dX3_run_44 : decode cX3_run 44 = .ok (.aload_n 0, 1) := by decide +kernel
theorem dX3_run_45 : decode cX3_run 45 = .ok (.getfield 21, 3) := by decide +kernel
theorem dX3_run_48 : decode cX3_run 48 = .ok (.ifCond .ne 136, 3) := by decide +kernel
theorem dX3_run_51 : decode cX3_run 51 = .ok (.aload_n 0, 1) := by decide +kernel
theorem dX3_run_52 : decode cX3_run 52 = .ok (.getfield 52, 3) := by decide +kernel
theorem dX3_run_55 : decode cX3_run 55 = .ok (.getfield 56, 3) := by decide +kernel
theorem dX3_run_58 : decode cX3_run 58 = .ok (.aload_n 0, 1) := by decide +kernel
theorem dX3_run_59 : decode cX3_run 59 = .ok (.getfield 68, 3) := by decide +kernel
theorem dX3_run_62 : decode cX3_run 62 = .ok (.invokevirtual 72, 3) := by decide +kernel
theorem dX3_run_65 : decode cX3_run 65 = .ok (.istore_n 3, 1) := by decide +kernel
theorem dX3_run_66 : decode cX3_run 66 = .ok (.aload_n 0, 1) := by decide +kernel
theorem dX3_run_67 : decode cX3_run 67 = .ok (.dup, 1) := by decide +kernel
theorem dX3_run_68 : decode cX3_run 68 = .ok (.getfield 68, 3) := by decide +kernel
theorem dX3_run_71 : decode cX3_run 71 = .ok (.iconst 1, 1) := by decide +kernel
theorem dX3_run_72 : decode cX3_run 72 = .ok (.iadd, 1) := by decide +kernel
theorem dX3_run_73 : decode cX3_run 73 = .ok (.putfield 68, 3) := by decide +kernel
theorem dX3_run_76 : decode cX3_run 76 = .ok (.iload_n 3, 1) := by decide +kernel
theorem dX3_run_77 : decode cX3_run 77 = .ok (.bipush 33, 2) := by decide +kernel
theorem dX3_run_79 : decode cX3_run 79 = .ok (.if_icmp .lt 39, 3) := by decide +kernel
theorem dX3_run_82 : decode cX3_run 82 = .ok (.aload_n 0, 1) := by decide +kernel
theorem dX3_run_83 : decode cX3_run 83 = .ok (.getfield 52, 3) := by decide +kernel
theorem dX3_run_86 : decode cX3_run 86 = .ok (.getfield 56, 3) := by decide +kernel
theorem dX3_run_89 : decode cX3_run 89 = .ok (.aload_n 0, 1) := by decide +kernel
theorem dX3_run_90 : decode cX3_run 90 = .ok (.getfield 68, 3) := by decide +kernel
theorem dX3_run_93 : decode cX3_run 93 = .ok (.invokevirtual 75, 3) := by decide +kernel
theorem dX3_run_96 : decode cX3_run 96 = .ok (.istore 4, 2) := by decide +kernel
theorem dX3_run_98 : decode cX3_run 98 = .ok (.aload_n 0, 1) := by decide +kernel
theorem dX3_run_99 : decode cX3_run 99 = .ok (.dup, 1) := by decide +kernel
theorem dX3_run_100 : decode cX3_run 100 = .ok (.getfield 68, 3) := by decide +kernel
theorem dX3_run_103 : decode cX3_run 103 = .ok (.iconst 2, 1) := by decide +kernel
theorem dX3_run_104 : decode cX3_run 104 = .ok (.iadd, 1) := by decide +kernel
theorem dX3_run_105 : decode cX3_run 105 = .ok (.putfield 68, 3) := by decide +kernel
theorem dX3_run_108 : decode cX3_run 108 = .ok (.aload_n 0, 1) := by decide +kernel
theorem dX3_run_109 : decode cX3_run 109 = .ok (.iload_n 3, 1) := by decide +kernel
theorem dX3_run_110 : decode cX3_run 110 = .ok (.iload 4, 2) := by decide +kernel
theorem dX3_run_112 : decode cX3_run 112 = .ok (.invokevirtual 78, 3) := by decide +kernel
theorem dX3_run_115 : decode cX3_run 115 = .ok (.goto 63, 3) := by decide +kernel
theorem dX3_run_118 : decode cX3_run 118 = .ok (.iload_n 3, 1) := by decide +kernel
theorem dX3_run_119 : decode cX3_run 119 = .ok (.bipush 32, 2) := by decide +kernel
theorem dX3_run_121 : decode cX3_run 121 = .ok (.if_icmp .ne 10, 3) := by decide +kernel
theorem dX3_run_124 : decode cX3_run 124 = .ok (.aload_n 0, 1) := by decide +kernel
theorem dX3_run_125 : decode cX3_run 125 = .ok (.invokevirtual 82, 3) := by decide +kernel
theorem dX3_run_128 : decode cX3_run 128 = .ok (.goto 50, 3) := by decide +kernel
theorem dX3_run_131 : decode cX3_run 131 = .ok (.iload_n 3, 1) := by decide +kernel
theorem dX3_run_132 : decode cX3_run 132 = .ok (.bipush 27, 2) := by decide +kernel
theorem dX3_run_134 : decode cX3_run 134 = .ok (.if_icmp .lt 11, 3) := by decide +kernel
theorem dX3_run_137 : decode cX3_run 137 = .ok (.aload_n 0, 1) := by decide +kernel
theorem dX3_run_138 : decode cX3_run 138 = .ok (.iload_n 3, 1) := by decide +kernel
theorem dX3_run_139 : decode cX3_run 139 = .ok (.invokevirtual 85, 3) := by decide +kernel
theorem dX3_run_142 : decode cX3_run 142 = .ok (.goto 36, 3) := by decide +kernel
theorem dX3_run_145 : decode cX3_run 145 = .ok (.iload_n 3, 1) := by decide +kernel
theorem dX3_run_146 : decode cX3_run 146 = .ok (.bipush 21, 2) := by decide +kernel
theorem dX3_run_148 : decode cX3_run 148 = .ok (.if_icmp .lt 11, 3) := by decide +kernel
theorem dX3_run_151 : decode cX3_run 151 = .ok (.aload_n 0, 1) := by decide +kernel
theorem dX3_run_152 : decode cX3_run 152 = .ok (.iload_n 3, 1) := by decide +kernel
theorem dX3_run_153 : decode cX3_run 153 = .ok (.invokevirtual 89, 3) := by decide +kernel
theorem dX3_run_156 : decode cX3_run 156 = .ok (.goto 22, 3) := by decide +kernel
theorem dX3_run_159 : decode cX3_run 159 = .ok (.iload_n 3, 1) := by decide +kernel
theorem dX3_run_160 : decode cX3_run 160 = .ok (.bipush 10, 2) := by decide +kernel
theorem dX3_run_162 : decode cX3_run 162 = .ok (.if_icmp .lt 11, 3) := by decide +kernel
theorem dX3_run_165 : decode cX3_run 165 = .ok (.aload_n 0, 1) := by decide +kernel
theorem dX3_run_166 : decode cX3_run 166 = .ok (.iload_n 3, 1) := by decide +kernel
theorem dX3_run_167 : decode cX3_run 167 = .ok (.invokevirtual 92, 3) := by decide +kernel
theorem dX3_run_170 : decode cX3_run 170 = .ok (.goto 8, 3) := by decide +kernel
theorem dX3_run_173 : decode cX3_run 173 = .ok (.aload_n 0, 1) := by decide +kernel
theorem dX3_run_174 : decode cX3_run 174 = .ok (.iload_n 3, 1) := by decide +kernel
theorem dX3_run_175 : decode cX3_run 175 = .ok (.invokevirtual 95, 3) := by decide +kernel
theorem dX3_run_178 : decode cX3_run 178 = .ok (.iinc 2 1, 3) := by decide +kernel
theorem dX3_run_181 : decode cX3_run 181 = .ok (.goto (-143), 3) := by decide +kernel
theorem dX3_run_184 : decode cX3_run 184 = .ok (.aload_n 0, 1) := by decide +kernel
theorem dX3_run_185 : decode cX3_run 185 = .ok (.iconst 0, 1) := by decide +kernel
theorem dX3_run_186 : decode cX3_run 186 = .ok (.putfield 46, 3) := by decide +kernel
theorem dX3_run_189 : decode cX3_run 189 = .ok (.aload_n 0, 1) := by decide +kernel
theorem dX3_run_190 : decode cX3_run 190 = .ok (.iconst 0, 1) := by decide +kernel
theorem dX3_run_191 : decode cX3_run 191 = .ok (.putfield 49, 3) := by decide +kernel
theorem dX3_run_194 : decode cX3_run 194 = .ok (.aload_n 0, 1) := by decide +kernel
theorem dX3_run_195 : decode cX3_run 195 = .ok (.iconst 0, 1) := by decide +kernel
theorem dX3_run_196 : decode cX3_run 196 = .ok (.putfield 43, 3) := by decide +kernel
theorem dX3_run_199 : decode cX3_run 199 = .ok (.aload_n 0, 1) := by decide +kernel
theorem dX3_run_200 : decode cX3_run 200 = .ok (.getfield 21, 3) := by decide +kernel
theorem dX3_run_203 : decode cX3_run 203 = .ok (.ireturn, 1) := by decide +kernel
def F_X3_run (p0 : Int32) (Γ : HS) : HR :=
  (F_X0_beginOf p0 Γ).bind fun u_1 =>
  bnd (mrg (fun j => j == 5) Γ u_1.2) fun σ_3 =>
  bnd (cI' σ_3 10 9 u_1.1) fun σ_5 =>
  bnd (cI' σ_5 10 8 0) fun σ_7 =>
  bnd (cI' σ_7 10 7 14) fun σ_9 =>
  bnd (cI' σ_9 10 12 0) fun σ_11 =>
  bnd (cI' σ_11 10 14 0) fun σ_13 =>
  loopF (fun (again_16 : (Int32 × HS) → HR) (s_15 : Int32 × HS) => (
    bnd (fun  (σ_19 : HS) => (
      bnd (cI' σ_19 10 8 0) fun σ_23 =>
      bnd (cI' σ_23 10 7 0) fun σ_25 =>
      bnd (cI' σ_25 10 12 0) fun σ_27 =>
      some (((σ_27 10).1 14), σ_27)
    ) : HS → HR) fun j_20 =>
    if 1000000000 ≤ s_15.1 then (
      j_20  s_15.2
    ) else (
      if ((s_15.2 10).1 14) = 0 then (
        (F_X0_byteAt ((s_15.2 10).1 9) s_15.2).bind fun u_34 =>
        bnd (mrg (fun j => j == 5) s_15.2 u_34.2) fun σ_36 =>
        bnd (cI' σ_36 10 9 (((σ_36 10).1 9) + 1)) fun σ_38 =>
        bnd (fun  (σ_40 : HS) => (
          bnd (s_15.1 + 1) fun (x_44 : Int32) =>
          again_16 (x_44, σ_40)
        ) : HS → HR) fun j_41 =>
        if u_34.1 < 33 then (
          if u_34.1 = 32 then (
            (F_X3_moveOp σ_38).bind fun u_50 =>
            j_41  u_50.2
          ) else (
            if u_34.1 < 27 then (
              if u_34.1 < 21 then (
                if u_34.1 < 10 then (
                  (F_X3_flowOp u_34.1 σ_38).bind fun u_59 =>
                  j_41  u_59.2
                ) else (
                  (F_X3_numberOp u_34.1 σ_38).bind fun u_62 =>
                  j_41  u_62.2
                )
              ) else (
                (F_X3_objectOp u_34.1 σ_38).bind fun u_65 =>
                j_41  u_65.2
              )
            ) else (
              (F_X3_worldOp u_34.1 σ_38).bind fun u_68 =>
              j_41  u_68.2
            )
          )
        ) else (
          (F_X0_pairAt ((σ_38 10).1 9) σ_38).bind fun u_71 =>
          bnd (mrg (fun j => j == 5) σ_38 u_71.2) fun σ_73 =>
          bnd (cI' σ_73 10 9 (((σ_73 10).1 9) + 2)) fun σ_75 =>
          (F_X3_wideOp u_34.1 u_71.1 σ_75).bind fun u_77 =>
          j_41  u_77.2
        )
      ) else (
        j_20  s_15.2
      )
    )
  )) FU (0, σ_13)
set_option maxHeartbeats 4000000 in
set_option maxRecDepth 100000 in
theorem k_X3_run (l : Launch) (dC : Nat → ClassId) (dI : Nat → Nat → Nat) (cB cC cI cJ cZ cP : ClassId) (oA : Nat → Nat) (rA : Nat → Nat → Nat) (sz : Nat)  (p0 : Int32) (Γ : HS) (res : Int32 × HS) (hF : F_X3_run p0 Γ = some res) : Met l yX3_run (g_ws yX3_run cX3_run 5 (some .int)) ({ frames := 9, cells := 0, slots := 0, locals := 221 }) (va_Pc [.ref (oA 10), .int p0] (g_B (dC, dI) [(cB, .byte), (cC, .char), (cI, .int), (cJ, .long), (cZ, .boolean), (cP, .object "StoryHouse$Play")] sz (b_k cB cC cI cJ cZ oA rA Γ ++ b_p cB cC cI cJ cZ oA rA Γ ++ b_o cB cC cI cJ cZ oA rA Γ ++ b_s cB cC cI cJ cZ oA rA Γ ++ b_c cB cC cI cJ cZ oA rA Γ ++ b_t cB cC cI cJ cZ oA rA Γ ++ b_d cB cC cI cJ cZ oA rA Γ) g_0)) (va_Qi (fun r (_ : Unit) => r = res.1) (g_Bo (dC, dI) (va_A (b_k cB cC cI cJ cZ oA rA Γ ++ b_p cB cC cI cJ cZ oA rA Γ ++ b_o cB cC cI cJ cZ oA rA Γ ++ b_s cB cC cI cJ cZ oA rA Γ ++ b_c cB cC cI cJ cZ oA rA Γ ++ b_t cB cC cI cJ cZ oA rA Γ ++ b_d cB cC cI cJ cZ oA rA Γ) sz) (fun (_ : Unit) => (b_k cB cC cI cJ cZ oA rA res.2 ++ b_p cB cC cI cJ cZ oA rA res.2 ++ b_o cB cC cI cJ cZ oA rA res.2 ++ b_s cB cC cI cJ cZ oA rA res.2 ++ b_c cB cC cI cJ cZ oA rA res.2 ++ b_t cB cC cI cJ cZ oA rA res.2 ++ b_d cB cC cI cJ cZ oA rA res.2))) (va_A (b_k cB cC cI cJ cZ oA rA Γ ++ b_p cB cC cI cJ cZ oA rA Γ ++ b_o cB cC cI cJ cZ oA rA Γ ++ b_s cB cC cI cJ cZ oA rA Γ ++ b_c cB cC cI cJ cZ oA rA Γ ++ b_t cB cC cI cJ cZ oA rA Γ ++ b_d cB cC cI cJ cZ oA rA Γ) sz)) 0 0 (va_A (b_k cB cC cI cJ cZ oA rA Γ ++ b_p cB cC cI cJ cZ oA rA Γ ++ b_o cB cC cI cJ cZ oA rA Γ ++ b_s cB cC cI cJ cZ oA rA Γ ++ b_c cB cC cI cJ cZ oA rA Γ ++ b_t cB cC cI cJ cZ oA rA Γ ++ b_d cB cC cI cJ cZ oA rA Γ) sz) := by
  refine Met.ofW (cc := cX3_run) (maxL := 5) (ret := (some .int)) (by decide) rfl ?_
  intro p e s m args below meth c s₁ B hml hv
  obtain ⟨rfl, hsz, hP, hK, hD0, hE, hX⟩ := hv
  have hx := B.exec
  have hb := B.bytes
  have hr := B.returns
  have hts0 := atoms_spec (ws := g_ws yX3_run cX3_run 5 (some .int)) B.pre
  have hts : ∀ w ∈ lw_good, w.before ([.ref (oA 10), .int p0] : List Value).toArray s = true := fun w z => hts0 w (List.mem_cons_of_mem _ z)
  have hown : s.vm.findClass RX3 = some m.cls := findClass_of_methodNamed B.named
  have hlocks := B.notSynchronized
  subst hsz
  have hD1 := hD0.self (sz := s.heap.size)
  generalize hAe : va_A (b_k cB cC cI cJ cZ oA rA Γ ++ b_p cB cC cI cJ cZ oA rA Γ ++ b_o cB cC cI cJ cZ oA rA Γ ++ b_s cB cC cI cJ cZ oA rA Γ ++ b_c cB cC cI cJ cZ oA rA Γ ++ b_t cB cC cI cJ cZ oA rA Γ ++ b_d cB cC cI cJ cZ oA rA Γ) s.heap.size = A at hD1 hE hX ⊢
  have hA : ∀ q : Nat, s.heap.size ≤ q → A q := fun q z => by rw [← hAe]; exact Or.inr z
  have hDD : ∀ Γ : HS, va_D A (b_k cB cC cI cJ cZ oA rA Γ ++ b_p cB cC cI cJ cZ oA rA Γ ++ b_o cB cC cI cJ cZ oA rA Γ ++ b_s cB cC cI cJ cZ oA rA Γ ++ b_c cB cC cI cJ cZ oA rA Γ ++ b_t cB cC cI cJ cZ oA rA Γ ++ b_d cB cC cI cJ cZ oA rA Γ) := fun Γ9 => va_D_fst (ws := (b_k cB cC cI cJ cZ oA rA Γ ++ b_p cB cC cI cJ cZ oA rA Γ ++ b_o cB cC cI cJ cZ oA rA Γ ++ b_s cB cC cI cJ cZ oA rA Γ ++ b_c cB cC cI cJ cZ oA rA Γ ++ b_t cB cC cI cJ cZ oA rA Γ ++ b_d cB cC cI cJ cZ oA rA Γ)) (ws' := (b_k cB cC cI cJ cZ oA rA Γ9 ++ b_p cB cC cI cJ cZ oA rA Γ9 ++ b_o cB cC cI cJ cZ oA rA Γ9 ++ b_s cB cC cI cJ cZ oA rA Γ9 ++ b_c cB cC cI cJ cZ oA rA Γ9 ++ b_t cB cC cI cJ cZ oA rA Γ9 ++ b_d cB cC cI cJ cZ oA rA Γ9)) rfl hD1
  have hN := hE.1
  have hS : va_S A s.heap s.heap [] := va_S.rf
  have hl := lv_entry ([.ref (oA 10), .int p0]) (n := 5) (Nat.le_of_ble_eq_true rfl)
  rw [lg_entry_eq]
  generalize (lg_sl ([.ref (oA 10), .int p0]) ++ List.replicate (5 - (lg_sl ([.ref (oA 10), .int p0])).length) Slot.unset).toArray = ls at hl ⊢
  have hl : lv_has ls 5 [(0, .ref (oA 10)), (1, .int p0)] := hl
  unfold F_X3_run at hF
  refine lv_aload_n hx hb dX3_run_0 rfl (lv_at hl 0 rfl) ?_
  refine lv_aload_n hx hb dX3_run_1 rfl (lv_at hl 0 rfl) ?_
  refine va_get (D := (dC, dI)) (ci := 3) (v := .ref (oA 4)) (C := RX3) (T := TX3) (N := 16) hx hb hts ii_X3 hown hK hP 0 rfl rfl 2 (by decide) (hts (.fieldLink RX3 52 "StoryHouse$Machine" "story" "LStoryHouse$Story;") wq_262) (fun _ h9 => h9) rfl dX3_run_2 ?_
  refine va_get (D := (dC, dI)) (ci := 7) (v := .ref (oA 5)) (C := RX7) (T := TX7) (N := 19) hx hb hts ii_X7 hown hK hP 15 rfl rfl 16 (by decide) (hts (.fieldLink RX3 56 "StoryHouse$Story" "code" "LStoryHouse$Code;") wq_194) (fun _ h9 => h9) rfl dX3_run_5 ?_
  refine lv_iload_n hx hb dX3_run_8 rfl (lv_at hl 1 rfl) ?_
  obtain ⟨u_1, hu_1, hF_2⟩ := Option.bind_eq_some_iff.mp hF
  clear hF
  have hPc := hP.sub (ws' := (b_c cB cC cI cJ cZ oA rA Γ)) [32, 33, 34, 35, 36] rfl
  have hDc := (hDD Γ).sub (ws' := (b_c cB cC cI cJ cZ oA rA Γ)) [32, 33, 34, 35, 36] (by decide +kernel) rfl
  have hFc := va_free (wc := (b_c cB cC cI cJ cZ oA rA Γ)) (hDD Γ) hS hA [32, 33, 34, 35, 36] rfl
  refine g_ofi (wc := (b_c cB cC cI cJ cZ oA rA Γ)) (wr := (b_k cB cC cI cJ cZ oA rA Γ ++ b_p cB cC cI cJ cZ oA rA Γ ++ b_o cB cC cI cJ cZ oA rA Γ ++ b_s cB cC cI cJ cZ oA rA Γ ++ b_t cB cC cI cJ cZ oA rA Γ ++ b_d cB cC cI cJ cZ oA rA Γ)) hP (hDD Γ) hS hFc [32, 33, 34, 35, 36] [0, 1, 2, 3, 4, 5, 6, 7, 8, 9, 10, 11, 12, 13, 14, 15, 16, 17, 18, 19, 20, 21, 22, 23, 24, 25, 26, 27, 28, 29, 30, 31, 37, 38, 39, 40, 41, 42, 43, 44, 45] rfl rfl (by decide +kernel) (by decide +kernel) (va_runV (As := [.int p0]) (rest := [.ref (oA 10)]) ⟨hx, hb, hml, hown, hts⟩ (k_X0_beginOf l dC dI cB cC cI cJ cZ cP oA rA s.heap.size  p0 Γ _ hu_1) (cwV 1 hts (g_gV wq_1131 wq_1132 wq_1133 wq_6 wq_1134) rfl rfl rfl (by decide +kernel) ⟨Nat.le_of_ble_eq_true rfl, Nat.le_of_ble_eq_true rfl⟩) (g_preV g_bl0 hK hPc hDc hS hE hFc g_to0 (q0 := 0) (ci := 0) rfl rfl) rfl rfl hl.1 rfl (lv_room (Nat.le_of_ble_eq_true rfl)) dX3_run_9 ⟨Nat.le_of_ble_eq_true rfl, Nat.le_of_ble_eq_true rfl⟩) (fun r9 u9 H locs hw9 hP' hD' hS => ?_)
  clear hPc hDc hFc
  subst hw9
  obtain ⟨σ_3, eσ_3, hF_4⟩ := bnd_e hF_2
  clear hF_2
  have hP : va_P (dC, dI) vwCl (b_k cB cC cI cJ cZ oA rA σ_3 ++ b_p cB cC cI cJ cZ oA rA σ_3 ++ b_o cB cC cI cJ cZ oA rA σ_3 ++ b_s cB cC cI cJ cZ oA rA σ_3 ++ b_c cB cC cI cJ cZ oA rA σ_3 ++ b_t cB cC cI cJ cZ oA rA σ_3 ++ b_d cB cC cI cJ cZ oA rA σ_3) H := by rw [eσ_3]; exact hP'.sub [0, 1, 2, 3, 4, 5, 6, 7, 8, 9, 10, 11, 12, 13, 14, 15, 16, 17, 18, 19, 20, 21, 22, 23, 24, 25, 26, 27, 28, 29, 30, 31, 41, 42, 43, 44, 45, 32, 33, 34, 35, 36, 37, 38, 39, 40] rfl
  clear hP' hD'
  obtain ⟨σ_5, eσ_5, hF_6⟩ := bnd_e hF_4
  clear hF_4
  refine va_put (D := (dC, dI)) (ci := 3) (v := .int u_1.1) (ty := .int) (C := RX3) (T := TX3) (N := 16) hx hb hts ii_X3 tyX3 tyX3_ok nmX3 hown hK hP (hDD _) hS 0 rfl rfl 9 (by decide) (hts (.fieldLink RX3 68 "StoryHouse$Machine" "pc" "I") wq_273) (fun _ h9 => h9) rfl (by decide +kernel) rfl rfl (Nat.le_of_ble_eq_true rfl) dX3_run_12 (fun H locs hP' _ hS => ?_)
  have hP : va_P (dC, dI) vwCl (b_k cB cC cI cJ cZ oA rA σ_5 ++ b_p cB cC cI cJ cZ oA rA σ_5 ++ b_o cB cC cI cJ cZ oA rA σ_5 ++ b_s cB cC cI cJ cZ oA rA σ_5 ++ b_c cB cC cI cJ cZ oA rA σ_5 ++ b_t cB cC cI cJ cZ oA rA σ_5 ++ b_d cB cC cI cJ cZ oA rA σ_5) H := by rw [eσ_5]; exact cs_kposctd_k_9 ▸ hP'
  clear hP'
  refine lv_aload_n hx hb dX3_run_15 rfl (lv_at hl 0 rfl) ?_
  refine lv_iconst (v := 0) hx hb dX3_run_16 (by decide +kernel) ?_
  obtain ⟨σ_7, eσ_7, hF_8⟩ := bnd_e hF_6
  clear hF_6
  refine va_put (D := (dC, dI)) (ci := 3) (v := .int 0) (ty := .int) (C := RX3) (T := TX3) (N := 16) hx hb hts ii_X3 tyX3 tyX3_ok nmX3 hown hK hP (hDD _) hS 0 rfl rfl 8 (by decide) (hts (.fieldLink RX3 46 "StoryHouse$Machine" "base" "I") wq_272) (fun _ h9 => h9) rfl (by decide +kernel) rfl rfl (Nat.le_of_ble_eq_true rfl) dX3_run_17 (fun H locs hP' _ hS => ?_)
  have hP : va_P (dC, dI) vwCl (b_k cB cC cI cJ cZ oA rA σ_7 ++ b_p cB cC cI cJ cZ oA rA σ_7 ++ b_o cB cC cI cJ cZ oA rA σ_7 ++ b_s cB cC cI cJ cZ oA rA σ_7 ++ b_c cB cC cI cJ cZ oA rA σ_7 ++ b_t cB cC cI cJ cZ oA rA σ_7 ++ b_d cB cC cI cJ cZ oA rA σ_7) H := by rw [eσ_7]; exact cs_kposctd_k_8 ▸ hP'
  clear hP'
  refine lv_aload_n hx hb dX3_run_20 rfl (lv_at hl 0 rfl) ?_
  refine lv_bipush (v := 14) hx hb dX3_run_21 (by decide +kernel) ?_
  obtain ⟨σ_9, eσ_9, hF_10⟩ := bnd_e hF_8
  clear hF_8
  refine va_put (D := (dC, dI)) (ci := 3) (v := .int 14) (ty := .int) (C := RX3) (T := TX3) (N := 16) hx hb hts ii_X3 tyX3 tyX3_ok nmX3 hown hK hP (hDD _) hS 0 rfl rfl 7 (by decide) (hts (.fieldLink RX3 49 "StoryHouse$Machine" "top" "I") wq_271) (fun _ h9 => h9) rfl (by decide +kernel) rfl rfl (Nat.le_of_ble_eq_true rfl) dX3_run_23 (fun H locs hP' _ hS => ?_)
  have hP : va_P (dC, dI) vwCl (b_k cB cC cI cJ cZ oA rA σ_9 ++ b_p cB cC cI cJ cZ oA rA σ_9 ++ b_o cB cC cI cJ cZ oA rA σ_9 ++ b_s cB cC cI cJ cZ oA rA σ_9 ++ b_c cB cC cI cJ cZ oA rA σ_9 ++ b_t cB cC cI cJ cZ oA rA σ_9 ++ b_d cB cC cI cJ cZ oA rA σ_9) H := by rw [eσ_9]; exact cs_kposctd_k_7 ▸ hP'
  clear hP'
  refine lv_aload_n hx hb dX3_run_26 rfl (lv_at hl 0 rfl) ?_
  refine lv_iconst (v := 0) hx hb dX3_run_27 (by decide +kernel) ?_
  obtain ⟨σ_11, eσ_11, hF_12⟩ := bnd_e hF_10
  clear hF_10
  refine va_put (D := (dC, dI)) (ci := 3) (v := .int 0) (ty := .int) (C := RX3) (T := TX3) (N := 16) hx hb hts ii_X3 tyX3 tyX3_ok nmX3 hown hK hP (hDD _) hS 0 rfl rfl 12 (by decide) (hts (.fieldLink RX3 43 "StoryHouse$Machine" "depth" "I") wq_276) (fun _ h9 => h9) rfl (by decide +kernel) rfl rfl (Nat.le_of_ble_eq_true rfl) dX3_run_28 (fun H locs hP' _ hS => ?_)
  have hP : va_P (dC, dI) vwCl (b_k cB cC cI cJ cZ oA rA σ_11 ++ b_p cB cC cI cJ cZ oA rA σ_11 ++ b_o cB cC cI cJ cZ oA rA σ_11 ++ b_s cB cC cI cJ cZ oA rA σ_11 ++ b_c cB cC cI cJ cZ oA rA σ_11 ++ b_t cB cC cI cJ cZ oA rA σ_11 ++ b_d cB cC cI cJ cZ oA rA σ_11) H := by rw [eσ_11]; exact cs_kposctd_k_12 ▸ hP'
  clear hP'
  refine lv_aload_n hx hb dX3_run_31 rfl (lv_at hl 0 rfl) ?_
  refine lv_iconst (v := 0) hx hb dX3_run_32 (by decide +kernel) ?_
  obtain ⟨σ_13, eσ_13, hF_14⟩ := bnd_e hF_12
  clear hF_12
  refine va_put (D := (dC, dI)) (ci := 3) (v := .int 0) (ty := .int) (C := RX3) (T := TX3) (N := 16) hx hb hts ii_X3 tyX3 tyX3_ok nmX3 hown hK hP (hDD _) hS 0 rfl rfl 14 (by decide) (hts (.fieldLink RX3 21 "StoryHouse$Machine" "how" "I") wq_278) (fun _ h9 => h9) rfl (by decide +kernel) rfl rfl (Nat.le_of_ble_eq_true rfl) dX3_run_33 (fun H locs hP' _ hS => ?_)
  have hP : va_P (dC, dI) vwCl (b_k cB cC cI cJ cZ oA rA σ_13 ++ b_p cB cC cI cJ cZ oA rA σ_13 ++ b_o cB cC cI cJ cZ oA rA σ_13 ++ b_s cB cC cI cJ cZ oA rA σ_13 ++ b_c cB cC cI cJ cZ oA rA σ_13 ++ b_t cB cC cI cJ cZ oA rA σ_13 ++ b_d cB cC cI cJ cZ oA rA σ_13) H := by rw [eσ_13]; exact cs_kposctd_k_14 ▸ hP'
  clear hP'
  refine lv_iconst (v := 0) hx hb dX3_run_36 (by decide +kernel) ?_
  refine lv_istore_n (lv' := [(2, .int 0), (0, .ref (oA 10)), (1, .int p0)]) hx hb dX3_run_37 rfl hl (by decide) rfl (fun ls hl => ?_)
  refine loopF_ind (P := fun (s_15 : Int32 × HS) => ∀ (H : Heap) (locs : List Loc), va_P (dC, dI) vwCl (b_k cB cC cI cJ cZ oA rA s_15.2 ++ b_p cB cC cI cJ cZ oA rA s_15.2 ++ b_o cB cC cI cJ cZ oA rA s_15.2 ++ b_s cB cC cI cJ cZ oA rA s_15.2 ++ b_c cB cC cI cJ cZ oA rA s_15.2 ++ b_t cB cC cI cJ cZ oA rA s_15.2 ++ b_d cB cC cI cJ cZ oA rA s_15.2) H → va_S A s.heap H locs → ∀ ls : Array Slot, lv_has ls 5 [(0, .ref (oA 10)), (2, .int s_15.1)] → W p l e (headSpec (g_ws yX3_run cX3_run 5 (some .int)) { frames := 9, cells := 0, slots := 0, locals := 221 }).room s m ([.ref (oA 10), .int p0] : List Value).toArray below meth c H locs 0 0 (MQ below (va_Qi (fun r (_ : Unit) => r = res.1) (g_Bo (dC, dI) A (fun (_ : Unit) => (b_k cB cC cI cJ cZ oA rA res.2 ++ b_p cB cC cI cJ cZ oA rA res.2 ++ b_o cB cC cI cJ cZ oA rA res.2 ++ b_s cB cC cI cJ cZ oA rA res.2 ++ b_c cB cC cI cJ cZ oA rA res.2 ++ b_t cB cC cI cJ cZ oA rA res.2 ++ b_d cB cC cI cJ cZ oA rA res.2))) A) ([.ref (oA 10), .int p0] : List Value).toArray s 0 0 A) (F0 m 38 ls [])) ?_ _ _ hF_14 _ _ hP hS ls (lv_sub hl [1, 0] rfl)
  intro again_16 s_15 ih_17 hF_18
  intro H locs hP hS ls hl
  refine lv_iload_n hx hb dX3_run_38 rfl (lv_at hl 1 rfl) ?_
  refine lv_ldc (v := 1000000000) hx hb hown (hts (.constant RX3 71 (1000000000)) wq_1135) dX3_run_39 ?_
  obtain ⟨j_20, ej_20, hF_21⟩ := bnd_e hF_18
  clear hF_18
  have Jj_20 : ∀  (σ_19 : HS), j_20  σ_19 = some res → ∀ (H : Heap) (locs : List Loc), va_P (dC, dI) vwCl (b_k cB cC cI cJ cZ oA rA σ_19 ++ b_p cB cC cI cJ cZ oA rA σ_19 ++ b_o cB cC cI cJ cZ oA rA σ_19 ++ b_s cB cC cI cJ cZ oA rA σ_19 ++ b_c cB cC cI cJ cZ oA rA σ_19 ++ b_t cB cC cI cJ cZ oA rA σ_19 ++ b_d cB cC cI cJ cZ oA rA σ_19) H → va_S A s.heap H locs → ∀ ls : Array Slot, lv_has ls 5 [(0, .ref (oA 10))] → W p l e (headSpec (g_ws yX3_run cX3_run 5 (some .int)) { frames := 9, cells := 0, slots := 0, locals := 221 }).room s m ([.ref (oA 10), .int p0] : List Value).toArray below meth c H locs 0 0 (MQ below (va_Qi (fun r (_ : Unit) => r = res.1) (g_Bo (dC, dI) A (fun (_ : Unit) => (b_k cB cC cI cJ cZ oA rA res.2 ++ b_p cB cC cI cJ cZ oA rA res.2 ++ b_o cB cC cI cJ cZ oA rA res.2 ++ b_s cB cC cI cJ cZ oA rA res.2 ++ b_c cB cC cI cJ cZ oA rA res.2 ++ b_t cB cC cI cJ cZ oA rA res.2 ++ b_d cB cC cI cJ cZ oA rA res.2))) A) ([.ref (oA 10), .int p0] : List Value).toArray s 0 0 A) (F0 m 184 ls []) := by
    intro  σ_19 hF0 H locs hP hS ls hl
    subst ej_20
    have hF_22 := hF0
    clear hF0
    refine lv_aload_n hx hb dX3_run_184 rfl (lv_at hl 0 rfl) ?_
    refine lv_iconst (v := 0) hx hb dX3_run_185 (by decide +kernel) ?_
    obtain ⟨σ_23, eσ_23, hF_24⟩ := bnd_e hF_22
    clear hF_22
    refine va_put (D := (dC, dI)) (ci := 3) (v := .int 0) (ty := .int) (C := RX3) (T := TX3) (N := 16) hx hb hts ii_X3 tyX3 tyX3_ok nmX3 hown hK hP (hDD _) hS 0 rfl rfl 8 (by decide) (hts (.fieldLink RX3 46 "StoryHouse$Machine" "base" "I") wq_272) (fun _ h9 => h9) rfl (by decide +kernel) rfl rfl (Nat.le_of_ble_eq_true rfl) dX3_run_186 (fun H locs hP' _ hS => ?_)
    have hP : va_P (dC, dI) vwCl (b_k cB cC cI cJ cZ oA rA σ_23 ++ b_p cB cC cI cJ cZ oA rA σ_23 ++ b_o cB cC cI cJ cZ oA rA σ_23 ++ b_s cB cC cI cJ cZ oA rA σ_23 ++ b_c cB cC cI cJ cZ oA rA σ_23 ++ b_t cB cC cI cJ cZ oA rA σ_23 ++ b_d cB cC cI cJ cZ oA rA σ_23) H := by rw [eσ_23]; exact cs_kposctd_k_8 ▸ hP'
    clear hP'
    refine lv_aload_n hx hb dX3_run_189 rfl (lv_at hl 0 rfl) ?_
    refine lv_iconst (v := 0) hx hb dX3_run_190 (by decide +kernel) ?_
    obtain ⟨σ_25, eσ_25, hF_26⟩ := bnd_e hF_24
    clear hF_24
    refine va_put (D := (dC, dI)) (ci := 3) (v := .int 0) (ty := .int) (C := RX3) (T := TX3) (N := 16) hx hb hts ii_X3 tyX3 tyX3_ok nmX3 hown hK hP (hDD _) hS 0 rfl rfl 7 (by decide) (hts (.fieldLink RX3 49 "StoryHouse$Machine" "top" "I") wq_271) (fun _ h9 => h9) rfl (by decide +kernel) rfl rfl (Nat.le_of_ble_eq_true rfl) dX3_run_191 (fun H locs hP' _ hS => ?_)
    have hP : va_P (dC, dI) vwCl (b_k cB cC cI cJ cZ oA rA σ_25 ++ b_p cB cC cI cJ cZ oA rA σ_25 ++ b_o cB cC cI cJ cZ oA rA σ_25 ++ b_s cB cC cI cJ cZ oA rA σ_25 ++ b_c cB cC cI cJ cZ oA rA σ_25 ++ b_t cB cC cI cJ cZ oA rA σ_25 ++ b_d cB cC cI cJ cZ oA rA σ_25) H := by rw [eσ_25]; exact cs_kposctd_k_7 ▸ hP'
    clear hP'
    refine lv_aload_n hx hb dX3_run_194 rfl (lv_at hl 0 rfl) ?_
    refine lv_iconst (v := 0) hx hb dX3_run_195 (by decide +kernel) ?_
    obtain ⟨σ_27, eσ_27, hF_28⟩ := bnd_e hF_26
    clear hF_26
    refine va_put (D := (dC, dI)) (ci := 3) (v := .int 0) (ty := .int) (C := RX3) (T := TX3) (N := 16) hx hb hts ii_X3 tyX3 tyX3_ok nmX3 hown hK hP (hDD _) hS 0 rfl rfl 12 (by decide) (hts (.fieldLink RX3 43 "StoryHouse$Machine" "depth" "I") wq_276) (fun _ h9 => h9) rfl (by decide +kernel) rfl rfl (Nat.le_of_ble_eq_true rfl) dX3_run_196 (fun H locs hP' _ hS => ?_)
    have hP : va_P (dC, dI) vwCl (b_k cB cC cI cJ cZ oA rA σ_27 ++ b_p cB cC cI cJ cZ oA rA σ_27 ++ b_o cB cC cI cJ cZ oA rA σ_27 ++ b_s cB cC cI cJ cZ oA rA σ_27 ++ b_c cB cC cI cJ cZ oA rA σ_27 ++ b_t cB cC cI cJ cZ oA rA σ_27 ++ b_d cB cC cI cJ cZ oA rA σ_27) H := by rw [eσ_27]; exact cs_kposctd_k_12 ▸ hP'
    clear hP'
    refine lv_aload_n hx hb dX3_run_199 rfl (lv_at hl 0 rfl) ?_
    refine va_get (D := (dC, dI)) (ci := 3) (v := .int ((σ_27 10).1 14)) (C := RX3) (T := TX3) (N := 16) hx hb hts ii_X3 hown hK hP 0 rfl rfl 14 (by decide) (hts (.fieldLink RX3 21 "StoryHouse$Machine" "how" "I") wq_278) (fun _ h9 => h9) rfl dX3_run_200 ?_
    have h9 := Option.some.inj hF_28
    subst h9
    exact W.iret (v := ((σ_27 10).1 14)) hx hb hr (fun t ht hW => ⟨⟨((σ_27 10).1 14), (), rfl, rfl, m_end ht hP, hDD _⟩, hS.F ht⟩) hS.2.2 dX3_run_203
  refine lv_icmp_ge (tgt := 184) hx hb dX3_run_41 (by decide) (fun c_29 => ?_) (fun c_29 => ?_)
  · have hF_30 := ipos c_29 hF_21
    clear hF_21
    exact Jj_20  s_15.2 hF_30 _ _ hP hS ls (lv_sub hl [0] rfl)
  · have hF_31 := ineg c_29 hF_21
    clear hF_21
    refine lv_aload_n hx hb dX3_run_44 rfl (lv_at hl 0 rfl) ?_
    refine va_get (D := (dC, dI)) (ci := 3) (v := .int ((s_15.2 10).1 14)) (C := RX3) (T := TX3) (N := 16) hx hb hts ii_X3 hown hK hP 0 rfl rfl 14 (by decide) (hts (.fieldLink RX3 21 "StoryHouse$Machine" "how" "I") wq_278) (fun _ h9 => h9) rfl dX3_run_45 ?_
    refine lv_if_ne (tgt := 184) hx hb dX3_run_48 (by decide) (fun c_32 => ?_) (fun c_32 => ?_)
    · have hF_79 := ineg c_32 hF_31
      clear hF_31
      exact Jj_20  s_15.2 hF_79 _ _ hP hS ls (lv_sub hl [0] rfl)
    · have hF_33 := ipos c_32 hF_31
      clear hF_31
      refine lv_aload_n hx hb dX3_run_51 rfl (lv_at hl 0 rfl) ?_
      refine va_get (D := (dC, dI)) (ci := 3) (v := .ref (oA 4)) (C := RX3) (T := TX3) (N := 16) hx hb hts ii_X3 hown hK hP 0 rfl rfl 2 (by decide) (hts (.fieldLink RX3 52 "StoryHouse$Machine" "story" "LStoryHouse$Story;") wq_262) (fun _ h9 => h9) rfl dX3_run_52 ?_
      refine va_get (D := (dC, dI)) (ci := 7) (v := .ref (oA 5)) (C := RX7) (T := TX7) (N := 19) hx hb hts ii_X7 hown hK hP 15 rfl rfl 16 (by decide) (hts (.fieldLink RX3 56 "StoryHouse$Story" "code" "LStoryHouse$Code;") wq_194) (fun _ h9 => h9) rfl dX3_run_55 ?_
      refine lv_aload_n hx hb dX3_run_58 rfl (lv_at hl 0 rfl) ?_
      refine va_get (D := (dC, dI)) (ci := 3) (v := .int ((s_15.2 10).1 9)) (C := RX3) (T := TX3) (N := 16) hx hb hts ii_X3 hown hK hP 0 rfl rfl 9 (by decide) (hts (.fieldLink RX3 68 "StoryHouse$Machine" "pc" "I") wq_273) (fun _ h9 => h9) rfl dX3_run_59 ?_
      obtain ⟨u_34, hu_34, hF_35⟩ := Option.bind_eq_some_iff.mp hF_33
      clear hF_33
      have hPc := hP.sub (ws' := (b_c cB cC cI cJ cZ oA rA s_15.2)) [32, 33, 34, 35, 36] rfl
      have hDc := (hDD s_15.2).sub (ws' := (b_c cB cC cI cJ cZ oA rA s_15.2)) [32, 33, 34, 35, 36] (by decide +kernel) rfl
      have hFc := va_free (wc := (b_c cB cC cI cJ cZ oA rA s_15.2)) (hDD s_15.2) hS hA [32, 33, 34, 35, 36] rfl
      refine g_ofi (wc := (b_c cB cC cI cJ cZ oA rA s_15.2)) (wr := (b_k cB cC cI cJ cZ oA rA s_15.2 ++ b_p cB cC cI cJ cZ oA rA s_15.2 ++ b_o cB cC cI cJ cZ oA rA s_15.2 ++ b_s cB cC cI cJ cZ oA rA s_15.2 ++ b_t cB cC cI cJ cZ oA rA s_15.2 ++ b_d cB cC cI cJ cZ oA rA s_15.2)) hP (hDD s_15.2) hS hFc [32, 33, 34, 35, 36] [0, 1, 2, 3, 4, 5, 6, 7, 8, 9, 10, 11, 12, 13, 14, 15, 16, 17, 18, 19, 20, 21, 22, 23, 24, 25, 26, 27, 28, 29, 30, 31, 37, 38, 39, 40, 41, 42, 43, 44, 45] rfl rfl (by decide +kernel) (by decide +kernel) (va_runV (As := [.int ((s_15.2 10).1 9)]) (rest := []) ⟨hx, hb, hml, hown, hts⟩ (k_X0_byteAt l dC dI cB cC cI cJ cZ cP oA rA H.size  ((s_15.2 10).1 9) s_15.2 _ hu_34) (cwV 1 hts (g_gV wq_1136 wq_828 wq_829 wq_6 wq_830) rfl rfl rfl (by decide +kernel) ⟨Nat.le_of_ble_eq_true rfl, Nat.le_of_ble_eq_true rfl⟩) (g_preV g_bl0 hK hPc hDc hS hE hFc g_to0 (q0 := 0) (ci := 0) rfl rfl) rfl rfl hl.1 rfl (lv_room (Nat.le_of_ble_eq_true rfl)) dX3_run_62 ⟨Nat.le_of_ble_eq_true rfl, Nat.le_of_ble_eq_true rfl⟩) (fun r9 u9 H locs hw9 hP' hD' hS => ?_)
      clear hPc hDc hFc
      subst hw9
      obtain ⟨σ_36, eσ_36, hF_37⟩ := bnd_e hF_35
      clear hF_35
      have hP : va_P (dC, dI) vwCl (b_k cB cC cI cJ cZ oA rA σ_36 ++ b_p cB cC cI cJ cZ oA rA σ_36 ++ b_o cB cC cI cJ cZ oA rA σ_36 ++ b_s cB cC cI cJ cZ oA rA σ_36 ++ b_c cB cC cI cJ cZ oA rA σ_36 ++ b_t cB cC cI cJ cZ oA rA σ_36 ++ b_d cB cC cI cJ cZ oA rA σ_36) H := by rw [eσ_36]; exact hP'.sub [0, 1, 2, 3, 4, 5, 6, 7, 8, 9, 10, 11, 12, 13, 14, 15, 16, 17, 18, 19, 20, 21, 22, 23, 24, 25, 26, 27, 28, 29, 30, 31, 41, 42, 43, 44, 45, 32, 33, 34, 35, 36, 37, 38, 39, 40] rfl
      clear hP' hD'
      refine lv_istore_n (lv' := [(3, .int u_34.1), (0, .ref (oA 10)), (2, .int s_15.1)]) hx hb dX3_run_65 rfl hl (by decide) rfl (fun ls hl => ?_)
      refine lv_aload_n hx hb dX3_run_66 rfl (lv_at hl 1 rfl) ?_
      refine lv_dup hx hb dX3_run_67 rfl ?_
      refine va_get (D := (dC, dI)) (ci := 3) (v := .int ((σ_36 10).1 9)) (C := RX3) (T := TX3) (N := 16) hx hb hts ii_X3 hown hK hP 0 rfl rfl 9 (by decide) (hts (.fieldLink RX3 68 "StoryHouse$Machine" "pc" "I") wq_273) (fun _ h9 => h9) rfl dX3_run_68 ?_
      refine lv_iconst (v := 1) hx hb dX3_run_71 (by decide +kernel) ?_
      refine lv_iadd hx hb dX3_run_72 ?_
      obtain ⟨σ_38, eσ_38, hF_39⟩ := bnd_e hF_37
      clear hF_37
      refine va_put (D := (dC, dI)) (ci := 3) (v := .int (((σ_36 10).1 9) + 1)) (ty := .int) (C := RX3) (T := TX3) (N := 16) hx hb hts ii_X3 tyX3 tyX3_ok nmX3 hown hK hP (hDD _) hS 0 rfl rfl 9 (by decide) (hts (.fieldLink RX3 68 "StoryHouse$Machine" "pc" "I") wq_273) (fun _ h9 => h9) rfl (by decide +kernel) rfl rfl (Nat.le_of_ble_eq_true rfl) dX3_run_73 (fun H locs hP' _ hS => ?_)
      have hP : va_P (dC, dI) vwCl (b_k cB cC cI cJ cZ oA rA σ_38 ++ b_p cB cC cI cJ cZ oA rA σ_38 ++ b_o cB cC cI cJ cZ oA rA σ_38 ++ b_s cB cC cI cJ cZ oA rA σ_38 ++ b_c cB cC cI cJ cZ oA rA σ_38 ++ b_t cB cC cI cJ cZ oA rA σ_38 ++ b_d cB cC cI cJ cZ oA rA σ_38) H := by rw [eσ_38]; exact cs_kposctd_k_9 ▸ hP'
      clear hP'
      refine lv_iload_n hx hb dX3_run_76 rfl (lv_at hl 0 rfl) ?_
      refine lv_bipush (v := 33) hx hb dX3_run_77 (by decide +kernel) ?_
      obtain ⟨j_41, ej_41, hF_42⟩ := bnd_e hF_39
      clear hF_39
      have Jj_41 : ∀  (σ_40 : HS), j_41  σ_40 = some res → ∀ (H : Heap) (locs : List Loc), va_P (dC, dI) vwCl (b_k cB cC cI cJ cZ oA rA σ_40 ++ b_p cB cC cI cJ cZ oA rA σ_40 ++ b_o cB cC cI cJ cZ oA rA σ_40 ++ b_s cB cC cI cJ cZ oA rA σ_40 ++ b_c cB cC cI cJ cZ oA rA σ_40 ++ b_t cB cC cI cJ cZ oA rA σ_40 ++ b_d cB cC cI cJ cZ oA rA σ_40) H → va_S A s.heap H locs → ∀ ls : Array Slot, lv_has ls 5 [(0, .ref (oA 10)), (2, .int s_15.1)] → W p l e (headSpec (g_ws yX3_run cX3_run 5 (some .int)) { frames := 9, cells := 0, slots := 0, locals := 221 }).room s m ([.ref (oA 10), .int p0] : List Value).toArray below meth c H locs 0 0 (MQ below (va_Qi (fun r (_ : Unit) => r = res.1) (g_Bo (dC, dI) A (fun (_ : Unit) => (b_k cB cC cI cJ cZ oA rA res.2 ++ b_p cB cC cI cJ cZ oA rA res.2 ++ b_o cB cC cI cJ cZ oA rA res.2 ++ b_s cB cC cI cJ cZ oA rA res.2 ++ b_c cB cC cI cJ cZ oA rA res.2 ++ b_t cB cC cI cJ cZ oA rA res.2 ++ b_d cB cC cI cJ cZ oA rA res.2))) A) ([.ref (oA 10), .int p0] : List Value).toArray s 0 0 A) (F0 m 178 ls []) := by
        intro  σ_40 hF0 H locs hP hS ls hl
        subst ej_41
        have hF_43 := hF0
        clear hF0
        obtain ⟨x_44, ex_44, hF_45⟩ := bnd_e hF_43
        clear hF_43
        refine lv_iinc (v := x_44) (lv' := [(2, .int x_44), (0, .ref (oA 10))]) hx hb dX3_run_178 hl (k := 1) rfl (by rw [ex_44]; rfl) (by decide) rfl (fun ls hl => ?_)
        refine lv_goto (tgt := 38) hx hb dX3_run_181 (by decide) ?_
        exact ih_17 (x_44, σ_40) hF_45 _ _ hP hS ls (lv_sub hl [1, 0] rfl)
      refine lv_icmp_lt (tgt := 118) hx hb dX3_run_79 (by decide) (fun c_46 => ?_) (fun c_46 => ?_)
      · have hF_47 := ipos c_46 hF_42
        clear hF_42
        refine lv_iload_n hx hb dX3_run_118 rfl (lv_at hl 0 rfl) ?_
        refine lv_bipush (v := 32) hx hb dX3_run_119 (by decide +kernel) ?_
        refine lv_icmp_ne (tgt := 131) hx hb dX3_run_121 (by decide) (fun c_48 => ?_) (fun c_48 => ?_)
        · have hF_52 := ineg c_48 hF_47
          clear hF_47
          refine lv_iload_n hx hb dX3_run_131 rfl (lv_at hl 0 rfl) ?_
          refine lv_bipush (v := 27) hx hb dX3_run_132 (by decide +kernel) ?_
          refine lv_icmp_lt (tgt := 145) hx hb dX3_run_134 (by decide) (fun c_53 => ?_) (fun c_53 => ?_)
          · have hF_54 := ipos c_53 hF_52
            clear hF_52
            refine lv_iload_n hx hb dX3_run_145 rfl (lv_at hl 0 rfl) ?_
            refine lv_bipush (v := 21) hx hb dX3_run_146 (by decide +kernel) ?_
            refine lv_icmp_lt (tgt := 159) hx hb dX3_run_148 (by decide) (fun c_55 => ?_) (fun c_55 => ?_)
            · have hF_56 := ipos c_55 hF_54
              clear hF_54
              refine lv_iload_n hx hb dX3_run_159 rfl (lv_at hl 0 rfl) ?_
              refine lv_bipush (v := 10) hx hb dX3_run_160 (by decide +kernel) ?_
              refine lv_icmp_lt (tgt := 173) hx hb dX3_run_162 (by decide) (fun c_57 => ?_) (fun c_57 => ?_)
              · have hF_58 := ipos c_57 hF_56
                clear hF_56
                refine lv_aload_n hx hb dX3_run_173 rfl (lv_at hl 1 rfl) ?_
                refine lv_iload_n hx hb dX3_run_174 rfl (lv_at hl 0 rfl) ?_
                obtain ⟨u_59, hu_59, hF_60⟩ := Option.bind_eq_some_iff.mp hF_58
                clear hF_58
                have hPc := hP.sub (ws' := (b_k cB cC cI cJ cZ oA rA σ_38 ++ b_p cB cC cI cJ cZ oA rA σ_38 ++ b_o cB cC cI cJ cZ oA rA σ_38 ++ b_s cB cC cI cJ cZ oA rA σ_38 ++ b_c cB cC cI cJ cZ oA rA σ_38 ++ b_t cB cC cI cJ cZ oA rA σ_38 ++ b_d cB cC cI cJ cZ oA rA σ_38)) [0, 1, 2, 3, 4, 5, 6, 7, 8, 9, 10, 11, 12, 13, 14, 15, 16, 17, 18, 19, 20, 21, 22, 23, 24, 25, 26, 27, 28, 29, 30, 31, 32, 33, 34, 35, 36, 37, 38, 39, 40, 41, 42, 43, 44, 45] rfl
                have hDc := (hDD σ_38).sub (ws' := (b_k cB cC cI cJ cZ oA rA σ_38 ++ b_p cB cC cI cJ cZ oA rA σ_38 ++ b_o cB cC cI cJ cZ oA rA σ_38 ++ b_s cB cC cI cJ cZ oA rA σ_38 ++ b_c cB cC cI cJ cZ oA rA σ_38 ++ b_t cB cC cI cJ cZ oA rA σ_38 ++ b_d cB cC cI cJ cZ oA rA σ_38)) [0, 1, 2, 3, 4, 5, 6, 7, 8, 9, 10, 11, 12, 13, 14, 15, 16, 17, 18, 19, 20, 21, 22, 23, 24, 25, 26, 27, 28, 29, 30, 31, 32, 33, 34, 35, 36, 37, 38, 39, 40, 41, 42, 43, 44, 45] (by decide +kernel) rfl
                have hFc := va_free (wc := (b_k cB cC cI cJ cZ oA rA σ_38 ++ b_p cB cC cI cJ cZ oA rA σ_38 ++ b_o cB cC cI cJ cZ oA rA σ_38 ++ b_s cB cC cI cJ cZ oA rA σ_38 ++ b_c cB cC cI cJ cZ oA rA σ_38 ++ b_t cB cC cI cJ cZ oA rA σ_38 ++ b_d cB cC cI cJ cZ oA rA σ_38)) (hDD σ_38) hS hA [0, 1, 2, 3, 4, 5, 6, 7, 8, 9, 10, 11, 12, 13, 14, 15, 16, 17, 18, 19, 20, 21, 22, 23, 24, 25, 26, 27, 28, 29, 30, 31, 32, 33, 34, 35, 36, 37, 38, 39, 40, 41, 42, 43, 44, 45] rfl
                refine g_ofv (wc := (b_k cB cC cI cJ cZ oA rA σ_38 ++ b_p cB cC cI cJ cZ oA rA σ_38 ++ b_o cB cC cI cJ cZ oA rA σ_38 ++ b_s cB cC cI cJ cZ oA rA σ_38 ++ b_c cB cC cI cJ cZ oA rA σ_38 ++ b_t cB cC cI cJ cZ oA rA σ_38 ++ b_d cB cC cI cJ cZ oA rA σ_38)) (wr := ([] : va_W)) hP (hDD σ_38) hS hFc [0, 1, 2, 3, 4, 5, 6, 7, 8, 9, 10, 11, 12, 13, 14, 15, 16, 17, 18, 19, 20, 21, 22, 23, 24, 25, 26, 27, 28, 29, 30, 31, 32, 33, 34, 35, 36, 37, 38, 39, 40, 41, 42, 43, 44, 45] [] rfl rfl (by decide +kernel) (by decide +kernel) (va_runV (As := [.int u_34.1]) (rest := []) ⟨hx, hb, hml, hown, hts⟩ (k_X3_flowOp l dC dI cB cC cI cJ cZ cP oA rA H.size  u_34.1 σ_38 _ hu_59) (cwV 1 hts (g_gV wq_1210 wq_1211 wq_2098 wq_11 wq_1212) rfl rfl rfl (by decide +kernel) ⟨Nat.le_of_ble_eq_true rfl, Nat.le_of_ble_eq_true rfl⟩) (g_preV g_bl0 hK hPc hDc hS hE hFc g_to0 (q0 := 0) (ci := 3) rfl rfl) rfl rfl hl.1 rfl (lv_room (Nat.le_of_ble_eq_true rfl)) dX3_run_175 ⟨Nat.le_of_ble_eq_true rfl, Nat.le_of_ble_eq_true rfl⟩) (fun u9 H locs hw9 hP' hD' hS => ?_)
                clear hPc hDc hFc
                have hP : va_P (dC, dI) vwCl (b_k cB cC cI cJ cZ oA rA u_59.2 ++ b_p cB cC cI cJ cZ oA rA u_59.2 ++ b_o cB cC cI cJ cZ oA rA u_59.2 ++ b_s cB cC cI cJ cZ oA rA u_59.2 ++ b_c cB cC cI cJ cZ oA rA u_59.2 ++ b_t cB cC cI cJ cZ oA rA u_59.2 ++ b_d cB cC cI cJ cZ oA rA u_59.2) H := hP'
                clear hP' hD'
                exact Jj_41  u_59.2 hF_60 _ _ hP hS ls (lv_sub hl [1, 2] rfl)
              · have hF_61 := ineg c_57 hF_56
                clear hF_56
                refine lv_aload_n hx hb dX3_run_165 rfl (lv_at hl 1 rfl) ?_
                refine lv_iload_n hx hb dX3_run_166 rfl (lv_at hl 0 rfl) ?_
                obtain ⟨u_62, hu_62, hF_63⟩ := Option.bind_eq_some_iff.mp hF_61
                clear hF_61
                have hPc := hP.sub (ws' := (b_k cB cC cI cJ cZ oA rA σ_38 ++ b_p cB cC cI cJ cZ oA rA σ_38 ++ b_o cB cC cI cJ cZ oA rA σ_38 ++ b_s cB cC cI cJ cZ oA rA σ_38 ++ b_c cB cC cI cJ cZ oA rA σ_38 ++ b_t cB cC cI cJ cZ oA rA σ_38 ++ b_d cB cC cI cJ cZ oA rA σ_38)) [0, 1, 2, 3, 4, 5, 6, 7, 8, 9, 10, 11, 12, 13, 14, 15, 16, 17, 18, 19, 20, 21, 22, 23, 24, 25, 26, 27, 28, 29, 30, 31, 32, 33, 34, 35, 36, 37, 38, 39, 40, 41, 42, 43, 44, 45] rfl
                have hDc := (hDD σ_38).sub (ws' := (b_k cB cC cI cJ cZ oA rA σ_38 ++ b_p cB cC cI cJ cZ oA rA σ_38 ++ b_o cB cC cI cJ cZ oA rA σ_38 ++ b_s cB cC cI cJ cZ oA rA σ_38 ++ b_c cB cC cI cJ cZ oA rA σ_38 ++ b_t cB cC cI cJ cZ oA rA σ_38 ++ b_d cB cC cI cJ cZ oA rA σ_38)) [0, 1, 2, 3, 4, 5, 6, 7, 8, 9, 10, 11, 12, 13, 14, 15, 16, 17, 18, 19, 20, 21, 22, 23, 24, 25, 26, 27, 28, 29, 30, 31, 32, 33, 34, 35, 36, 37, 38, 39, 40, 41, 42, 43, 44, 45] (by decide +kernel) rfl
                have hFc := va_free (wc := (b_k cB cC cI cJ cZ oA rA σ_38 ++ b_p cB cC cI cJ cZ oA rA σ_38 ++ b_o cB cC cI cJ cZ oA rA σ_38 ++ b_s cB cC cI cJ cZ oA rA σ_38 ++ b_c cB cC cI cJ cZ oA rA σ_38 ++ b_t cB cC cI cJ cZ oA rA σ_38 ++ b_d cB cC cI cJ cZ oA rA σ_38)) (hDD σ_38) hS hA [0, 1, 2, 3, 4, 5, 6, 7, 8, 9, 10, 11, 12, 13, 14, 15, 16, 17, 18, 19, 20, 21, 22, 23, 24, 25, 26, 27, 28, 29, 30, 31, 32, 33, 34, 35, 36, 37, 38, 39, 40, 41, 42, 43, 44, 45] rfl
                refine g_ofv (wc := (b_k cB cC cI cJ cZ oA rA σ_38 ++ b_p cB cC cI cJ cZ oA rA σ_38 ++ b_o cB cC cI cJ cZ oA rA σ_38 ++ b_s cB cC cI cJ cZ oA rA σ_38 ++ b_c cB cC cI cJ cZ oA rA σ_38 ++ b_t cB cC cI cJ cZ oA rA σ_38 ++ b_d cB cC cI cJ cZ oA rA σ_38)) (wr := ([] : va_W)) hP (hDD σ_38) hS hFc [0, 1, 2, 3, 4, 5, 6, 7, 8, 9, 10, 11, 12, 13, 14, 15, 16, 17, 18, 19, 20, 21, 22, 23, 24, 25, 26, 27, 28, 29, 30, 31, 32, 33, 34, 35, 36, 37, 38, 39, 40, 41, 42, 43, 44, 45] [] rfl rfl (by decide +kernel) (by decide +kernel) (va_runV (As := [.int u_34.1]) (rest := []) ⟨hx, hb, hml, hown, hts⟩ (k_X3_numberOp l dC dI cB cC cI cJ cZ cP oA rA H.size  u_34.1 σ_38 _ hu_62) (cwV 1 hts (g_gV wq_1204 wq_1205 wq_2097 wq_11 wq_1206) rfl rfl rfl (by decide +kernel) ⟨Nat.le_of_ble_eq_true rfl, Nat.le_of_ble_eq_true rfl⟩) (g_preV g_bl0 hK hPc hDc hS hE hFc g_to0 (q0 := 0) (ci := 3) rfl rfl) rfl rfl hl.1 rfl (lv_room (Nat.le_of_ble_eq_true rfl)) dX3_run_167 ⟨Nat.le_of_ble_eq_true rfl, Nat.le_of_ble_eq_true rfl⟩) (fun u9 H locs hw9 hP' hD' hS => ?_)
                clear hPc hDc hFc
                have hP : va_P (dC, dI) vwCl (b_k cB cC cI cJ cZ oA rA u_62.2 ++ b_p cB cC cI cJ cZ oA rA u_62.2 ++ b_o cB cC cI cJ cZ oA rA u_62.2 ++ b_s cB cC cI cJ cZ oA rA u_62.2 ++ b_c cB cC cI cJ cZ oA rA u_62.2 ++ b_t cB cC cI cJ cZ oA rA u_62.2 ++ b_d cB cC cI cJ cZ oA rA u_62.2) H := hP'
                clear hP' hD'
                refine lv_goto (tgt := 178) hx hb dX3_run_170 (by decide) ?_
                exact Jj_41  u_62.2 hF_63 _ _ hP hS ls (lv_sub hl [1, 2] rfl)
            · have hF_64 := ineg c_55 hF_54
              clear hF_54
              refine lv_aload_n hx hb dX3_run_151 rfl (lv_at hl 1 rfl) ?_
              refine lv_iload_n hx hb dX3_run_152 rfl (lv_at hl 0 rfl) ?_
              obtain ⟨u_65, hu_65, hF_66⟩ := Option.bind_eq_some_iff.mp hF_64
              clear hF_64
              have hPc := hP.sub (ws' := (b_k cB cC cI cJ cZ oA rA σ_38 ++ b_p cB cC cI cJ cZ oA rA σ_38 ++ b_o cB cC cI cJ cZ oA rA σ_38 ++ b_s cB cC cI cJ cZ oA rA σ_38 ++ b_c cB cC cI cJ cZ oA rA σ_38 ++ b_t cB cC cI cJ cZ oA rA σ_38 ++ b_d cB cC cI cJ cZ oA rA σ_38)) [0, 1, 2, 3, 4, 5, 6, 7, 8, 9, 10, 11, 12, 13, 14, 15, 16, 17, 18, 19, 20, 21, 22, 23, 24, 25, 26, 27, 28, 29, 30, 31, 32, 33, 34, 35, 36, 37, 38, 39, 40, 41, 42, 43, 44, 45] rfl
              have hDc := (hDD σ_38).sub (ws' := (b_k cB cC cI cJ cZ oA rA σ_38 ++ b_p cB cC cI cJ cZ oA rA σ_38 ++ b_o cB cC cI cJ cZ oA rA σ_38 ++ b_s cB cC cI cJ cZ oA rA σ_38 ++ b_c cB cC cI cJ cZ oA rA σ_38 ++ b_t cB cC cI cJ cZ oA rA σ_38 ++ b_d cB cC cI cJ cZ oA rA σ_38)) [0, 1, 2, 3, 4, 5, 6, 7, 8, 9, 10, 11, 12, 13, 14, 15, 16, 17, 18, 19, 20, 21, 22, 23, 24, 25, 26, 27, 28, 29, 30, 31, 32, 33, 34, 35, 36, 37, 38, 39, 40, 41, 42, 43, 44, 45] (by decide +kernel) rfl
              have hFc := va_free (wc := (b_k cB cC cI cJ cZ oA rA σ_38 ++ b_p cB cC cI cJ cZ oA rA σ_38 ++ b_o cB cC cI cJ cZ oA rA σ_38 ++ b_s cB cC cI cJ cZ oA rA σ_38 ++ b_c cB cC cI cJ cZ oA rA σ_38 ++ b_t cB cC cI cJ cZ oA rA σ_38 ++ b_d cB cC cI cJ cZ oA rA σ_38)) (hDD σ_38) hS hA [0, 1, 2, 3, 4, 5, 6, 7, 8, 9, 10, 11, 12, 13, 14, 15, 16, 17, 18, 19, 20, 21, 22, 23, 24, 25, 26, 27, 28, 29, 30, 31, 32, 33, 34, 35, 36, 37, 38, 39, 40, 41, 42, 43, 44, 45] rfl
              refine g_ofv (wc := (b_k cB cC cI cJ cZ oA rA σ_38 ++ b_p cB cC cI cJ cZ oA rA σ_38 ++ b_o cB cC cI cJ cZ oA rA σ_38 ++ b_s cB cC cI cJ cZ oA rA σ_38 ++ b_c cB cC cI cJ cZ oA rA σ_38 ++ b_t cB cC cI cJ cZ oA rA σ_38 ++ b_d cB cC cI cJ cZ oA rA σ_38)) (wr := ([] : va_W)) hP (hDD σ_38) hS hFc [0, 1, 2, 3, 4, 5, 6, 7, 8, 9, 10, 11, 12, 13, 14, 15, 16, 17, 18, 19, 20, 21, 22, 23, 24, 25, 26, 27, 28, 29, 30, 31, 32, 33, 34, 35, 36, 37, 38, 39, 40, 41, 42, 43, 44, 45] [] rfl rfl (by decide +kernel) (by decide +kernel) (va_runV (As := [.int u_34.1]) (rest := []) ⟨hx, hb, hml, hown, hts⟩ (k_X3_objectOp l dC dI cB cC cI cJ cZ cP oA rA H.size  u_34.1 σ_38 _ hu_65) (cwV 1 hts (g_gV wq_1199 wq_1200 wq_2096 wq_11 wq_1201) rfl rfl rfl (by decide +kernel) ⟨Nat.le_of_ble_eq_true rfl, Nat.le_of_ble_eq_true rfl⟩) (g_preV g_bl0 hK hPc hDc hS hE hFc g_to0 (q0 := 0) (ci := 3) rfl rfl) rfl rfl hl.1 rfl (lv_room (Nat.le_of_ble_eq_true rfl)) dX3_run_153 ⟨Nat.le_of_ble_eq_true rfl, Nat.le_of_ble_eq_true rfl⟩) (fun u9 H locs hw9 hP' hD' hS => ?_)
              clear hPc hDc hFc
              have hP : va_P (dC, dI) vwCl (b_k cB cC cI cJ cZ oA rA u_65.2 ++ b_p cB cC cI cJ cZ oA rA u_65.2 ++ b_o cB cC cI cJ cZ oA rA u_65.2 ++ b_s cB cC cI cJ cZ oA rA u_65.2 ++ b_c cB cC cI cJ cZ oA rA u_65.2 ++ b_t cB cC cI cJ cZ oA rA u_65.2 ++ b_d cB cC cI cJ cZ oA rA u_65.2) H := hP'
              clear hP' hD'
              refine lv_goto (tgt := 178) hx hb dX3_run_156 (by decide) ?_
              exact Jj_41  u_65.2 hF_66 _ _ hP hS ls (lv_sub hl [1, 2] rfl)
          · have hF_67 := ineg c_53 hF_52
            clear hF_52
            refine lv_aload_n hx hb dX3_run_137 rfl (lv_at hl 1 rfl) ?_
            refine lv_iload_n hx hb dX3_run_138 rfl (lv_at hl 0 rfl) ?_
            obtain ⟨u_68, hu_68, hF_69⟩ := Option.bind_eq_some_iff.mp hF_67
            clear hF_67
            have hPc := hP.sub (ws' := (b_k cB cC cI cJ cZ oA rA σ_38 ++ b_p cB cC cI cJ cZ oA rA σ_38 ++ b_o cB cC cI cJ cZ oA rA σ_38 ++ b_s cB cC cI cJ cZ oA rA σ_38 ++ b_c cB cC cI cJ cZ oA rA σ_38 ++ b_t cB cC cI cJ cZ oA rA σ_38 ++ b_d cB cC cI cJ cZ oA rA σ_38)) [0, 1, 2, 3, 4, 5, 6, 7, 8, 9, 10, 11, 12, 13, 14, 15, 16, 17, 18, 19, 20, 21, 22, 23, 24, 25, 26, 27, 28, 29, 30, 31, 32, 33, 34, 35, 36, 37, 38, 39, 40, 41, 42, 43, 44, 45] rfl
            have hDc := (hDD σ_38).sub (ws' := (b_k cB cC cI cJ cZ oA rA σ_38 ++ b_p cB cC cI cJ cZ oA rA σ_38 ++ b_o cB cC cI cJ cZ oA rA σ_38 ++ b_s cB cC cI cJ cZ oA rA σ_38 ++ b_c cB cC cI cJ cZ oA rA σ_38 ++ b_t cB cC cI cJ cZ oA rA σ_38 ++ b_d cB cC cI cJ cZ oA rA σ_38)) [0, 1, 2, 3, 4, 5, 6, 7, 8, 9, 10, 11, 12, 13, 14, 15, 16, 17, 18, 19, 20, 21, 22, 23, 24, 25, 26, 27, 28, 29, 30, 31, 32, 33, 34, 35, 36, 37, 38, 39, 40, 41, 42, 43, 44, 45] (by decide +kernel) rfl
            have hFc := va_free (wc := (b_k cB cC cI cJ cZ oA rA σ_38 ++ b_p cB cC cI cJ cZ oA rA σ_38 ++ b_o cB cC cI cJ cZ oA rA σ_38 ++ b_s cB cC cI cJ cZ oA rA σ_38 ++ b_c cB cC cI cJ cZ oA rA σ_38 ++ b_t cB cC cI cJ cZ oA rA σ_38 ++ b_d cB cC cI cJ cZ oA rA σ_38)) (hDD σ_38) hS hA [0, 1, 2, 3, 4, 5, 6, 7, 8, 9, 10, 11, 12, 13, 14, 15, 16, 17, 18, 19, 20, 21, 22, 23, 24, 25, 26, 27, 28, 29, 30, 31, 32, 33, 34, 35, 36, 37, 38, 39, 40, 41, 42, 43, 44, 45] rfl
            refine g_ofv (wc := (b_k cB cC cI cJ cZ oA rA σ_38 ++ b_p cB cC cI cJ cZ oA rA σ_38 ++ b_o cB cC cI cJ cZ oA rA σ_38 ++ b_s cB cC cI cJ cZ oA rA σ_38 ++ b_c cB cC cI cJ cZ oA rA σ_38 ++ b_t cB cC cI cJ cZ oA rA σ_38 ++ b_d cB cC cI cJ cZ oA rA σ_38)) (wr := ([] : va_W)) hP (hDD σ_38) hS hFc [0, 1, 2, 3, 4, 5, 6, 7, 8, 9, 10, 11, 12, 13, 14, 15, 16, 17, 18, 19, 20, 21, 22, 23, 24, 25, 26, 27, 28, 29, 30, 31, 32, 33, 34, 35, 36, 37, 38, 39, 40, 41, 42, 43, 44, 45] [] rfl rfl (by decide +kernel) (by decide +kernel) (va_runV (As := [.int u_34.1]) (rest := []) ⟨hx, hb, hml, hown, hts⟩ (k_X3_worldOp l dC dI cB cC cI cJ cZ cP oA rA H.size  u_34.1 σ_38 _ hu_68) (cwV 1 hts (g_gV wq_1184 wq_1185 wq_2094 wq_11 wq_1186) rfl rfl rfl (by decide +kernel) ⟨Nat.le_of_ble_eq_true rfl, Nat.le_of_ble_eq_true rfl⟩) (g_preV g_bl0 hK hPc hDc hS hE hFc g_to0 (q0 := 0) (ci := 3) rfl rfl) rfl rfl hl.1 rfl (lv_room (Nat.le_of_ble_eq_true rfl)) dX3_run_139 ⟨Nat.le_of_ble_eq_true rfl, Nat.le_of_ble_eq_true rfl⟩) (fun u9 H locs hw9 hP' hD' hS => ?_)
            clear hPc hDc hFc
            have hP : va_P (dC, dI) vwCl (b_k cB cC cI cJ cZ oA rA u_68.2 ++ b_p cB cC cI cJ cZ oA rA u_68.2 ++ b_o cB cC cI cJ cZ oA rA u_68.2 ++ b_s cB cC cI cJ cZ oA rA u_68.2 ++ b_c cB cC cI cJ cZ oA rA u_68.2 ++ b_t cB cC cI cJ cZ oA rA u_68.2 ++ b_d cB cC cI cJ cZ oA rA u_68.2) H := hP'
            clear hP' hD'
            refine lv_goto (tgt := 178) hx hb dX3_run_142 (by decide) ?_
            exact Jj_41  u_68.2 hF_69 _ _ hP hS ls (lv_sub hl [1, 2] rfl)
        · have hF_49 := ipos c_48 hF_47
          clear hF_47
          refine lv_aload_n hx hb dX3_run_124 rfl (lv_at hl 1 rfl) ?_
          obtain ⟨u_50, hu_50, hF_51⟩ := Option.bind_eq_some_iff.mp hF_49
          clear hF_49
          have hPc := hP.sub (ws' := (b_k cB cC cI cJ cZ oA rA σ_38 ++ b_p cB cC cI cJ cZ oA rA σ_38 ++ b_o cB cC cI cJ cZ oA rA σ_38 ++ b_s cB cC cI cJ cZ oA rA σ_38 ++ b_c cB cC cI cJ cZ oA rA σ_38 ++ b_t cB cC cI cJ cZ oA rA σ_38 ++ b_d cB cC cI cJ cZ oA rA σ_38)) [0, 1, 2, 3, 4, 5, 6, 7, 8, 9, 10, 11, 12, 13, 14, 15, 16, 17, 18, 19, 20, 21, 22, 23, 24, 25, 26, 27, 28, 29, 30, 31, 32, 33, 34, 35, 36, 37, 38, 39, 40, 41, 42, 43, 44, 45] rfl
          have hDc := (hDD σ_38).sub (ws' := (b_k cB cC cI cJ cZ oA rA σ_38 ++ b_p cB cC cI cJ cZ oA rA σ_38 ++ b_o cB cC cI cJ cZ oA rA σ_38 ++ b_s cB cC cI cJ cZ oA rA σ_38 ++ b_c cB cC cI cJ cZ oA rA σ_38 ++ b_t cB cC cI cJ cZ oA rA σ_38 ++ b_d cB cC cI cJ cZ oA rA σ_38)) [0, 1, 2, 3, 4, 5, 6, 7, 8, 9, 10, 11, 12, 13, 14, 15, 16, 17, 18, 19, 20, 21, 22, 23, 24, 25, 26, 27, 28, 29, 30, 31, 32, 33, 34, 35, 36, 37, 38, 39, 40, 41, 42, 43, 44, 45] (by decide +kernel) rfl
          have hFc := va_free (wc := (b_k cB cC cI cJ cZ oA rA σ_38 ++ b_p cB cC cI cJ cZ oA rA σ_38 ++ b_o cB cC cI cJ cZ oA rA σ_38 ++ b_s cB cC cI cJ cZ oA rA σ_38 ++ b_c cB cC cI cJ cZ oA rA σ_38 ++ b_t cB cC cI cJ cZ oA rA σ_38 ++ b_d cB cC cI cJ cZ oA rA σ_38)) (hDD σ_38) hS hA [0, 1, 2, 3, 4, 5, 6, 7, 8, 9, 10, 11, 12, 13, 14, 15, 16, 17, 18, 19, 20, 21, 22, 23, 24, 25, 26, 27, 28, 29, 30, 31, 32, 33, 34, 35, 36, 37, 38, 39, 40, 41, 42, 43, 44, 45] rfl
          refine g_ofv (wc := (b_k cB cC cI cJ cZ oA rA σ_38 ++ b_p cB cC cI cJ cZ oA rA σ_38 ++ b_o cB cC cI cJ cZ oA rA σ_38 ++ b_s cB cC cI cJ cZ oA rA σ_38 ++ b_c cB cC cI cJ cZ oA rA σ_38 ++ b_t cB cC cI cJ cZ oA rA σ_38 ++ b_d cB cC cI cJ cZ oA rA σ_38)) (wr := ([] : va_W)) hP (hDD σ_38) hS hFc [0, 1, 2, 3, 4, 5, 6, 7, 8, 9, 10, 11, 12, 13, 14, 15, 16, 17, 18, 19, 20, 21, 22, 23, 24, 25, 26, 27, 28, 29, 30, 31, 32, 33, 34, 35, 36, 37, 38, 39, 40, 41, 42, 43, 44, 45] [] rfl rfl (by decide +kernel) (by decide +kernel) (va_runV (As := []) (rest := []) ⟨hx, hb, hml, hown, hts⟩ (k_X3_moveOp l dC dI cB cC cI cJ cZ cP oA rA H.size  σ_38 _ hu_50) (cwV 0 hts (g_gV wq_1175 wq_1176 wq_2093 wq_11 wq_1177) rfl rfl rfl (by decide +kernel) ⟨Nat.le_of_ble_eq_true rfl, Nat.le_of_ble_eq_true rfl⟩) (g_preV g_bl0 hK hPc hDc hS hE hFc g_to0 (q0 := 0) (ci := 3) rfl rfl) rfl rfl hl.1 rfl (lv_room (Nat.le_of_ble_eq_true rfl)) dX3_run_125 ⟨Nat.le_of_ble_eq_true rfl, Nat.le_of_ble_eq_true rfl⟩) (fun u9 H locs hw9 hP' hD' hS => ?_)
          clear hPc hDc hFc
          have hP : va_P (dC, dI) vwCl (b_k cB cC cI cJ cZ oA rA u_50.2 ++ b_p cB cC cI cJ cZ oA rA u_50.2 ++ b_o cB cC cI cJ cZ oA rA u_50.2 ++ b_s cB cC cI cJ cZ oA rA u_50.2 ++ b_c cB cC cI cJ cZ oA rA u_50.2 ++ b_t cB cC cI cJ cZ oA rA u_50.2 ++ b_d cB cC cI cJ cZ oA rA u_50.2) H := hP'
          clear hP' hD'
          refine lv_goto (tgt := 178) hx hb dX3_run_128 (by decide) ?_
          exact Jj_41  u_50.2 hF_51 _ _ hP hS ls (lv_sub hl [1, 2] rfl)
      · have hF_70 := ineg c_46 hF_42
        clear hF_42
        refine lv_aload_n hx hb dX3_run_82 rfl (lv_at hl 1 rfl) ?_
        refine va_get (D := (dC, dI)) (ci := 3) (v := .ref (oA 4)) (C := RX3) (T := TX3) (N := 16) hx hb hts ii_X3 hown hK hP 0 rfl rfl 2 (by decide) (hts (.fieldLink RX3 52 "StoryHouse$Machine" "story" "LStoryHouse$Story;") wq_262) (fun _ h9 => h9) rfl dX3_run_83 ?_
        refine va_get (D := (dC, dI)) (ci := 7) (v := .ref (oA 5)) (C := RX7) (T := TX7) (N := 19) hx hb hts ii_X7 hown hK hP 15 rfl rfl 16 (by decide) (hts (.fieldLink RX3 56 "StoryHouse$Story" "code" "LStoryHouse$Code;") wq_194) (fun _ h9 => h9) rfl dX3_run_86 ?_
        refine lv_aload_n hx hb dX3_run_89 rfl (lv_at hl 1 rfl) ?_
        refine va_get (D := (dC, dI)) (ci := 3) (v := .int ((σ_38 10).1 9)) (C := RX3) (T := TX3) (N := 16) hx hb hts ii_X3 hown hK hP 0 rfl rfl 9 (by decide) (hts (.fieldLink RX3 68 "StoryHouse$Machine" "pc" "I") wq_273) (fun _ h9 => h9) rfl dX3_run_90 ?_
        obtain ⟨u_71, hu_71, hF_72⟩ := Option.bind_eq_some_iff.mp hF_70
        clear hF_70
        have hPc := hP.sub (ws' := (b_c cB cC cI cJ cZ oA rA σ_38)) [32, 33, 34, 35, 36] rfl
        have hDc := (hDD σ_38).sub (ws' := (b_c cB cC cI cJ cZ oA rA σ_38)) [32, 33, 34, 35, 36] (by decide +kernel) rfl
        have hFc := va_free (wc := (b_c cB cC cI cJ cZ oA rA σ_38)) (hDD σ_38) hS hA [32, 33, 34, 35, 36] rfl
        refine g_ofi (wc := (b_c cB cC cI cJ cZ oA rA σ_38)) (wr := (b_k cB cC cI cJ cZ oA rA σ_38 ++ b_p cB cC cI cJ cZ oA rA σ_38 ++ b_o cB cC cI cJ cZ oA rA σ_38 ++ b_s cB cC cI cJ cZ oA rA σ_38 ++ b_t cB cC cI cJ cZ oA rA σ_38 ++ b_d cB cC cI cJ cZ oA rA σ_38)) hP (hDD σ_38) hS hFc [32, 33, 34, 35, 36] [0, 1, 2, 3, 4, 5, 6, 7, 8, 9, 10, 11, 12, 13, 14, 15, 16, 17, 18, 19, 20, 21, 22, 23, 24, 25, 26, 27, 28, 29, 30, 31, 37, 38, 39, 40, 41, 42, 43, 44, 45] rfl rfl (by decide +kernel) (by decide +kernel) (va_runV (As := [.int ((σ_38 10).1 9)]) (rest := []) ⟨hx, hb, hml, hown, hts⟩ (k_X0_pairAt l dC dI cB cC cI cJ cZ cP oA rA H.size  ((σ_38 10).1 9) σ_38 _ hu_71) (cwV 1 hts (g_gV wq_1137 wq_832 wq_833 wq_6 wq_834) rfl rfl rfl (by decide +kernel) ⟨Nat.le_of_ble_eq_true rfl, Nat.le_of_ble_eq_true rfl⟩) (g_preV g_bl0 hK hPc hDc hS hE hFc g_to0 (q0 := 0) (ci := 0) rfl rfl) rfl rfl hl.1 rfl (lv_room (Nat.le_of_ble_eq_true rfl)) dX3_run_93 ⟨Nat.le_of_ble_eq_true rfl, Nat.le_of_ble_eq_true rfl⟩) (fun r9 u9 H locs hw9 hP' hD' hS => ?_)
        clear hPc hDc hFc
        subst hw9
        obtain ⟨σ_73, eσ_73, hF_74⟩ := bnd_e hF_72
        clear hF_72
        have hP : va_P (dC, dI) vwCl (b_k cB cC cI cJ cZ oA rA σ_73 ++ b_p cB cC cI cJ cZ oA rA σ_73 ++ b_o cB cC cI cJ cZ oA rA σ_73 ++ b_s cB cC cI cJ cZ oA rA σ_73 ++ b_c cB cC cI cJ cZ oA rA σ_73 ++ b_t cB cC cI cJ cZ oA rA σ_73 ++ b_d cB cC cI cJ cZ oA rA σ_73) H := by rw [eσ_73]; exact hP'.sub [0, 1, 2, 3, 4, 5, 6, 7, 8, 9, 10, 11, 12, 13, 14, 15, 16, 17, 18, 19, 20, 21, 22, 23, 24, 25, 26, 27, 28, 29, 30, 31, 41, 42, 43, 44, 45, 32, 33, 34, 35, 36, 37, 38, 39, 40] rfl
        clear hP' hD'
        refine lv_istore (lv' := [(4, .int u_71.1), (3, .int u_34.1), (0, .ref (oA 10)), (2, .int s_15.1)]) hx hb dX3_run_96 hl (by decide) rfl (fun ls hl => ?_)
        refine lv_aload_n hx hb dX3_run_98 rfl (lv_at hl 2 rfl) ?_
        refine lv_dup hx hb dX3_run_99 rfl ?_
        refine va_get (D := (dC, dI)) (ci := 3) (v := .int ((σ_73 10).1 9)) (C := RX3) (T := TX3) (N := 16) hx hb hts ii_X3 hown hK hP 0 rfl rfl 9 (by decide) (hts (.fieldLink RX3 68 "StoryHouse$Machine" "pc" "I") wq_273) (fun _ h9 => h9) rfl dX3_run_100 ?_
        refine lv_iconst (v := 2) hx hb dX3_run_103 (by decide +kernel) ?_
        refine lv_iadd hx hb dX3_run_104 ?_
        obtain ⟨σ_75, eσ_75, hF_76⟩ := bnd_e hF_74
        clear hF_74
        refine va_put (D := (dC, dI)) (ci := 3) (v := .int (((σ_73 10).1 9) + 2)) (ty := .int) (C := RX3) (T := TX3) (N := 16) hx hb hts ii_X3 tyX3 tyX3_ok nmX3 hown hK hP (hDD _) hS 0 rfl rfl 9 (by decide) (hts (.fieldLink RX3 68 "StoryHouse$Machine" "pc" "I") wq_273) (fun _ h9 => h9) rfl (by decide +kernel) rfl rfl (Nat.le_of_ble_eq_true rfl) dX3_run_105 (fun H locs hP' _ hS => ?_)
        have hP : va_P (dC, dI) vwCl (b_k cB cC cI cJ cZ oA rA σ_75 ++ b_p cB cC cI cJ cZ oA rA σ_75 ++ b_o cB cC cI cJ cZ oA rA σ_75 ++ b_s cB cC cI cJ cZ oA rA σ_75 ++ b_c cB cC cI cJ cZ oA rA σ_75 ++ b_t cB cC cI cJ cZ oA rA σ_75 ++ b_d cB cC cI cJ cZ oA rA σ_75) H := by rw [eσ_75]; exact cs_kposctd_k_9 ▸ hP'
        clear hP'
        refine lv_aload_n hx hb dX3_run_108 rfl (lv_at hl 2 rfl) ?_
        refine lv_iload_n hx hb dX3_run_109 rfl (lv_at hl 1 rfl) ?_
        refine lv_iload hx hb dX3_run_110 (lv_at hl 0 rfl) ?_
        obtain ⟨u_77, hu_77, hF_78⟩ := Option.bind_eq_some_iff.mp hF_76
        clear hF_76
        have hPc := hP.sub (ws' := (b_k cB cC cI cJ cZ oA rA σ_75 ++ b_p cB cC cI cJ cZ oA rA σ_75 ++ b_o cB cC cI cJ cZ oA rA σ_75 ++ b_s cB cC cI cJ cZ oA rA σ_75 ++ b_c cB cC cI cJ cZ oA rA σ_75 ++ b_t cB cC cI cJ cZ oA rA σ_75 ++ b_d cB cC cI cJ cZ oA rA σ_75)) [0, 1, 2, 3, 4, 5, 6, 7, 8, 9, 10, 11, 12, 13, 14, 15, 16, 17, 18, 19, 20, 21, 22, 23, 24, 25, 26, 27, 28, 29, 30, 31, 32, 33, 34, 35, 36, 37, 38, 39, 40, 41, 42, 43, 44, 45] rfl
        have hDc := (hDD σ_75).sub (ws' := (b_k cB cC cI cJ cZ oA rA σ_75 ++ b_p cB cC cI cJ cZ oA rA σ_75 ++ b_o cB cC cI cJ cZ oA rA σ_75 ++ b_s cB cC cI cJ cZ oA rA σ_75 ++ b_c cB cC cI cJ cZ oA rA σ_75 ++ b_t cB cC cI cJ cZ oA rA σ_75 ++ b_d cB cC cI cJ cZ oA rA σ_75)) [0, 1, 2, 3, 4, 5, 6, 7, 8, 9, 10, 11, 12, 13, 14, 15, 16, 17, 18, 19, 20, 21, 22, 23, 24, 25, 26, 27, 28, 29, 30, 31, 32, 33, 34, 35, 36, 37, 38, 39, 40, 41, 42, 43, 44, 45] (by decide +kernel) rfl
        have hFc := va_free (wc := (b_k cB cC cI cJ cZ oA rA σ_75 ++ b_p cB cC cI cJ cZ oA rA σ_75 ++ b_o cB cC cI cJ cZ oA rA σ_75 ++ b_s cB cC cI cJ cZ oA rA σ_75 ++ b_c cB cC cI cJ cZ oA rA σ_75 ++ b_t cB cC cI cJ cZ oA rA σ_75 ++ b_d cB cC cI cJ cZ oA rA σ_75)) (hDD σ_75) hS hA [0, 1, 2, 3, 4, 5, 6, 7, 8, 9, 10, 11, 12, 13, 14, 15, 16, 17, 18, 19, 20, 21, 22, 23, 24, 25, 26, 27, 28, 29, 30, 31, 32, 33, 34, 35, 36, 37, 38, 39, 40, 41, 42, 43, 44, 45] rfl
        refine g_ofv (wc := (b_k cB cC cI cJ cZ oA rA σ_75 ++ b_p cB cC cI cJ cZ oA rA σ_75 ++ b_o cB cC cI cJ cZ oA rA σ_75 ++ b_s cB cC cI cJ cZ oA rA σ_75 ++ b_c cB cC cI cJ cZ oA rA σ_75 ++ b_t cB cC cI cJ cZ oA rA σ_75 ++ b_d cB cC cI cJ cZ oA rA σ_75)) (wr := ([] : va_W)) hP (hDD σ_75) hS hFc [0, 1, 2, 3, 4, 5, 6, 7, 8, 9, 10, 11, 12, 13, 14, 15, 16, 17, 18, 19, 20, 21, 22, 23, 24, 25, 26, 27, 28, 29, 30, 31, 32, 33, 34, 35, 36, 37, 38, 39, 40, 41, 42, 43, 44, 45] [] rfl rfl (by decide +kernel) (by decide +kernel) (va_runV (As := [.int u_34.1, .int u_71.1]) (rest := []) ⟨hx, hb, hml, hown, hts⟩ (k_X3_wideOp l dC dI cB cC cI cJ cZ cP oA rA H.size  u_34.1 u_71.1 σ_75 _ hu_77) (cwV 2 hts (g_gV wq_1138 wq_1139 wq_2084 wq_11 wq_1140) rfl rfl rfl (by decide +kernel) ⟨Nat.le_of_ble_eq_true rfl, Nat.le_of_ble_eq_true rfl⟩) (g_preV g_bl0 hK hPc hDc hS hE hFc g_to0 (q0 := 0) (ci := 3) rfl rfl) rfl rfl hl.1 rfl (lv_room (Nat.le_of_ble_eq_true rfl)) dX3_run_112 ⟨Nat.le_of_ble_eq_true rfl, Nat.le_of_ble_eq_true rfl⟩) (fun u9 H locs hw9 hP' hD' hS => ?_)
        clear hPc hDc hFc
        have hP : va_P (dC, dI) vwCl (b_k cB cC cI cJ cZ oA rA u_77.2 ++ b_p cB cC cI cJ cZ oA rA u_77.2 ++ b_o cB cC cI cJ cZ oA rA u_77.2 ++ b_s cB cC cI cJ cZ oA rA u_77.2 ++ b_c cB cC cI cJ cZ oA rA u_77.2 ++ b_t cB cC cI cJ cZ oA rA u_77.2 ++ b_d cB cC cI cJ cZ oA rA u_77.2) H := hP'
        clear hP' hD'
        refine lv_goto (tgt := 178) hx hb dX3_run_115 (by decide) ?_
        exact Jj_41  u_77.2 hF_78 _ _ hP hS ls (lv_sub hl [2, 3] rfl)
theorem dX4_fail_0 : decode cX4_fail 0 = .ok (.aload_n 0, 1) := by decide +kernel
theorem dX4_fail_1 : decode cX4_fail 1 = .ok (.getfield 40, 3) := by decide +kernel
theorem dX4_fail_4 : decode cX4_fail 4 = .ok (.ifCond .ne 20, 3) := by decide +kernel
theorem dX4_fail_7 : decode cX4_fail 7 = .ok (.aload_n 0, 1) := by decide +kernel
theorem dX4_fail_8 : decode cX4_fail 8 = .ok (.iload_n 1, 1) := by decide +kernel
theorem dX4_fail_9 : decode cX4_fail 9 = .ok (.putfield 40, 3) := by decide +kernel
theorem dX4_fail_12 : decode cX4_fail 12 = .ok (.aload_n 0, 1) := by decide +kernel
theorem dX4_fail_13 : decode cX4_fail 13 = .ok (.aload_n 0, 1) := by decide +kernel
theorem dX4_fail_14 : decode cX4_fail 14 = .ok (.getfield 32, 3) := by decide +kernel
theorem dX4_fail_17 : decode cX4_fail 17 = .ok (.iload_n 2, 1) := by decide +kernel
theorem dX4_fail_18 : decode cX4_fail 18 = .ok (.invokevirtual 88, 3) := by decide +kernel
theorem dX4_fail_21 : decode cX4_fail 21 = .ok (.putfield 44, 3) := by decide +kernel
theorem dX4_fail_24 : decode cX4_fail 24 = .ok (.return_, 1) := by decide +kernel
def F_X4_fail (p0 : Int32) (p1 : Int32) (Γ : HS) : HR :=
  if ((Γ 3).1 16) = 0 then (
    bnd (cI' Γ 3 16 p0) fun σ_3 =>
    (F_X10_placeOf p1 σ_3).bind fun u_5 =>
    bnd (mrg (fun j => j == 1) σ_3 u_5.2) fun σ_7 =>
    bnd (cI' σ_7 3 17 u_5.1) fun σ_9 =>
    some (0, σ_9)
  ) else (
    some (0, Γ)
  )
set_option maxHeartbeats 4000000 in
set_option maxRecDepth 100000 in
theorem k_X4_fail (l : Launch) (dC : Nat → ClassId) (dI : Nat → Nat → Nat) (cB cC cI cJ cZ cP : ClassId) (oA : Nat → Nat) (rA : Nat → Nat → Nat) (sz : Nat)  (p0 : Int32) (p1 : Int32) (Γ : HS) (res : Int32 × HS) (hF : F_X4_fail p0 p1 Γ = some res) : Met l yX4_fail (g_ws yX4_fail cX4_fail 3 none) ({ frames := 4, cells := 0, slots := 0, locals := 102 }) (va_Pc [.ref (oA 3), .int p0, .int p1] (g_B (dC, dI) [(cB, .byte), (cC, .char), (cI, .int), (cJ, .long), (cZ, .boolean), (cP, .object "StoryHouse$Play")] sz (b_m cB cC cI cJ cZ oA rA Γ ++ b_w cB cC cI cJ cZ oA rA Γ ++ b_s cB cC cI cJ cZ oA rA Γ ++ b_c cB cC cI cJ cZ oA rA Γ ++ b_t cB cC cI cJ cZ oA rA Γ ++ b_d cB cC cI cJ cZ oA rA Γ) g_0)) (va_Qv (fun (_ : Unit) => True) (g_Bo (dC, dI) (va_A (b_m cB cC cI cJ cZ oA rA Γ ++ b_w cB cC cI cJ cZ oA rA Γ ++ b_s cB cC cI cJ cZ oA rA Γ ++ b_c cB cC cI cJ cZ oA rA Γ ++ b_t cB cC cI cJ cZ oA rA Γ ++ b_d cB cC cI cJ cZ oA rA Γ) sz) (fun (_ : Unit) => (b_m cB cC cI cJ cZ oA rA res.2 ++ b_w cB cC cI cJ cZ oA rA res.2 ++ b_s cB cC cI cJ cZ oA rA res.2 ++ b_c cB cC cI cJ cZ oA rA res.2 ++ b_t cB cC cI cJ cZ oA rA res.2 ++ b_d cB cC cI cJ cZ oA rA res.2))) (va_A (b_m cB cC cI cJ cZ oA rA Γ ++ b_w cB cC cI cJ cZ oA rA Γ ++ b_s cB cC cI cJ cZ oA rA Γ ++ b_c cB cC cI cJ cZ oA rA Γ ++ b_t cB cC cI cJ cZ oA rA Γ ++ b_d cB cC cI cJ cZ oA rA Γ) sz)) 0 0 (va_A (b_m cB cC cI cJ cZ oA rA Γ ++ b_w cB cC cI cJ cZ oA rA Γ ++ b_s cB cC cI cJ cZ oA rA Γ ++ b_c cB cC cI cJ cZ oA rA Γ ++ b_t cB cC cI cJ cZ oA rA Γ ++ b_d cB cC cI cJ cZ oA rA Γ) sz) := by
  refine Met.ofW (cc := cX4_fail) (maxL := 3) (ret := none) (by decide) rfl ?_
  intro p e s m args below meth c s₁ B hml hv
  obtain ⟨rfl, hsz, hP, hK, hD0, hE, hX⟩ := hv
  have hx := B.exec
  have hb := B.bytes
  have hr := B.returns
  have hts0 := atoms_spec (ws := g_ws yX4_fail cX4_fail 3 none) B.pre
  have hts : ∀ w ∈ lw_good, w.before ([.ref (oA 3), .int p0, .int p1] : List Value).toArray s = true := fun w z => hts0 w (List.mem_cons_of_mem _ z)
  have hown : s.vm.findClass RX4 = some m.cls := findClass_of_methodNamed B.named
  have hlocks := B.notSynchronized
  subst hsz
  have hD1 := hD0.self (sz := s.heap.size)
  generalize hAe : va_A (b_m cB cC cI cJ cZ oA rA Γ ++ b_w cB cC cI cJ cZ oA rA Γ ++ b_s cB cC cI cJ cZ oA rA Γ ++ b_c cB cC cI cJ cZ oA rA Γ ++ b_t cB cC cI cJ cZ oA rA Γ ++ b_d cB cC cI cJ cZ oA rA Γ) s.heap.size = A at hD1 hE hX ⊢
  have hA : ∀ q : Nat, s.heap.size ≤ q → A q := fun q z => by rw [← hAe]; exact Or.inr z
  have hDD : ∀ Γ : HS, va_D A (b_m cB cC cI cJ cZ oA rA Γ ++ b_w cB cC cI cJ cZ oA rA Γ ++ b_s cB cC cI cJ cZ oA rA Γ ++ b_c cB cC cI cJ cZ oA rA Γ ++ b_t cB cC cI cJ cZ oA rA Γ ++ b_d cB cC cI cJ cZ oA rA Γ) := fun Γ9 => va_D_fst (ws := (b_m cB cC cI cJ cZ oA rA Γ ++ b_w cB cC cI cJ cZ oA rA Γ ++ b_s cB cC cI cJ cZ oA rA Γ ++ b_c cB cC cI cJ cZ oA rA Γ ++ b_t cB cC cI cJ cZ oA rA Γ ++ b_d cB cC cI cJ cZ oA rA Γ)) (ws' := (b_m cB cC cI cJ cZ oA rA Γ9 ++ b_w cB cC cI cJ cZ oA rA Γ9 ++ b_s cB cC cI cJ cZ oA rA Γ9 ++ b_c cB cC cI cJ cZ oA rA Γ9 ++ b_t cB cC cI cJ cZ oA rA Γ9 ++ b_d cB cC cI cJ cZ oA rA Γ9)) rfl hD1
  have hN := hE.1
  have hS : va_S A s.heap s.heap [] := va_S.rf
  have hl := lv_entry ([.ref (oA 3), .int p0, .int p1]) (n := 3) (Nat.le_of_ble_eq_true rfl)
  rw [lg_entry_eq]
  generalize (lg_sl ([.ref (oA 3), .int p0, .int p1]) ++ List.replicate (3 - (lg_sl ([.ref (oA 3), .int p0, .int p1])).length) Slot.unset).toArray = ls at hl ⊢
  have hl : lv_has ls 3 [(0, .ref (oA 3)), (1, .int p0), (2, .int p1)] := hl
  unfold F_X4_fail at hF
  refine lv_aload_n hx hb dX4_fail_0 rfl (lv_at hl 0 rfl) ?_
  refine va_get (D := (dC, dI)) (ci := 4) (v := .int ((Γ 3).1 16)) (C := RX4) (T := TX4) (N := 18) hx hb hts ii_X4 hown hK hP 0 rfl rfl 16 (by decide) (hts (.fieldLink RX4 40 "StoryHouse$Meanings" "fault" "I") wq_102) (fun _ h9 => h9) rfl dX4_fail_1 ?_
  refine lv_if_ne (tgt := 24) hx hb dX4_fail_4 (by decide) (fun c_1 => ?_) (fun c_1 => ?_)
  · have hF_11 := ineg c_1 hF
    clear hF
    have h9 := Option.some.inj hF_11
    subst h9
    exact W.vret hx hb hr (fun t ht hW => ⟨⟨(), rfl, trivial, m_end ht hP, hDD _⟩, hS.F ht⟩) hS.2.2 dX4_fail_24
  · have hF_2 := ipos c_1 hF
    clear hF
    refine lv_aload_n hx hb dX4_fail_7 rfl (lv_at hl 0 rfl) ?_
    refine lv_iload_n hx hb dX4_fail_8 rfl (lv_at hl 1 rfl) ?_
    obtain ⟨σ_3, eσ_3, hF_4⟩ := bnd_e hF_2
    clear hF_2
    refine va_put (D := (dC, dI)) (ci := 4) (v := .int p0) (ty := .int) (C := RX4) (T := TX4) (N := 18) hx hb hts ii_X4 tyX4 tyX4_ok nmX4 hown hK hP (hDD _) hS 0 rfl rfl 16 (by decide) (hts (.fieldLink RX4 40 "StoryHouse$Meanings" "fault" "I") wq_102) (fun _ h9 => h9) rfl (by decide +kernel) rfl rfl (Nat.le_of_ble_eq_true rfl) dX4_fail_9 (fun H locs hP' _ hS => ?_)
    have hP : va_P (dC, dI) vwCl (b_m cB cC cI cJ cZ oA rA σ_3 ++ b_w cB cC cI cJ cZ oA rA σ_3 ++ b_s cB cC cI cJ cZ oA rA σ_3 ++ b_c cB cC cI cJ cZ oA rA σ_3 ++ b_t cB cC cI cJ cZ oA rA σ_3 ++ b_d cB cC cI cJ cZ oA rA σ_3) H := by rw [eσ_3]; exact cs_mwsctd_m_16 ▸ hP'
    clear hP'
    refine lv_aload_n hx hb dX4_fail_12 rfl (lv_at hl 0 rfl) ?_
    refine lv_aload_n hx hb dX4_fail_13 rfl (lv_at hl 0 rfl) ?_
    refine va_get (D := (dC, dI)) (ci := 4) (v := .ref (oA 1)) (C := RX4) (T := TX4) (N := 18) hx hb hts ii_X4 hown hK hP 0 rfl rfl 0 (by decide) (hts (.fieldLink RX4 32 "StoryHouse$Meanings" "words" "LStoryHouse$Words;") wq_86) (fun _ h9 => h9) rfl dX4_fail_14 ?_
    refine lv_iload_n hx hb dX4_fail_17 rfl (lv_at hl 2 rfl) ?_
    obtain ⟨u_5, hu_5, hF_6⟩ := Option.bind_eq_some_iff.mp hF_4
    clear hF_4
    have hPc := hP.sub (ws' := (b_w cB cC cI cJ cZ oA rA σ_3)) [7, 8, 9, 10, 11, 12, 13, 14, 15] rfl
    have hDc := (hDD σ_3).sub (ws' := (b_w cB cC cI cJ cZ oA rA σ_3)) [7, 8, 9, 10, 11, 12, 13, 14, 15] (by decide +kernel) rfl
    have hFc := va_free (wc := (b_w cB cC cI cJ cZ oA rA σ_3)) (hDD σ_3) hS hA [7, 8, 9, 10, 11, 12, 13, 14, 15] rfl
    refine g_ofi (wc := (b_w cB cC cI cJ cZ oA rA σ_3)) (wr := (b_m cB cC cI cJ cZ oA rA σ_3 ++ b_s cB cC cI cJ cZ oA rA σ_3 ++ b_c cB cC cI cJ cZ oA rA σ_3 ++ b_t cB cC cI cJ cZ oA rA σ_3 ++ b_d cB cC cI cJ cZ oA rA σ_3)) hP (hDD σ_3) hS hFc [7, 8, 9, 10, 11, 12, 13, 14, 15] [0, 1, 2, 3, 4, 5, 6, 16, 17, 18, 19, 20, 21, 22, 23, 24, 25, 26, 27, 28, 29, 30, 31, 32, 33, 34, 35, 36, 37, 38, 39, 40, 41, 42, 43, 44, 45, 46] rfl rfl (by decide +kernel) (by decide +kernel) (va_runV (As := [.int p1]) (rest := [.ref (oA 3)]) ⟨hx, hb, hml, hown, hts⟩ (k_X10_placeOf l dC dI cB cC cI cJ cZ cP oA rA H.size  p1 σ_3 _ hu_5) (cwV 1 hts (g_gV wq_728 wq_702 wq_703 wq_2 wq_704) rfl rfl rfl (by decide +kernel) ⟨Nat.le_of_ble_eq_true rfl, Nat.le_of_ble_eq_true rfl⟩) (g_preV g_bl0 hK hPc hDc hS hE hFc g_to0 (q0 := 0) (ci := 10) rfl rfl) rfl rfl hl.1 rfl (lv_room (Nat.le_of_ble_eq_true rfl)) dX4_fail_18 ⟨Nat.le_of_ble_eq_true rfl, Nat.le_of_ble_eq_true rfl⟩) (fun r9 u9 H locs hw9 hP' hD' hS => ?_)
    clear hPc hDc hFc
    subst hw9
    obtain ⟨σ_7, eσ_7, hF_8⟩ := bnd_e hF_6
    clear hF_6
    have hP : va_P (dC, dI) vwCl (b_m cB cC cI cJ cZ oA rA σ_7 ++ b_w cB cC cI cJ cZ oA rA σ_7 ++ b_s cB cC cI cJ cZ oA rA σ_7 ++ b_c cB cC cI cJ cZ oA rA σ_7 ++ b_t cB cC cI cJ cZ oA rA σ_7 ++ b_d cB cC cI cJ cZ oA rA σ_7) H := by rw [eσ_7]; exact hP'.sub [0, 1, 2, 3, 4, 5, 6, 38, 39, 40, 41, 42, 43, 44, 45, 46, 7, 8, 9, 10, 11, 12, 13, 14, 15, 16, 17, 18, 19, 20, 21, 22, 23, 24, 25, 26, 27, 28, 29, 30, 31, 32, 33, 34, 35, 36, 37] rfl
    clear hP' hD'
    obtain ⟨σ_9, eσ_9, hF_10⟩ := bnd_e hF_8
    clear hF_8
    refine va_put (D := (dC, dI)) (ci := 4) (v := .int u_5.1) (ty := .int) (C := RX4) (T := TX4) (N := 18) hx hb hts ii_X4 tyX4 tyX4_ok nmX4 hown hK hP (hDD _) hS 0 rfl rfl 17 (by decide) (hts (.fieldLink RX4 44 "StoryHouse$Meanings" "faultPlace" "I") wq_103) (fun _ h9 => h9) rfl (by decide +kernel) rfl rfl (Nat.le_of_ble_eq_true rfl) dX4_fail_21 (fun H locs hP' _ hS => ?_)
    have hP : va_P (dC, dI) vwCl (b_m cB cC cI cJ cZ oA rA σ_9 ++ b_w cB cC cI cJ cZ oA rA σ_9 ++ b_s cB cC cI cJ cZ oA rA σ_9 ++ b_c cB cC cI cJ cZ oA rA σ_9 ++ b_t cB cC cI cJ cZ oA rA σ_9 ++ b_d cB cC cI cJ cZ oA rA σ_9) H := by rw [eσ_9]; exact cs_mwsctd_m_17 ▸ hP'
    clear hP'
    have h9 := Option.some.inj hF_10
    subst h9
    exact W.vret hx hb hr (fun t ht hW => ⟨⟨(), rfl, trivial, m_end ht hP, hDD _⟩, hS.F ht⟩) hS.2.2 dX4_fail_24
theorem dX4_numberOf_0 : decode cX4_numberOf 0 = .ok (.aload_n 0, 1) := by decide +kernel
theorem dX4_numberOf_1 : decode cX4_numberOf 1 = .ok (.getfield 32, 3) := by decide +kernel
theorem dX4_numberOf_4 : decode cX4_numberOf 4 = .ok (.iload_n 1, 1) := by decide +kernel
theorem dX4_numberOf_5 : decode cX4_numberOf 5 = .ok (.invokevirtual 119, 3) := by decide +kernel
theorem dX4_numberOf_8 : decode cX4_numberOf 8 = .ok (.istore_n 2, 1) := by decide +kernel
theorem dX4_numberOf_9 : decode cX4_numberOf 9 = .ok (.aload_n 0, 1) := by decide +kernel
theorem dX4_numberOf_10 : decode cX4_numberOf 10 = .ok (.getfield 23, 3) := by decide +kernel
theorem dX4_numberOf_13 : decode cX4_numberOf 13 = .ok (.iload_n 2, 1) := by decide +kernel
theorem dX4_numberOf_14 : decode cX4_numberOf 14 = .ok (.invokestatic 122, 3) := by decide +kernel
theorem dX4_numberOf_17 : decode cX4_numberOf 17 = .ok (.ifCond .eq 16, 3) := by decide +kernel
theorem dX4_numberOf_20 : decode cX4_numberOf 20 = .ok (.aload_n 0, 1) := by decide +kernel
theorem dX4_numberOf_21 : decode cX4_numberOf 21 = .ok (.getfield 23, 3) := by decide +kernel
theorem dX4_numberOf_24 : decode cX4_numberOf 24 = .ok (.iload_n 2, 1) := by decide +kernel
theorem dX4_numberOf_25 : decode cX4_numberOf 25 = .ok (.invokestatic 122, 3) := by decide +kernel
theorem dX4_numberOf_28 : decode cX4_numberOf 28 = .ok (.iconst 1, 1) := by decide +kernel
theorem dX4_numberOf_29 : decode cX4_numberOf 29 = .ok (.isub, 1) := by decide +kernel
theorem dX4_numberOf_30 : decode cX4_numberOf 30 = .ok (.goto 11, 3) := by decide +kernel
theorem dX4_numberOf_33 : decode cX4_numberOf 33 = .ok (.aload_n 0, 1) := by decide +kernel
theorem dX4_numberOf_34 : decode cX4_numberOf 34 = .ok (.getfield 20, 3) := by decide +kernel
theorem dX4_numberOf_37 : decode cX4_numberOf 37 = .ok (.iload_n 2, 1) := by decide +kernel
theorem dX4_numberOf_38 : decode cX4_numberOf 38 = .ok (.invokestatic 122, 3) := by decide +kernel
theorem dX4_numberOf_41 : decode cX4_numberOf 41 = .ok (.ireturn, 1) := by decide +kernel
def F_X4_numberOf (p0 : Int32) (Γ : HS) : HR :=
  (F_X10_worthOf p0 Γ).bind fun u_1 =>
  bnd (mrg (fun j => j == 1) Γ u_1.2) fun σ_3 =>
  bnd ((g_at 4500 ((σ_3 3).2.1 5) u_1.1)) fun (x_5 : Int32) =>
  if x_5 = 0 then (
    bnd ((g_at 4500 ((σ_3 3).2.1 4) u_1.1)) fun (x_9 : Int32) =>
    some (x_9, σ_3)
  ) else (
    bnd ((g_at 4500 ((σ_3 3).2.1 5) u_1.1)) fun (x_12 : Int32) =>
    some ((x_12 - 1), σ_3)
  )
set_option maxHeartbeats 4000000 in
set_option maxRecDepth 100000 in
theorem k_X4_numberOf (l : Launch) (dC : Nat → ClassId) (dI : Nat → Nat → Nat) (cB cC cI cJ cZ cP : ClassId) (oA : Nat → Nat) (rA : Nat → Nat → Nat) (sz : Nat)  (p0 : Int32) (Γ : HS) (res : Int32 × HS) (hF : F_X4_numberOf p0 Γ = some res) : Met l yX4_numberOf (g_ws yX4_numberOf cX4_numberOf 3 (some .int)) ({ frames := 4, cells := 0, slots := 0, locals := 102 }) (va_Pc [.ref (oA 3), .int p0] (g_B (dC, dI) [(cB, .byte), (cC, .char), (cI, .int), (cJ, .long), (cZ, .boolean), (cP, .object "StoryHouse$Play")] sz (b_m cB cC cI cJ cZ oA rA Γ ++ b_w cB cC cI cJ cZ oA rA Γ ++ b_s cB cC cI cJ cZ oA rA Γ ++ b_c cB cC cI cJ cZ oA rA Γ ++ b_t cB cC cI cJ cZ oA rA Γ ++ b_d cB cC cI cJ cZ oA rA Γ) g_0)) (va_Qi (fun r (_ : Unit) => r = res.1) (g_Bo (dC, dI) (va_A (b_m cB cC cI cJ cZ oA rA Γ ++ b_w cB cC cI cJ cZ oA rA Γ ++ b_s cB cC cI cJ cZ oA rA Γ ++ b_c cB cC cI cJ cZ oA rA Γ ++ b_t cB cC cI cJ cZ oA rA Γ ++ b_d cB cC cI cJ cZ oA rA Γ) sz) (fun (_ : Unit) => (b_m cB cC cI cJ cZ oA rA res.2 ++ b_w cB cC cI cJ cZ oA rA res.2 ++ b_s cB cC cI cJ cZ oA rA res.2 ++ b_c cB cC cI cJ cZ oA rA res.2 ++ b_t cB cC cI cJ cZ oA rA res.2 ++ b_d cB cC cI cJ cZ oA rA res.2))) (va_A (b_m cB cC cI cJ cZ oA rA Γ ++ b_w cB cC cI cJ cZ oA rA Γ ++ b_s cB cC cI cJ cZ oA rA Γ ++ b_c cB cC cI cJ cZ oA rA Γ ++ b_t cB cC cI cJ cZ oA rA Γ ++ b_d cB cC cI cJ cZ oA rA Γ) sz)) 0 0 (va_A (b_m cB cC cI cJ cZ oA rA Γ ++ b_w cB cC cI cJ cZ oA rA Γ ++ b_s cB cC cI cJ cZ oA rA Γ ++ b_c cB cC cI cJ cZ oA rA Γ ++ b_t cB cC cI cJ cZ oA rA Γ ++ b_d cB cC cI cJ cZ oA rA Γ) sz) := by
  refine Met.ofW (cc := cX4_numberOf) (maxL := 3) (ret := (some .int)) (by decide) rfl ?_
  intro p e s m args below meth c s₁ B hml hv
  obtain ⟨rfl, hsz, hP, hK, hD0, hE, hX⟩ := hv
  have hx := B.exec
  have hb := B.bytes
  have hr := B.returns
  have hts0 := atoms_spec (ws := g_ws yX4_numberOf cX4_numberOf 3 (some .int)) B.pre
  have hts : ∀ w ∈ lw_good, w.before ([.ref (oA 3), .int p0] : List Value).toArray s = true := fun w z => hts0 w (List.mem_cons_of_mem _ z)
  have hown : s.vm.findClass RX4 = some m.cls := findClass_of_methodNamed B.named
  have hlocks := B.notSynchronized
  subst hsz
  have hD1 := hD0.self (sz := s.heap.size)
  generalize hAe : va_A (b_m cB cC cI cJ cZ oA rA Γ ++ b_w cB cC cI cJ cZ oA rA Γ ++ b_s cB cC cI cJ cZ oA rA Γ ++ b_c cB cC cI cJ cZ oA rA Γ ++ b_t cB cC cI cJ cZ oA rA Γ ++ b_d cB cC cI cJ cZ oA rA Γ) s.heap.size = A at hD1 hE hX ⊢
  have hA : ∀ q : Nat, s.heap.size ≤ q → A q := fun q z => by rw [← hAe]; exact Or.inr z
  have hDD : ∀ Γ : HS, va_D A (b_m cB cC cI cJ cZ oA rA Γ ++ b_w cB cC cI cJ cZ oA rA Γ ++ b_s cB cC cI cJ cZ oA rA Γ ++ b_c cB cC cI cJ cZ oA rA Γ ++ b_t cB cC cI cJ cZ oA rA Γ ++ b_d cB cC cI cJ cZ oA rA Γ) := fun Γ9 => va_D_fst (ws := (b_m cB cC cI cJ cZ oA rA Γ ++ b_w cB cC cI cJ cZ oA rA Γ ++ b_s cB cC cI cJ cZ oA rA Γ ++ b_c cB cC cI cJ cZ oA rA Γ ++ b_t cB cC cI cJ cZ oA rA Γ ++ b_d cB cC cI cJ cZ oA rA Γ)) (ws' := (b_m cB cC cI cJ cZ oA rA Γ9 ++ b_w cB cC cI cJ cZ oA rA Γ9 ++ b_s cB cC cI cJ cZ oA rA Γ9 ++ b_c cB cC cI cJ cZ oA rA Γ9 ++ b_t cB cC cI cJ cZ oA rA Γ9 ++ b_d cB cC cI cJ cZ oA rA Γ9)) rfl hD1
  have hN := hE.1
  have hS : va_S A s.heap s.heap [] := va_S.rf
  have hl := lv_entry ([.ref (oA 3), .int p0]) (n := 3) (Nat.le_of_ble_eq_true rfl)
  rw [lg_entry_eq]
  generalize (lg_sl ([.ref (oA 3), .int p0]) ++ List.replicate (3 - (lg_sl ([.ref (oA 3), .int p0])).length) Slot.unset).toArray = ls at hl ⊢
  have hl : lv_has ls 3 [(0, .ref (oA 3)), (1, .int p0)] := hl
  unfold F_X4_numberOf at hF
  refine lv_aload_n hx hb dX4_numberOf_0 rfl (lv_at hl 0 rfl) ?_
  refine va_get (D := (dC, dI)) (ci := 4) (v := .ref (oA 1)) (C := RX4) (T := TX4) (N := 18) hx hb hts ii_X4 hown hK hP 0 rfl rfl 0 (by decide) (hts (.fieldLink RX4 32 "StoryHouse$Meanings" "words" "LStoryHouse$Words;") wq_86) (fun _ h9 => h9) rfl dX4_numberOf_1 ?_
  refine lv_iload_n hx hb dX4_numberOf_4 rfl (lv_at hl 1 rfl) ?_
  obtain ⟨u_1, hu_1, hF_2⟩ := Option.bind_eq_some_iff.mp hF
  clear hF
  have hPc := hP.sub (ws' := (b_w cB cC cI cJ cZ oA rA Γ)) [7, 8, 9, 10, 11, 12, 13, 14, 15] rfl
  have hDc := (hDD Γ).sub (ws' := (b_w cB cC cI cJ cZ oA rA Γ)) [7, 8, 9, 10, 11, 12, 13, 14, 15] (by decide +kernel) rfl
  have hFc := va_free (wc := (b_w cB cC cI cJ cZ oA rA Γ)) (hDD Γ) hS hA [7, 8, 9, 10, 11, 12, 13, 14, 15] rfl
  refine g_ofi (wc := (b_w cB cC cI cJ cZ oA rA Γ)) (wr := (b_m cB cC cI cJ cZ oA rA Γ ++ b_s cB cC cI cJ cZ oA rA Γ ++ b_c cB cC cI cJ cZ oA rA Γ ++ b_t cB cC cI cJ cZ oA rA Γ ++ b_d cB cC cI cJ cZ oA rA Γ)) hP (hDD Γ) hS hFc [7, 8, 9, 10, 11, 12, 13, 14, 15] [0, 1, 2, 3, 4, 5, 6, 16, 17, 18, 19, 20, 21, 22, 23, 24, 25, 26, 27, 28, 29, 30, 31, 32, 33, 34, 35, 36, 37, 38, 39, 40, 41, 42, 43, 44, 45, 46] rfl rfl (by decide +kernel) (by decide +kernel) (va_runV (As := [.int p0]) (rest := []) ⟨hx, hb, hml, hown, hts⟩ (k_X10_worthOf l dC dI cB cC cI cJ cZ cP oA rA s.heap.size  p0 Γ _ hu_1) (cwV 1 hts (g_gV wq_715 wq_653 wq_654 wq_2 wq_655) rfl rfl rfl (by decide +kernel) ⟨Nat.le_of_ble_eq_true rfl, Nat.le_of_ble_eq_true rfl⟩) (g_preV g_bl0 hK hPc hDc hS hE hFc g_to0 (q0 := 0) (ci := 10) rfl rfl) rfl rfl hl.1 rfl (lv_room (Nat.le_of_ble_eq_true rfl)) dX4_numberOf_5 ⟨Nat.le_of_ble_eq_true rfl, Nat.le_of_ble_eq_true rfl⟩) (fun r9 u9 H locs hw9 hP' hD' hS => ?_)
  clear hPc hDc hFc
  subst hw9
  obtain ⟨σ_3, eσ_3, hF_4⟩ := bnd_e hF_2
  clear hF_2
  have hP : va_P (dC, dI) vwCl (b_m cB cC cI cJ cZ oA rA σ_3 ++ b_w cB cC cI cJ cZ oA rA σ_3 ++ b_s cB cC cI cJ cZ oA rA σ_3 ++ b_c cB cC cI cJ cZ oA rA σ_3 ++ b_t cB cC cI cJ cZ oA rA σ_3 ++ b_d cB cC cI cJ cZ oA rA σ_3) H := by rw [eσ_3]; exact hP'.sub [0, 1, 2, 3, 4, 5, 6, 38, 39, 40, 41, 42, 43, 44, 45, 46, 7, 8, 9, 10, 11, 12, 13, 14, 15, 16, 17, 18, 19, 20, 21, 22, 23, 24, 25, 26, 27, 28, 29, 30, 31, 32, 33, 34, 35, 36, 37] rfl
  clear hP' hD'
  refine lv_istore_n (lv' := [(2, .int u_1.1), (0, .ref (oA 3)), (1, .int p0)]) hx hb dX4_numberOf_8 rfl hl (by decide) rfl (fun ls hl => ?_)
  refine lv_aload_n hx hb dX4_numberOf_9 rfl (lv_at hl 1 rfl) ?_
  refine va_get (D := (dC, dI)) (ci := 4) (v := .ref (rA 3 5)) (C := RX4) (T := TX4) (N := 18) hx hb hts ii_X4 hown hK hP 0 rfl rfl 5 (by decide) (hts (.fieldLink RX4 23 "StoryHouse$Meanings" "seen" "[I") wq_91) (fun _ h9 => h9) rfl dX4_numberOf_10 ?_
  refine lv_iload_n hx hb dX4_numberOf_13 rfl (lv_at hl 0 rfl) ?_
  have hPc := hP.sub (ws' := [(rA 3 5, .inl (cI, 4500, .inl ((σ_3 3).2.1 5)))]) [4] rfl
  have hDc := (hDD σ_3).sub (ws' := [(rA 3 5, .inl (cI, 4500, .inl ((σ_3 3).2.1 5)))]) [4] (by decide +kernel) rfl
  have hFc := va_free (wc := [(rA 3 5, .inl (cI, 4500, .inl ((σ_3 3).2.1 5)))]) (hDD σ_3) hS hA [4] rfl
  refine g_ofi (wc := [(rA 3 5, .inl (cI, 4500, .inl ((σ_3 3).2.1 5)))]) (wr := (((b_m cB cC cI cJ cZ oA rA σ_3 ++ b_w cB cC cI cJ cZ oA rA σ_3 ++ b_s cB cC cI cJ cZ oA rA σ_3 ++ b_c cB cC cI cJ cZ oA rA σ_3 ++ b_t cB cC cI cJ cZ oA rA σ_3 ++ b_d cB cC cI cJ cZ oA rA σ_3)).eraseIdx 4)) hP (hDD σ_3) hS hFc [4] [0, 1, 2, 3, 5, 6, 7, 8, 9, 10, 11, 12, 13, 14, 15, 16, 17, 18, 19, 20, 21, 22, 23, 24, 25, 26, 27, 28, 29, 30, 31, 32, 33, 34, 35, 36, 37, 38, 39, 40, 41, 42, 43, 44, 45, 46] rfl rfl (by decide +kernel) (by decide +kernel) (va_runSN (As := [.ref (rA 3 5), .int u_1.1]) (rest := []) ⟨hx, hb, hml, hown, hts⟩ (c_X11_at l dC dI cB cC cI cJ cZ cP H.size (rA 3 5) u_1.1 4500 ((σ_3 3).2.1 5) (by decide)) ⟨va_cnB 2 hts (g_gA wq_407) rfl rfl rfl (hN.at 24 rfl) (hts (.initialized RX11) wq_1) (by decide +kernel) ⟨Nat.le_of_ble_eq_true rfl, Nat.le_of_ble_eq_true rfl⟩, (hts (.static yX11_at) wq_406), trivial⟩ (g_preS g_bl0 hK hPc hDc hS hE hFc g_to0) rfl rfl hl.1 rfl (lv_room (Nat.le_of_ble_eq_true rfl)) dX4_numberOf_14 ⟨Nat.le_of_ble_eq_true rfl, Nat.le_of_ble_eq_true rfl⟩) (fun r9 u9 H locs hw9 hP' hD' hS => ?_)
  clear hPc hDc hFc hD'
  have hP : va_P (dC, dI) vwCl (b_m cB cC cI cJ cZ oA rA σ_3 ++ b_w cB cC cI cJ cZ oA rA σ_3 ++ b_s cB cC cI cJ cZ oA rA σ_3 ++ b_c cB cC cI cJ cZ oA rA σ_3 ++ b_t cB cC cI cJ cZ oA rA σ_3 ++ b_d cB cC cI cJ cZ oA rA σ_3) H := hP'.sub [0, 1, 2, 3, 46, 4, 5, 6, 7, 8, 9, 10, 11, 12, 13, 14, 15, 16, 17, 18, 19, 20, 21, 22, 23, 24, 25, 26, 27, 28, 29, 30, 31, 32, 33, 34, 35, 36, 37, 38, 39, 40, 41, 42, 43, 44, 45] rfl
  clear hP'
  subst hw9
  obtain ⟨x_5, ex_5, hF_6⟩ := bnd_e hF_4
  clear hF_4
  refine m_top ex_5 ?_
  refine lv_if_eq (tgt := 33) hx hb dX4_numberOf_17 (by decide) (fun c_7 => ?_) (fun c_7 => ?_)
  · have hF_8 := ipos c_7 hF_6
    clear hF_6
    refine lv_aload_n hx hb dX4_numberOf_33 rfl (lv_at hl 1 rfl) ?_
    refine va_get (D := (dC, dI)) (ci := 4) (v := .ref (rA 3 4)) (C := RX4) (T := TX4) (N := 18) hx hb hts ii_X4 hown hK hP 0 rfl rfl 4 (by decide) (hts (.fieldLink RX4 20 "StoryHouse$Meanings" "numbers" "[I") wq_90) (fun _ h9 => h9) rfl dX4_numberOf_34 ?_
    refine lv_iload_n hx hb dX4_numberOf_37 rfl (lv_at hl 0 rfl) ?_
    have hPc := hP.sub (ws' := [(rA 3 4, .inl (cI, 4500, .inl ((σ_3 3).2.1 4)))]) [3] rfl
    have hDc := (hDD σ_3).sub (ws' := [(rA 3 4, .inl (cI, 4500, .inl ((σ_3 3).2.1 4)))]) [3] (by decide +kernel) rfl
    have hFc := va_free (wc := [(rA 3 4, .inl (cI, 4500, .inl ((σ_3 3).2.1 4)))]) (hDD σ_3) hS hA [3] rfl
    refine g_ofi (wc := [(rA 3 4, .inl (cI, 4500, .inl ((σ_3 3).2.1 4)))]) (wr := (((b_m cB cC cI cJ cZ oA rA σ_3 ++ b_w cB cC cI cJ cZ oA rA σ_3 ++ b_s cB cC cI cJ cZ oA rA σ_3 ++ b_c cB cC cI cJ cZ oA rA σ_3 ++ b_t cB cC cI cJ cZ oA rA σ_3 ++ b_d cB cC cI cJ cZ oA rA σ_3)).eraseIdx 3)) hP (hDD σ_3) hS hFc [3] [0, 1, 2, 4, 5, 6, 7, 8, 9, 10, 11, 12, 13, 14, 15, 16, 17, 18, 19, 20, 21, 22, 23, 24, 25, 26, 27, 28, 29, 30, 31, 32, 33, 34, 35, 36, 37, 38, 39, 40, 41, 42, 43, 44, 45, 46] rfl rfl (by decide +kernel) (by decide +kernel) (va_runSN (As := [.ref (rA 3 4), .int u_1.1]) (rest := []) ⟨hx, hb, hml, hown, hts⟩ (c_X11_at l dC dI cB cC cI cJ cZ cP H.size (rA 3 4) u_1.1 4500 ((σ_3 3).2.1 4) (by decide)) ⟨va_cnB 2 hts (g_gA wq_407) rfl rfl rfl (hN.at 24 rfl) (hts (.initialized RX11) wq_1) (by decide +kernel) ⟨Nat.le_of_ble_eq_true rfl, Nat.le_of_ble_eq_true rfl⟩, (hts (.static yX11_at) wq_406), trivial⟩ (g_preS g_bl0 hK hPc hDc hS hE hFc g_to0) rfl rfl hl.1 rfl (lv_room (Nat.le_of_ble_eq_true rfl)) dX4_numberOf_38 ⟨Nat.le_of_ble_eq_true rfl, Nat.le_of_ble_eq_true rfl⟩) (fun r9 u9 H locs hw9 hP' hD' hS => ?_)
    clear hPc hDc hFc hD'
    have hP : va_P (dC, dI) vwCl (b_m cB cC cI cJ cZ oA rA σ_3 ++ b_w cB cC cI cJ cZ oA rA σ_3 ++ b_s cB cC cI cJ cZ oA rA σ_3 ++ b_c cB cC cI cJ cZ oA rA σ_3 ++ b_t cB cC cI cJ cZ oA rA σ_3 ++ b_d cB cC cI cJ cZ oA rA σ_3) H := hP'.sub [0, 1, 2, 46, 3, 4, 5, 6, 7, 8, 9, 10, 11, 12, 13, 14, 15, 16, 17, 18, 19, 20, 21, 22, 23, 24, 25, 26, 27, 28, 29, 30, 31, 32, 33, 34, 35, 36, 37, 38, 39, 40, 41, 42, 43, 44, 45] rfl
    clear hP'
    subst hw9
    obtain ⟨x_9, ex_9, hF_10⟩ := bnd_e hF_8
    clear hF_8
    refine m_top ex_9 ?_
    have h9 := Option.some.inj hF_10
    subst h9
    exact W.iret (v := x_9) hx hb hr (fun t ht hW => ⟨⟨x_9, (), rfl, rfl, m_end ht hP, hDD _⟩, hS.F ht⟩) hS.2.2 dX4_numberOf_41
  · have hF_11 := ineg c_7 hF_6
    clear hF_6
    refine lv_aload_n hx hb dX4_numberOf_20 rfl (lv_at hl 1 rfl) ?_
    refine va_get (D := (dC, dI)) (ci := 4) (v := .ref (rA 3 5)) (C := RX4) (T := TX4) (N := 18) hx hb hts ii_X4 hown hK hP 0 rfl rfl 5 (by decide) (hts (.fieldLink RX4 23 "StoryHouse$Meanings" "seen" "[I") wq_91) (fun _ h9 => h9) rfl dX4_numberOf_21 ?_
    refine lv_iload_n hx hb dX4_numberOf_24 rfl (lv_at hl 0 rfl) ?_
    have hPc := hP.sub (ws' := [(rA 3 5, .inl (cI, 4500, .inl ((σ_3 3).2.1 5)))]) [4] rfl
    have hDc := (hDD σ_3).sub (ws' := [(rA 3 5, .inl (cI, 4500, .inl ((σ_3 3).2.1 5)))]) [4] (by decide +kernel) rfl
    have hFc := va_free (wc := [(rA 3 5, .inl (cI, 4500, .inl ((σ_3 3).2.1 5)))]) (hDD σ_3) hS hA [4] rfl
    refine g_ofi (wc := [(rA 3 5, .inl (cI, 4500, .inl ((σ_3 3).2.1 5)))]) (wr := (((b_m cB cC cI cJ cZ oA rA σ_3 ++ b_w cB cC cI cJ cZ oA rA σ_3 ++ b_s cB cC cI cJ cZ oA rA σ_3 ++ b_c cB cC cI cJ cZ oA rA σ_3 ++ b_t cB cC cI cJ cZ oA rA σ_3 ++ b_d cB cC cI cJ cZ oA rA σ_3)).eraseIdx 4)) hP (hDD σ_3) hS hFc [4] [0, 1, 2, 3, 5, 6, 7, 8, 9, 10, 11, 12, 13, 14, 15, 16, 17, 18, 19, 20, 21, 22, 23, 24, 25, 26, 27, 28, 29, 30, 31, 32, 33, 34, 35, 36, 37, 38, 39, 40, 41, 42, 43, 44, 45, 46] rfl rfl (by decide +kernel) (by decide +kernel) (va_runSN (As := [.ref (rA 3 5), .int u_1.1]) (rest := []) ⟨hx, hb, hml, hown, hts⟩ (c_X11_at l dC dI cB cC cI cJ cZ cP H.size (rA 3 5) u_1.1 4500 ((σ_3 3).2.1 5) (by decide)) ⟨va_cnB 2 hts (g_gA wq_407) rfl rfl rfl (hN.at 24 rfl) (hts (.initialized RX11) wq_1) (by decide +kernel) ⟨Nat.le_of_ble_eq_true rfl, Nat.le_of_ble_eq_true rfl⟩, (hts (.static yX11_at) wq_406), trivial⟩ (g_preS g_bl0 hK hPc hDc hS hE hFc g_to0) rfl rfl hl.1 rfl (lv_room (Nat.le_of_ble_eq_true rfl)) dX4_numberOf_25 ⟨Nat.le_of_ble_eq_true rfl, Nat.le_of_ble_eq_true rfl⟩) (fun r9 u9 H locs hw9 hP' hD' hS => ?_)
    clear hPc hDc hFc hD'
    have hP : va_P (dC, dI) vwCl (b_m cB cC cI cJ cZ oA rA σ_3 ++ b_w cB cC cI cJ cZ oA rA σ_3 ++ b_s cB cC cI cJ cZ oA rA σ_3 ++ b_c cB cC cI cJ cZ oA rA σ_3 ++ b_t cB cC cI cJ cZ oA rA σ_3 ++ b_d cB cC cI cJ cZ oA rA σ_3) H := hP'.sub [0, 1, 2, 3, 46, 4, 5, 6, 7, 8, 9, 10, 11, 12, 13, 14, 15, 16, 17, 18, 19, 20, 21, 22, 23, 24, 25, 26, 27, 28, 29, 30, 31, 32, 33, 34, 35, 36, 37, 38, 39, 40, 41, 42, 43, 44, 45] rfl
    clear hP'
    subst hw9
    obtain ⟨x_12, ex_12, hF_13⟩ := bnd_e hF_11
    clear hF_11
    refine m_top ex_12 ?_
    refine lv_iconst (v := 1) hx hb dX4_numberOf_28 (by decide +kernel) ?_
    refine lv_isub hx hb dX4_numberOf_29 ?_
    refine lv_goto (tgt := 41) hx hb dX4_numberOf_30 (by decide) ?_
    have h9 := Option.some.inj hF_13
    subst h9
    exact W.iret (v := (x_12 - 1)) hx hb hr (fun t ht hW => ⟨⟨(x_12 - 1), (), rfl, rfl, m_end ht hP, hDD _⟩, hS.F ht⟩) hS.2.2 dX4_numberOf_41
theorem dX4_sortOf_0 : decode cX4_sortOf 0 = .ok (.aload_n 0, 1) := by decide +kernel
theorem dX4_sortOf_1 : decode cX4_sortOf 1 = .ok (.getfield 32, 3) := by decide +kernel
theorem dX4_sortOf_4 : decode cX4_sortOf 4 = .ok (.iload_n 1, 1) := by decide +kernel
theorem dX4_sortOf_5 : decode cX4_sortOf 5 = .ok (.invokevirtual 119, 3) := by decide +kernel
theorem dX4_sortOf_8 : decode cX4_sortOf 8 = .ok (.istore_n 2, 1) := by decide +kernel
theorem dX4_sortOf_9 : decode cX4_sortOf 9 = .ok (.aload_n 0, 1) := by decide +kernel
theorem dX4_sortOf_10 : decode cX4_sortOf 10 = .ok (.getfield 32, 3) := by decide +kernel
theorem dX4_sortOf_13 : decode cX4_sortOf 13 = .ok (.iload_n 1, 1) := by decide +kernel
theorem dX4_sortOf_14 : decode cX4_sortOf 14 = .ok (.invokevirtual 116, 3) := by decide +kernel
theorem dX4_sortOf_17 : decode cX4_sortOf 17 = .ok (.iconst 2, 1) := by decide +kernel
theorem dX4_sortOf_18 : decode cX4_sortOf 18 = .ok (.if_icmp .eq 5, 3) := by decide +kernel
theorem dX4_sortOf_21 : decode cX4_sortOf 21 = .ok (.iconst 0, 1) := by decide +kernel
theorem dX4_sortOf_22 : decode cX4_sortOf 22 = .ok (.ireturn, 1) := by decide +kernel
theorem dX4_sortOf_23 : decode cX4_sortOf 23 = .ok (.aload_n 0, 1) := by decide +kernel
theorem dX4_sortOf_24 : decode cX4_sortOf 24 = .ok (.getfield 23, 3) := by decide +kernel
theorem dX4_sortOf_27 : decode cX4_sortOf 27 = .ok (.iload_n 2, 1) := by decide +kernel
theorem dX4_sortOf_28 : decode cX4_sortOf 28 = .ok (.invokestatic 122, 3) := by decide +kernel
theorem dX4_sortOf_31 : decode cX4_sortOf 31 = .ok (.ifCond .eq 8, 3) := by decide +kernel
theorem dX4_sortOf_34 : decode cX4_sortOf 34 = .ok (.bipush 7, 2) := by decide +kernel
theorem dX4_sortOf_36 : decode cX4_sortOf 36 = .ok (.goto 11, 3) := by decide +kernel
theorem dX4_sortOf_39 : decode cX4_sortOf 39 = .ok (.aload_n 0, 1) := by decide +kernel
theorem dX4_sortOf_40 : decode cX4_sortOf 40 = .ok (.getfield 17, 3) := by decide +kernel
theorem dX4_sortOf_43 : decode cX4_sortOf 43 = .ok (.iload_n 2, 1) := by decide +kernel
theorem dX4_sortOf_44 : decode cX4_sortOf 44 = .ok (.invokestatic 122, 3) := by decide +kernel
theorem dX4_sortOf_47 : decode cX4_sortOf 47 = .ok (.ireturn, 1) := by decide +kernel
def F_X4_sortOf (p0 : Int32) (Γ : HS) : HR :=
  (F_X10_worthOf p0 Γ).bind fun u_1 =>
  bnd (mrg (fun j => j == 1) Γ u_1.2) fun σ_3 =>
  (F_X10_kindOf p0 σ_3).bind fun u_5 =>
  bnd (mrg (fun j => j == 1) σ_3 u_5.2) fun σ_7 =>
  if u_5.1 = 2 then (
    bnd ((g_at 4500 ((σ_7 3).2.1 5) u_1.1)) fun (x_11 : Int32) =>
    if x_11 = 0 then (
      bnd ((g_at 4500 ((σ_7 3).2.1 3) u_1.1)) fun (x_15 : Int32) =>
      some (x_15, σ_7)
    ) else (
      some (7, σ_7)
    )
  ) else (
    some (0, σ_7)
  )
set_option maxHeartbeats 4000000 in
set_option maxRecDepth 100000 in
theorem k_X4_sortOf (l : Launch) (dC : Nat → ClassId) (dI : Nat → Nat → Nat) (cB cC cI cJ cZ cP : ClassId) (oA : Nat → Nat) (rA : Nat → Nat → Nat) (sz : Nat)  (p0 : Int32) (Γ : HS) (res : Int32 × HS) (hF : F_X4_sortOf p0 Γ = some res) : Met l yX4_sortOf (g_ws yX4_sortOf cX4_sortOf 3 (some .int)) ({ frames := 4, cells := 0, slots := 0, locals := 102 }) (va_Pc [.ref (oA 3), .int p0] (g_B (dC, dI) [(cB, .byte), (cC, .char), (cI, .int), (cJ, .long), (cZ, .boolean), (cP, .object "StoryHouse$Play")] sz (b_m cB cC cI cJ cZ oA rA Γ ++ b_w cB cC cI cJ cZ oA rA Γ ++ b_s cB cC cI cJ cZ oA rA Γ ++ b_c cB cC cI cJ cZ oA rA Γ ++ b_t cB cC cI cJ cZ oA rA Γ ++ b_d cB cC cI cJ cZ oA rA Γ) g_0)) (va_Qi (fun r (_ : Unit) => r = res.1) (g_Bo (dC, dI) (va_A (b_m cB cC cI cJ cZ oA rA Γ ++ b_w cB cC cI cJ cZ oA rA Γ ++ b_s cB cC cI cJ cZ oA rA Γ ++ b_c cB cC cI cJ cZ oA rA Γ ++ b_t cB cC cI cJ cZ oA rA Γ ++ b_d cB cC cI cJ cZ oA rA Γ) sz) (fun (_ : Unit) => (b_m cB cC cI cJ cZ oA rA res.2 ++ b_w cB cC cI cJ cZ oA rA res.2 ++ b_s cB cC cI cJ cZ oA rA res.2 ++ b_c cB cC cI cJ cZ oA rA res.2 ++ b_t cB cC cI cJ cZ oA rA res.2 ++ b_d cB cC cI cJ cZ oA rA res.2))) (va_A (b_m cB cC cI cJ cZ oA rA Γ ++ b_w cB cC cI cJ cZ oA rA Γ ++ b_s cB cC cI cJ cZ oA rA Γ ++ b_c cB cC cI cJ cZ oA rA Γ ++ b_t cB cC cI cJ cZ oA rA Γ ++ b_d cB cC cI cJ cZ oA rA Γ) sz)) 0 0 (va_A (b_m cB cC cI cJ cZ oA rA Γ ++ b_w cB cC cI cJ cZ oA rA Γ ++ b_s cB cC cI cJ cZ oA rA Γ ++ b_c cB cC cI cJ cZ oA rA Γ ++ b_t cB cC cI cJ cZ oA rA Γ ++ b_d cB cC cI cJ cZ oA rA Γ) sz) := by
  refine Met.ofW (cc := cX4_sortOf) (maxL := 3) (ret := (some .int)) (by decide) rfl ?_
  intro p e s m args below meth c s₁ B hml hv
  obtain ⟨rfl, hsz, hP, hK, hD0, hE, hX⟩ := hv
  have hx := B.exec
  have hb := B.bytes
  have hr := B.returns
  have hts0 := atoms_spec (ws := g_ws yX4_sortOf cX4_sortOf 3 (some .int)) B.pre
  have hts : ∀ w ∈ lw_good, w.before ([.ref (oA 3), .int p0] : List Value).toArray s = true := fun w z => hts0 w (List.mem_cons_of_mem _ z)
  have hown : s.vm.findClass RX4 = some m.cls := findClass_of_methodNamed B.named
  have hlocks := B.notSynchronized
  subst hsz
  have hD1 := hD0.self (sz := s.heap.size)
  generalize hAe : va_A (b_m cB cC cI cJ cZ oA rA Γ ++ b_w cB cC cI cJ cZ oA rA Γ ++ b_s cB cC cI cJ cZ oA rA Γ ++ b_c cB cC cI cJ cZ oA rA Γ ++ b_t cB cC cI cJ cZ oA rA Γ ++ b_d cB cC cI cJ cZ oA rA Γ) s.heap.size = A at hD1 hE hX ⊢
  have hA : ∀ q : Nat, s.heap.size ≤ q → A q := fun q z => by rw [← hAe]; exact Or.inr z
  have hDD : ∀ Γ : HS, va_D A (b_m cB cC cI cJ cZ oA rA Γ ++ b_w cB cC cI cJ cZ oA rA Γ ++ b_s cB cC cI cJ cZ oA rA Γ ++ b_c cB cC cI cJ cZ oA rA Γ ++ b_t cB cC cI cJ cZ oA rA Γ ++ b_d cB cC cI cJ cZ oA rA Γ) := fun Γ9 => va_D_fst (ws := (b_m cB cC cI cJ cZ oA rA Γ ++ b_w cB cC cI cJ cZ oA rA Γ ++ b_s cB cC cI cJ cZ oA rA Γ ++ b_c cB cC cI cJ cZ oA rA Γ ++ b_t cB cC cI cJ cZ oA rA Γ ++ b_d cB cC cI cJ cZ oA rA Γ)) (ws' := (b_m cB cC cI cJ cZ oA rA Γ9 ++ b_w cB cC cI cJ cZ oA rA Γ9 ++ b_s cB cC cI cJ cZ oA rA Γ9 ++ b_c cB cC cI cJ cZ oA rA Γ9 ++ b_t cB cC cI cJ cZ oA rA Γ9 ++ b_d cB cC cI cJ cZ oA rA Γ9)) rfl hD1
  have hN := hE.1
  have hS : va_S A s.heap s.heap [] := va_S.rf
  have hl := lv_entry ([.ref (oA 3), .int p0]) (n := 3) (Nat.le_of_ble_eq_true rfl)
  rw [lg_entry_eq]
  generalize (lg_sl ([.ref (oA 3), .int p0]) ++ List.replicate (3 - (lg_sl ([.ref (oA 3), .int p0])).length) Slot.unset).toArray = ls at hl ⊢
  have hl : lv_has ls 3 [(0, .ref (oA 3)), (1, .int p0)] := hl
  unfold F_X4_sortOf at hF
  refine lv_aload_n hx hb dX4_sortOf_0 rfl (lv_at hl 0 rfl) ?_
  refine va_get (D := (dC, dI)) (ci := 4) (v := .ref (oA 1)) (C := RX4) (T := TX4) (N := 18) hx hb hts ii_X4 hown hK hP 0 rfl rfl 0 (by decide) (hts (.fieldLink RX4 32 "StoryHouse$Meanings" "words" "LStoryHouse$Words;") wq_86) (fun _ h9 => h9) rfl dX4_sortOf_1 ?_
  refine lv_iload_n hx hb dX4_sortOf_4 rfl (lv_at hl 1 rfl) ?_
  obtain ⟨u_1, hu_1, hF_2⟩ := Option.bind_eq_some_iff.mp hF
  clear hF
  have hPc := hP.sub (ws' := (b_w cB cC cI cJ cZ oA rA Γ)) [7, 8, 9, 10, 11, 12, 13, 14, 15] rfl
  have hDc := (hDD Γ).sub (ws' := (b_w cB cC cI cJ cZ oA rA Γ)) [7, 8, 9, 10, 11, 12, 13, 14, 15] (by decide +kernel) rfl
  have hFc := va_free (wc := (b_w cB cC cI cJ cZ oA rA Γ)) (hDD Γ) hS hA [7, 8, 9, 10, 11, 12, 13, 14, 15] rfl
  refine g_ofi (wc := (b_w cB cC cI cJ cZ oA rA Γ)) (wr := (b_m cB cC cI cJ cZ oA rA Γ ++ b_s cB cC cI cJ cZ oA rA Γ ++ b_c cB cC cI cJ cZ oA rA Γ ++ b_t cB cC cI cJ cZ oA rA Γ ++ b_d cB cC cI cJ cZ oA rA Γ)) hP (hDD Γ) hS hFc [7, 8, 9, 10, 11, 12, 13, 14, 15] [0, 1, 2, 3, 4, 5, 6, 16, 17, 18, 19, 20, 21, 22, 23, 24, 25, 26, 27, 28, 29, 30, 31, 32, 33, 34, 35, 36, 37, 38, 39, 40, 41, 42, 43, 44, 45, 46] rfl rfl (by decide +kernel) (by decide +kernel) (va_runV (As := [.int p0]) (rest := []) ⟨hx, hb, hml, hown, hts⟩ (k_X10_worthOf l dC dI cB cC cI cJ cZ cP oA rA s.heap.size  p0 Γ _ hu_1) (cwV 1 hts (g_gV wq_715 wq_653 wq_654 wq_2 wq_655) rfl rfl rfl (by decide +kernel) ⟨Nat.le_of_ble_eq_true rfl, Nat.le_of_ble_eq_true rfl⟩) (g_preV g_bl0 hK hPc hDc hS hE hFc g_to0 (q0 := 0) (ci := 10) rfl rfl) rfl rfl hl.1 rfl (lv_room (Nat.le_of_ble_eq_true rfl)) dX4_sortOf_5 ⟨Nat.le_of_ble_eq_true rfl, Nat.le_of_ble_eq_true rfl⟩) (fun r9 u9 H locs hw9 hP' hD' hS => ?_)
  clear hPc hDc hFc
  subst hw9
  obtain ⟨σ_3, eσ_3, hF_4⟩ := bnd_e hF_2
  clear hF_2
  have hP : va_P (dC, dI) vwCl (b_m cB cC cI cJ cZ oA rA σ_3 ++ b_w cB cC cI cJ cZ oA rA σ_3 ++ b_s cB cC cI cJ cZ oA rA σ_3 ++ b_c cB cC cI cJ cZ oA rA σ_3 ++ b_t cB cC cI cJ cZ oA rA σ_3 ++ b_d cB cC cI cJ cZ oA rA σ_3) H := by rw [eσ_3]; exact hP'.sub [0, 1, 2, 3, 4, 5, 6, 38, 39, 40, 41, 42, 43, 44, 45, 46, 7, 8, 9, 10, 11, 12, 13, 14, 15, 16, 17, 18, 19, 20, 21, 22, 23, 24, 25, 26, 27, 28, 29, 30, 31, 32, 33, 34, 35, 36, 37] rfl
  clear hP' hD'
  refine lv_istore_n (lv' := [(2, .int u_1.1), (0, .ref (oA 3)), (1, .int p0)]) hx hb dX4_sortOf_8 rfl hl (by decide) rfl (fun ls hl => ?_)
  refine lv_aload_n hx hb dX4_sortOf_9 rfl (lv_at hl 1 rfl) ?_
  refine va_get (D := (dC, dI)) (ci := 4) (v := .ref (oA 1)) (C := RX4) (T := TX4) (N := 18) hx hb hts ii_X4 hown hK hP 0 rfl rfl 0 (by decide) (hts (.fieldLink RX4 32 "StoryHouse$Meanings" "words" "LStoryHouse$Words;") wq_86) (fun _ h9 => h9) rfl dX4_sortOf_10 ?_
  refine lv_iload_n hx hb dX4_sortOf_13 rfl (lv_at hl 2 rfl) ?_
  obtain ⟨u_5, hu_5, hF_6⟩ := Option.bind_eq_some_iff.mp hF_4
  clear hF_4
  have hPc := hP.sub (ws' := (b_w cB cC cI cJ cZ oA rA σ_3)) [7, 8, 9, 10, 11, 12, 13, 14, 15] rfl
  have hDc := (hDD σ_3).sub (ws' := (b_w cB cC cI cJ cZ oA rA σ_3)) [7, 8, 9, 10, 11, 12, 13, 14, 15] (by decide +kernel) rfl
  have hFc := va_free (wc := (b_w cB cC cI cJ cZ oA rA σ_3)) (hDD σ_3) hS hA [7, 8, 9, 10, 11, 12, 13, 14, 15] rfl
  refine g_ofi (wc := (b_w cB cC cI cJ cZ oA rA σ_3)) (wr := (b_m cB cC cI cJ cZ oA rA σ_3 ++ b_s cB cC cI cJ cZ oA rA σ_3 ++ b_c cB cC cI cJ cZ oA rA σ_3 ++ b_t cB cC cI cJ cZ oA rA σ_3 ++ b_d cB cC cI cJ cZ oA rA σ_3)) hP (hDD σ_3) hS hFc [7, 8, 9, 10, 11, 12, 13, 14, 15] [0, 1, 2, 3, 4, 5, 6, 16, 17, 18, 19, 20, 21, 22, 23, 24, 25, 26, 27, 28, 29, 30, 31, 32, 33, 34, 35, 36, 37, 38, 39, 40, 41, 42, 43, 44, 45, 46] rfl rfl (by decide +kernel) (by decide +kernel) (va_runV (As := [.int p0]) (rest := []) ⟨hx, hb, hml, hown, hts⟩ (k_X10_kindOf l dC dI cB cC cI cJ cZ cP oA rA H.size  p0 σ_3 _ hu_5) (cwV 1 hts (g_gV wq_714 wq_543 wq_544 wq_2 wq_545) rfl rfl rfl (by decide +kernel) ⟨Nat.le_of_ble_eq_true rfl, Nat.le_of_ble_eq_true rfl⟩) (g_preV g_bl0 hK hPc hDc hS hE hFc g_to0 (q0 := 0) (ci := 10) rfl rfl) rfl rfl hl.1 rfl (lv_room (Nat.le_of_ble_eq_true rfl)) dX4_sortOf_14 ⟨Nat.le_of_ble_eq_true rfl, Nat.le_of_ble_eq_true rfl⟩) (fun r9 u9 H locs hw9 hP' hD' hS => ?_)
  clear hPc hDc hFc
  subst hw9
  obtain ⟨σ_7, eσ_7, hF_8⟩ := bnd_e hF_6
  clear hF_6
  have hP : va_P (dC, dI) vwCl (b_m cB cC cI cJ cZ oA rA σ_7 ++ b_w cB cC cI cJ cZ oA rA σ_7 ++ b_s cB cC cI cJ cZ oA rA σ_7 ++ b_c cB cC cI cJ cZ oA rA σ_7 ++ b_t cB cC cI cJ cZ oA rA σ_7 ++ b_d cB cC cI cJ cZ oA rA σ_7) H := by rw [eσ_7]; exact hP'.sub [0, 1, 2, 3, 4, 5, 6, 38, 39, 40, 41, 42, 43, 44, 45, 46, 7, 8, 9, 10, 11, 12, 13, 14, 15, 16, 17, 18, 19, 20, 21, 22, 23, 24, 25, 26, 27, 28, 29, 30, 31, 32, 33, 34, 35, 36, 37] rfl
  clear hP' hD'
  refine lv_iconst (v := 2) hx hb dX4_sortOf_17 (by decide +kernel) ?_
  refine lv_icmp_eq (tgt := 23) hx hb dX4_sortOf_18 (by decide) (fun c_9 => ?_) (fun c_9 => ?_)
  · have hF_10 := ipos c_9 hF_8
    clear hF_8
    refine lv_aload_n hx hb dX4_sortOf_23 rfl (lv_at hl 1 rfl) ?_
    refine va_get (D := (dC, dI)) (ci := 4) (v := .ref (rA 3 5)) (C := RX4) (T := TX4) (N := 18) hx hb hts ii_X4 hown hK hP 0 rfl rfl 5 (by decide) (hts (.fieldLink RX4 23 "StoryHouse$Meanings" "seen" "[I") wq_91) (fun _ h9 => h9) rfl dX4_sortOf_24 ?_
    refine lv_iload_n hx hb dX4_sortOf_27 rfl (lv_at hl 0 rfl) ?_
    have hPc := hP.sub (ws' := [(rA 3 5, .inl (cI, 4500, .inl ((σ_7 3).2.1 5)))]) [4] rfl
    have hDc := (hDD σ_7).sub (ws' := [(rA 3 5, .inl (cI, 4500, .inl ((σ_7 3).2.1 5)))]) [4] (by decide +kernel) rfl
    have hFc := va_free (wc := [(rA 3 5, .inl (cI, 4500, .inl ((σ_7 3).2.1 5)))]) (hDD σ_7) hS hA [4] rfl
    refine g_ofi (wc := [(rA 3 5, .inl (cI, 4500, .inl ((σ_7 3).2.1 5)))]) (wr := (((b_m cB cC cI cJ cZ oA rA σ_7 ++ b_w cB cC cI cJ cZ oA rA σ_7 ++ b_s cB cC cI cJ cZ oA rA σ_7 ++ b_c cB cC cI cJ cZ oA rA σ_7 ++ b_t cB cC cI cJ cZ oA rA σ_7 ++ b_d cB cC cI cJ cZ oA rA σ_7)).eraseIdx 4)) hP (hDD σ_7) hS hFc [4] [0, 1, 2, 3, 5, 6, 7, 8, 9, 10, 11, 12, 13, 14, 15, 16, 17, 18, 19, 20, 21, 22, 23, 24, 25, 26, 27, 28, 29, 30, 31, 32, 33, 34, 35, 36, 37, 38, 39, 40, 41, 42, 43, 44, 45, 46] rfl rfl (by decide +kernel) (by decide +kernel) (va_runSN (As := [.ref (rA 3 5), .int u_1.1]) (rest := []) ⟨hx, hb, hml, hown, hts⟩ (c_X11_at l dC dI cB cC cI cJ cZ cP H.size (rA 3 5) u_1.1 4500 ((σ_7 3).2.1 5) (by decide)) ⟨va_cnB 2 hts (g_gA wq_407) rfl rfl rfl (hN.at 24 rfl) (hts (.initialized RX11) wq_1) (by decide +kernel) ⟨Nat.le_of_ble_eq_true rfl, Nat.le_of_ble_eq_true rfl⟩, (hts (.static yX11_at) wq_406), trivial⟩ (g_preS g_bl0 hK hPc hDc hS hE hFc g_to0) rfl rfl hl.1 rfl (lv_room (Nat.le_of_ble_eq_true rfl)) dX4_sortOf_28 ⟨Nat.le_of_ble_eq_true rfl, Nat.le_of_ble_eq_true rfl⟩) (fun r9 u9 H locs hw9 hP' hD' hS => ?_)
    clear hPc hDc hFc hD'
    have hP : va_P (dC, dI) vwCl (b_m cB cC cI cJ cZ oA rA σ_7 ++ b_w cB cC cI cJ cZ oA rA σ_7 ++ b_s cB cC cI cJ cZ oA rA σ_7 ++ b_c cB cC cI cJ cZ oA rA σ_7 ++ b_t cB cC cI cJ cZ oA rA σ_7 ++ b_d cB cC cI cJ cZ oA rA σ_7) H := hP'.sub [0, 1, 2, 3, 46, 4, 5, 6, 7, 8, 9, 10, 11, 12, 13, 14, 15, 16, 17, 18, 19, 20, 21, 22, 23, 24, 25, 26, 27, 28, 29, 30, 31, 32, 33, 34, 35, 36, 37, 38, 39, 40, 41, 42, 43, 44, 45] rfl
    clear hP'
    subst hw9
    obtain ⟨x_11, ex_11, hF_12⟩ := bnd_e hF_10
    clear hF_10
    refine m_top ex_11 ?_
    refine lv_if_eq (tgt := 39) hx hb dX4_sortOf_31 (by decide) (fun c_13 => ?_) (fun c_13 => ?_)
    · have hF_14 := ipos c_13 hF_12
      clear hF_12
      refine lv_aload_n hx hb dX4_sortOf_39 rfl (lv_at hl 1 rfl) ?_
      refine va_get (D := (dC, dI)) (ci := 4) (v := .ref (rA 3 3)) (C := RX4) (T := TX4) (N := 18) hx hb hts ii_X4 hown hK hP 0 rfl rfl 3 (by decide) (hts (.fieldLink RX4 17 "StoryHouse$Meanings" "sorts" "[I") wq_89) (fun _ h9 => h9) rfl dX4_sortOf_40 ?_
      refine lv_iload_n hx hb dX4_sortOf_43 rfl (lv_at hl 0 rfl) ?_
      have hPc := hP.sub (ws' := [(rA 3 3, .inl (cI, 4500, .inl ((σ_7 3).2.1 3)))]) [2] rfl
      have hDc := (hDD σ_7).sub (ws' := [(rA 3 3, .inl (cI, 4500, .inl ((σ_7 3).2.1 3)))]) [2] (by decide +kernel) rfl
      have hFc := va_free (wc := [(rA 3 3, .inl (cI, 4500, .inl ((σ_7 3).2.1 3)))]) (hDD σ_7) hS hA [2] rfl
      refine g_ofi (wc := [(rA 3 3, .inl (cI, 4500, .inl ((σ_7 3).2.1 3)))]) (wr := (((b_m cB cC cI cJ cZ oA rA σ_7 ++ b_w cB cC cI cJ cZ oA rA σ_7 ++ b_s cB cC cI cJ cZ oA rA σ_7 ++ b_c cB cC cI cJ cZ oA rA σ_7 ++ b_t cB cC cI cJ cZ oA rA σ_7 ++ b_d cB cC cI cJ cZ oA rA σ_7)).eraseIdx 2)) hP (hDD σ_7) hS hFc [2] [0, 1, 3, 4, 5, 6, 7, 8, 9, 10, 11, 12, 13, 14, 15, 16, 17, 18, 19, 20, 21, 22, 23, 24, 25, 26, 27, 28, 29, 30, 31, 32, 33, 34, 35, 36, 37, 38, 39, 40, 41, 42, 43, 44, 45, 46] rfl rfl (by decide +kernel) (by decide +kernel) (va_runSN (As := [.ref (rA 3 3), .int u_1.1]) (rest := []) ⟨hx, hb, hml, hown, hts⟩ (c_X11_at l dC dI cB cC cI cJ cZ cP H.size (rA 3 3) u_1.1 4500 ((σ_7 3).2.1 3) (by decide)) ⟨va_cnB 2 hts (g_gA wq_407) rfl rfl rfl (hN.at 24 rfl) (hts (.initialized RX11) wq_1) (by decide +kernel) ⟨Nat.le_of_ble_eq_true rfl, Nat.le_of_ble_eq_true rfl⟩, (hts (.static yX11_at) wq_406), trivial⟩ (g_preS g_bl0 hK hPc hDc hS hE hFc g_to0) rfl rfl hl.1 rfl (lv_room (Nat.le_of_ble_eq_true rfl)) dX4_sortOf_44 ⟨Nat.le_of_ble_eq_true rfl, Nat.le_of_ble_eq_true rfl⟩) (fun r9 u9 H locs hw9 hP' hD' hS => ?_)
      clear hPc hDc hFc hD'
      have hP : va_P (dC, dI) vwCl (b_m cB cC cI cJ cZ oA rA σ_7 ++ b_w cB cC cI cJ cZ oA rA σ_7 ++ b_s cB cC cI cJ cZ oA rA σ_7 ++ b_c cB cC cI cJ cZ oA rA σ_7 ++ b_t cB cC cI cJ cZ oA rA σ_7 ++ b_d cB cC cI cJ cZ oA rA σ_7) H := hP'.sub [0, 1, 46, 2, 3, 4, 5, 6, 7, 8, 9, 10, 11, 12, 13, 14, 15, 16, 17, 18, 19, 20, 21, 22, 23, 24, 25, 26, 27, 28, 29, 30, 31, 32, 33, 34, 35, 36, 37, 38, 39, 40, 41, 42, 43, 44, 45] rfl
      clear hP'
      subst hw9
      obtain ⟨x_15, ex_15, hF_16⟩ := bnd_e hF_14
      clear hF_14
      refine m_top ex_15 ?_
      have h9 := Option.some.inj hF_16
      subst h9
      exact W.iret (v := x_15) hx hb hr (fun t ht hW => ⟨⟨x_15, (), rfl, rfl, m_end ht hP, hDD _⟩, hS.F ht⟩) hS.2.2 dX4_sortOf_47
    · have hF_17 := ineg c_13 hF_12
      clear hF_12
      refine lv_bipush (v := 7) hx hb dX4_sortOf_34 (by decide +kernel) ?_
      refine lv_goto (tgt := 47) hx hb dX4_sortOf_36 (by decide) ?_
      have h9 := Option.some.inj hF_17
      subst h9
      exact W.iret (v := 7) hx hb hr (fun t ht hW => ⟨⟨7, (), rfl, rfl, m_end ht hP, hDD _⟩, hS.F ht⟩) hS.2.2 dX4_sortOf_47
  · have hF_18 := ineg c_9 hF_8
    clear hF_8
    refine lv_iconst (v := 0) hx hb dX4_sortOf_21 (by decide +kernel) ?_
    have h9 := Option.some.inj hF_18
    subst h9
    exact W.iret (v := 0) hx hb hr (fun t ht hW => ⟨⟨0, (), rfl, rfl, m_end ht hP, hDD _⟩, hS.F ht⟩) hS.2.2 dX4_sortOf_22
