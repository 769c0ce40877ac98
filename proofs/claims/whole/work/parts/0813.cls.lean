/-! methods of the class: what each does is its function -/
theorem dX3_flowOp_0 : decode cX3_flowOp 0 = .ok (.iload_n 1, 1) := by decide +kernel
theorem dX3_flowOp_1 : decode cX3_flowOp 1 = .ok (.tableswitch 184 0 8 #[51, 59, 67, 78, 94, 102, 102, 146, 165], 51) := by decide +kernel
theorem dX3_flowOp_52 : decode cX3_flowOp 52 = .ok (.aload_n 0, 1) := by decide +kernel
theorem dX3_flowOp_53 : decode cX3_flowOp 53 = .ok (.iconst 0, 1) := by decide +kernel
theorem dX3_flowOp_54 : decode cX3_flowOp 54 = .ok (.invokevirtual 116, 3) := by decide +kernel
theorem dX3_flowOp_57 : decode cX3_flowOp 57 = .ok (.goto 138, 3) := by decide +kernel
theorem dX3_flowOp_60 : decode cX3_flowOp 60 = .ok (.aload_n 0, 1) := by decide +kernel
theorem dX3_flowOp_61 : decode cX3_flowOp 61 = .ok (.invokevirtual 102, 3) := by decide +kernel
theorem dX3_flowOp_64 : decode cX3_flowOp 64 = .ok (.pop, 1) := by decide +kernel
theorem dX3_flowOp_65 : decode cX3_flowOp 65 = .ok (.goto 130, 3) := by decide +kernel
theorem dX3_flowOp_68 : decode cX3_flowOp 68 = .ok (.aload_n 0, 1) := by decide +kernel
theorem dX3_flowOp_69 : decode cX3_flowOp 69 = .ok (.aload_n 0, 1) := by decide +kernel
theorem dX3_flowOp_70 : decode cX3_flowOp 70 = .ok (.invokevirtual 102, 3) := by decide +kernel
theorem dX3_flowOp_73 : decode cX3_flowOp 73 = .ok (.invokevirtual 116, 3) := by decide +kernel
theorem dX3_flowOp_76 : decode cX3_flowOp 76 = .ok (.goto 119, 3) := by decide +kernel
theorem dX3_flowOp_79 : decode cX3_flowOp 79 = .ok (.aload_n 0, 1) := by decide +kernel
theorem dX3_flowOp_80 : decode cX3_flowOp 80 = .ok (.invokevirtual 119, 3) := by decide +kernel
theorem dX3_flowOp_83 : decode cX3_flowOp 83 = .ok (.ifCond .eq 112, 3) := by decide +kernel
theorem dX3_flowOp_86 : decode cX3_flowOp 86 = .ok (.aload_n 0, 1) := by decide +kernel
theorem dX3_flowOp_87 : decode cX3_flowOp 87 = .ok (.bipush 6, 2) := by decide +kernel
theorem dX3_flowOp_89 : decode cX3_flowOp 89 = .ok (.invokevirtual 106, 3) := by decide +kernel
theorem dX3_flowOp_92 : decode cX3_flowOp 92 = .ok (.goto 103, 3) := by decide +kernel
theorem dX3_flowOp_95 : decode cX3_flowOp 95 = .ok (.aload_n 0, 1) := by decide +kernel
theorem dX3_flowOp_96 : decode cX3_flowOp 96 = .ok (.iconst 2, 1) := by decide +kernel
theorem dX3_flowOp_97 : decode cX3_flowOp 97 = .ok (.putfield 21, 3) := by decide +kernel
theorem dX3_flowOp_100 : decode cX3_flowOp 100 = .ok (.goto 95, 3) := by decide +kernel
theorem dX3_flowOp_103 : decode cX3_flowOp 103 = .ok (.aload_n 0, 1) := by decide +kernel
theorem dX3_flowOp_104 : decode cX3_flowOp 104 = .ok (.getfield 33, 3) := by decide +kernel
theorem dX3_flowOp_107 : decode cX3_flowOp 107 = .ok (.iload_n 1, 1) := by decide +kernel
theorem dX3_flowOp_108 : decode cX3_flowOp 108 = .ok (.iconst 5, 1) := by decide +kernel
theorem dX3_flowOp_109 : decode cX3_flowOp 109 = .ok (.if_icmp .ne 8, 3) := by decide +kernel
theorem dX3_flowOp_112 : decode cX3_flowOp 112 = .ok (.ldc 123, 2) := by decide +kernel
theorem dX3_flowOp_114 : decode cX3_flowOp 114 = .ok (.goto 5, 3) := by decide +kernel
theorem dX3_flowOp_117 : decode cX3_flowOp 117 = .ok (.ldc 125, 2) := by decide +kernel
theorem dX3_flowOp_119 : decode cX3_flowOp 119 = .ok (.invokevirtual 127, 3) := by decide +kernel
theorem dX3_flowOp_122 : decode cX3_flowOp 122 = .ok (.aload_n 0, 1) := by decide +kernel
theorem dX3_flowOp_123 : decode cX3_flowOp 123 = .ok (.getfield 29, 3) := by decide +kernel
theorem dX3_flowOp_126 : decode cX3_flowOp 126 = .ok (.iload_n 1, 1) := by decide +kernel
theorem dX3_flowOp_127 : decode cX3_flowOp 127 = .ok (.iconst 5, 1) := by decide +kernel
theorem dX3_flowOp_128 : decode cX3_flowOp 128 = .ok (.if_icmp .ne 7, 3) := by decide +kernel
theorem dX3_flowOp_131 : decode cX3_flowOp 131 = .ok (.iconst 1, 1) := by decide +kernel
theorem dX3_flowOp_132 : decode cX3_flowOp 132 = .ok (.goto 4, 3) := by decide +kernel
theorem dX3_flowOp_135 : decode cX3_flowOp 135 = .ok (.iconst 2, 1) := by decide +kernel
theorem dX3_flowOp_136 : decode cX3_flowOp 136 = .ok (.putfield 133, 3) := by decide +kernel
theorem dX3_flowOp_139 : decode cX3_flowOp 139 = .ok (.aload_n 0, 1) := by decide +kernel
theorem dX3_flowOp_140 : decode cX3_flowOp 140 = .ok (.iconst 3, 1) := by decide +kernel
theorem dX3_flowOp_141 : decode cX3_flowOp 141 = .ok (.putfield 21, 3) := by decide +kernel
theorem dX3_flowOp_144 : decode cX3_flowOp 144 = .ok (.goto 51, 3) := by decide +kernel
theorem dX3_flowOp_147 : decode cX3_flowOp 147 = .ok (.aload_n 0, 1) := by decide +kernel
theorem dX3_flowOp_148 : decode cX3_flowOp 148 = .ok (.aload_n 0, 1) := by decide +kernel
theorem dX3_flowOp_149 : decode cX3_flowOp 149 = .ok (.invokevirtual 102, 3) := by decide +kernel
theorem dX3_flowOp_152 : decode cX3_flowOp 152 = .ok (.ifCond .eq 7, 3) := by decide +kernel
theorem dX3_flowOp_155 : decode cX3_flowOp 155 = .ok (.iconst 1, 1) := by decide +kernel
theorem dX3_flowOp_156 : decode cX3_flowOp 156 = .ok (.goto 4, 3) := by decide +kernel
theorem dX3_flowOp_159 : decode cX3_flowOp 159 = .ok (.iconst 0, 1) := by decide +kernel
theorem dX3_flowOp_160 : decode cX3_flowOp 160 = .ok (.invokevirtual 113, 3) := by decide +kernel
theorem dX3_flowOp_163 : decode cX3_flowOp 163 = .ok (.goto 32, 3) := by decide +kernel
theorem dX3_flowOp_166 : decode cX3_flowOp 166 = .ok (.aload_n 0, 1) := by decide +kernel
theorem dX3_flowOp_167 : decode cX3_flowOp 167 = .ok (.aload_n 0, 1) := by decide +kernel
theorem dX3_flowOp_168 : decode cX3_flowOp 168 = .ok (.invokevirtual 102, 3) := by decide +kernel
theorem dX3_flowOp_171 : decode cX3_flowOp 171 = .ok (.ifCond .ne 7, 3) := by decide +kernel
theorem dX3_flowOp_174 : decode cX3_flowOp 174 = .ok (.iconst 1, 1) := by decide +kernel
theorem dX3_flowOp_175 : decode cX3_flowOp 175 = .ok (.goto 4, 3) := by decide +kernel
theorem dX3_flowOp_178 : decode cX3_flowOp 178 = .ok (.iconst 0, 1) := by decide +kernel
theorem dX3_flowOp_179 : decode cX3_flowOp 179 = .ok (.invokevirtual 113, 3) := by decide +kernel
theorem dX3_flowOp_182 : decode cX3_flowOp 182 = .ok (.goto 13, 3) := by decide +kernel
theorem dX3_flowOp_185 : decode cX3_flowOp 185 = .ok (.aload_n 0, 1) := by decide +kernel
theorem dX3_flowOp_186 : decode cX3_flowOp 186 = .ok (.aload_n 0, 1) := by decide +kernel
theorem dX3_flowOp_187 : decode cX3_flowOp 187 = .ok (.invokevirtual 102, 3) := by decide +kernel
theorem dX3_flowOp_190 : decode cX3_flowOp 190 = .ok (.ineg, 1) := by decide +kernel
theorem dX3_flowOp_191 : decode cX3_flowOp 191 = .ok (.i2s, 1) := by decide +kernel
theorem dX3_flowOp_192 : decode cX3_flowOp 192 = .ok (.invokevirtual 113, 3) := by decide +kernel
theorem dX3_flowOp_195 : decode cX3_flowOp 195 = .ok (.return_, 1) := by decide +kernel
def F_X3_flowOp (p0 : Int32) (Γ : HS) : HR :=
  if p0 = 0 then (
    (F_X3_leave 0 Γ).bind fun u_3 =>
    some (0, u_3.2)
  ) else
  if p0 = 1 then (
    (F_X3_pop Γ).bind fun u_8 =>
    some (0, u_8.2)
  ) else
  if p0 = 2 then (
    (F_X3_pop Γ).bind fun u_13 =>
    (F_X3_leave u_13.1 u_13.2).bind fun u_15 =>
    some (0, u_15.2)
  ) else
  if p0 = 3 then (
    (F_X3_isTooMuch Γ).bind fun u_20 =>
    if u_20.1 = 0 then (
      some (0, u_20.2)
    ) else (
      (F_X3_stop 6 u_20.2).bind fun u_25 =>
      some (0, u_25.2)
    )
  ) else
  if p0 = 4 then (
    bnd (cI' Γ 10 14 2) fun σ_30 =>
    some (0, σ_30)
  ) else
  if p0 = 5 ∨ p0 = 6 then (
    if p0 = 5 then (
      (F_X5_line ([10, 42, 42, 42, 32, 89, 111, 117, 32, 104, 97, 118, 101, 32, 119, 111, 110, 32, 42, 42, 42] : List Int32) Γ).bind fun u_38 =>
      bnd (mrg (fun j => j == 8) Γ u_38.2) fun σ_40 =>
      bnd (fun (t_42 : Int32) (σ_43 : HS) => (
        bnd (cI' σ_43 9 10 t_42) fun σ_47 =>
        bnd (cI' σ_47 10 14 3) fun σ_49 =>
        some (0, σ_49)
      ) : Int32 → HS → HR) fun j_44 =>
      if p0 = 5 then (
        j_44 1 σ_40
      ) else (
        j_44 2 σ_40
      )
    ) else (
      (F_X5_line ([10, 42, 42, 42, 32, 89, 111, 117, 32, 104, 97, 118, 101, 32, 108, 111, 115, 116, 32, 42, 42, 42] : List Int32) Γ).bind fun u_56 =>
      bnd (mrg (fun j => j == 8) Γ u_56.2) fun σ_58 =>
      bnd (fun (t_60 : Int32) (σ_61 : HS) => (
        bnd (cI' σ_61 9 10 t_60) fun σ_65 =>
        bnd (cI' σ_65 10 14 3) fun σ_67 =>
        some (0, σ_67)
      ) : Int32 → HS → HR) fun j_62 =>
      if p0 = 5 then (
        j_62 1 σ_58
      ) else (
        j_62 2 σ_58
      )
    )
  ) else
  if p0 = 7 then (
    (F_X3_pop Γ).bind fun u_75 =>
    bnd (fun (t_77 : Int32) (σ_78 : HS) => (
      (F_X3_push t_77 σ_78).bind fun u_82 =>
      some (0, u_82.2)
    ) : Int32 → HS → HR) fun j_79 =>
    if u_75.1 = 0 then (
      j_79 0 u_75.2
    ) else (
      j_79 1 u_75.2
    )
  ) else
  if p0 = 8 then (
    (F_X3_pop Γ).bind fun u_90 =>
    bnd (fun (t_92 : Int32) (σ_93 : HS) => (
      (F_X3_push t_92 σ_93).bind fun u_97 =>
      some (0, u_97.2)
    ) : Int32 → HS → HR) fun j_94 =>
    if u_90.1 = 0 then (
      j_94 1 u_90.2
    ) else (
      j_94 0 u_90.2
    )
  ) else
  (
    (F_X3_pop Γ).bind fun u_103 =>
    bnd ((-u_103.1).toInt16.toInt32) fun (x_105 : Int32) =>
    (F_X3_push x_105 u_103.2).bind fun u_107 =>
    some (0, u_107.2)
  )
set_option maxHeartbeats 4000000 in
set_option maxRecDepth 100000 in
theorem k_X3_flowOp (l : Launch) (dC : Nat → ClassId) (dI : Nat → Nat → Nat) (cB cC cI cJ cZ cP : ClassId) (oA : Nat → Nat) (rA : Nat → Nat → Nat) (sz : Nat)  (p0 : Int32) (Γ : HS) (res : Int32 × HS) (hF : F_X3_flowOp p0 Γ = some res) : Met l yX3_flowOp (g_ws yX3_flowOp cX3_flowOp 2 none) ({ frames := 7, cells := 0, slots := 0, locals := 168 }) (va_Pc [.ref (oA 10), .int p0] (g_B (dC, dI) [(cB, .byte), (cC, .char), (cI, .int), (cJ, .long), (cZ, .boolean), (cP, .object "StoryHouse$Play")] sz (b_k cB cC cI cJ cZ oA rA Γ ++ b_p cB cC cI cJ cZ oA rA Γ ++ b_o cB cC cI cJ cZ oA rA Γ ++ b_s cB cC cI cJ cZ oA rA Γ ++ b_c cB cC cI cJ cZ oA rA Γ ++ b_t cB cC cI cJ cZ oA rA Γ ++ b_d cB cC cI cJ cZ oA rA Γ) g_0)) (va_Qv (fun (_ : Unit) => True) (g_Bo (dC, dI) (va_A (b_k cB cC cI cJ cZ oA rA Γ ++ b_p cB cC cI cJ cZ oA rA Γ ++ b_o cB cC cI cJ cZ oA rA Γ ++ b_s cB cC cI cJ cZ oA rA Γ ++ b_c cB cC cI cJ cZ oA rA Γ ++ b_t cB cC cI cJ cZ oA rA Γ ++ b_d cB cC cI cJ cZ oA rA Γ) sz) (fun (_ : Unit) => (b_k cB cC cI cJ cZ oA rA res.2 ++ b_p cB cC cI cJ cZ oA rA res.2 ++ b_o cB cC cI cJ cZ oA rA res.2 ++ b_s cB cC cI cJ cZ oA rA res.2 ++ b_c cB cC cI cJ cZ oA rA res.2 ++ b_t cB cC cI cJ cZ oA rA res.2 ++ b_d cB cC cI cJ cZ oA rA res.2))) (va_A (b_k cB cC cI cJ cZ oA rA Γ ++ b_p cB cC cI cJ cZ oA rA Γ ++ b_o cB cC cI cJ cZ oA rA Γ ++ b_s cB cC cI cJ cZ oA rA Γ ++ b_c cB cC cI cJ cZ oA rA Γ ++ b_t cB cC cI cJ cZ oA rA Γ ++ b_d cB cC cI cJ cZ oA rA Γ) sz)) 0 0 (va_A (b_k cB cC cI cJ cZ oA rA Γ ++ b_p cB cC cI cJ cZ oA rA Γ ++ b_o cB cC cI cJ cZ oA rA Γ ++ b_s cB cC cI cJ cZ oA rA Γ ++ b_c cB cC cI cJ cZ oA rA Γ ++ b_t cB cC cI cJ cZ oA rA Γ ++ b_d cB cC cI cJ cZ oA rA Γ) sz) := by
  refine Met.ofW (cc := cX3_flowOp) (maxL := 2) (ret := none) (by decide) rfl ?_
  intro p e s m args below meth c s₁ B hml hv
  obtain ⟨rfl, hsz, hP, hK, hD0, hE, hX⟩ := hv
  have hx := B.exec
  have hb := B.bytes
  have hr := B.returns
  have hts0 := atoms_spec (ws := g_ws yX3_flowOp cX3_flowOp 2 none) B.pre
  have hts : ∀ w ∈ lw_good, w.before ([.ref (oA 10), .int p0] : List Value).toArray s = true := fun w z => hts0 w (List.mem_cons_of_mem _ z)
  have hown : s.vm.findClass RX3 = some m.cls := findClass_of_methodNamed B.named
  have hlocks := B.notSynchronized
  subst hsz
  have hD1 := hD0.self (sz := s.heap.size)
  generalize hAe : va_A (b_k cB cC cI cJ cZ oA rA Γ ++ b_p cB cC cI cJ cZ oA rA Γ ++ b_o cB cC cI cJ cZ oA rA Γ ++ b_s cB cC cI cJ cZ oA rA Γ ++ b_c cB cC cI cJ cZ oA rA Γ ++ b_t cB cC cI cJ cZ oA rA Γ ++ b_d cB cC cI cJ cZ oA rA Γ) s.heap.size = A at hD1 hE hX ⊢
  have hA : ∀ q : Nat, s.heap.size ≤ q → A q := fun q z => by rw [← hAe]; exact Or.inr z
  have hDD : ∀ Γ : HS, va_D A (b_k cB cC cI cJ cZ oA rA Γ ++ b_p cB cC cI cJ cZ oA rA Γ ++ b_o cB cC cI cJ cZ oA rA Γ ++ b_s cB cC cI cJ cZ oA rA Γ ++ b_c cB cC cI cJ cZ oA rA Γ ++ b_t cB cC cI cJ cZ oA rA Γ ++ b_d cB cC cI cJ cZ oA rA Γ) := fun Γ9 => va_D_fst (ws := (b_k cB cC cI cJ cZ oA rA Γ ++ b_p cB cC cI cJ cZ oA rA Γ ++ b_o cB cC cI cJ cZ oA rA Γ ++ b_s cB cC cI cJ cZ oA rA Γ ++ b_c cB cC cI cJ cZ oA rA Γ ++ b_t cB cC cI cJ cZ oA rA Γ ++ b_d cB cC cI cJ cZ oA rA Γ)) (ws' := (b_k cB cC cI cJ cZ oA rA Γ9 ++ b_p cB cC cI cJ cZ oA rA Γ9 ++ b_o cB cC cI cJ cZ oA rA Γ9 ++ b_s cB cC cI cJ cZ oA rA Γ9 ++ b_c cB cC cI cJ cZ oA rA Γ9 ++ b_t cB cC cI cJ cZ oA rA Γ9 ++ b_d cB cC cI cJ cZ oA rA Γ9)) rfl hD1
  have hN := hE.1
  have hS : va_S A s.heap s.heap [] := va_S.rf
  have hl := lv_entry ([.ref (oA 10), .int p0]) (n := 2) (Nat.le_of_ble_eq_true rfl)
  rw [lg_entry_eq]
  generalize (lg_sl ([.ref (oA 10), .int p0]) ++ List.replicate (2 - (lg_sl ([.ref (oA 10), .int p0])).length) Slot.unset).toArray = ls at hl ⊢
  have hl : lv_has ls 2 [(0, .ref (oA 10)), (1, .int p0)] := hl
  unfold F_X3_flowOp at hF
  refine lv_iload_n hx hb dX3_flowOp_0 rfl (lv_at hl 1 rfl) ?_
  by_cases c_1 : p0 = 0
  · have hF_2 := ipos c_1 hF
    clear hF
    refine lv_tableIn (off := 51) (tgt := 52) hx hb dX3_flowOp_1 (by rw [c_1]; decide +kernel) (by rw [c_1]; decide +kernel) (by rw [c_1]; decide +kernel) (by decide) ?_
    refine lv_aload_n hx hb dX3_flowOp_52 rfl (lv_at hl 0 rfl) ?_
    refine lv_iconst (v := 0) hx hb dX3_flowOp_53 (by decide +kernel) ?_
    obtain ⟨u_3, hu_3, hF_4⟩ := Option.bind_eq_some_iff.mp hF_2
    clear hF_2
    have hPc := bx_P (bs := [b_k cB cC cI cJ cZ oA rA Γ, b_p cB cC cI cJ cZ oA rA Γ, b_o cB cC cI cJ cZ oA rA Γ, b_s cB cC cI cJ cZ oA rA Γ, b_c cB cC cI cJ cZ oA rA Γ, b_t cB cC cI cJ cZ oA rA Γ, b_d cB cC cI cJ cZ oA rA Γ]) (bs' := [b_k cB cC cI cJ cZ oA rA Γ, b_p cB cC cI cJ cZ oA rA Γ, b_o cB cC cI cJ cZ oA rA Γ, b_s cB cC cI cJ cZ oA rA Γ, b_c cB cC cI cJ cZ oA rA Γ, b_t cB cC cI cJ cZ oA rA Γ, b_d cB cC cI cJ cZ oA rA Γ]) (ws' := (b_k cB cC cI cJ cZ oA rA Γ ++ b_p cB cC cI cJ cZ oA rA Γ ++ b_o cB cC cI cJ cZ oA rA Γ ++ b_s cB cC cI cJ cZ oA rA Γ ++ b_c cB cC cI cJ cZ oA rA Γ ++ b_t cB cC cI cJ cZ oA rA Γ ++ b_d cB cC cI cJ cZ oA rA Γ)) hP fl_7 fl_7 [0, 1, 2, 3, 4, 5, 6] rfl
    have hDc := bx_D (bs := [b_k cB cC cI cJ cZ oA rA Γ, b_p cB cC cI cJ cZ oA rA Γ, b_o cB cC cI cJ cZ oA rA Γ, b_s cB cC cI cJ cZ oA rA Γ, b_c cB cC cI cJ cZ oA rA Γ, b_t cB cC cI cJ cZ oA rA Γ, b_d cB cC cI cJ cZ oA rA Γ]) (bs' := [b_k cB cC cI cJ cZ oA rA Γ, b_p cB cC cI cJ cZ oA rA Γ, b_o cB cC cI cJ cZ oA rA Γ, b_s cB cC cI cJ cZ oA rA Γ, b_c cB cC cI cJ cZ oA rA Γ, b_t cB cC cI cJ cZ oA rA Γ, b_d cB cC cI cJ cZ oA rA Γ]) (ws' := (b_k cB cC cI cJ cZ oA rA Γ ++ b_p cB cC cI cJ cZ oA rA Γ ++ b_o cB cC cI cJ cZ oA rA Γ ++ b_s cB cC cI cJ cZ oA rA Γ ++ b_c cB cC cI cJ cZ oA rA Γ ++ b_t cB cC cI cJ cZ oA rA Γ ++ b_d cB cC cI cJ cZ oA rA Γ)) (hDD Γ) fl_7 fl_7 [0, 1, 2, 3, 4, 5, 6] (by decide +kernel) rfl
    have hFc := bx_F (bs := [b_k cB cC cI cJ cZ oA rA Γ, b_p cB cC cI cJ cZ oA rA Γ, b_o cB cC cI cJ cZ oA rA Γ, b_s cB cC cI cJ cZ oA rA Γ, b_c cB cC cI cJ cZ oA rA Γ, b_t cB cC cI cJ cZ oA rA Γ, b_d cB cC cI cJ cZ oA rA Γ]) (bs' := [b_k cB cC cI cJ cZ oA rA Γ, b_p cB cC cI cJ cZ oA rA Γ, b_o cB cC cI cJ cZ oA rA Γ, b_s cB cC cI cJ cZ oA rA Γ, b_c cB cC cI cJ cZ oA rA Γ, b_t cB cC cI cJ cZ oA rA Γ, b_d cB cC cI cJ cZ oA rA Γ]) (wc := (b_k cB cC cI cJ cZ oA rA Γ ++ b_p cB cC cI cJ cZ oA rA Γ ++ b_o cB cC cI cJ cZ oA rA Γ ++ b_s cB cC cI cJ cZ oA rA Γ ++ b_c cB cC cI cJ cZ oA rA Γ ++ b_t cB cC cI cJ cZ oA rA Γ ++ b_d cB cC cI cJ cZ oA rA Γ)) (hDD Γ) hS hA fl_7 fl_7 [0, 1, 2, 3, 4, 5, 6] rfl
    refine g_ofv (wc := (b_k cB cC cI cJ cZ oA rA Γ ++ b_p cB cC cI cJ cZ oA rA Γ ++ b_o cB cC cI cJ cZ oA rA Γ ++ b_s cB cC cI cJ cZ oA rA Γ ++ b_c cB cC cI cJ cZ oA rA Γ ++ b_t cB cC cI cJ cZ oA rA Γ ++ b_d cB cC cI cJ cZ oA rA Γ)) (wr := ([] : va_W)) hP (hDD Γ) hS hFc (bx_ix [b_k cB cC cI cJ cZ oA rA Γ, b_p cB cC cI cJ cZ oA rA Γ, b_o cB cC cI cJ cZ oA rA Γ, b_s cB cC cI cJ cZ oA rA Γ, b_c cB cC cI cJ cZ oA rA Γ, b_t cB cC cI cJ cZ oA rA Γ, b_d cB cC cI cJ cZ oA rA Γ] [0, 1, 2, 3, 4, 5, 6]) (bx_ix [b_k cB cC cI cJ cZ oA rA Γ, b_p cB cC cI cJ cZ oA rA Γ, b_o cB cC cI cJ cZ oA rA Γ, b_s cB cC cI cJ cZ oA rA Γ, b_c cB cC cI cJ cZ oA rA Γ, b_t cB cC cI cJ cZ oA rA Γ, b_d cB cC cI cJ cZ oA rA Γ] []) (bx_C (bs := [b_k cB cC cI cJ cZ oA rA Γ, b_p cB cC cI cJ cZ oA rA Γ, b_o cB cC cI cJ cZ oA rA Γ, b_s cB cC cI cJ cZ oA rA Γ, b_c cB cC cI cJ cZ oA rA Γ, b_t cB cC cI cJ cZ oA rA Γ, b_d cB cC cI cJ cZ oA rA Γ]) (bs' := [b_k cB cC cI cJ cZ oA rA Γ, b_p cB cC cI cJ cZ oA rA Γ, b_o cB cC cI cJ cZ oA rA Γ, b_s cB cC cI cJ cZ oA rA Γ, b_c cB cC cI cJ cZ oA rA Γ, b_t cB cC cI cJ cZ oA rA Γ, b_d cB cC cI cJ cZ oA rA Γ]) (is := [0, 1, 2, 3, 4, 5, 6]) fl_7 fl_7 rfl) (bx_C (bs := [b_k cB cC cI cJ cZ oA rA Γ, b_p cB cC cI cJ cZ oA rA Γ, b_o cB cC cI cJ cZ oA rA Γ, b_s cB cC cI cJ cZ oA rA Γ, b_c cB cC cI cJ cZ oA rA Γ, b_t cB cC cI cJ cZ oA rA Γ, b_d cB cC cI cJ cZ oA rA Γ]) (bs' := []) (is := []) fl_7 fl_0 rfl) (bx_n (by decide +kernel)) (bx_d (by decide +kernel)) (va_runV (As := [.int 0]) (rest := []) ⟨hx, hb, hml, hown, hts⟩ (k_X3_leave l dC dI cB cC cI cJ cZ cP oA rA s.heap.size  0 Γ _ hu_3) (cwV 1 hts (g_gV wq_1213 wq_1214 wq_2099 wq_11 wq_1215) rfl rfl rfl (by decide +kernel) ⟨Nat.le_of_ble_eq_true rfl, Nat.le_of_ble_eq_true rfl⟩) (g_preV g_bl0 hK hPc hDc hS hE hFc g_to0 (q0 := 0) (ci := 3) rfl rfl) rfl rfl hl.1 rfl (lv_room (Nat.le_of_ble_eq_true rfl)) dX3_flowOp_54 ⟨Nat.le_of_ble_eq_true rfl, Nat.le_of_ble_eq_true rfl⟩) (fun u9 H locs hw9 hP' hD' hS => ?_)
    clear hPc hDc hFc
    have hP : va_P (dC, dI) vwCl (b_k cB cC cI cJ cZ oA rA u_3.2 ++ b_p cB cC cI cJ cZ oA rA u_3.2 ++ b_o cB cC cI cJ cZ oA rA u_3.2 ++ b_s cB cC cI cJ cZ oA rA u_3.2 ++ b_c cB cC cI cJ cZ oA rA u_3.2 ++ b_t cB cC cI cJ cZ oA rA u_3.2 ++ b_d cB cC cI cJ cZ oA rA u_3.2) H := hP'
    clear hP' hD'
    refine lv_goto (tgt := 195) hx hb dX3_flowOp_57 (by decide) ?_
    have h9 := Option.some.inj hF_4
    subst h9
    exact W.vret hx hb hr (fun t ht hW => ⟨⟨(), rfl, trivial, m_end ht hP, hDD _⟩, hS.F ht⟩) hS.2.2 dX3_flowOp_195
  have hF_5 := ineg c_1 hF
  clear hF
  by_cases c_6 : p0 = 1
  · have hF_7 := ipos c_6 hF_5
    clear hF_5
    refine lv_tableIn (off := 59) (tgt := 60) hx hb dX3_flowOp_1 (by rw [c_6]; decide +kernel) (by rw [c_6]; decide +kernel) (by rw [c_6]; decide +kernel) (by decide) ?_
    refine lv_aload_n hx hb dX3_flowOp_60 rfl (lv_at hl 0 rfl) ?_
    obtain ⟨u_8, hu_8, hF_9⟩ := Option.bind_eq_some_iff.mp hF_7
    clear hF_7
    have hPc := bx_P (bs := [b_k cB cC cI cJ cZ oA rA Γ, b_p cB cC cI cJ cZ oA rA Γ, b_o cB cC cI cJ cZ oA rA Γ, b_s cB cC cI cJ cZ oA rA Γ, b_c cB cC cI cJ cZ oA rA Γ, b_t cB cC cI cJ cZ oA rA Γ, b_d cB cC cI cJ cZ oA rA Γ]) (bs' := [b_k cB cC cI cJ cZ oA rA Γ, b_p cB cC cI cJ cZ oA rA Γ, b_o cB cC cI cJ cZ oA rA Γ, b_s cB cC cI cJ cZ oA rA Γ, b_c cB cC cI cJ cZ oA rA Γ, b_t cB cC cI cJ cZ oA rA Γ, b_d cB cC cI cJ cZ oA rA Γ]) (ws' := (b_k cB cC cI cJ cZ oA rA Γ ++ b_p cB cC cI cJ cZ oA rA Γ ++ b_o cB cC cI cJ cZ oA rA Γ ++ b_s cB cC cI cJ cZ oA rA Γ ++ b_c cB cC cI cJ cZ oA rA Γ ++ b_t cB cC cI cJ cZ oA rA Γ ++ b_d cB cC cI cJ cZ oA rA Γ)) hP fl_7 fl_7 [0, 1, 2, 3, 4, 5, 6] rfl
    have hDc := bx_D (bs := [b_k cB cC cI cJ cZ oA rA Γ, b_p cB cC cI cJ cZ oA rA Γ, b_o cB cC cI cJ cZ oA rA Γ, b_s cB cC cI cJ cZ oA rA Γ, b_c cB cC cI cJ cZ oA rA Γ, b_t cB cC cI cJ cZ oA rA Γ, b_d cB cC cI cJ cZ oA rA Γ]) (bs' := [b_k cB cC cI cJ cZ oA rA Γ, b_p cB cC cI cJ cZ oA rA Γ, b_o cB cC cI cJ cZ oA rA Γ, b_s cB cC cI cJ cZ oA rA Γ, b_c cB cC cI cJ cZ oA rA Γ, b_t cB cC cI cJ cZ oA rA Γ, b_d cB cC cI cJ cZ oA rA Γ]) (ws' := (b_k cB cC cI cJ cZ oA rA Γ ++ b_p cB cC cI cJ cZ oA rA Γ ++ b_o cB cC cI cJ cZ oA rA Γ ++ b_s cB cC cI cJ cZ oA rA Γ ++ b_c cB cC cI cJ cZ oA rA Γ ++ b_t cB cC cI cJ cZ oA rA Γ ++ b_d cB cC cI cJ cZ oA rA Γ)) (hDD Γ) fl_7 fl_7 [0, 1, 2, 3, 4, 5, 6] (by decide +kernel) rfl
    have hFc := bx_F (bs := [b_k cB cC cI cJ cZ oA rA Γ, b_p cB cC cI cJ cZ oA rA Γ, b_o cB cC cI cJ cZ oA rA Γ, b_s cB cC cI cJ cZ oA rA Γ, b_c cB cC cI cJ cZ oA rA Γ, b_t cB cC cI cJ cZ oA rA Γ, b_d cB cC cI cJ cZ oA rA Γ]) (bs' := [b_k cB cC cI cJ cZ oA rA Γ, b_p cB cC cI cJ cZ oA rA Γ, b_o cB cC cI cJ cZ oA rA Γ, b_s cB cC cI cJ cZ oA rA Γ, b_c cB cC cI cJ cZ oA rA Γ, b_t cB cC cI cJ cZ oA rA Γ, b_d cB cC cI cJ cZ oA rA Γ]) (wc := (b_k cB cC cI cJ cZ oA rA Γ ++ b_p cB cC cI cJ cZ oA rA Γ ++ b_o cB cC cI cJ cZ oA rA Γ ++ b_s cB cC cI cJ cZ oA rA Γ ++ b_c cB cC cI cJ cZ oA rA Γ ++ b_t cB cC cI cJ cZ oA rA Γ ++ b_d cB cC cI cJ cZ oA rA Γ)) (hDD Γ) hS hA fl_7 fl_7 [0, 1, 2, 3, 4, 5, 6] rfl
    refine g_ofi (wc := (b_k cB cC cI cJ cZ oA rA Γ ++ b_p cB cC cI cJ cZ oA rA Γ ++ b_o cB cC cI cJ cZ oA rA Γ ++ b_s cB cC cI cJ cZ oA rA Γ ++ b_c cB cC cI cJ cZ oA rA Γ ++ b_t cB cC cI cJ cZ oA rA Γ ++ b_d cB cC cI cJ cZ oA rA Γ)) (wr := ([] : va_W)) hP (hDD Γ) hS hFc (bx_ix [b_k cB cC cI cJ cZ oA rA Γ, b_p cB cC cI cJ cZ oA rA Γ, b_o cB cC cI cJ cZ oA rA Γ, b_s cB cC cI cJ cZ oA rA Γ, b_c cB cC cI cJ cZ oA rA Γ, b_t cB cC cI cJ cZ oA rA Γ, b_d cB cC cI cJ cZ oA rA Γ] [0, 1, 2, 3, 4, 5, 6]) (bx_ix [b_k cB cC cI cJ cZ oA rA Γ, b_p cB cC cI cJ cZ oA rA Γ, b_o cB cC cI cJ cZ oA rA Γ, b_s cB cC cI cJ cZ oA rA Γ, b_c cB cC cI cJ cZ oA rA Γ, b_t cB cC cI cJ cZ oA rA Γ, b_d cB cC cI cJ cZ oA rA Γ] []) (bx_C (bs := [b_k cB cC cI cJ cZ oA rA Γ, b_p cB cC cI cJ cZ oA rA Γ, b_o cB cC cI cJ cZ oA rA Γ, b_s cB cC cI cJ cZ oA rA Γ, b_c cB cC cI cJ cZ oA rA Γ, b_t cB cC cI cJ cZ oA rA Γ, b_d cB cC cI cJ cZ oA rA Γ]) (bs' := [b_k cB cC cI cJ cZ oA rA Γ, b_p cB cC cI cJ cZ oA rA Γ, b_o cB cC cI cJ cZ oA rA Γ, b_s cB cC cI cJ cZ oA rA Γ, b_c cB cC cI cJ cZ oA rA Γ, b_t cB cC cI cJ cZ oA rA Γ, b_d cB cC cI cJ cZ oA rA Γ]) (is := [0, 1, 2, 3, 4, 5, 6]) fl_7 fl_7 rfl) (bx_C (bs := [b_k cB cC cI cJ cZ oA rA Γ, b_p cB cC cI cJ cZ oA rA Γ, b_o cB cC cI cJ cZ oA rA Γ, b_s cB cC cI cJ cZ oA rA Γ, b_c cB cC cI cJ cZ oA rA Γ, b_t cB cC cI cJ cZ oA rA Γ, b_d cB cC cI cJ cZ oA rA Γ]) (bs' := []) (is := []) fl_7 fl_0 rfl) (bx_n (by decide +kernel)) (bx_d (by decide +kernel)) (va_runV (As := []) (rest := []) ⟨hx, hb, hml, hown, hts⟩ (k_X3_pop l dC dI cB cC cI cJ cZ cP oA rA s.heap.size  Γ _ hu_8) (cwV 0 hts (g_gV wq_1144 wq_1145 wq_2086 wq_11 wq_1146) rfl rfl rfl (by decide +kernel) ⟨Nat.le_of_ble_eq_true rfl, Nat.le_of_ble_eq_true rfl⟩) (g_preV g_bl0 hK hPc hDc hS hE hFc g_to0 (q0 := 0) (ci := 3) rfl rfl) rfl rfl hl.1 rfl (lv_room (Nat.le_of_ble_eq_true rfl)) dX3_flowOp_61 ⟨Nat.le_of_ble_eq_true rfl, Nat.le_of_ble_eq_true rfl⟩) (fun r9 u9 H locs hw9 hP' hD' hS => ?_)
    clear hPc hDc hFc
    subst hw9
    have hP : va_P (dC, dI) vwCl (b_k cB cC cI cJ cZ oA rA u_8.2 ++ b_p cB cC cI cJ cZ oA rA u_8.2 ++ b_o cB cC cI cJ cZ oA rA u_8.2 ++ b_s cB cC cI cJ cZ oA rA u_8.2 ++ b_c cB cC cI cJ cZ oA rA u_8.2 ++ b_t cB cC cI cJ cZ oA rA u_8.2 ++ b_d cB cC cI cJ cZ oA rA u_8.2) H := hP'
    clear hP' hD'
    refine lv_pop hx hb dX3_flowOp_64 rfl ?_
    refine lv_goto (tgt := 195) hx hb dX3_flowOp_65 (by decide) ?_
    have h9 := Option.some.inj hF_9
    subst h9
    exact W.vret hx hb hr (fun t ht hW => ⟨⟨(), rfl, trivial, m_end ht hP, hDD _⟩, hS.F ht⟩) hS.2.2 dX3_flowOp_195
  have hF_10 := ineg c_6 hF_5
  clear hF_5
  by_cases c_11 : p0 = 2
  · have hF_12 := ipos c_11 hF_10
    clear hF_10
    refine lv_tableIn (off := 67) (tgt := 68) hx hb dX3_flowOp_1 (by rw [c_11]; decide +kernel) (by rw [c_11]; decide +kernel) (by rw [c_11]; decide +kernel) (by decide) ?_
    refine lv_aload_n hx hb dX3_flowOp_68 rfl (lv_at hl 0 rfl) ?_
    refine lv_aload_n hx hb dX3_flowOp_69 rfl (lv_at hl 0 rfl) ?_
    obtain ⟨u_13, hu_13, hF_14⟩ := Option.bind_eq_some_iff.mp hF_12
    clear hF_12
    have hPc := bx_P (bs := [b_k cB cC cI cJ cZ oA rA Γ, b_p cB cC cI cJ cZ oA rA Γ, b_o cB cC cI cJ cZ oA rA Γ, b_s cB cC cI cJ cZ oA rA Γ, b_c cB cC cI cJ cZ oA rA Γ, b_t cB cC cI cJ cZ oA rA Γ, b_d cB cC cI cJ cZ oA rA Γ]) (bs' := [b_k cB cC cI cJ cZ oA rA Γ, b_p cB cC cI cJ cZ oA rA Γ, b_o cB cC cI cJ cZ oA rA Γ, b_s cB cC cI cJ cZ oA rA Γ, b_c cB cC cI cJ cZ oA rA Γ, b_t cB cC cI cJ cZ oA rA Γ, b_d cB cC cI cJ cZ oA rA Γ]) (ws' := (b_k cB cC cI cJ cZ oA rA Γ ++ b_p cB cC cI cJ cZ oA rA Γ ++ b_o cB cC cI cJ cZ oA rA Γ ++ b_s cB cC cI cJ cZ oA rA Γ ++ b_c cB cC cI cJ cZ oA rA Γ ++ b_t cB cC cI cJ cZ oA rA Γ ++ b_d cB cC cI cJ cZ oA rA Γ)) hP fl_7 fl_7 [0, 1, 2, 3, 4, 5, 6] rfl
    have hDc := bx_D (bs := [b_k cB cC cI cJ cZ oA rA Γ, b_p cB cC cI cJ cZ oA rA Γ, b_o cB cC cI cJ cZ oA rA Γ, b_s cB cC cI cJ cZ oA rA Γ, b_c cB cC cI cJ cZ oA rA Γ, b_t cB cC cI cJ cZ oA rA Γ, b_d cB cC cI cJ cZ oA rA Γ]) (bs' := [b_k cB cC cI cJ cZ oA rA Γ, b_p cB cC cI cJ cZ oA rA Γ, b_o cB cC cI cJ cZ oA rA Γ, b_s cB cC cI cJ cZ oA rA Γ, b_c cB cC cI cJ cZ oA rA Γ, b_t cB cC cI cJ cZ oA rA Γ, b_d cB cC cI cJ cZ oA rA Γ]) (ws' := (b_k cB cC cI cJ cZ oA rA Γ ++ b_p cB cC cI cJ cZ oA rA Γ ++ b_o cB cC cI cJ cZ oA rA Γ ++ b_s cB cC cI cJ cZ oA rA Γ ++ b_c cB cC cI cJ cZ oA rA Γ ++ b_t cB cC cI cJ cZ oA rA Γ ++ b_d cB cC cI cJ cZ oA rA Γ)) (hDD Γ) fl_7 fl_7 [0, 1, 2, 3, 4, 5, 6] (by decide +kernel) rfl
    have hFc := bx_F (bs := [b_k cB cC cI cJ cZ oA rA Γ, b_p cB cC cI cJ cZ oA rA Γ, b_o cB cC cI cJ cZ oA rA Γ, b_s cB cC cI cJ cZ oA rA Γ, b_c cB cC cI cJ cZ oA rA Γ, b_t cB cC cI cJ cZ oA rA Γ, b_d cB cC cI cJ cZ oA rA Γ]) (bs' := [b_k cB cC cI cJ cZ oA rA Γ, b_p cB cC cI cJ cZ oA rA Γ, b_o cB cC cI cJ cZ oA rA Γ, b_s cB cC cI cJ cZ oA rA Γ, b_c cB cC cI cJ cZ oA rA Γ, b_t cB cC cI cJ cZ oA rA Γ, b_d cB cC cI cJ cZ oA rA Γ]) (wc := (b_k cB cC cI cJ cZ oA rA Γ ++ b_p cB cC cI cJ cZ oA rA Γ ++ b_o cB cC cI cJ cZ oA rA Γ ++ b_s cB cC cI cJ cZ oA rA Γ ++ b_c cB cC cI cJ cZ oA rA Γ ++ b_t cB cC cI cJ cZ oA rA Γ ++ b_d cB cC cI cJ cZ oA rA Γ)) (hDD Γ) hS hA fl_7 fl_7 [0, 1, 2, 3, 4, 5, 6] rfl
    refine g_ofi (wc := (b_k cB cC cI cJ cZ oA rA Γ ++ b_p cB cC cI cJ cZ oA rA Γ ++ b_o cB cC cI cJ cZ oA rA Γ ++ b_s cB cC cI cJ cZ oA rA Γ ++ b_c cB cC cI cJ cZ oA rA Γ ++ b_t cB cC cI cJ cZ oA rA Γ ++ b_d cB cC cI cJ cZ oA rA Γ)) (wr := ([] : va_W)) hP (hDD Γ) hS hFc (bx_ix [b_k cB cC cI cJ cZ oA rA Γ, b_p cB cC cI cJ cZ oA rA Γ, b_o cB cC cI cJ cZ oA rA Γ, b_s cB cC cI cJ cZ oA rA Γ, b_c cB cC cI cJ cZ oA rA Γ, b_t cB cC cI cJ cZ oA rA Γ, b_d cB cC cI cJ cZ oA rA Γ] [0, 1, 2, 3, 4, 5, 6]) (bx_ix [b_k cB cC cI cJ cZ oA rA Γ, b_p cB cC cI cJ cZ oA rA Γ, b_o cB cC cI cJ cZ oA rA Γ, b_s cB cC cI cJ cZ oA rA Γ, b_c cB cC cI cJ cZ oA rA Γ, b_t cB cC cI cJ cZ oA rA Γ, b_d cB cC cI cJ cZ oA rA Γ] []) (bx_C (bs := [b_k cB cC cI cJ cZ oA rA Γ, b_p cB cC cI cJ cZ oA rA Γ, b_o cB cC cI cJ cZ oA rA Γ, b_s cB cC cI cJ cZ oA rA Γ, b_c cB cC cI cJ cZ oA rA Γ, b_t cB cC cI cJ cZ oA rA Γ, b_d cB cC cI cJ cZ oA rA Γ]) (bs' := [b_k cB cC cI cJ cZ oA rA Γ, b_p cB cC cI cJ cZ oA rA Γ, b_o cB cC cI cJ cZ oA rA Γ, b_s cB cC cI cJ cZ oA rA Γ, b_c cB cC cI cJ cZ oA rA Γ, b_t cB cC cI cJ cZ oA rA Γ, b_d cB cC cI cJ cZ oA rA Γ]) (is := [0, 1, 2, 3, 4, 5, 6]) fl_7 fl_7 rfl) (bx_C (bs := [b_k cB cC cI cJ cZ oA rA Γ, b_p cB cC cI cJ cZ oA rA Γ, b_o cB cC cI cJ cZ oA rA Γ, b_s cB cC cI cJ cZ oA rA Γ, b_c cB cC cI cJ cZ oA rA Γ, b_t cB cC cI cJ cZ oA rA Γ, b_d cB cC cI cJ cZ oA rA Γ]) (bs' := []) (is := []) fl_7 fl_0 rfl) (bx_n (by decide +kernel)) (bx_d (by decide +kernel)) (va_runV (As := []) (rest := [.ref (oA 10)]) ⟨hx, hb, hml, hown, hts⟩ (k_X3_pop l dC dI cB cC cI cJ cZ cP oA rA s.heap.size  Γ _ hu_13) (cwV 0 hts (g_gV wq_1144 wq_1145 wq_2086 wq_11 wq_1146) rfl rfl rfl (by decide +kernel) ⟨Nat.le_of_ble_eq_true rfl, Nat.le_of_ble_eq_true rfl⟩) (g_preV g_bl0 hK hPc hDc hS hE hFc g_to0 (q0 := 0) (ci := 3) rfl rfl) rfl rfl hl.1 rfl (lv_room (Nat.le_of_ble_eq_true rfl)) dX3_flowOp_70 ⟨Nat.le_of_ble_eq_true rfl, Nat.le_of_ble_eq_true rfl⟩) (fun r9 u9 H locs hw9 hP' hD' hS => ?_)
    clear hPc hDc hFc
    subst hw9
    have hP : va_P (dC, dI) vwCl (b_k cB cC cI cJ cZ oA rA u_13.2 ++ b_p cB cC cI cJ cZ oA rA u_13.2 ++ b_o cB cC cI cJ cZ oA rA u_13.2 ++ b_s cB cC cI cJ cZ oA rA u_13.2 ++ b_c cB cC cI cJ cZ oA rA u_13.2 ++ b_t cB cC cI cJ cZ oA rA u_13.2 ++ b_d cB cC cI cJ cZ oA rA u_13.2) H := hP'
    clear hP' hD'
    obtain ⟨u_15, hu_15, hF_16⟩ := Option.bind_eq_some_iff.mp hF_14
    clear hF_14
    have hPc := bx_P (bs := [b_k cB cC cI cJ cZ oA rA u_13.2, b_p cB cC cI cJ cZ oA rA u_13.2, b_o cB cC cI cJ cZ oA rA u_13.2, b_s cB cC cI cJ cZ oA rA u_13.2, b_c cB cC cI cJ cZ oA rA u_13.2, b_t cB cC cI cJ cZ oA rA u_13.2, b_d cB cC cI cJ cZ oA rA u_13.2]) (bs' := [b_k cB cC cI cJ cZ oA rA u_13.2, b_p cB cC cI cJ cZ oA rA u_13.2, b_o cB cC cI cJ cZ oA rA u_13.2, b_s cB cC cI cJ cZ oA rA u_13.2, b_c cB cC cI cJ cZ oA rA u_13.2, b_t cB cC cI cJ cZ oA rA u_13.2, b_d cB cC cI cJ cZ oA rA u_13.2]) (ws' := (b_k cB cC cI cJ cZ oA rA u_13.2 ++ b_p cB cC cI cJ cZ oA rA u_13.2 ++ b_o cB cC cI cJ cZ oA rA u_13.2 ++ b_s cB cC cI cJ cZ oA rA u_13.2 ++ b_c cB cC cI cJ cZ oA rA u_13.2 ++ b_t cB cC cI cJ cZ oA rA u_13.2 ++ b_d cB cC cI cJ cZ oA rA u_13.2)) hP fl_7 fl_7 [0, 1, 2, 3, 4, 5, 6] rfl
    have hDc := bx_D (bs := [b_k cB cC cI cJ cZ oA rA u_13.2, b_p cB cC cI cJ cZ oA rA u_13.2, b_o cB cC cI cJ cZ oA rA u_13.2, b_s cB cC cI cJ cZ oA rA u_13.2, b_c cB cC cI cJ cZ oA rA u_13.2, b_t cB cC cI cJ cZ oA rA u_13.2, b_d cB cC cI cJ cZ oA rA u_13.2]) (bs' := [b_k cB cC cI cJ cZ oA rA u_13.2, b_p cB cC cI cJ cZ oA rA u_13.2, b_o cB cC cI cJ cZ oA rA u_13.2, b_s cB cC cI cJ cZ oA rA u_13.2, b_c cB cC cI cJ cZ oA rA u_13.2, b_t cB cC cI cJ cZ oA rA u_13.2, b_d cB cC cI cJ cZ oA rA u_13.2]) (ws' := (b_k cB cC cI cJ cZ oA rA u_13.2 ++ b_p cB cC cI cJ cZ oA rA u_13.2 ++ b_o cB cC cI cJ cZ oA rA u_13.2 ++ b_s cB cC cI cJ cZ oA rA u_13.2 ++ b_c cB cC cI cJ cZ oA rA u_13.2 ++ b_t cB cC cI cJ cZ oA rA u_13.2 ++ b_d cB cC cI cJ cZ oA rA u_13.2)) (hDD u_13.2) fl_7 fl_7 [0, 1, 2, 3, 4, 5, 6] (by decide +kernel) rfl
    have hFc := bx_F (bs := [b_k cB cC cI cJ cZ oA rA u_13.2, b_p cB cC cI cJ cZ oA rA u_13.2, b_o cB cC cI cJ cZ oA rA u_13.2, b_s cB cC cI cJ cZ oA rA u_13.2, b_c cB cC cI cJ cZ oA rA u_13.2, b_t cB cC cI cJ cZ oA rA u_13.2, b_d cB cC cI cJ cZ oA rA u_13.2]) (bs' := [b_k cB cC cI cJ cZ oA rA u_13.2, b_p cB cC cI cJ cZ oA rA u_13.2, b_o cB cC cI cJ cZ oA rA u_13.2, b_s cB cC cI cJ cZ oA rA u_13.2, b_c cB cC cI cJ cZ oA rA u_13.2, b_t cB cC cI cJ cZ oA rA u_13.2, b_d cB cC cI cJ cZ oA rA u_13.2]) (wc := (b_k cB cC cI cJ cZ oA rA u_13.2 ++ b_p cB cC cI cJ cZ oA rA u_13.2 ++ b_o cB cC cI cJ cZ oA rA u_13.2 ++ b_s cB cC cI cJ cZ oA rA u_13.2 ++ b_c cB cC cI cJ cZ oA rA u_13.2 ++ b_t cB cC cI cJ cZ oA rA u_13.2 ++ b_d cB cC cI cJ cZ oA rA u_13.2)) (hDD u_13.2) hS hA fl_7 fl_7 [0, 1, 2, 3, 4, 5, 6] rfl
    refine g_ofv (wc := (b_k cB cC cI cJ cZ oA rA u_13.2 ++ b_p cB cC cI cJ cZ oA rA u_13.2 ++ b_o cB cC cI cJ cZ oA rA u_13.2 ++ b_s cB cC cI cJ cZ oA rA u_13.2 ++ b_c cB cC cI cJ cZ oA rA u_13.2 ++ b_t cB cC cI cJ cZ oA rA u_13.2 ++ b_d cB cC cI cJ cZ oA rA u_13.2)) (wr := ([] : va_W)) hP (hDD u_13.2) hS hFc (bx_ix [b_k cB cC cI cJ cZ oA rA u_13.2, b_p cB cC cI cJ cZ oA rA u_13.2, b_o cB cC cI cJ cZ oA rA u_13.2, b_s cB cC cI cJ cZ oA rA u_13.2, b_c cB cC cI cJ cZ oA rA u_13.2, b_t cB cC cI cJ cZ oA rA u_13.2, b_d cB cC cI cJ cZ oA rA u_13.2] [0, 1, 2, 3, 4, 5, 6]) (bx_ix [b_k cB cC cI cJ cZ oA rA u_13.2, b_p cB cC cI cJ cZ oA rA u_13.2, b_o cB cC cI cJ cZ oA rA u_13.2, b_s cB cC cI cJ cZ oA rA u_13.2, b_c cB cC cI cJ cZ oA rA u_13.2, b_t cB cC cI cJ cZ oA rA u_13.2, b_d cB cC cI cJ cZ oA rA u_13.2] []) (bx_C (bs := [b_k cB cC cI cJ cZ oA rA u_13.2, b_p cB cC cI cJ cZ oA rA u_13.2, b_o cB cC cI cJ cZ oA rA u_13.2, b_s cB cC cI cJ cZ oA rA u_13.2, b_c cB cC cI cJ cZ oA rA u_13.2, b_t cB cC cI cJ cZ oA rA u_13.2, b_d cB cC cI cJ cZ oA rA u_13.2]) (bs' := [b_k cB cC cI cJ cZ oA rA u_13.2, b_p cB cC cI cJ cZ oA rA u_13.2, b_o cB cC cI cJ cZ oA rA u_13.2, b_s cB cC cI cJ cZ oA rA u_13.2, b_c cB cC cI cJ cZ oA rA u_13.2, b_t cB cC cI cJ cZ oA rA u_13.2, b_d cB cC cI cJ cZ oA rA u_13.2]) (is := [0, 1, 2, 3, 4, 5, 6]) fl_7 fl_7 rfl) (bx_C (bs := [b_k cB cC cI cJ cZ oA rA u_13.2, b_p cB cC cI cJ cZ oA rA u_13.2, b_o cB cC cI cJ cZ oA rA u_13.2, b_s cB cC cI cJ cZ oA rA u_13.2, b_c cB cC cI cJ cZ oA rA u_13.2, b_t cB cC cI cJ cZ oA rA u_13.2, b_d cB cC cI cJ cZ oA rA u_13.2]) (bs' := []) (is := []) fl_7 fl_0 rfl) (bx_n (by decide +kernel)) (bx_d (by decide +kernel)) (va_runV (As := [.int u_13.1]) (rest := []) ⟨hx, hb, hml, hown, hts⟩ (k_X3_leave l dC dI cB cC cI cJ cZ cP oA rA H.size  u_13.1 u_13.2 _ hu_15) (cwV 1 hts (g_gV wq_1213 wq_1214 wq_2099 wq_11 wq_1215) rfl rfl rfl (by decide +kernel) ⟨Nat.le_of_ble_eq_true rfl, Nat.le_of_ble_eq_true rfl⟩) (g_preV g_bl0 hK hPc hDc hS hE hFc g_to0 (q0 := 0) (ci := 3) rfl rfl) rfl rfl hl.1 rfl (lv_room (Nat.le_of_ble_eq_true rfl)) dX3_flowOp_73 ⟨Nat.le_of_ble_eq_true rfl, Nat.le_of_ble_eq_true rfl⟩) (fun u9 H locs hw9 hP' hD' hS => ?_)
    clear hPc hDc hFc
    have hP : va_P (dC, dI) vwCl (b_k cB cC cI cJ cZ oA rA u_15.2 ++ b_p cB cC cI cJ cZ oA rA u_15.2 ++ b_o cB cC cI cJ cZ oA rA u_15.2 ++ b_s cB cC cI cJ cZ oA rA u_15.2 ++ b_c cB cC cI cJ cZ oA rA u_15.2 ++ b_t cB cC cI cJ cZ oA rA u_15.2 ++ b_d cB cC cI cJ cZ oA rA u_15.2) H := hP'
    clear hP' hD'
    refine lv_goto (tgt := 195) hx hb dX3_flowOp_76 (by decide) ?_
    have h9 := Option.some.inj hF_16
    subst h9
    exact W.vret hx hb hr (fun t ht hW => ⟨⟨(), rfl, trivial, m_end ht hP, hDD _⟩, hS.F ht⟩) hS.2.2 dX3_flowOp_195
  have hF_17 := ineg c_11 hF_10
  clear hF_10
  by_cases c_18 : p0 = 3
  · have hF_19 := ipos c_18 hF_17
    clear hF_17
    refine lv_tableIn (off := 78) (tgt := 79) hx hb dX3_flowOp_1 (by rw [c_18]; decide +kernel) (by rw [c_18]; decide +kernel) (by rw [c_18]; decide +kernel) (by decide) ?_
    refine lv_aload_n hx hb dX3_flowOp_79 rfl (lv_at hl 0 rfl) ?_
    obtain ⟨u_20, hu_20, hF_21⟩ := Option.bind_eq_some_iff.mp hF_19
    clear hF_19
    have hPc := bx_P (bs := [b_k cB cC cI cJ cZ oA rA Γ, b_p cB cC cI cJ cZ oA rA Γ, b_o cB cC cI cJ cZ oA rA Γ, b_s cB cC cI cJ cZ oA rA Γ, b_c cB cC cI cJ cZ oA rA Γ, b_t cB cC cI cJ cZ oA rA Γ, b_d cB cC cI cJ cZ oA rA Γ]) (bs' := [b_k cB cC cI cJ cZ oA rA Γ, b_p cB cC cI cJ cZ oA rA Γ, b_o cB cC cI cJ cZ oA rA Γ, b_s cB cC cI cJ cZ oA rA Γ, b_c cB cC cI cJ cZ oA rA Γ, b_t cB cC cI cJ cZ oA rA Γ, b_d cB cC cI cJ cZ oA rA Γ]) (ws' := (b_k cB cC cI cJ cZ oA rA Γ ++ b_p cB cC cI cJ cZ oA rA Γ ++ b_o cB cC cI cJ cZ oA rA Γ ++ b_s cB cC cI cJ cZ oA rA Γ ++ b_c cB cC cI cJ cZ oA rA Γ ++ b_t cB cC cI cJ cZ oA rA Γ ++ b_d cB cC cI cJ cZ oA rA Γ)) hP fl_7 fl_7 [0, 1, 2, 3, 4, 5, 6] rfl
    have hDc := bx_D (bs := [b_k cB cC cI cJ cZ oA rA Γ, b_p cB cC cI cJ cZ oA rA Γ, b_o cB cC cI cJ cZ oA rA Γ, b_s cB cC cI cJ cZ oA rA Γ, b_c cB cC cI cJ cZ oA rA Γ, b_t cB cC cI cJ cZ oA rA Γ, b_d cB cC cI cJ cZ oA rA Γ]) (bs' := [b_k cB cC cI cJ cZ oA rA Γ, b_p cB cC cI cJ cZ oA rA Γ, b_o cB cC cI cJ cZ oA rA Γ, b_s cB cC cI cJ cZ oA rA Γ, b_c cB cC cI cJ cZ oA rA Γ, b_t cB cC cI cJ cZ oA rA Γ, b_d cB cC cI cJ cZ oA rA Γ]) (ws' := (b_k cB cC cI cJ cZ oA rA Γ ++ b_p cB cC cI cJ cZ oA rA Γ ++ b_o cB cC cI cJ cZ oA rA Γ ++ b_s cB cC cI cJ cZ oA rA Γ ++ b_c cB cC cI cJ cZ oA rA Γ ++ b_t cB cC cI cJ cZ oA rA Γ ++ b_d cB cC cI cJ cZ oA rA Γ)) (hDD Γ) fl_7 fl_7 [0, 1, 2, 3, 4, 5, 6] (by decide +kernel) rfl
    have hFc := bx_F (bs := [b_k cB cC cI cJ cZ oA rA Γ, b_p cB cC cI cJ cZ oA rA Γ, b_o cB cC cI cJ cZ oA rA Γ, b_s cB cC cI cJ cZ oA rA Γ, b_c cB cC cI cJ cZ oA rA Γ, b_t cB cC cI cJ cZ oA rA Γ, b_d cB cC cI cJ cZ oA rA Γ]) (bs' := [b_k cB cC cI cJ cZ oA rA Γ, b_p cB cC cI cJ cZ oA rA Γ, b_o cB cC cI cJ cZ oA rA Γ, b_s cB cC cI cJ cZ oA rA Γ, b_c cB cC cI cJ cZ oA rA Γ, b_t cB cC cI cJ cZ oA rA Γ, b_d cB cC cI cJ cZ oA rA Γ]) (wc := (b_k cB cC cI cJ cZ oA rA Γ ++ b_p cB cC cI cJ cZ oA rA Γ ++ b_o cB cC cI cJ cZ oA rA Γ ++ b_s cB cC cI cJ cZ oA rA Γ ++ b_c cB cC cI cJ cZ oA rA Γ ++ b_t cB cC cI cJ cZ oA rA Γ ++ b_d cB cC cI cJ cZ oA rA Γ)) (hDD Γ) hS hA fl_7 fl_7 [0, 1, 2, 3, 4, 5, 6] rfl
    refine g_ofi (wc := (b_k cB cC cI cJ cZ oA rA Γ ++ b_p cB cC cI cJ cZ oA rA Γ ++ b_o cB cC cI cJ cZ oA rA Γ ++ b_s cB cC cI cJ cZ oA rA Γ ++ b_c cB cC cI cJ cZ oA rA Γ ++ b_t cB cC cI cJ cZ oA rA Γ ++ b_d cB cC cI cJ cZ oA rA Γ)) (wr := ([] : va_W)) hP (hDD Γ) hS hFc (bx_ix [b_k cB cC cI cJ cZ oA rA Γ, b_p cB cC cI cJ cZ oA rA Γ, b_o cB cC cI cJ cZ oA rA Γ, b_s cB cC cI cJ cZ oA rA Γ, b_c cB cC cI cJ cZ oA rA Γ, b_t cB cC cI cJ cZ oA rA Γ, b_d cB cC cI cJ cZ oA rA Γ] [0, 1, 2, 3, 4, 5, 6]) (bx_ix [b_k cB cC cI cJ cZ oA rA Γ, b_p cB cC cI cJ cZ oA rA Γ, b_o cB cC cI cJ cZ oA rA Γ, b_s cB cC cI cJ cZ oA rA Γ, b_c cB cC cI cJ cZ oA rA Γ, b_t cB cC cI cJ cZ oA rA Γ, b_d cB cC cI cJ cZ oA rA Γ] []) (bx_C (bs := [b_k cB cC cI cJ cZ oA rA Γ, b_p cB cC cI cJ cZ oA rA Γ, b_o cB cC cI cJ cZ oA rA Γ, b_s cB cC cI cJ cZ oA rA Γ, b_c cB cC cI cJ cZ oA rA Γ, b_t cB cC cI cJ cZ oA rA Γ, b_d cB cC cI cJ cZ oA rA Γ]) (bs' := [b_k cB cC cI cJ cZ oA rA Γ, b_p cB cC cI cJ cZ oA rA Γ, b_o cB cC cI cJ cZ oA rA Γ, b_s cB cC cI cJ cZ oA rA Γ, b_c cB cC cI cJ cZ oA rA Γ, b_t cB cC cI cJ cZ oA rA Γ, b_d cB cC cI cJ cZ oA rA Γ]) (is := [0, 1, 2, 3, 4, 5, 6]) fl_7 fl_7 rfl) (bx_C (bs := [b_k cB cC cI cJ cZ oA rA Γ, b_p cB cC cI cJ cZ oA rA Γ, b_o cB cC cI cJ cZ oA rA Γ, b_s cB cC cI cJ cZ oA rA Γ, b_c cB cC cI cJ cZ oA rA Γ, b_t cB cC cI cJ cZ oA rA Γ, b_d cB cC cI cJ cZ oA rA Γ]) (bs' := []) (is := []) fl_7 fl_0 rfl) (bx_n (by decide +kernel)) (bx_d (by decide +kernel)) (va_runV (As := []) (rest := []) ⟨hx, hb, hml, hown, hts⟩ (k_X3_isTooMuch l dC dI cB cC cI cJ cZ cP oA rA s.heap.size  Γ _ hu_20) (cwV 0 hts (g_gV wq_1160 wq_1161 wq_2090 wq_11 wq_1162) rfl rfl rfl (by decide +kernel) ⟨Nat.le_of_ble_eq_true rfl, Nat.le_of_ble_eq_true rfl⟩) (g_preV g_bl0 hK hPc hDc hS hE hFc g_to0 (q0 := 0) (ci := 3) rfl rfl) rfl rfl hl.1 rfl (lv_room (Nat.le_of_ble_eq_true rfl)) dX3_flowOp_80 ⟨Nat.le_of_ble_eq_true rfl, Nat.le_of_ble_eq_true rfl⟩) (fun r9 u9 H locs hw9 hP' hD' hS => ?_)
    clear hPc hDc hFc
    subst hw9
    have hP : va_P (dC, dI) vwCl (b_k cB cC cI cJ cZ oA rA u_20.2 ++ b_p cB cC cI cJ cZ oA rA u_20.2 ++ b_o cB cC cI cJ cZ oA rA u_20.2 ++ b_s cB cC cI cJ cZ oA rA u_20.2 ++ b_c cB cC cI cJ cZ oA rA u_20.2 ++ b_t cB cC cI cJ cZ oA rA u_20.2 ++ b_d cB cC cI cJ cZ oA rA u_20.2) H := hP'
    clear hP' hD'
    refine lv_if_eq (tgt := 195) hx hb dX3_flowOp_83 (by decide) (fun c_22 => ?_) (fun c_22 => ?_)
    · have hF_23 := ipos c_22 hF_21
      clear hF_21
      have h9 := Option.some.inj hF_23
      subst h9
      exact W.vret hx hb hr (fun t ht hW => ⟨⟨(), rfl, trivial, m_end ht hP, hDD _⟩, hS.F ht⟩) hS.2.2 dX3_flowOp_195
    · have hF_24 := ineg c_22 hF_21
      clear hF_21
      refine lv_aload_n hx hb dX3_flowOp_86 rfl (lv_at hl 0 rfl) ?_
      refine lv_bipush (v := 6) hx hb dX3_flowOp_87 (by decide +kernel) ?_
      obtain ⟨u_25, hu_25, hF_26⟩ := Option.bind_eq_some_iff.mp hF_24
      clear hF_24
      have hPc := bx_P (bs := [b_k cB cC cI cJ cZ oA rA u_20.2, b_p cB cC cI cJ cZ oA rA u_20.2, b_o cB cC cI cJ cZ oA rA u_20.2, b_s cB cC cI cJ cZ oA rA u_20.2, b_c cB cC cI cJ cZ oA rA u_20.2, b_t cB cC cI cJ cZ oA rA u_20.2, b_d cB cC cI cJ cZ oA rA u_20.2]) (bs' := [b_k cB cC cI cJ cZ oA rA u_20.2, b_p cB cC cI cJ cZ oA rA u_20.2, b_o cB cC cI cJ cZ oA rA u_20.2, b_s cB cC cI cJ cZ oA rA u_20.2, b_c cB cC cI cJ cZ oA rA u_20.2, b_t cB cC cI cJ cZ oA rA u_20.2, b_d cB cC cI cJ cZ oA rA u_20.2]) (ws' := (b_k cB cC cI cJ cZ oA rA u_20.2 ++ b_p cB cC cI cJ cZ oA rA u_20.2 ++ b_o cB cC cI cJ cZ oA rA u_20.2 ++ b_s cB cC cI cJ cZ oA rA u_20.2 ++ b_c cB cC cI cJ cZ oA rA u_20.2 ++ b_t cB cC cI cJ cZ oA rA u_20.2 ++ b_d cB cC cI cJ cZ oA rA u_20.2)) hP fl_7 fl_7 [0, 1, 2, 3, 4, 5, 6] rfl
      have hDc := bx_D (bs := [b_k cB cC cI cJ cZ oA rA u_20.2, b_p cB cC cI cJ cZ oA rA u_20.2, b_o cB cC cI cJ cZ oA rA u_20.2, b_s cB cC cI cJ cZ oA rA u_20.2, b_c cB cC cI cJ cZ oA rA u_20.2, b_t cB cC cI cJ cZ oA rA u_20.2, b_d cB cC cI cJ cZ oA rA u_20.2]) (bs' := [b_k cB cC cI cJ cZ oA rA u_20.2, b_p cB cC cI cJ cZ oA rA u_20.2, b_o cB cC cI cJ cZ oA rA u_20.2, b_s cB cC cI cJ cZ oA rA u_20.2, b_c cB cC cI cJ cZ oA rA u_20.2, b_t cB cC cI cJ cZ oA rA u_20.2, b_d cB cC cI cJ cZ oA rA u_20.2]) (ws' := (b_k cB cC cI cJ cZ oA rA u_20.2 ++ b_p cB cC cI cJ cZ oA rA u_20.2 ++ b_o cB cC cI cJ cZ oA rA u_20.2 ++ b_s cB cC cI cJ cZ oA rA u_20.2 ++ b_c cB cC cI cJ cZ oA rA u_20.2 ++ b_t cB cC cI cJ cZ oA rA u_20.2 ++ b_d cB cC cI cJ cZ oA rA u_20.2)) (hDD u_20.2) fl_7 fl_7 [0, 1, 2, 3, 4, 5, 6] (by decide +kernel) rfl
      have hFc := bx_F (bs := [b_k cB cC cI cJ cZ oA rA u_20.2, b_p cB cC cI cJ cZ oA rA u_20.2, b_o cB cC cI cJ cZ oA rA u_20.2, b_s cB cC cI cJ cZ oA rA u_20.2, b_c cB cC cI cJ cZ oA rA u_20.2, b_t cB cC cI cJ cZ oA rA u_20.2, b_d cB cC cI cJ cZ oA rA u_20.2]) (bs' := [b_k cB cC cI cJ cZ oA rA u_20.2, b_p cB cC cI cJ cZ oA rA u_20.2, b_o cB cC cI cJ cZ oA rA u_20.2, b_s cB cC cI cJ cZ oA rA u_20.2, b_c cB cC cI cJ cZ oA rA u_20.2, b_t cB cC cI cJ cZ oA rA u_20.2, b_d cB cC cI cJ cZ oA rA u_20.2]) (wc := (b_k cB cC cI cJ cZ oA rA u_20.2 ++ b_p cB cC cI cJ cZ oA rA u_20.2 ++ b_o cB cC cI cJ cZ oA rA u_20.2 ++ b_s cB cC cI cJ cZ oA rA u_20.2 ++ b_c cB cC cI cJ cZ oA rA u_20.2 ++ b_t cB cC cI cJ cZ oA rA u_20.2 ++ b_d cB cC cI cJ cZ oA rA u_20.2)) (hDD u_20.2) hS hA fl_7 fl_7 [0, 1, 2, 3, 4, 5, 6] rfl
      refine g_ofv (wc := (b_k cB cC cI cJ cZ oA rA u_20.2 ++ b_p cB cC cI cJ cZ oA rA u_20.2 ++ b_o cB cC cI cJ cZ oA rA u_20.2 ++ b_s cB cC cI cJ cZ oA rA u_20.2 ++ b_c cB cC cI cJ cZ oA rA u_20.2 ++ b_t cB cC cI cJ cZ oA rA u_20.2 ++ b_d cB cC cI cJ cZ oA rA u_20.2)) (wr := ([] : va_W)) hP (hDD u_20.2) hS hFc (bx_ix [b_k cB cC cI cJ cZ oA rA u_20.2, b_p cB cC cI cJ cZ oA rA u_20.2, b_o cB cC cI cJ cZ oA rA u_20.2, b_s cB cC cI cJ cZ oA rA u_20.2, b_c cB cC cI cJ cZ oA rA u_20.2, b_t cB cC cI cJ cZ oA rA u_20.2, b_d cB cC cI cJ cZ oA rA u_20.2] [0, 1, 2, 3, 4, 5, 6]) (bx_ix [b_k cB cC cI cJ cZ oA rA u_20.2, b_p cB cC cI cJ cZ oA rA u_20.2, b_o cB cC cI cJ cZ oA rA u_20.2, b_s cB cC cI cJ cZ oA rA u_20.2, b_c cB cC cI cJ cZ oA rA u_20.2, b_t cB cC cI cJ cZ oA rA u_20.2, b_d cB cC cI cJ cZ oA rA u_20.2] []) (bx_C (bs := [b_k cB cC cI cJ cZ oA rA u_20.2, b_p cB cC cI cJ cZ oA rA u_20.2, b_o cB cC cI cJ cZ oA rA u_20.2, b_s cB cC cI cJ cZ oA rA u_20.2, b_c cB cC cI cJ cZ oA rA u_20.2, b_t cB cC cI cJ cZ oA rA u_20.2, b_d cB cC cI cJ cZ oA rA u_20.2]) (bs' := [b_k cB cC cI cJ cZ oA rA u_20.2, b_p cB cC cI cJ cZ oA rA u_20.2, b_o cB cC cI cJ cZ oA rA u_20.2, b_s cB cC cI cJ cZ oA rA u_20.2, b_c cB cC cI cJ cZ oA rA u_20.2, b_t cB cC cI cJ cZ oA rA u_20.2, b_d cB cC cI cJ cZ oA rA u_20.2]) (is := [0, 1, 2, 3, 4, 5, 6]) fl_7 fl_7 rfl) (bx_C (bs := [b_k cB cC cI cJ cZ oA rA u_20.2, b_p cB cC cI cJ cZ oA rA u_20.2, b_o cB cC cI cJ cZ oA rA u_20.2, b_s cB cC cI cJ cZ oA rA u_20.2, b_c cB cC cI cJ cZ oA rA u_20.2, b_t cB cC cI cJ cZ oA rA u_20.2, b_d cB cC cI cJ cZ oA rA u_20.2]) (bs' := []) (is := []) fl_7 fl_0 rfl) (bx_n (by decide +kernel)) (bx_d (by decide +kernel)) (va_runV (As := [.int 6]) (rest := []) ⟨hx, hb, hml, hown, hts⟩ (k_X3_stop l dC dI cB cC cI cJ cZ cP oA rA H.size  6 u_20.2 _ hu_25) (cwV 1 hts (g_gV wq_1154 wq_1155 wq_2088 wq_11 wq_1156) rfl rfl rfl (by decide +kernel) ⟨Nat.le_of_ble_eq_true rfl, Nat.le_of_ble_eq_true rfl⟩) (g_preV g_bl0 hK hPc hDc hS hE hFc g_to0 (q0 := 0) (ci := 3) rfl rfl) rfl rfl hl.1 rfl (lv_room (Nat.le_of_ble_eq_true rfl)) dX3_flowOp_89 ⟨Nat.le_of_ble_eq_true rfl, Nat.le_of_ble_eq_true rfl⟩) (fun u9 H locs hw9 hP' hD' hS => ?_)
      clear hPc hDc hFc
      have hP : va_P (dC, dI) vwCl (b_k cB cC cI cJ cZ oA rA u_25.2 ++ b_p cB cC cI cJ cZ oA rA u_25.2 ++ b_o cB cC cI cJ cZ oA rA u_25.2 ++ b_s cB cC cI cJ cZ oA rA u_25.2 ++ b_c cB cC cI cJ cZ oA rA u_25.2 ++ b_t cB cC cI cJ cZ oA rA u_25.2 ++ b_d cB cC cI cJ cZ oA rA u_25.2) H := hP'
      clear hP' hD'
      refine lv_goto (tgt := 195) hx hb dX3_flowOp_92 (by decide) ?_
      have h9 := Option.some.inj hF_26
      subst h9
      exact W.vret hx hb hr (fun t ht hW => ⟨⟨(), rfl, trivial, m_end ht hP, hDD _⟩, hS.F ht⟩) hS.2.2 dX3_flowOp_195
  have hF_27 := ineg c_18 hF_17
  clear hF_17
  by_cases c_28 : p0 = 4
  · have hF_29 := ipos c_28 hF_27
    clear hF_27
    refine lv_tableIn (off := 94) (tgt := 95) hx hb dX3_flowOp_1 (by rw [c_28]; decide +kernel) (by rw [c_28]; decide +kernel) (by rw [c_28]; decide +kernel) (by decide) ?_
    refine lv_aload_n hx hb dX3_flowOp_95 rfl (lv_at hl 0 rfl) ?_
    refine lv_iconst (v := 2) hx hb dX3_flowOp_96 (by decide +kernel) ?_
    obtain ⟨σ_30, eσ_30, hF_31⟩ := bnd_e hF_29
    clear hF_29
    refine va_put (D := (dC, dI)) (ci := 3) (v := .int 2) (ty := .int) (C := RX3) (T := TX3) (N := 16) hx hb hts ii_X3 tyX3 tyX3_ok nmX3 hown hK hP (hDD _) hS 0 rfl rfl 14 (by decide) (hts (.fieldLink RX3 21 "StoryHouse$Machine" "how" "I") wq_278) (fun _ h9 => h9) rfl (by decide +kernel) rfl rfl (Nat.le_of_ble_eq_true rfl) dX3_flowOp_97 (fun H locs hP' _ hS => ?_)
    have hP : va_P (dC, dI) vwCl (b_k cB cC cI cJ cZ oA rA σ_30 ++ b_p cB cC cI cJ cZ oA rA σ_30 ++ b_o cB cC cI cJ cZ oA rA σ_30 ++ b_s cB cC cI cJ cZ oA rA σ_30 ++ b_c cB cC cI cJ cZ oA rA σ_30 ++ b_t cB cC cI cJ cZ oA rA σ_30 ++ b_d cB cC cI cJ cZ oA rA σ_30) H := by rw [eσ_30]; exact cs_kposctd_k_14 ▸ hP'
    clear hP'
    refine lv_goto (tgt := 195) hx hb dX3_flowOp_100 (by decide) ?_
    have h9 := Option.some.inj hF_31
    subst h9
    exact W.vret hx hb hr (fun t ht hW => ⟨⟨(), rfl, trivial, m_end ht hP, hDD _⟩, hS.F ht⟩) hS.2.2 dX3_flowOp_195
  have hF_32 := ineg c_28 hF_27
  clear hF_27
  by_cases c_33 : p0 = 5 ∨ p0 = 6
  · have hF_34 := ipos c_33 hF_32
    clear hF_32
    refine lv_tableIn (off := 102) (tgt := 103) hx hb dX3_flowOp_1 (by rcases c_33 with q9 | q9 <;> (rw [q9]; decide +kernel)) (by rcases c_33 with q9 | q9 <;> (rw [q9]; decide +kernel)) (by rcases c_33 with q9 | q9 <;> (rw [q9]; decide +kernel)) (by decide) ?_
    refine lv_aload_n hx hb dX3_flowOp_103 rfl (lv_at hl 0 rfl) ?_
    refine va_get (D := (dC, dI)) (ci := 3) (v := .ref (oA 8)) (C := RX3) (T := TX3) (N := 16) hx hb hts ii_X3 hown hK hP 0 rfl rfl 1 (by decide) (hts (.fieldLink RX3 33 "StoryHouse$Machine" "told" "LStoryHouse$Out;") wq_260) (fun _ h9 => h9) rfl dX3_flowOp_104 ?_
    refine lv_iload_n hx hb dX3_flowOp_107 rfl (lv_at hl 1 rfl) ?_
    refine lv_iconst (v := 5) hx hb dX3_flowOp_108 (by decide +kernel) ?_
    refine lv_icmp_ne (tgt := 117) hx hb dX3_flowOp_109 (by decide) (fun c_35 => ?_) (fun c_35 => ?_)
    · have hF_54 := ineg c_35 hF_34
      clear hF_34
      obtain ⟨q_55, vq_55, hRq_55, hSq_55⟩ := hE.2.2.2.2 _ (List.mem_of_getElem? (i := 47) rfl)
      refine va_ldcS (own := RX3) (tx := "\n*** You have lost ***") hx hb hown hRq_55 dX3_flowOp_117 ?_
      obtain ⟨u_56, hu_56, hF_57⟩ := Option.bind_eq_some_iff.mp hF_54
      clear hF_54
      have hPc := bx_P (bs := [b_k cB cC cI cJ cZ oA rA Γ, b_p cB cC cI cJ cZ oA rA Γ, b_o cB cC cI cJ cZ oA rA Γ, b_s cB cC cI cJ cZ oA rA Γ, b_c cB cC cI cJ cZ oA rA Γ, b_t cB cC cI cJ cZ oA rA Γ, b_d cB cC cI cJ cZ oA rA Γ]) (bs' := [b_o cB cC cI cJ cZ oA rA Γ]) (ws' := (b_o cB cC cI cJ cZ oA rA Γ)) hP fl_7 fl_1 [2] rfl
      have hDc := bx_D (bs := [b_k cB cC cI cJ cZ oA rA Γ, b_p cB cC cI cJ cZ oA rA Γ, b_o cB cC cI cJ cZ oA rA Γ, b_s cB cC cI cJ cZ oA rA Γ, b_c cB cC cI cJ cZ oA rA Γ, b_t cB cC cI cJ cZ oA rA Γ, b_d cB cC cI cJ cZ oA rA Γ]) (bs' := [b_o cB cC cI cJ cZ oA rA Γ]) (ws' := (b_o cB cC cI cJ cZ oA rA Γ)) (hDD Γ) fl_7 fl_1 [2] (by decide +kernel) rfl
      have hFc := bx_F (bs := [b_k cB cC cI cJ cZ oA rA Γ, b_p cB cC cI cJ cZ oA rA Γ, b_o cB cC cI cJ cZ oA rA Γ, b_s cB cC cI cJ cZ oA rA Γ, b_c cB cC cI cJ cZ oA rA Γ, b_t cB cC cI cJ cZ oA rA Γ, b_d cB cC cI cJ cZ oA rA Γ]) (bs' := [b_o cB cC cI cJ cZ oA rA Γ]) (wc := (b_o cB cC cI cJ cZ oA rA Γ)) (hDD Γ) hS hA fl_7 fl_1 [2] rfl
      refine g_ofv (wc := (b_o cB cC cI cJ cZ oA rA Γ)) (wr := (b_k cB cC cI cJ cZ oA rA Γ ++ b_p cB cC cI cJ cZ oA rA Γ ++ b_s cB cC cI cJ cZ oA rA Γ ++ b_c cB cC cI cJ cZ oA rA Γ ++ b_t cB cC cI cJ cZ oA rA Γ ++ b_d cB cC cI cJ cZ oA rA Γ)) hP (hDD Γ) hS hFc (bx_ix [b_k cB cC cI cJ cZ oA rA Γ, b_p cB cC cI cJ cZ oA rA Γ, b_o cB cC cI cJ cZ oA rA Γ, b_s cB cC cI cJ cZ oA rA Γ, b_c cB cC cI cJ cZ oA rA Γ, b_t cB cC cI cJ cZ oA rA Γ, b_d cB cC cI cJ cZ oA rA Γ] [2]) (bx_ix [b_k cB cC cI cJ cZ oA rA Γ, b_p cB cC cI cJ cZ oA rA Γ, b_o cB cC cI cJ cZ oA rA Γ, b_s cB cC cI cJ cZ oA rA Γ, b_c cB cC cI cJ cZ oA rA Γ, b_t cB cC cI cJ cZ oA rA Γ, b_d cB cC cI cJ cZ oA rA Γ] [0, 1, 3, 4, 5, 6]) (bx_C (bs := [b_k cB cC cI cJ cZ oA rA Γ, b_p cB cC cI cJ cZ oA rA Γ, b_o cB cC cI cJ cZ oA rA Γ, b_s cB cC cI cJ cZ oA rA Γ, b_c cB cC cI cJ cZ oA rA Γ, b_t cB cC cI cJ cZ oA rA Γ, b_d cB cC cI cJ cZ oA rA Γ]) (bs' := [b_o cB cC cI cJ cZ oA rA Γ]) (is := [2]) fl_7 fl_1 rfl) (bx_C (bs := [b_k cB cC cI cJ cZ oA rA Γ, b_p cB cC cI cJ cZ oA rA Γ, b_o cB cC cI cJ cZ oA rA Γ, b_s cB cC cI cJ cZ oA rA Γ, b_c cB cC cI cJ cZ oA rA Γ, b_t cB cC cI cJ cZ oA rA Γ, b_d cB cC cI cJ cZ oA rA Γ]) (bs' := [b_k cB cC cI cJ cZ oA rA Γ, b_p cB cC cI cJ cZ oA rA Γ, b_s cB cC cI cJ cZ oA rA Γ, b_c cB cC cI cJ cZ oA rA Γ, b_t cB cC cI cJ cZ oA rA Γ, b_d cB cC cI cJ cZ oA rA Γ]) (is := [0, 1, 3, 4, 5, 6]) fl_7 fl_6 rfl) (bx_n (by decide +kernel)) (bx_d (by decide +kernel)) (va_runV (As := [.ref q_55]) (rest := []) ⟨hx, hb, hml, hown, hts⟩ (k_X5_line l dC dI cB cC cI cJ cZ cP oA rA s.heap.size q_55 _ ([10, 42, 42, 42, 32, 89, 111, 117, 32, 104, 97, 118, 101, 32, 108, 111, 115, 116, 32, 42, 42, 42] : List Int32) Γ _ hu_56) (cwV 1 hts (g_gV wq_1216 wq_999 wq_1000 wq_9 wq_1001) rfl rfl rfl (by decide +kernel) ⟨Nat.le_of_ble_eq_true rfl, Nat.le_of_ble_eq_true rfl⟩) (g_preV g_blS hK hPc hDc hS hE hFc (g_toS hSq_55 hS hFc) (q0 := 0) (ci := 5) rfl rfl) rfl rfl hl.1 rfl (lv_room (Nat.le_of_ble_eq_true rfl)) dX3_flowOp_119 ⟨Nat.le_of_ble_eq_true rfl, Nat.le_of_ble_eq_true rfl⟩) (fun u9 H locs hw9 hP' hD' hS => ?_)
      clear hPc hDc hFc
      obtain ⟨σ_58, eσ_58, hF_59⟩ := bnd_e hF_57
      clear hF_57
      have hP : va_P (dC, dI) vwCl (b_k cB cC cI cJ cZ oA rA σ_58 ++ b_p cB cC cI cJ cZ oA rA σ_58 ++ b_o cB cC cI cJ cZ oA rA σ_58 ++ b_s cB cC cI cJ cZ oA rA σ_58 ++ b_c cB cC cI cJ cZ oA rA σ_58 ++ b_t cB cC cI cJ cZ oA rA σ_58 ++ b_d cB cC cI cJ cZ oA rA σ_58) H := by rw [eσ_58]; exact bx_P (bs := [b_k cB cC cI cJ cZ oA rA Γ, b_p cB cC cI cJ cZ oA rA Γ, b_s cB cC cI cJ cZ oA rA Γ, b_c cB cC cI cJ cZ oA rA Γ, b_t cB cC cI cJ cZ oA rA Γ, b_d cB cC cI cJ cZ oA rA Γ] ++ [b_o cB cC cI cJ cZ oA rA u_56.2]) (bs' := [b_k cB cC cI cJ cZ oA rA (mrg (fun j => j == 8) Γ u_56.2), b_p cB cC cI cJ cZ oA rA (mrg (fun j => j == 8) Γ u_56.2), b_o cB cC cI cJ cZ oA rA (mrg (fun j => j == 8) Γ u_56.2), b_s cB cC cI cJ cZ oA rA (mrg (fun j => j == 8) Γ u_56.2), b_c cB cC cI cJ cZ oA rA (mrg (fun j => j == 8) Γ u_56.2), b_t cB cC cI cJ cZ oA rA (mrg (fun j => j == 8) Γ u_56.2), b_d cB cC cI cJ cZ oA rA (mrg (fun j => j == 8) Γ u_56.2)]) hP' (fl_a fl_6 fl_1) fl_7 [0, 1, 6, 2, 3, 4, 5] rfl
      clear hP' hD'
      refine lv_aload_n hx hb dX3_flowOp_122 rfl (lv_at hl 0 rfl) ?_
      refine va_get (D := (dC, dI)) (ci := 3) (v := .ref (oA 9)) (C := RX3) (T := TX3) (N := 16) hx hb hts ii_X3 hown hK hP 0 rfl rfl 0 (by decide) (hts (.fieldLink RX3 29 "StoryHouse$Machine" "play" "LStoryHouse$Play;") wq_259) (fun _ h9 => h9) rfl dX3_flowOp_123 ?_
      refine lv_iload_n hx hb dX3_flowOp_126 rfl (lv_at hl 1 rfl) ?_
      refine lv_iconst (v := 5) hx hb dX3_flowOp_127 (by decide +kernel) ?_
      obtain ⟨j_62, ej_62, hF_63⟩ := bnd_e hF_59
      clear hF_59
      have Jj_62 : ∀ (t_60 : Int32) (σ_61 : HS), j_62 t_60 σ_61 = some res → ∀ (H : Heap) (locs : List Loc), va_P (dC, dI) vwCl (b_k cB cC cI cJ cZ oA rA σ_61 ++ b_p cB cC cI cJ cZ oA rA σ_61 ++ b_o cB cC cI cJ cZ oA rA σ_61 ++ b_s cB cC cI cJ cZ oA rA σ_61 ++ b_c cB cC cI cJ cZ oA rA σ_61 ++ b_t cB cC cI cJ cZ oA rA σ_61 ++ b_d cB cC cI cJ cZ oA rA σ_61) H → va_S A s.heap H locs → ∀ ls : Array Slot, lv_has ls 2 [(0, .ref (oA 10))] → W p l e (headSpec (g_ws yX3_flowOp cX3_flowOp 2 none) { frames := 7, cells := 0, slots := 0, locals := 168 }).room s m ([.ref (oA 10), .int p0] : List Value).toArray below meth c H locs 0 0 (MQ below (va_Qv (fun (_ : Unit) => True) (g_Bo (dC, dI) A (fun (_ : Unit) => (b_k cB cC cI cJ cZ oA rA res.2 ++ b_p cB cC cI cJ cZ oA rA res.2 ++ b_o cB cC cI cJ cZ oA rA res.2 ++ b_s cB cC cI cJ cZ oA rA res.2 ++ b_c cB cC cI cJ cZ oA rA res.2 ++ b_t cB cC cI cJ cZ oA rA res.2 ++ b_d cB cC cI cJ cZ oA rA res.2))) A) ([.ref (oA 10), .int p0] : List Value).toArray s 0 0 A) (F0 m 136 ls [.int t_60, .ref (oA 9)]) := by
        intro t_60 σ_61 hF0 H locs hP hS ls hl
        subst ej_62
        have hF_64 := hF0
        clear hF0
        obtain ⟨σ_65, eσ_65, hF_66⟩ := bnd_e hF_64
        clear hF_64
        refine va_put (D := (dC, dI)) (ci := 6) (v := .int t_60) (ty := .int) (C := RX6) (T := TX6) (N := 12) hx hb hts ii_X6 tyX6 tyX6_ok nmX6 hown hK hP (hDD _) hS 5 rfl rfl 10 (by decide) (hts (.fieldLink RX3 133 "StoryHouse$Play" "ended" "I") wq_249) (fun _ h9 => h9) rfl (by decide +kernel) rfl rfl (Nat.le_of_ble_eq_true rfl) dX3_flowOp_136 (fun H locs hP' _ hS => ?_)
        have hP : va_P (dC, dI) vwCl (b_k cB cC cI cJ cZ oA rA σ_65 ++ b_p cB cC cI cJ cZ oA rA σ_65 ++ b_o cB cC cI cJ cZ oA rA σ_65 ++ b_s cB cC cI cJ cZ oA rA σ_65 ++ b_c cB cC cI cJ cZ oA rA σ_65 ++ b_t cB cC cI cJ cZ oA rA σ_65 ++ b_d cB cC cI cJ cZ oA rA σ_65) H := by rw [eσ_65]; exact cs_kposctd_p_10 ▸ hP'
        clear hP'
        refine lv_aload_n hx hb dX3_flowOp_139 rfl (lv_at hl 0 rfl) ?_
        refine lv_iconst (v := 3) hx hb dX3_flowOp_140 (by decide +kernel) ?_
        obtain ⟨σ_67, eσ_67, hF_68⟩ := bnd_e hF_66
        clear hF_66
        refine va_put (D := (dC, dI)) (ci := 3) (v := .int 3) (ty := .int) (C := RX3) (T := TX3) (N := 16) hx hb hts ii_X3 tyX3 tyX3_ok nmX3 hown hK hP (hDD _) hS 0 rfl rfl 14 (by decide) (hts (.fieldLink RX3 21 "StoryHouse$Machine" "how" "I") wq_278) (fun _ h9 => h9) rfl (by decide +kernel) rfl rfl (Nat.le_of_ble_eq_true rfl) dX3_flowOp_141 (fun H locs hP' _ hS => ?_)
        have hP : va_P (dC, dI) vwCl (b_k cB cC cI cJ cZ oA rA σ_67 ++ b_p cB cC cI cJ cZ oA rA σ_67 ++ b_o cB cC cI cJ cZ oA rA σ_67 ++ b_s cB cC cI cJ cZ oA rA σ_67 ++ b_c cB cC cI cJ cZ oA rA σ_67 ++ b_t cB cC cI cJ cZ oA rA σ_67 ++ b_d cB cC cI cJ cZ oA rA σ_67) H := by rw [eσ_67]; exact cs_kposctd_k_14 ▸ hP'
        clear hP'
        refine lv_goto (tgt := 195) hx hb dX3_flowOp_144 (by decide) ?_
        have h9 := Option.some.inj hF_68
        subst h9
        exact W.vret hx hb hr (fun t ht hW => ⟨⟨(), rfl, trivial, m_end ht hP, hDD _⟩, hS.F ht⟩) hS.2.2 dX3_flowOp_195
      refine lv_icmp_ne (tgt := 135) hx hb dX3_flowOp_128 (by decide) (fun c_69 => ?_) (fun c_69 => ?_)
      · have hF_71 := ineg c_69 hF_63
        clear hF_63
        refine lv_iconst (v := 2) hx hb dX3_flowOp_135 (by decide +kernel) ?_
        exact Jj_62 2 σ_58 hF_71 _ _ hP hS ls (lv_sub hl [0] rfl)
      · have hF_70 := ipos c_69 hF_63
        clear hF_63
        refine lv_iconst (v := 1) hx hb dX3_flowOp_131 (by decide +kernel) ?_
        refine lv_goto (tgt := 136) hx hb dX3_flowOp_132 (by decide) ?_
        exact Jj_62 1 σ_58 hF_70 _ _ hP hS ls (lv_sub hl [0] rfl)
    · have hF_36 := ipos c_35 hF_34
      clear hF_34
      obtain ⟨q_37, vq_37, hRq_37, hSq_37⟩ := hE.2.2.2.2 _ (List.mem_of_getElem? (i := 46) rfl)
      refine va_ldcS (own := RX3) (tx := "\n*** You have won ***") hx hb hown hRq_37 dX3_flowOp_112 ?_
      refine lv_goto (tgt := 119) hx hb dX3_flowOp_114 (by decide) ?_
      obtain ⟨u_38, hu_38, hF_39⟩ := Option.bind_eq_some_iff.mp hF_36
      clear hF_36
      have hPc := bx_P (bs := [b_k cB cC cI cJ cZ oA rA Γ, b_p cB cC cI cJ cZ oA rA Γ, b_o cB cC cI cJ cZ oA rA Γ, b_s cB cC cI cJ cZ oA rA Γ, b_c cB cC cI cJ cZ oA rA Γ, b_t cB cC cI cJ cZ oA rA Γ, b_d cB cC cI cJ cZ oA rA Γ]) (bs' := [b_o cB cC cI cJ cZ oA rA Γ]) (ws' := (b_o cB cC cI cJ cZ oA rA Γ)) hP fl_7 fl_1 [2] rfl
      have hDc := bx_D (bs := [b_k cB cC cI cJ cZ oA rA Γ, b_p cB cC cI cJ cZ oA rA Γ, b_o cB cC cI cJ cZ oA rA Γ, b_s cB cC cI cJ cZ oA rA Γ, b_c cB cC cI cJ cZ oA rA Γ, b_t cB cC cI cJ cZ oA rA Γ, b_d cB cC cI cJ cZ oA rA Γ]) (bs' := [b_o cB cC cI cJ cZ oA rA Γ]) (ws' := (b_o cB cC cI cJ cZ oA rA Γ)) (hDD Γ) fl_7 fl_1 [2] (by decide +kernel) rfl
      have hFc := bx_F (bs := [b_k cB cC cI cJ cZ oA rA Γ, b_p cB cC cI cJ cZ oA rA Γ, b_o cB cC cI cJ cZ oA rA Γ, b_s cB cC cI cJ cZ oA rA Γ, b_c cB cC cI cJ cZ oA rA Γ, b_t cB cC cI cJ cZ oA rA Γ, b_d cB cC cI cJ cZ oA rA Γ]) (bs' := [b_o cB cC cI cJ cZ oA rA Γ]) (wc := (b_o cB cC cI cJ cZ oA rA Γ)) (hDD Γ) hS hA fl_7 fl_1 [2] rfl
      refine g_ofv (wc := (b_o cB cC cI cJ cZ oA rA Γ)) (wr := (b_k cB cC cI cJ cZ oA rA Γ ++ b_p cB cC cI cJ cZ oA rA Γ ++ b_s cB cC cI cJ cZ oA rA Γ ++ b_c cB cC cI cJ cZ oA rA Γ ++ b_t cB cC cI cJ cZ oA rA Γ ++ b_d cB cC cI cJ cZ oA rA Γ)) hP (hDD Γ) hS hFc (bx_ix [b_k cB cC cI cJ cZ oA rA Γ, b_p cB cC cI cJ cZ oA rA Γ, b_o cB cC cI cJ cZ oA rA Γ, b_s cB cC cI cJ cZ oA rA Γ, b_c cB cC cI cJ cZ oA rA Γ, b_t cB cC cI cJ cZ oA rA Γ, b_d cB cC cI cJ cZ oA rA Γ] [2]) (bx_ix [b_k cB cC cI cJ cZ oA rA Γ, b_p cB cC cI cJ cZ oA rA Γ, b_o cB cC cI cJ cZ oA rA Γ, b_s cB cC cI cJ cZ oA rA Γ, b_c cB cC cI cJ cZ oA rA Γ, b_t cB cC cI cJ cZ oA rA Γ, b_d cB cC cI cJ cZ oA rA Γ] [0, 1, 3, 4, 5, 6]) (bx_C (bs := [b_k cB cC cI cJ cZ oA rA Γ, b_p cB cC cI cJ cZ oA rA Γ, b_o cB cC cI cJ cZ oA rA Γ, b_s cB cC cI cJ cZ oA rA Γ, b_c cB cC cI cJ cZ oA rA Γ, b_t cB cC cI cJ cZ oA rA Γ, b_d cB cC cI cJ cZ oA rA Γ]) (bs' := [b_o cB cC cI cJ cZ oA rA Γ]) (is := [2]) fl_7 fl_1 rfl) (bx_C (bs := [b_k cB cC cI cJ cZ oA rA Γ, b_p cB cC cI cJ cZ oA rA Γ, b_o cB cC cI cJ cZ oA rA Γ, b_s cB cC cI cJ cZ oA rA Γ, b_c cB cC cI cJ cZ oA rA Γ, b_t cB cC cI cJ cZ oA rA Γ, b_d cB cC cI cJ cZ oA rA Γ]) (bs' := [b_k cB cC cI cJ cZ oA rA Γ, b_p cB cC cI cJ cZ oA rA Γ, b_s cB cC cI cJ cZ oA rA Γ, b_c cB cC cI cJ cZ oA rA Γ, b_t cB cC cI cJ cZ oA rA Γ, b_d cB cC cI cJ cZ oA rA Γ]) (is := [0, 1, 3, 4, 5, 6]) fl_7 fl_6 rfl) (bx_n (by decide +kernel)) (bx_d (by decide +kernel)) (va_runV (As := [.ref q_37]) (rest := []) ⟨hx, hb, hml, hown, hts⟩ (k_X5_line l dC dI cB cC cI cJ cZ cP oA rA s.heap.size q_37 _ ([10, 42, 42, 42, 32, 89, 111, 117, 32, 104, 97, 118, 101, 32, 119, 111, 110, 32, 42, 42, 42] : List Int32) Γ _ hu_38) (cwV 1 hts (g_gV wq_1216 wq_999 wq_1000 wq_9 wq_1001) rfl rfl rfl (by decide +kernel) ⟨Nat.le_of_ble_eq_true rfl, Nat.le_of_ble_eq_true rfl⟩) (g_preV g_blS hK hPc hDc hS hE hFc (g_toS hSq_37 hS hFc) (q0 := 0) (ci := 5) rfl rfl) rfl rfl hl.1 rfl (lv_room (Nat.le_of_ble_eq_true rfl)) dX3_flowOp_119 ⟨Nat.le_of_ble_eq_true rfl, Nat.le_of_ble_eq_true rfl⟩) (fun u9 H locs hw9 hP' hD' hS => ?_)
      clear hPc hDc hFc
      obtain ⟨σ_40, eσ_40, hF_41⟩ := bnd_e hF_39
      clear hF_39
      have hP : va_P (dC, dI) vwCl (b_k cB cC cI cJ cZ oA rA σ_40 ++ b_p cB cC cI cJ cZ oA rA σ_40 ++ b_o cB cC cI cJ cZ oA rA σ_40 ++ b_s cB cC cI cJ cZ oA rA σ_40 ++ b_c cB cC cI cJ cZ oA rA σ_40 ++ b_t cB cC cI cJ cZ oA rA σ_40 ++ b_d cB cC cI cJ cZ oA rA σ_40) H := by rw [eσ_40]; exact bx_P (bs := [b_k cB cC cI cJ cZ oA rA Γ, b_p cB cC cI cJ cZ oA rA Γ, b_s cB cC cI cJ cZ oA rA Γ, b_c cB cC cI cJ cZ oA rA Γ, b_t cB cC cI cJ cZ oA rA Γ, b_d cB cC cI cJ cZ oA rA Γ] ++ [b_o cB cC cI cJ cZ oA rA u_38.2]) (bs' := [b_k cB cC cI cJ cZ oA rA (mrg (fun j => j == 8) Γ u_38.2), b_p cB cC cI cJ cZ oA rA (mrg (fun j => j == 8) Γ u_38.2), b_o cB cC cI cJ cZ oA rA (mrg (fun j => j == 8) Γ u_38.2), b_s cB cC cI cJ cZ oA rA (mrg (fun j => j == 8) Γ u_38.2), b_c cB cC cI cJ cZ oA rA (mrg (fun j => j == 8) Γ u_38.2), b_t cB cC cI cJ cZ oA rA (mrg (fun j => j == 8) Γ u_38.2), b_d cB cC cI cJ cZ oA rA (mrg (fun j => j == 8) Γ u_38.2)]) hP' (fl_a fl_6 fl_1) fl_7 [0, 1, 6, 2, 3, 4, 5] rfl
      clear hP' hD'
      refine lv_aload_n hx hb dX3_flowOp_122 rfl (lv_at hl 0 rfl) ?_
      refine va_get (D := (dC, dI)) (ci := 3) (v := .ref (oA 9)) (C := RX3) (T := TX3) (N := 16) hx hb hts ii_X3 hown hK hP 0 rfl rfl 0 (by decide) (hts (.fieldLink RX3 29 "StoryHouse$Machine" "play" "LStoryHouse$Play;") wq_259) (fun _ h9 => h9) rfl dX3_flowOp_123 ?_
      refine lv_iload_n hx hb dX3_flowOp_126 rfl (lv_at hl 1 rfl) ?_
      refine lv_iconst (v := 5) hx hb dX3_flowOp_127 (by decide +kernel) ?_
      obtain ⟨j_44, ej_44, hF_45⟩ := bnd_e hF_41
      clear hF_41
      have Jj_44 : ∀ (t_42 : Int32) (σ_43 : HS), j_44 t_42 σ_43 = some res → ∀ (H : Heap) (locs : List Loc), va_P (dC, dI) vwCl (b_k cB cC cI cJ cZ oA rA σ_43 ++ b_p cB cC cI cJ cZ oA rA σ_43 ++ b_o cB cC cI cJ cZ oA rA σ_43 ++ b_s cB cC cI cJ cZ oA rA σ_43 ++ b_c cB cC cI cJ cZ oA rA σ_43 ++ b_t cB cC cI cJ cZ oA rA σ_43 ++ b_d cB cC cI cJ cZ oA rA σ_43) H → va_S A s.heap H locs → ∀ ls : Array Slot, lv_has ls 2 [(0, .ref (oA 10))] → W p l e (headSpec (g_ws yX3_flowOp cX3_flowOp 2 none) { frames := 7, cells := 0, slots := 0, locals := 168 }).room s m ([.ref (oA 10), .int p0] : List Value).toArray below meth c H locs 0 0 (MQ below (va_Qv (fun (_ : Unit) => True) (g_Bo (dC, dI) A (fun (_ : Unit) => (b_k cB cC cI cJ cZ oA rA res.2 ++ b_p cB cC cI cJ cZ oA rA res.2 ++ b_o cB cC cI cJ cZ oA rA res.2 ++ b_s cB cC cI cJ cZ oA rA res.2 ++ b_c cB cC cI cJ cZ oA rA res.2 ++ b_t cB cC cI cJ cZ oA rA res.2 ++ b_d cB cC cI cJ cZ oA rA res.2))) A) ([.ref (oA 10), .int p0] : List Value).toArray s 0 0 A) (F0 m 136 ls [.int t_42, .ref (oA 9)]) := by
        intro t_42 σ_43 hF0 H locs hP hS ls hl
        subst ej_44
        have hF_46 := hF0
        clear hF0
        obtain ⟨σ_47, eσ_47, hF_48⟩ := bnd_e hF_46
        clear hF_46
        refine va_put (D := (dC, dI)) (ci := 6) (v := .int t_42) (ty := .int) (C := RX6) (T := TX6) (N := 12) hx hb hts ii_X6 tyX6 tyX6_ok nmX6 hown hK hP (hDD _) hS 5 rfl rfl 10 (by decide) (hts (.fieldLink RX3 133 "StoryHouse$Play" "ended" "I") wq_249) (fun _ h9 => h9) rfl (by decide +kernel) rfl rfl (Nat.le_of_ble_eq_true rfl) dX3_flowOp_136 (fun H locs hP' _ hS => ?_)
        have hP : va_P (dC, dI) vwCl (b_k cB cC cI cJ cZ oA rA σ_47 ++ b_p cB cC cI cJ cZ oA rA σ_47 ++ b_o cB cC cI cJ cZ oA rA σ_47 ++ b_s cB cC cI cJ cZ oA rA σ_47 ++ b_c cB cC cI cJ cZ oA rA σ_47 ++ b_t cB cC cI cJ cZ oA rA σ_47 ++ b_d cB cC cI cJ cZ oA rA σ_47) H := by rw [eσ_47]; exact cs_kposctd_p_10 ▸ hP'
        clear hP'
        refine lv_aload_n hx hb dX3_flowOp_139 rfl (lv_at hl 0 rfl) ?_
        refine lv_iconst (v := 3) hx hb dX3_flowOp_140 (by decide +kernel) ?_
        obtain ⟨σ_49, eσ_49, hF_50⟩ := bnd_e hF_48
        clear hF_48
        refine va_put (D := (dC, dI)) (ci := 3) (v := .int 3) (ty := .int) (C := RX3) (T := TX3) (N := 16) hx hb hts ii_X3 tyX3 tyX3_ok nmX3 hown hK hP (hDD _) hS 0 rfl rfl 14 (by decide) (hts (.fieldLink RX3 21 "StoryHouse$Machine" "how" "I") wq_278) (fun _ h9 => h9) rfl (by decide +kernel) rfl rfl (Nat.le_of_ble_eq_true rfl) dX3_flowOp_141 (fun H locs hP' _ hS => ?_)
        have hP : va_P (dC, dI) vwCl (b_k cB cC cI cJ cZ oA rA σ_49 ++ b_p cB cC cI cJ cZ oA rA σ_49 ++ b_o cB cC cI cJ cZ oA rA σ_49 ++ b_s cB cC cI cJ cZ oA rA σ_49 ++ b_c cB cC cI cJ cZ oA rA σ_49 ++ b_t cB cC cI cJ cZ oA rA σ_49 ++ b_d cB cC cI cJ cZ oA rA σ_49) H := by rw [eσ_49]; exact cs_kposctd_k_14 ▸ hP'
        clear hP'
        refine lv_goto (tgt := 195) hx hb dX3_flowOp_144 (by decide) ?_
        have h9 := Option.some.inj hF_50
        subst h9
        exact W.vret hx hb hr (fun t ht hW => ⟨⟨(), rfl, trivial, m_end ht hP, hDD _⟩, hS.F ht⟩) hS.2.2 dX3_flowOp_195
      refine lv_icmp_ne (tgt := 135) hx hb dX3_flowOp_128 (by decide) (fun c_51 => ?_) (fun c_51 => ?_)
      · have hF_53 := ineg c_51 hF_45
        clear hF_45
        refine lv_iconst (v := 2) hx hb dX3_flowOp_135 (by decide +kernel) ?_
        exact Jj_44 2 σ_40 hF_53 _ _ hP hS ls (lv_sub hl [0] rfl)
      · have hF_52 := ipos c_51 hF_45
        clear hF_45
        refine lv_iconst (v := 1) hx hb dX3_flowOp_131 (by decide +kernel) ?_
        refine lv_goto (tgt := 136) hx hb dX3_flowOp_132 (by decide) ?_
        exact Jj_44 1 σ_40 hF_52 _ _ hP hS ls (lv_sub hl [0] rfl)
  have hF_72 := ineg c_33 hF_32
  clear hF_32
  by_cases c_73 : p0 = 7
  · have hF_74 := ipos c_73 hF_72
    clear hF_72
    refine lv_tableIn (off := 146) (tgt := 147) hx hb dX3_flowOp_1 (by rw [c_73]; decide +kernel) (by rw [c_73]; decide +kernel) (by rw [c_73]; decide +kernel) (by decide) ?_
    refine lv_aload_n hx hb dX3_flowOp_147 rfl (lv_at hl 0 rfl) ?_
    refine lv_aload_n hx hb dX3_flowOp_148 rfl (lv_at hl 0 rfl) ?_
    obtain ⟨u_75, hu_75, hF_76⟩ := Option.bind_eq_some_iff.mp hF_74
    clear hF_74
    have hPc := bx_P (bs := [b_k cB cC cI cJ cZ oA rA Γ, b_p cB cC cI cJ cZ oA rA Γ, b_o cB cC cI cJ cZ oA rA Γ, b_s cB cC cI cJ cZ oA rA Γ, b_c cB cC cI cJ cZ oA rA Γ, b_t cB cC cI cJ cZ oA rA Γ, b_d cB cC cI cJ cZ oA rA Γ]) (bs' := [b_k cB cC cI cJ cZ oA rA Γ, b_p cB cC cI cJ cZ oA rA Γ, b_o cB cC cI cJ cZ oA rA Γ, b_s cB cC cI cJ cZ oA rA Γ, b_c cB cC cI cJ cZ oA rA Γ, b_t cB cC cI cJ cZ oA rA Γ, b_d cB cC cI cJ cZ oA rA Γ]) (ws' := (b_k cB cC cI cJ cZ oA rA Γ ++ b_p cB cC cI cJ cZ oA rA Γ ++ b_o cB cC cI cJ cZ oA rA Γ ++ b_s cB cC cI cJ cZ oA rA Γ ++ b_c cB cC cI cJ cZ oA rA Γ ++ b_t cB cC cI cJ cZ oA rA Γ ++ b_d cB cC cI cJ cZ oA rA Γ)) hP fl_7 fl_7 [0, 1, 2, 3, 4, 5, 6] rfl
    have hDc := bx_D (bs := [b_k cB cC cI cJ cZ oA rA Γ, b_p cB cC cI cJ cZ oA rA Γ, b_o cB cC cI cJ cZ oA rA Γ, b_s cB cC cI cJ cZ oA rA Γ, b_c cB cC cI cJ cZ oA rA Γ, b_t cB cC cI cJ cZ oA rA Γ, b_d cB cC cI cJ cZ oA rA Γ]) (bs' := [b_k cB cC cI cJ cZ oA rA Γ, b_p cB cC cI cJ cZ oA rA Γ, b_o cB cC cI cJ cZ oA rA Γ, b_s cB cC cI cJ cZ oA rA Γ, b_c cB cC cI cJ cZ oA rA Γ, b_t cB cC cI cJ cZ oA rA Γ, b_d cB cC cI cJ cZ oA rA Γ]) (ws' := (b_k cB cC cI cJ cZ oA rA Γ ++ b_p cB cC cI cJ cZ oA rA Γ ++ b_o cB cC cI cJ cZ oA rA Γ ++ b_s cB cC cI cJ cZ oA rA Γ ++ b_c cB cC cI cJ cZ oA rA Γ ++ b_t cB cC cI cJ cZ oA rA Γ ++ b_d cB cC cI cJ cZ oA rA Γ)) (hDD Γ) fl_7 fl_7 [0, 1, 2, 3, 4, 5, 6] (by decide +kernel) rfl
    have hFc := bx_F (bs := [b_k cB cC cI cJ cZ oA rA Γ, b_p cB cC cI cJ cZ oA rA Γ, b_o cB cC cI cJ cZ oA rA Γ, b_s cB cC cI cJ cZ oA rA Γ, b_c cB cC cI cJ cZ oA rA Γ, b_t cB cC cI cJ cZ oA rA Γ, b_d cB cC cI cJ cZ oA rA Γ]) (bs' := [b_k cB cC cI cJ cZ oA rA Γ, b_p cB cC cI cJ cZ oA rA Γ, b_o cB cC cI cJ cZ oA rA Γ, b_s cB cC cI cJ cZ oA rA Γ, b_c cB cC cI cJ cZ oA rA Γ, b_t cB cC cI cJ cZ oA rA Γ, b_d cB cC cI cJ cZ oA rA Γ]) (wc := (b_k cB cC cI cJ cZ oA rA Γ ++ b_p cB cC cI cJ cZ oA rA Γ ++ b_o cB cC cI cJ cZ oA rA Γ ++ b_s cB cC cI cJ cZ oA rA Γ ++ b_c cB cC cI cJ cZ oA rA Γ ++ b_t cB cC cI cJ cZ oA rA Γ ++ b_d cB cC cI cJ cZ oA rA Γ)) (hDD Γ) hS hA fl_7 fl_7 [0, 1, 2, 3, 4, 5, 6] rfl
    refine g_ofi (wc := (b_k cB cC cI cJ cZ oA rA Γ ++ b_p cB cC cI cJ cZ oA rA Γ ++ b_o cB cC cI cJ cZ oA rA Γ ++ b_s cB cC cI cJ cZ oA rA Γ ++ b_c cB cC cI cJ cZ oA rA Γ ++ b_t cB cC cI cJ cZ oA rA Γ ++ b_d cB cC cI cJ cZ oA rA Γ)) (wr := ([] : va_W)) hP (hDD Γ) hS hFc (bx_ix [b_k cB cC cI cJ cZ oA rA Γ, b_p cB cC cI cJ cZ oA rA Γ, b_o cB cC cI cJ cZ oA rA Γ, b_s cB cC cI cJ cZ oA rA Γ, b_c cB cC cI cJ cZ oA rA Γ, b_t cB cC cI cJ cZ oA rA Γ, b_d cB cC cI cJ cZ oA rA Γ] [0, 1, 2, 3, 4, 5, 6]) (bx_ix [b_k cB cC cI cJ cZ oA rA Γ, b_p cB cC cI cJ cZ oA rA Γ, b_o cB cC cI cJ cZ oA rA Γ, b_s cB cC cI cJ cZ oA rA Γ, b_c cB cC cI cJ cZ oA rA Γ, b_t cB cC cI cJ cZ oA rA Γ, b_d cB cC cI cJ cZ oA rA Γ] []) (bx_C (bs := [b_k cB cC cI cJ cZ oA rA Γ, b_p cB cC cI cJ cZ oA rA Γ, b_o cB cC cI cJ cZ oA rA Γ, b_s cB cC cI cJ cZ oA rA Γ, b_c cB cC cI cJ cZ oA rA Γ, b_t cB cC cI cJ cZ oA rA Γ, b_d cB cC cI cJ cZ oA rA Γ]) (bs' := [b_k cB cC cI cJ cZ oA rA Γ, b_p cB cC cI cJ cZ oA rA Γ, b_o cB cC cI cJ cZ oA rA Γ, b_s cB cC cI cJ cZ oA rA Γ, b_c cB cC cI cJ cZ oA rA Γ, b_t cB cC cI cJ cZ oA rA Γ, b_d cB cC cI cJ cZ oA rA Γ]) (is := [0, 1, 2, 3, 4, 5, 6]) fl_7 fl_7 rfl) (bx_C (bs := [b_k cB cC cI cJ cZ oA rA Γ, b_p cB cC cI cJ cZ oA rA Γ, b_o cB cC cI cJ cZ oA rA Γ, b_s cB cC cI cJ cZ oA rA Γ, b_c cB cC cI cJ cZ oA rA Γ, b_t cB cC cI cJ cZ oA rA Γ, b_d cB cC cI cJ cZ oA rA Γ]) (bs' := []) (is := []) fl_7 fl_0 rfl) (bx_n (by decide +kernel)) (bx_d (by decide +kernel)) (va_runV (As := []) (rest := [.ref (oA 10)]) ⟨hx, hb, hml, hown, hts⟩ (k_X3_pop l dC dI cB cC cI cJ cZ cP oA rA s.heap.size  Γ _ hu_75) (cwV 0 hts (g_gV wq_1144 wq_1145 wq_2086 wq_11 wq_1146) rfl rfl rfl (by decide +kernel) ⟨Nat.le_of_ble_eq_true rfl, Nat.le_of_ble_eq_true rfl⟩) (g_preV g_bl0 hK hPc hDc hS hE hFc g_to0 (q0 := 0) (ci := 3) rfl rfl) rfl rfl hl.1 rfl (lv_room (Nat.le_of_ble_eq_true rfl)) dX3_flowOp_149 ⟨Nat.le_of_ble_eq_true rfl, Nat.le_of_ble_eq_true rfl⟩) (fun r9 u9 H locs hw9 hP' hD' hS => ?_)
    clear hPc hDc hFc
    subst hw9
    have hP : va_P (dC, dI) vwCl (b_k cB cC cI cJ cZ oA rA u_75.2 ++ b_p cB cC cI cJ cZ oA rA u_75.2 ++ b_o cB cC cI cJ cZ oA rA u_75.2 ++ b_s cB cC cI cJ cZ oA rA u_75.2 ++ b_c cB cC cI cJ cZ oA rA u_75.2 ++ b_t cB cC cI cJ cZ oA rA u_75.2 ++ b_d cB cC cI cJ cZ oA rA u_75.2) H := hP'
    clear hP' hD'
    obtain ⟨j_79, ej_79, hF_80⟩ := bnd_e hF_76
    clear hF_76
    have Jj_79 : ∀ (t_77 : Int32) (σ_78 : HS), j_79 t_77 σ_78 = some res → ∀ (H : Heap) (locs : List Loc), va_P (dC, dI) vwCl (b_k cB cC cI cJ cZ oA rA σ_78 ++ b_p cB cC cI cJ cZ oA rA σ_78 ++ b_o cB cC cI cJ cZ oA rA σ_78 ++ b_s cB cC cI cJ cZ oA rA σ_78 ++ b_c cB cC cI cJ cZ oA rA σ_78 ++ b_t cB cC cI cJ cZ oA rA σ_78 ++ b_d cB cC cI cJ cZ oA rA σ_78) H → va_S A s.heap H locs → ∀ ls : Array Slot, lv_has ls 2 [] → W p l e (headSpec (g_ws yX3_flowOp cX3_flowOp 2 none) { frames := 7, cells := 0, slots := 0, locals := 168 }).room s m ([.ref (oA 10), .int p0] : List Value).toArray below meth c H locs 0 0 (MQ below (va_Qv (fun (_ : Unit) => True) (g_Bo (dC, dI) A (fun (_ : Unit) => (b_k cB cC cI cJ cZ oA rA res.2 ++ b_p cB cC cI cJ cZ oA rA res.2 ++ b_o cB cC cI cJ cZ oA rA res.2 ++ b_s cB cC cI cJ cZ oA rA res.2 ++ b_c cB cC cI cJ cZ oA rA res.2 ++ b_t cB cC cI cJ cZ oA rA res.2 ++ b_d cB cC cI cJ cZ oA rA res.2))) A) ([.ref (oA 10), .int p0] : List Value).toArray s 0 0 A) (F0 m 160 ls [.int t_77, .ref (oA 10)]) := by
      intro t_77 σ_78 hF0 H locs hP hS ls hl
      subst ej_79
      have hF_81 := hF0
      clear hF0
      obtain ⟨u_82, hu_82, hF_83⟩ := Option.bind_eq_some_iff.mp hF_81
      clear hF_81
      have hPc := bx_P (bs := [b_k cB cC cI cJ cZ oA rA σ_78, b_p cB cC cI cJ cZ oA rA σ_78, b_o cB cC cI cJ cZ oA rA σ_78, b_s cB cC cI cJ cZ oA rA σ_78, b_c cB cC cI cJ cZ oA rA σ_78, b_t cB cC cI cJ cZ oA rA σ_78, b_d cB cC cI cJ cZ oA rA σ_78]) (bs' := [b_k cB cC cI cJ cZ oA rA σ_78, b_p cB cC cI cJ cZ oA rA σ_78, b_o cB cC cI cJ cZ oA rA σ_78, b_s cB cC cI cJ cZ oA rA σ_78, b_c cB cC cI cJ cZ oA rA σ_78, b_t cB cC cI cJ cZ oA rA σ_78, b_d cB cC cI cJ cZ oA rA σ_78]) (ws' := (b_k cB cC cI cJ cZ oA rA σ_78 ++ b_p cB cC cI cJ cZ oA rA σ_78 ++ b_o cB cC cI cJ cZ oA rA σ_78 ++ b_s cB cC cI cJ cZ oA rA σ_78 ++ b_c cB cC cI cJ cZ oA rA σ_78 ++ b_t cB cC cI cJ cZ oA rA σ_78 ++ b_d cB cC cI cJ cZ oA rA σ_78)) hP fl_7 fl_7 [0, 1, 2, 3, 4, 5, 6] rfl
      have hDc := bx_D (bs := [b_k cB cC cI cJ cZ oA rA σ_78, b_p cB cC cI cJ cZ oA rA σ_78, b_o cB cC cI cJ cZ oA rA σ_78, b_s cB cC cI cJ cZ oA rA σ_78, b_c cB cC cI cJ cZ oA rA σ_78, b_t cB cC cI cJ cZ oA rA σ_78, b_d cB cC cI cJ cZ oA rA σ_78]) (bs' := [b_k cB cC cI cJ cZ oA rA σ_78, b_p cB cC cI cJ cZ oA rA σ_78, b_o cB cC cI cJ cZ oA rA σ_78, b_s cB cC cI cJ cZ oA rA σ_78, b_c cB cC cI cJ cZ oA rA σ_78, b_t cB cC cI cJ cZ oA rA σ_78, b_d cB cC cI cJ cZ oA rA σ_78]) (ws' := (b_k cB cC cI cJ cZ oA rA σ_78 ++ b_p cB cC cI cJ cZ oA rA σ_78 ++ b_o cB cC cI cJ cZ oA rA σ_78 ++ b_s cB cC cI cJ cZ oA rA σ_78 ++ b_c cB cC cI cJ cZ oA rA σ_78 ++ b_t cB cC cI cJ cZ oA rA σ_78 ++ b_d cB cC cI cJ cZ oA rA σ_78)) (hDD σ_78) fl_7 fl_7 [0, 1, 2, 3, 4, 5, 6] (by decide +kernel) rfl
      have hFc := bx_F (bs := [b_k cB cC cI cJ cZ oA rA σ_78, b_p cB cC cI cJ cZ oA rA σ_78, b_o cB cC cI cJ cZ oA rA σ_78, b_s cB cC cI cJ cZ oA rA σ_78, b_c cB cC cI cJ cZ oA rA σ_78, b_t cB cC cI cJ cZ oA rA σ_78, b_d cB cC cI cJ cZ oA rA σ_78]) (bs' := [b_k cB cC cI cJ cZ oA rA σ_78, b_p cB cC cI cJ cZ oA rA σ_78, b_o cB cC cI cJ cZ oA rA σ_78, b_s cB cC cI cJ cZ oA rA σ_78, b_c cB cC cI cJ cZ oA rA σ_78, b_t cB cC cI cJ cZ oA rA σ_78, b_d cB cC cI cJ cZ oA rA σ_78]) (wc := (b_k cB cC cI cJ cZ oA rA σ_78 ++ b_p cB cC cI cJ cZ oA rA σ_78 ++ b_o cB cC cI cJ cZ oA rA σ_78 ++ b_s cB cC cI cJ cZ oA rA σ_78 ++ b_c cB cC cI cJ cZ oA rA σ_78 ++ b_t cB cC cI cJ cZ oA rA σ_78 ++ b_d cB cC cI cJ cZ oA rA σ_78)) (hDD σ_78) hS hA fl_7 fl_7 [0, 1, 2, 3, 4, 5, 6] rfl
      refine g_ofv (wc := (b_k cB cC cI cJ cZ oA rA σ_78 ++ b_p cB cC cI cJ cZ oA rA σ_78 ++ b_o cB cC cI cJ cZ oA rA σ_78 ++ b_s cB cC cI cJ cZ oA rA σ_78 ++ b_c cB cC cI cJ cZ oA rA σ_78 ++ b_t cB cC cI cJ cZ oA rA σ_78 ++ b_d cB cC cI cJ cZ oA rA σ_78)) (wr := ([] : va_W)) hP (hDD σ_78) hS hFc (bx_ix [b_k cB cC cI cJ cZ oA rA σ_78, b_p cB cC cI cJ cZ oA rA σ_78, b_o cB cC cI cJ cZ oA rA σ_78, b_s cB cC cI cJ cZ oA rA σ_78, b_c cB cC cI cJ cZ oA rA σ_78, b_t cB cC cI cJ cZ oA rA σ_78, b_d cB cC cI cJ cZ oA rA σ_78] [0, 1, 2, 3, 4, 5, 6]) (bx_ix [b_k cB cC cI cJ cZ oA rA σ_78, b_p cB cC cI cJ cZ oA rA σ_78, b_o cB cC cI cJ cZ oA rA σ_78, b_s cB cC cI cJ cZ oA rA σ_78, b_c cB cC cI cJ cZ oA rA σ_78, b_t cB cC cI cJ cZ oA rA σ_78, b_d cB cC cI cJ cZ oA rA σ_78] []) (bx_C (bs := [b_k cB cC cI cJ cZ oA rA σ_78, b_p cB cC cI cJ cZ oA rA σ_78, b_o cB cC cI cJ cZ oA rA σ_78, b_s cB cC cI cJ cZ oA rA σ_78, b_c cB cC cI cJ cZ oA rA σ_78, b_t cB cC cI cJ cZ oA rA σ_78, b_d cB cC cI cJ cZ oA rA σ_78]) (bs' := [b_k cB cC cI cJ cZ oA rA σ_78, b_p cB cC cI cJ cZ oA rA σ_78, b_o cB cC cI cJ cZ oA rA σ_78, b_s cB cC cI cJ cZ oA rA σ_78, b_c cB cC cI cJ cZ oA rA σ_78, b_t cB cC cI cJ cZ oA rA σ_78, b_d cB cC cI cJ cZ oA rA σ_78]) (is := [0, 1, 2, 3, 4, 5, 6]) fl_7 fl_7 rfl) (bx_C (bs := [b_k cB cC cI cJ cZ oA rA σ_78, b_p cB cC cI cJ cZ oA rA σ_78, b_o cB cC cI cJ cZ oA rA σ_78, b_s cB cC cI cJ cZ oA rA σ_78, b_c cB cC cI cJ cZ oA rA σ_78, b_t cB cC cI cJ cZ oA rA σ_78, b_d cB cC cI cJ cZ oA rA σ_78]) (bs' := []) (is := []) fl_7 fl_0 rfl) (bx_n (by decide +kernel)) (bx_d (by decide +kernel)) (va_runV (As := [.int t_77]) (rest := []) ⟨hx, hb, hml, hown, hts⟩ (k_X3_push l dC dI cB cC cI cJ cZ cP oA rA H.size  t_77 σ_78 _ hu_82) (cwV 1 hts (g_gV wq_1141 wq_1142 wq_2085 wq_11 wq_1143) rfl rfl rfl (by decide +kernel) ⟨Nat.le_of_ble_eq_true rfl, Nat.le_of_ble_eq_true rfl⟩) (g_preV g_bl0 hK hPc hDc hS hE hFc g_to0 (q0 := 0) (ci := 3) rfl rfl) rfl rfl hl.1 rfl (lv_room (Nat.le_of_ble_eq_true rfl)) dX3_flowOp_160 ⟨Nat.le_of_ble_eq_true rfl, Nat.le_of_ble_eq_true rfl⟩) (fun u9 H locs hw9 hP' hD' hS => ?_)
      clear hPc hDc hFc
      have hP : va_P (dC, dI) vwCl (b_k cB cC cI cJ cZ oA rA u_82.2 ++ b_p cB cC cI cJ cZ oA rA u_82.2 ++ b_o cB cC cI cJ cZ oA rA u_82.2 ++ b_s cB cC cI cJ cZ oA rA u_82.2 ++ b_c cB cC cI cJ cZ oA rA u_82.2 ++ b_t cB cC cI cJ cZ oA rA u_82.2 ++ b_d cB cC cI cJ cZ oA rA u_82.2) H := hP'
      clear hP' hD'
      refine lv_goto (tgt := 195) hx hb dX3_flowOp_163 (by decide) ?_
      have h9 := Option.some.inj hF_83
      subst h9
      exact W.vret hx hb hr (fun t ht hW => ⟨⟨(), rfl, trivial, m_end ht hP, hDD _⟩, hS.F ht⟩) hS.2.2 dX3_flowOp_195
    refine lv_if_eq (tgt := 159) hx hb dX3_flowOp_152 (by decide) (fun c_84 => ?_) (fun c_84 => ?_)
    · have hF_85 := ipos c_84 hF_80
      clear hF_80
      refine lv_iconst (v := 0) hx hb dX3_flowOp_159 (by decide +kernel) ?_
      exact Jj_79 0 u_75.2 hF_85 _ _ hP hS ls (lv_sub hl [] rfl)
    · have hF_86 := ineg c_84 hF_80
      clear hF_80
      refine lv_iconst (v := 1) hx hb dX3_flowOp_155 (by decide +kernel) ?_
      refine lv_goto (tgt := 160) hx hb dX3_flowOp_156 (by decide) ?_
      exact Jj_79 1 u_75.2 hF_86 _ _ hP hS ls (lv_sub hl [] rfl)
  have hF_87 := ineg c_73 hF_72
  clear hF_72
  by_cases c_88 : p0 = 8
  · have hF_89 := ipos c_88 hF_87
    clear hF_87
    refine lv_tableIn (off := 165) (tgt := 166) hx hb dX3_flowOp_1 (by rw [c_88]; decide +kernel) (by rw [c_88]; decide +kernel) (by rw [c_88]; decide +kernel) (by decide) ?_
    refine lv_aload_n hx hb dX3_flowOp_166 rfl (lv_at hl 0 rfl) ?_
    refine lv_aload_n hx hb dX3_flowOp_167 rfl (lv_at hl 0 rfl) ?_
    obtain ⟨u_90, hu_90, hF_91⟩ := Option.bind_eq_some_iff.mp hF_89
    clear hF_89
    have hPc := bx_P (bs := [b_k cB cC cI cJ cZ oA rA Γ, b_p cB cC cI cJ cZ oA rA Γ, b_o cB cC cI cJ cZ oA rA Γ, b_s cB cC cI cJ cZ oA rA Γ, b_c cB cC cI cJ cZ oA rA Γ, b_t cB cC cI cJ cZ oA rA Γ, b_d cB cC cI cJ cZ oA rA Γ]) (bs' := [b_k cB cC cI cJ cZ oA rA Γ, b_p cB cC cI cJ cZ oA rA Γ, b_o cB cC cI cJ cZ oA rA Γ, b_s cB cC cI cJ cZ oA rA Γ, b_c cB cC cI cJ cZ oA rA Γ, b_t cB cC cI cJ cZ oA rA Γ, b_d cB cC cI cJ cZ oA rA Γ]) (ws' := (b_k cB cC cI cJ cZ oA rA Γ ++ b_p cB cC cI cJ cZ oA rA Γ ++ b_o cB cC cI cJ cZ oA rA Γ ++ b_s cB cC cI cJ cZ oA rA Γ ++ b_c cB cC cI cJ cZ oA rA Γ ++ b_t cB cC cI cJ cZ oA rA Γ ++ b_d cB cC cI cJ cZ oA rA Γ)) hP fl_7 fl_7 [0, 1, 2, 3, 4, 5, 6] rfl
    have hDc := bx_D (bs := [b_k cB cC cI cJ cZ oA rA Γ, b_p cB cC cI cJ cZ oA rA Γ, b_o cB cC cI cJ cZ oA rA Γ, b_s cB cC cI cJ cZ oA rA Γ, b_c cB cC cI cJ cZ oA rA Γ, b_t cB cC cI cJ cZ oA rA Γ, b_d cB cC cI cJ cZ oA rA Γ]) (bs' := [b_k cB cC cI cJ cZ oA rA Γ, b_p cB cC cI cJ cZ oA rA Γ, b_o cB cC cI cJ cZ oA rA Γ, b_s cB cC cI cJ cZ oA rA Γ, b_c cB cC cI cJ cZ oA rA Γ, b_t cB cC cI cJ cZ oA rA Γ, b_d cB cC cI cJ cZ oA rA Γ]) (ws' := (b_k cB cC cI cJ cZ oA rA Γ ++ b_p cB cC cI cJ cZ oA rA Γ ++ b_o cB cC cI cJ cZ oA rA Γ ++ b_s cB cC cI cJ cZ oA rA Γ ++ b_c cB cC cI cJ cZ oA rA Γ ++ b_t cB cC cI cJ cZ oA rA Γ ++ b_d cB cC cI cJ cZ oA rA Γ)) (hDD Γ) fl_7 fl_7 [0, 1, 2, 3, 4, 5, 6] (by decide +kernel) rfl
    have hFc := bx_F (bs := [b_k cB cC cI cJ cZ oA rA Γ, b_p cB cC cI cJ cZ oA rA Γ, b_o cB cC cI cJ cZ oA rA Γ, b_s cB cC cI cJ cZ oA rA Γ, b_c cB cC cI cJ cZ oA rA Γ, b_t cB cC cI cJ cZ oA rA Γ, b_d cB cC cI cJ cZ oA rA Γ]) (bs' := [b_k cB cC cI cJ cZ oA rA Γ, b_p cB cC cI cJ cZ oA rA Γ, b_o cB cC cI cJ cZ oA rA Γ, b_s cB cC cI cJ cZ oA rA Γ, b_c cB cC cI cJ cZ oA rA Γ, b_t cB cC cI cJ cZ oA rA Γ, b_d cB cC cI cJ cZ oA rA Γ]) (wc := (b_k cB cC cI cJ cZ oA rA Γ ++ b_p cB cC cI cJ cZ oA rA Γ ++ b_o cB cC cI cJ cZ oA rA Γ ++ b_s cB cC cI cJ cZ oA rA Γ ++ b_c cB cC cI cJ cZ oA rA Γ ++ b_t cB cC cI cJ cZ oA rA Γ ++ b_d cB cC cI cJ cZ oA rA Γ)) (hDD Γ) hS hA fl_7 fl_7 [0, 1, 2, 3, 4, 5, 6] rfl
    refine g_ofi (wc := (b_k cB cC cI cJ cZ oA rA Γ ++ b_p cB cC cI cJ cZ oA rA Γ ++ b_o cB cC cI cJ cZ oA rA Γ ++ b_s cB cC cI cJ cZ oA rA Γ ++ b_c cB cC cI cJ cZ oA rA Γ ++ b_t cB cC cI cJ cZ oA rA Γ ++ b_d cB cC cI cJ cZ oA rA Γ)) (wr := ([] : va_W)) hP (hDD Γ) hS hFc (bx_ix [b_k cB cC cI cJ cZ oA rA Γ, b_p cB cC cI cJ cZ oA rA Γ, b_o cB cC cI cJ cZ oA rA Γ, b_s cB cC cI cJ cZ oA rA Γ, b_c cB cC cI cJ cZ oA rA Γ, b_t cB cC cI cJ cZ oA rA Γ, b_d cB cC cI cJ cZ oA rA Γ] [0, 1, 2, 3, 4, 5, 6]) (bx_ix [b_k cB cC cI cJ cZ oA rA Γ, b_p cB cC cI cJ cZ oA rA Γ, b_o cB cC cI cJ cZ oA rA Γ, b_s cB cC cI cJ cZ oA rA Γ, b_c cB cC cI cJ cZ oA rA Γ, b_t cB cC cI cJ cZ oA rA Γ, b_d cB cC cI cJ cZ oA rA Γ] []) (bx_C (bs := [b_k cB cC cI cJ cZ oA rA Γ, b_p cB cC cI cJ cZ oA rA Γ, b_o cB cC cI cJ cZ oA rA Γ, b_s cB cC cI cJ cZ oA rA Γ, b_c cB cC cI cJ cZ oA rA Γ, b_t cB cC cI cJ cZ oA rA Γ, b_d cB cC cI cJ cZ oA rA Γ]) (bs' := [b_k cB cC cI cJ cZ oA rA Γ, b_p cB cC cI cJ cZ oA rA Γ, b_o cB cC cI cJ cZ oA rA Γ, b_s cB cC cI cJ cZ oA rA Γ, b_c cB cC cI cJ cZ oA rA Γ, b_t cB cC cI cJ cZ oA rA Γ, b_d cB cC cI cJ cZ oA rA Γ]) (is := [0, 1, 2, 3, 4, 5, 6]) fl_7 fl_7 rfl) (bx_C (bs := [b_k cB cC cI cJ cZ oA rA Γ, b_p cB cC cI cJ cZ oA rA Γ, b_o cB cC cI cJ cZ oA rA Γ, b_s cB cC cI cJ cZ oA rA Γ, b_c cB cC cI cJ cZ oA rA Γ, b_t cB cC cI cJ cZ oA rA Γ, b_d cB cC cI cJ cZ oA rA Γ]) (bs' := []) (is := []) fl_7 fl_0 rfl) (bx_n (by decide +kernel)) (bx_d (by decide +kernel)) (va_runV (As := []) (rest := [.ref (oA 10)]) ⟨hx, hb, hml, hown, hts⟩ (k_X3_pop l dC dI cB cC cI cJ cZ cP oA rA s.heap.size  Γ _ hu_90) (cwV 0 hts (g_gV wq_1144 wq_1145 wq_2086 wq_11 wq_1146) rfl rfl rfl (by decide +kernel) ⟨Nat.le_of_ble_eq_true rfl, Nat.le_of_ble_eq_true rfl⟩) (g_preV g_bl0 hK hPc hDc hS hE hFc g_to0 (q0 := 0) (ci := 3) rfl rfl) rfl rfl hl.1 rfl (lv_room (Nat.le_of_ble_eq_true rfl)) dX3_flowOp_168 ⟨Nat.le_of_ble_eq_true rfl, Nat.le_of_ble_eq_true rfl⟩) (fun r9 u9 H locs hw9 hP' hD' hS => ?_)
    clear hPc hDc hFc
    subst hw9
    have hP : va_P (dC, dI) vwCl (b_k cB cC cI cJ cZ oA rA u_90.2 ++ b_p cB cC cI cJ cZ oA rA u_90.2 ++ b_o cB cC cI cJ cZ oA rA u_90.2 ++ b_s cB cC cI cJ cZ oA rA u_90.2 ++ b_c cB cC cI cJ cZ oA rA u_90.2 ++ b_t cB cC cI cJ cZ oA rA u_90.2 ++ b_d cB cC cI cJ cZ oA rA u_90.2) H := hP'
    clear hP' hD'
    obtain ⟨j_94, ej_94, hF_95⟩ := bnd_e hF_91
    clear hF_91
    have Jj_94 : ∀ (t_92 : Int32) (σ_93 : HS), j_94 t_92 σ_93 = some res → ∀ (H : Heap) (locs : List Loc), va_P (dC, dI) vwCl (b_k cB cC cI cJ cZ oA rA σ_93 ++ b_p cB cC cI cJ cZ oA rA σ_93 ++ b_o cB cC cI cJ cZ oA rA σ_93 ++ b_s cB cC cI cJ cZ oA rA σ_93 ++ b_c cB cC cI cJ cZ oA rA σ_93 ++ b_t cB cC cI cJ cZ oA rA σ_93 ++ b_d cB cC cI cJ cZ oA rA σ_93) H → va_S A s.heap H locs → ∀ ls : Array Slot, lv_has ls 2 [] → W p l e (headSpec (g_ws yX3_flowOp cX3_flowOp 2 none) { frames := 7, cells := 0, slots := 0, locals := 168 }).room s m ([.ref (oA 10), .int p0] : List Value).toArray below meth c H locs 0 0 (MQ below (va_Qv (fun (_ : Unit) => True) (g_Bo (dC, dI) A (fun (_ : Unit) => (b_k cB cC cI cJ cZ oA rA res.2 ++ b_p cB cC cI cJ cZ oA rA res.2 ++ b_o cB cC cI cJ cZ oA rA res.2 ++ b_s cB cC cI cJ cZ oA rA res.2 ++ b_c cB cC cI cJ cZ oA rA res.2 ++ b_t cB cC cI cJ cZ oA rA res.2 ++ b_d cB cC cI cJ cZ oA rA res.2))) A) ([.ref (oA 10), .int p0] : List Value).toArray s 0 0 A) (F0 m 179 ls [.int t_92, .ref (oA 10)]) := by
      intro t_92 σ_93 hF0 H locs hP hS ls hl
      subst ej_94
      have hF_96 := hF0
      clear hF0
      obtain ⟨u_97, hu_97, hF_98⟩ := Option.bind_eq_some_iff.mp hF_96
      clear hF_96
      have hPc := bx_P (bs := [b_k cB cC cI cJ cZ oA rA σ_93, b_p cB cC cI cJ cZ oA rA σ_93, b_o cB cC cI cJ cZ oA rA σ_93, b_s cB cC cI cJ cZ oA rA σ_93, b_c cB cC cI cJ cZ oA rA σ_93, b_t cB cC cI cJ cZ oA rA σ_93, b_d cB cC cI cJ cZ oA rA σ_93]) (bs' := [b_k cB cC cI cJ cZ oA rA σ_93, b_p cB cC cI cJ cZ oA rA σ_93, b_o cB cC cI cJ cZ oA rA σ_93, b_s cB cC cI cJ cZ oA rA σ_93, b_c cB cC cI cJ cZ oA rA σ_93, b_t cB cC cI cJ cZ oA rA σ_93, b_d cB cC cI cJ cZ oA rA σ_93]) (ws' := (b_k cB cC cI cJ cZ oA rA σ_93 ++ b_p cB cC cI cJ cZ oA rA σ_93 ++ b_o cB cC cI cJ cZ oA rA σ_93 ++ b_s cB cC cI cJ cZ oA rA σ_93 ++ b_c cB cC cI cJ cZ oA rA σ_93 ++ b_t cB cC cI cJ cZ oA rA σ_93 ++ b_d cB cC cI cJ cZ oA rA σ_93)) hP fl_7 fl_7 [0, 1, 2, 3, 4, 5, 6] rfl
      have hDc := bx_D (bs := [b_k cB cC cI cJ cZ oA rA σ_93, b_p cB cC cI cJ cZ oA rA σ_93, b_o cB cC cI cJ cZ oA rA σ_93, b_s cB cC cI cJ cZ oA rA σ_93, b_c cB cC cI cJ cZ oA rA σ_93, b_t cB cC cI cJ cZ oA rA σ_93, b_d cB cC cI cJ cZ oA rA σ_93]) (bs' := [b_k cB cC cI cJ cZ oA rA σ_93, b_p cB cC cI cJ cZ oA rA σ_93, b_o cB cC cI cJ cZ oA rA σ_93, b_s cB cC cI cJ cZ oA rA σ_93, b_c cB cC cI cJ cZ oA rA σ_93, b_t cB cC cI cJ cZ oA rA σ_93, b_d cB cC cI cJ cZ oA rA σ_93]) (ws' := (b_k cB cC cI cJ cZ oA rA σ_93 ++ b_p cB cC cI cJ cZ oA rA σ_93 ++ b_o cB cC cI cJ cZ oA rA σ_93 ++ b_s cB cC cI cJ cZ oA rA σ_93 ++ b_c cB cC cI cJ cZ oA rA σ_93 ++ b_t cB cC cI cJ cZ oA rA σ_93 ++ b_d cB cC cI cJ cZ oA rA σ_93)) (hDD σ_93) fl_7 fl_7 [0, 1, 2, 3, 4, 5, 6] (by decide +kernel) rfl
      have hFc := bx_F (bs := [b_k cB cC cI cJ cZ oA rA σ_93, b_p cB cC cI cJ cZ oA rA σ_93, b_o cB cC cI cJ cZ oA rA σ_93, b_s cB cC cI cJ cZ oA rA σ_93, b_c cB cC cI cJ cZ oA rA σ_93, b_t cB cC cI cJ cZ oA rA σ_93, b_d cB cC cI cJ cZ oA rA σ_93]) (bs' := [b_k cB cC cI cJ cZ oA rA σ_93, b_p cB cC cI cJ cZ oA rA σ_93, b_o cB cC cI cJ cZ oA rA σ_93, b_s cB cC cI cJ cZ oA rA σ_93, b_c cB cC cI cJ cZ oA rA σ_93, b_t cB cC cI cJ cZ oA rA σ_93, b_d cB cC cI cJ cZ oA rA σ_93]) (wc := (b_k cB cC cI cJ cZ oA rA σ_93 ++ b_p cB cC cI cJ cZ oA rA σ_93 ++ b_o cB cC cI cJ cZ oA rA σ_93 ++ b_s cB cC cI cJ cZ oA rA σ_93 ++ b_c cB cC cI cJ cZ oA rA σ_93 ++ b_t cB cC cI cJ cZ oA rA σ_93 ++ b_d cB cC cI cJ cZ oA rA σ_93)) (hDD σ_93) hS hA fl_7 fl_7 [0, 1, 2, 3, 4, 5, 6] rfl
      refine g_ofv (wc := (b_k cB cC cI cJ cZ oA rA σ_93 ++ b_p cB cC cI cJ cZ oA rA σ_93 ++ b_o cB cC cI cJ cZ oA rA σ_93 ++ b_s cB cC cI cJ cZ oA rA σ_93 ++ b_c cB cC cI cJ cZ oA rA σ_93 ++ b_t cB cC cI cJ cZ oA rA σ_93 ++ b_d cB cC cI cJ cZ oA rA σ_93)) (wr := ([] : va_W)) hP (hDD σ_93) hS hFc (bx_ix [b_k cB cC cI cJ cZ oA rA σ_93, b_p cB cC cI cJ cZ oA rA σ_93, b_o cB cC cI cJ cZ oA rA σ_93, b_s cB cC cI cJ cZ oA rA σ_93, b_c cB cC cI cJ cZ oA rA σ_93, b_t cB cC cI cJ cZ oA rA σ_93, b_d cB cC cI cJ cZ oA rA σ_93] [0, 1, 2, 3, 4, 5, 6]) (bx_ix [b_k cB cC cI cJ cZ oA rA σ_93, b_p cB cC cI cJ cZ oA rA σ_93, b_o cB cC cI cJ cZ oA rA σ_93, b_s cB cC cI cJ cZ oA rA σ_93, b_c cB cC cI cJ cZ oA rA σ_93, b_t cB cC cI cJ cZ oA rA σ_93, b_d cB cC cI cJ cZ oA rA σ_93] []) (bx_C (bs := [b_k cB cC cI cJ cZ oA rA σ_93, b_p cB cC cI cJ cZ oA rA σ_93, b_o cB cC cI cJ cZ oA rA σ_93, b_s cB cC cI cJ cZ oA rA σ_93, b_c cB cC cI cJ cZ oA rA σ_93, b_t cB cC cI cJ cZ oA rA σ_93, b_d cB cC cI cJ cZ oA rA σ_93]) (bs' := [b_k cB cC cI cJ cZ oA rA σ_93, b_p cB cC cI cJ cZ oA rA σ_93, b_o cB cC cI cJ cZ oA rA σ_93, b_s cB cC cI cJ cZ oA rA σ_93, b_c cB cC cI cJ cZ oA rA σ_93, b_t cB cC cI cJ cZ oA rA σ_93, b_d cB cC cI cJ cZ oA rA σ_93]) (is := [0, 1, 2, 3, 4, 5, 6]) fl_7 fl_7 rfl) (bx_C (bs := [b_k cB cC cI cJ cZ oA rA σ_93, b_p cB cC cI cJ cZ oA rA σ_93, b_o cB cC cI cJ cZ oA rA σ_93, b_s cB cC cI cJ cZ oA rA σ_93, b_c cB cC cI cJ cZ oA rA σ_93, b_t cB cC cI cJ cZ oA rA σ_93, b_d cB cC cI cJ cZ oA rA σ_93]) (bs' := []) (is := []) fl_7 fl_0 rfl) (bx_n (by decide +kernel)) (bx_d (by decide +kernel)) (va_runV (As := [.int t_92]) (rest := []) ⟨hx, hb, hml, hown, hts⟩ (k_X3_push l dC dI cB cC cI cJ cZ cP oA rA H.size  t_92 σ_93 _ hu_97) (cwV 1 hts (g_gV wq_1141 wq_1142 wq_2085 wq_11 wq_1143) rfl rfl rfl (by decide +kernel) ⟨Nat.le_of_ble_eq_true rfl, Nat.le_of_ble_eq_true rfl⟩) (g_preV g_bl0 hK hPc hDc hS hE hFc g_to0 (q0 := 0) (ci := 3) rfl rfl) rfl rfl hl.1 rfl (lv_room (Nat.le_of_ble_eq_true rfl)) dX3_flowOp_179 ⟨Nat.le_of_ble_eq_true rfl, Nat.le_of_ble_eq_true rfl⟩) (fun u9 H locs hw9 hP' hD' hS => ?_)
      clear hPc hDc hFc
      have hP : va_P (dC, dI) vwCl (b_k cB cC cI cJ cZ oA rA u_97.2 ++ b_p cB cC cI cJ cZ oA rA u_97.2 ++ b_o cB cC cI cJ cZ oA rA u_97.2 ++ b_s cB cC cI cJ cZ oA rA u_97.2 ++ b_c cB cC cI cJ cZ oA rA u_97.2 ++ b_t cB cC cI cJ cZ oA rA u_97.2 ++ b_d cB cC cI cJ cZ oA rA u_97.2) H := hP'
      clear hP' hD'
      refine lv_goto (tgt := 195) hx hb dX3_flowOp_182 (by decide) ?_
      have h9 := Option.some.inj hF_98
      subst h9
      exact W.vret hx hb hr (fun t ht hW => ⟨⟨(), rfl, trivial, m_end ht hP, hDD _⟩, hS.F ht⟩) hS.2.2 dX3_flowOp_195
    refine lv_if_ne (tgt := 178) hx hb dX3_flowOp_171 (by decide) (fun c_99 => ?_) (fun c_99 => ?_)
    · have hF_101 := ineg c_99 hF_95
      clear hF_95
      refine lv_iconst (v := 0) hx hb dX3_flowOp_178 (by decide +kernel) ?_
      exact Jj_94 0 u_90.2 hF_101 _ _ hP hS ls (lv_sub hl [] rfl)
    · have hF_100 := ipos c_99 hF_95
      clear hF_95
      refine lv_iconst (v := 1) hx hb dX3_flowOp_174 (by decide +kernel) ?_
      refine lv_goto (tgt := 179) hx hb dX3_flowOp_175 (by decide) ?_
      exact Jj_94 1 u_90.2 hF_100 _ _ hP hS ls (lv_sub hl [] rfl)
  have hF_102 := ineg c_88 hF_87
  clear hF_87
  refine m_tabD (lo := 0) (n := 9) (tgt := 185) hx hb dX3_flowOp_1 (by decide +kernel) (by decide) (fun j9 h9 e9 => by
      match j9, h9 with
      | 0, _ => exact absurd ((by rw [e9]; decide +kernel)) c_1
      | 1, _ => exact absurd ((by rw [e9]; decide +kernel)) c_6
      | 2, _ => exact absurd ((by rw [e9]; decide +kernel)) c_11
      | 3, _ => exact absurd ((by rw [e9]; decide +kernel)) c_18
      | 4, _ => exact absurd ((by rw [e9]; decide +kernel)) c_28
      | 5, _ => exact absurd (Or.inl (by rw [e9]; decide +kernel)) c_33
      | 6, _ => exact absurd (Or.inr ((by rw [e9]; decide +kernel))) c_33
      | 7, _ => exact absurd ((by rw [e9]; decide +kernel)) c_73
      | 8, _ => exact absurd ((by rw [e9]; decide +kernel)) c_88
      | n9 + 9, h9 => exact absurd h9 (by omega)) ?_
  refine lv_aload_n hx hb dX3_flowOp_185 rfl (lv_at hl 0 rfl) ?_
  refine lv_aload_n hx hb dX3_flowOp_186 rfl (lv_at hl 0 rfl) ?_
  obtain ⟨u_103, hu_103, hF_104⟩ := Option.bind_eq_some_iff.mp hF_102
  clear hF_102
  have hPc := bx_P (bs := [b_k cB cC cI cJ cZ oA rA Γ, b_p cB cC cI cJ cZ oA rA Γ, b_o cB cC cI cJ cZ oA rA Γ, b_s cB cC cI cJ cZ oA rA Γ, b_c cB cC cI cJ cZ oA rA Γ, b_t cB cC cI cJ cZ oA rA Γ, b_d cB cC cI cJ cZ oA rA Γ]) (bs' := [b_k cB cC cI cJ cZ oA rA Γ, b_p cB cC cI cJ cZ oA rA Γ, b_o cB cC cI cJ cZ oA rA Γ, b_s cB cC cI cJ cZ oA rA Γ, b_c cB cC cI cJ cZ oA rA Γ, b_t cB cC cI cJ cZ oA rA Γ, b_d cB cC cI cJ cZ oA rA Γ]) (ws' := (b_k cB cC cI cJ cZ oA rA Γ ++ b_p cB cC cI cJ cZ oA rA Γ ++ b_o cB cC cI cJ cZ oA rA Γ ++ b_s cB cC cI cJ cZ oA rA Γ ++ b_c cB cC cI cJ cZ oA rA Γ ++ b_t cB cC cI cJ cZ oA rA Γ ++ b_d cB cC cI cJ cZ oA rA Γ)) hP fl_7 fl_7 [0, 1, 2, 3, 4, 5, 6] rfl
  have hDc := bx_D (bs := [b_k cB cC cI cJ cZ oA rA Γ, b_p cB cC cI cJ cZ oA rA Γ, b_o cB cC cI cJ cZ oA rA Γ, b_s cB cC cI cJ cZ oA rA Γ, b_c cB cC cI cJ cZ oA rA Γ, b_t cB cC cI cJ cZ oA rA Γ, b_d cB cC cI cJ cZ oA rA Γ]) (bs' := [b_k cB cC cI cJ cZ oA rA Γ, b_p cB cC cI cJ cZ oA rA Γ, b_o cB cC cI cJ cZ oA rA Γ, b_s cB cC cI cJ cZ oA rA Γ, b_c cB cC cI cJ cZ oA rA Γ, b_t cB cC cI cJ cZ oA rA Γ, b_d cB cC cI cJ cZ oA rA Γ]) (ws' := (b_k cB cC cI cJ cZ oA rA Γ ++ b_p cB cC cI cJ cZ oA rA Γ ++ b_o cB cC cI cJ cZ oA rA Γ ++ b_s cB cC cI cJ cZ oA rA Γ ++ b_c cB cC cI cJ cZ oA rA Γ ++ b_t cB cC cI cJ cZ oA rA Γ ++ b_d cB cC cI cJ cZ oA rA Γ)) (hDD Γ) fl_7 fl_7 [0, 1, 2, 3, 4, 5, 6] (by decide +kernel) rfl
  have hFc := bx_F (bs := [b_k cB cC cI cJ cZ oA rA Γ, b_p cB cC cI cJ cZ oA rA Γ, b_o cB cC cI cJ cZ oA rA Γ, b_s cB cC cI cJ cZ oA rA Γ, b_c cB cC cI cJ cZ oA rA Γ, b_t cB cC cI cJ cZ oA rA Γ, b_d cB cC cI cJ cZ oA rA Γ]) (bs' := [b_k cB cC cI cJ cZ oA rA Γ, b_p cB cC cI cJ cZ oA rA Γ, b_o cB cC cI cJ cZ oA rA Γ, b_s cB cC cI cJ cZ oA rA Γ, b_c cB cC cI cJ cZ oA rA Γ, b_t cB cC cI cJ cZ oA rA Γ, b_d cB cC cI cJ cZ oA rA Γ]) (wc := (b_k cB cC cI cJ cZ oA rA Γ ++ b_p cB cC cI cJ cZ oA rA Γ ++ b_o cB cC cI cJ cZ oA rA Γ ++ b_s cB cC cI cJ cZ oA rA Γ ++ b_c cB cC cI cJ cZ oA rA Γ ++ b_t cB cC cI cJ cZ oA rA Γ ++ b_d cB cC cI cJ cZ oA rA Γ)) (hDD Γ) hS hA fl_7 fl_7 [0, 1, 2, 3, 4, 5, 6] rfl
  refine g_ofi (wc := (b_k cB cC cI cJ cZ oA rA Γ ++ b_p cB cC cI cJ cZ oA rA Γ ++ b_o cB cC cI cJ cZ oA rA Γ ++ b_s cB cC cI cJ cZ oA rA Γ ++ b_c cB cC cI cJ cZ oA rA Γ ++ b_t cB cC cI cJ cZ oA rA Γ ++ b_d cB cC cI cJ cZ oA rA Γ)) (wr := ([] : va_W)) hP (hDD Γ) hS hFc (bx_ix [b_k cB cC cI cJ cZ oA rA Γ, b_p cB cC cI cJ cZ oA rA Γ, b_o cB cC cI cJ cZ oA rA Γ, b_s cB cC cI cJ cZ oA rA Γ, b_c cB cC cI cJ cZ oA rA Γ, b_t cB cC cI cJ cZ oA rA Γ, b_d cB cC cI cJ cZ oA rA Γ] [0, 1, 2, 3, 4, 5, 6]) (bx_ix [b_k cB cC cI cJ cZ oA rA Γ, b_p cB cC cI cJ cZ oA rA Γ, b_o cB cC cI cJ cZ oA rA Γ, b_s cB cC cI cJ cZ oA rA Γ, b_c cB cC cI cJ cZ oA rA Γ, b_t cB cC cI cJ cZ oA rA Γ, b_d cB cC cI cJ cZ oA rA Γ] []) (bx_C (bs := [b_k cB cC cI cJ cZ oA rA Γ, b_p cB cC cI cJ cZ oA rA Γ, b_o cB cC cI cJ cZ oA rA Γ, b_s cB cC cI cJ cZ oA rA Γ, b_c cB cC cI cJ cZ oA rA Γ, b_t cB cC cI cJ cZ oA rA Γ, b_d cB cC cI cJ cZ oA rA Γ]) (bs' := [b_k cB cC cI cJ cZ oA rA Γ, b_p cB cC cI cJ cZ oA rA Γ, b_o cB cC cI cJ cZ oA rA Γ, b_s cB cC cI cJ cZ oA rA Γ, b_c cB cC cI cJ cZ oA rA Γ, b_t cB cC cI cJ cZ oA rA Γ, b_d cB cC cI cJ cZ oA rA Γ]) (is := [0, 1, 2, 3, 4, 5, 6]) fl_7 fl_7 rfl) (bx_C (bs := [b_k cB cC cI cJ cZ oA rA Γ, b_p cB cC cI cJ cZ oA rA Γ, b_o cB cC cI cJ cZ oA rA Γ, b_s cB cC cI cJ cZ oA rA Γ, b_c cB cC cI cJ cZ oA rA Γ, b_t cB cC cI cJ cZ oA rA Γ, b_d cB cC cI cJ cZ oA rA Γ]) (bs' := []) (is := []) fl_7 fl_0 rfl) (bx_n (by decide +kernel)) (bx_d (by decide +kernel)) (va_runV (As := []) (rest := [.ref (oA 10)]) ⟨hx, hb, hml, hown, hts⟩ (k_X3_pop l dC dI cB cC cI cJ cZ cP oA rA s.heap.size  Γ _ hu_103) (cwV 0 hts (g_gV wq_1144 wq_1145 wq_2086 wq_11 wq_1146) rfl rfl rfl (by decide +kernel) ⟨Nat.le_of_ble_eq_true rfl, Nat.le_of_ble_eq_true rfl⟩) (g_preV g_bl0 hK hPc hDc hS hE hFc g_to0 (q0 := 0) (ci := 3) rfl rfl) rfl rfl hl.1 rfl (lv_room (Nat.le_of_ble_eq_true rfl)) dX3_flowOp_187 ⟨Nat.le_of_ble_eq_true rfl, Nat.le_of_ble_eq_true rfl⟩) (fun r9 u9 H locs hw9 hP' hD' hS => ?_)
  clear hPc hDc hFc
  subst hw9
  have hP : va_P (dC, dI) vwCl (b_k cB cC cI cJ cZ oA rA u_103.2 ++ b_p cB cC cI cJ cZ oA rA u_103.2 ++ b_o cB cC cI cJ cZ oA rA u_103.2 ++ b_s cB cC cI cJ cZ oA rA u_103.2 ++ b_c cB cC cI cJ cZ oA rA u_103.2 ++ b_t cB cC cI cJ cZ oA rA u_103.2 ++ b_d cB cC cI cJ cZ oA rA u_103.2) H := hP'
  clear hP' hD'
  refine lv_ineg hx hb dX3_flowOp_190 ?_
  refine lv_i2s hx hb dX3_flowOp_191 rfl ?_
  obtain ⟨x_105, ex_105, hF_106⟩ := bnd_e hF_104
  clear hF_104
  refine m_top ex_105 ?_
  obtain ⟨u_107, hu_107, hF_108⟩ := Option.bind_eq_some_iff.mp hF_106
  clear hF_106
  have hPc := bx_P (bs := [b_k cB cC cI cJ cZ oA rA u_103.2, b_p cB cC cI cJ cZ oA rA u_103.2, b_o cB cC cI cJ cZ oA rA u_103.2, b_s cB cC cI cJ cZ oA rA u_103.2, b_c cB cC cI cJ cZ oA rA u_103.2, b_t cB cC cI cJ cZ oA rA u_103.2, b_d cB cC cI cJ cZ oA rA u_103.2]) (bs' := [b_k cB cC cI cJ cZ oA rA u_103.2, b_p cB cC cI cJ cZ oA rA u_103.2, b_o cB cC cI cJ cZ oA rA u_103.2, b_s cB cC cI cJ cZ oA rA u_103.2, b_c cB cC cI cJ cZ oA rA u_103.2, b_t cB cC cI cJ cZ oA rA u_103.2, b_d cB cC cI cJ cZ oA rA u_103.2]) (ws' := (b_k cB cC cI cJ cZ oA rA u_103.2 ++ b_p cB cC cI cJ cZ oA rA u_103.2 ++ b_o cB cC cI cJ cZ oA rA u_103.2 ++ b_s cB cC cI cJ cZ oA rA u_103.2 ++ b_c cB cC cI cJ cZ oA rA u_103.2 ++ b_t cB cC cI cJ cZ oA rA u_103.2 ++ b_d cB cC cI cJ cZ oA rA u_103.2)) hP fl_7 fl_7 [0, 1, 2, 3, 4, 5, 6] rfl
  have hDc := bx_D (bs := [b_k cB cC cI cJ cZ oA rA u_103.2, b_p cB cC cI cJ cZ oA rA u_103.2, b_o cB cC cI cJ cZ oA rA u_103.2, b_s cB cC cI cJ cZ oA rA u_103.2, b_c cB cC cI cJ cZ oA rA u_103.2, b_t cB cC cI cJ cZ oA rA u_103.2, b_d cB cC cI cJ cZ oA rA u_103.2]) (bs' := [b_k cB cC cI cJ cZ oA rA u_103.2, b_p cB cC cI cJ cZ oA rA u_103.2, b_o cB cC cI cJ cZ oA rA u_103.2, b_s cB cC cI cJ cZ oA rA u_103.2, b_c cB cC cI cJ cZ oA rA u_103.2, b_t cB cC cI cJ cZ oA rA u_103.2, b_d cB cC cI cJ cZ oA rA u_103.2]) (ws' := (b_k cB cC cI cJ cZ oA rA u_103.2 ++ b_p cB cC cI cJ cZ oA rA u_103.2 ++ b_o cB cC cI cJ cZ oA rA u_103.2 ++ b_s cB cC cI cJ cZ oA rA u_103.2 ++ b_c cB cC cI cJ cZ oA rA u_103.2 ++ b_t cB cC cI cJ cZ oA rA u_103.2 ++ b_d cB cC cI cJ cZ oA rA u_103.2)) (hDD u_103.2) fl_7 fl_7 [0, 1, 2, 3, 4, 5, 6] (by decide +kernel) rfl
  have hFc := bx_F (bs := [b_k cB cC cI cJ cZ oA rA u_103.2, b_p cB cC cI cJ cZ oA rA u_103.2, b_o cB cC cI cJ cZ oA rA u_103.2, b_s cB cC cI cJ cZ oA rA u_103.2, b_c cB cC cI cJ cZ oA rA u_103.2, b_t cB cC cI cJ cZ oA rA u_103.2, b_d cB cC cI cJ cZ oA rA u_103.2]) (bs' := [b_k cB cC cI cJ cZ oA rA u_103.2, b_p cB cC cI cJ cZ oA rA u_103.2, b_o cB cC cI cJ cZ oA rA u_103.2, b_s cB cC cI cJ cZ oA rA u_103.2, b_c cB cC cI cJ cZ oA rA u_103.2, b_t cB cC cI cJ cZ oA rA u_103.2, b_d cB cC cI cJ cZ oA rA u_103.2]) (wc := (b_k cB cC cI cJ cZ oA rA u_103.2 ++ b_p cB cC cI cJ cZ oA rA u_103.2 ++ b_o cB cC cI cJ cZ oA rA u_103.2 ++ b_s cB cC cI cJ cZ oA rA u_103.2 ++ b_c cB cC cI cJ cZ oA rA u_103.2 ++ b_t cB cC cI cJ cZ oA rA u_103.2 ++ b_d cB cC cI cJ cZ oA rA u_103.2)) (hDD u_103.2) hS hA fl_7 fl_7 [0, 1, 2, 3, 4, 5, 6] rfl
  refine g_ofv (wc := (b_k cB cC cI cJ cZ oA rA u_103.2 ++ b_p cB cC cI cJ cZ oA rA u_103.2 ++ b_o cB cC cI cJ cZ oA rA u_103.2 ++ b_s cB cC cI cJ cZ oA rA u_103.2 ++ b_c cB cC cI cJ cZ oA rA u_103.2 ++ b_t cB cC cI cJ cZ oA rA u_103.2 ++ b_d cB cC cI cJ cZ oA rA u_103.2)) (wr := ([] : va_W)) hP (hDD u_103.2) hS hFc (bx_ix [b_k cB cC cI cJ cZ oA rA u_103.2, b_p cB cC cI cJ cZ oA rA u_103.2, b_o cB cC cI cJ cZ oA rA u_103.2, b_s cB cC cI cJ cZ oA rA u_103.2, b_c cB cC cI cJ cZ oA rA u_103.2, b_t cB cC cI cJ cZ oA rA u_103.2, b_d cB cC cI cJ cZ oA rA u_103.2] [0, 1, 2, 3, 4, 5, 6]) (bx_ix [b_k cB cC cI cJ cZ oA rA u_103.2, b_p cB cC cI cJ cZ oA rA u_103.2, b_o cB cC cI cJ cZ oA rA u_103.2, b_s cB cC cI cJ cZ oA rA u_103.2, b_c cB cC cI cJ cZ oA rA u_103.2, b_t cB cC cI cJ cZ oA rA u_103.2, b_d cB cC cI cJ cZ oA rA u_103.2] []) (bx_C (bs := [b_k cB cC cI cJ cZ oA rA u_103.2, b_p cB cC cI cJ cZ oA rA u_103.2, b_o cB cC cI cJ cZ oA rA u_103.2, b_s cB cC cI cJ cZ oA rA u_103.2, b_c cB cC cI cJ cZ oA rA u_103.2, b_t cB cC cI cJ cZ oA rA u_103.2, b_d cB cC cI cJ cZ oA rA u_103.2]) (bs' := [b_k cB cC cI cJ cZ oA rA u_103.2, b_p cB cC cI cJ cZ oA rA u_103.2, b_o cB cC cI cJ cZ oA rA u_103.2, b_s cB cC cI cJ cZ oA rA u_103.2, b_c cB cC cI cJ cZ oA rA u_103.2, b_t cB cC cI cJ cZ oA rA u_103.2, b_d cB cC cI cJ cZ oA rA u_103.2]) (is := [0, 1, 2, 3, 4, 5, 6]) fl_7 fl_7 rfl) (bx_C (bs := [b_k cB cC cI cJ cZ oA rA u_103.2, b_p cB cC cI cJ cZ oA rA u_103.2, b_o cB cC cI cJ cZ oA rA u_103.2, b_s cB cC cI cJ cZ oA rA u_103.2, b_c cB cC cI cJ cZ oA rA u_103.2, b_t cB cC cI cJ cZ oA rA u_103.2, b_d cB cC cI cJ cZ oA rA u_103.2]) (bs' := []) (is := []) fl_7 fl_0 rfl) (bx_n (by decide +kernel)) (bx_d (by decide +kernel)) (va_runV (As := [.int x_105]) (rest := []) ⟨hx, hb, hml, hown, hts⟩ (k_X3_push l dC dI cB cC cI cJ cZ cP oA rA H.size  x_105 u_103.2 _ hu_107) (cwV 1 hts (g_gV wq_1141 wq_1142 wq_2085 wq_11 wq_1143) rfl rfl rfl (by decide +kernel) ⟨Nat.le_of_ble_eq_true rfl, Nat.le_of_ble_eq_true rfl⟩) (g_preV g_bl0 hK hPc hDc hS hE hFc g_to0 (q0 := 0) (ci := 3) rfl rfl) rfl rfl hl.1 rfl (lv_room (Nat.le_of_ble_eq_true rfl)) dX3_flowOp_192 ⟨Nat.le_of_ble_eq_true rfl, Nat.le_of_ble_eq_true rfl⟩) (fun u9 H locs hw9 hP' hD' hS => ?_)
  clear hPc hDc hFc
  have hP : va_P (dC, dI) vwCl (b_k cB cC cI cJ cZ oA rA u_107.2 ++ b_p cB cC cI cJ cZ oA rA u_107.2 ++ b_o cB cC cI cJ cZ oA rA u_107.2 ++ b_s cB cC cI cJ cZ oA rA u_107.2 ++ b_c cB cC cI cJ cZ oA rA u_107.2 ++ b_t cB cC cI cJ cZ oA rA u_107.2 ++ b_d cB cC cI cJ cZ oA rA u_107.2) H := hP'
  clear hP' hD'
  have h9 := Option.some.inj hF_108
  subst h9
  exact W.vret hx hb hr (fun t ht hW => ⟨⟨(), rfl, trivial, m_end ht hP, hDD _⟩, hS.F ht⟩) hS.2.2 dX3_flowOp_195
theorem dX6_isWithin_0 : decode cX6_isWithin 0 = .ok (.iload_n 1, 1) := by decide +kernel
theorem dX6_isWithin_1 : decode cX6_isWithin 1 = .ok (.istore_n 3, 1) := by decide +kernel
theorem dX6_isWithin_2 : decode cX6_isWithin 2 = .ok (.iconst 0, 1) := by decide +kernel
theorem dX6_isWithin_3 : decode cX6_isWithin 3 = .ok (.istore 4, 2) := by decide +kernel
theorem dX6_isWithin_5 : decode cX6_isWithin 5 = .ok (.iload 4, 2) := by decide +kernel
theorem dX6_isWithin_7 : decode cX6_isWithin 7 = .ok (.bipush 120, 2) := by decide +kernel
theorem dX6_isWithin_9 : decode cX6_isWithin 9 = .ok (.if_icmp .gt 29, 3) := by decide +kernel
theorem dX6_isWithin_12 : decode cX6_isWithin 12 = .ok (.iload_n 3, 1) := by decide +kernel
theorem dX6_isWithin_13 : decode cX6_isWithin 13 = .ok (.ifCond .eq 25, 3) := by decide +kernel
theorem dX6_isWithin_16 : decode cX6_isWithin 16 = .ok (.iload_n 3, 1) := by decide +kernel
theorem dX6_isWithin_17 : decode cX6_isWithin 17 = .ok (.iload_n 2, 1) := by decide +kernel
theorem dX6_isWithin_18 : decode cX6_isWithin 18 = .ok (.if_icmp .ne 5, 3) := by decide +kernel
theorem dX6_isWithin_21 : decode cX6_isWithin 21 = .ok (.iconst 1, 1) := by decide +kernel
theorem dX6_isWithin_22 : decode cX6_isWithin 22 = .ok (.ireturn, 1) := by decide +kernel
theorem dX6_isWithin_23 : decode cX6_isWithin 23 = .ok (.aload_n 0, 1) := by decide +kernel
theorem dX6_isWithin_24 : decode cX6_isWithin 24 = .ok (.getfield 9, 3) := by decide +kernel
theorem dX6_isWithin_27 : decode cX6_isWithin 27 = .ok (.iload_n 3, 1) := by decide +kernel
theorem dX6_isWithin_28 : decode cX6_isWithin 28 = .ok (.invokestatic 83, 3) := by decide +kernel
theorem dX6_isWithin_31 : decode cX6_isWithin 31 = .ok (.istore_n 3, 1) := by decide +kernel
theorem dX6_isWithin_32 : decode cX6_isWithin 32 = .ok (.iinc 4 1, 3) := by decide +kernel
theorem dX6_isWithin_35 : decode cX6_isWithin 35 = .ok (.goto (-30), 3) := by decide +kernel
theorem dX6_isWithin_38 : decode cX6_isWithin 38 = .ok (.iconst 0, 1) := by decide +kernel
theorem dX6_isWithin_39 : decode cX6_isWithin 39 = .ok (.ireturn, 1) := by decide +kernel
def F_X6_isWithin (p0 : Int32) (p1 : Int32) (Γ : HS) : HR :=
  loopF (fun (again_2 : (Int32 × Int32 × HS) → HR) (s_1 : Int32 × Int32 × HS) => (
    if 120 < s_1.2.1 then (
      some (0, s_1.2.2)
    ) else (
      if s_1.1 = 0 then (
        some (0, s_1.2.2)
      ) else (
        if s_1.1 = p1 then (
          some (1, s_1.2.2)
        ) else (
          bnd ((g_at 121 ((s_1.2.2 9).2.1 0) s_1.1)) fun (x_14 : Int32) =>
          bnd (s_1.2.1 + 1) fun (x_16 : Int32) =>
          again_2 (x_14, x_16, s_1.2.2)
        )
      )
    )
  )) FU (p0, 0, Γ)
set_option maxHeartbeats 4000000 in
set_option maxRecDepth 100000 in
theorem k_X6_isWithin (l : Launch) (dC : Nat → ClassId) (dI : Nat → Nat → Nat) (cB cC cI cJ cZ cP : ClassId) (oA : Nat → Nat) (rA : Nat → Nat → Nat) (sz : Nat)  (p0 : Int32) (p1 : Int32) (Γ : HS) (res : Int32 × HS) (hF : F_X6_isWithin p0 p1 Γ = some res) : Met l yX6_isWithin (g_ws yX6_isWithin cX6_isWithin 5 (some .boolean)) ({ frames := 3, cells := 0, slots := 0, locals := 81 }) (va_Pc [.ref (oA 9), .int p0, .int p1] (g_B (dC, dI) [(cB, .byte), (cC, .char), (cI, .int), (cJ, .long), (cZ, .boolean), (cP, .object "StoryHouse$Play")] sz (b_p cB cC cI cJ cZ oA rA Γ) g_0)) (va_Qi (fun r (_ : Unit) => r = res.1) (g_Bo (dC, dI) (va_A (b_p cB cC cI cJ cZ oA rA Γ) sz) (fun (_ : Unit) => (b_p cB cC cI cJ cZ oA rA res.2))) (va_A (b_p cB cC cI cJ cZ oA rA Γ) sz)) 0 0 (va_A (b_p cB cC cI cJ cZ oA rA Γ) sz) := by
  refine Met.ofW (cc := cX6_isWithin) (maxL := 5) (ret := (some .boolean)) (by decide) rfl ?_
  intro p e s m args below meth c s₁ B hml hv
  obtain ⟨rfl, hsz, hP, hK, hD0, hE, hX⟩ := hv
  have hx := B.exec
  have hb := B.bytes
  have hr := B.returns
  have hts0 := atoms_spec (ws := g_ws yX6_isWithin cX6_isWithin 5 (some .boolean)) B.pre
  have hts : ∀ w ∈ lw_good, w.before ([.ref (oA 9), .int p0, .int p1] : List Value).toArray s = true := fun w z => hts0 w (List.mem_cons_of_mem _ z)
  have hown : s.vm.findClass RX6 = some m.cls := findClass_of_methodNamed B.named
  have hlocks := B.notSynchronized
  subst hsz
  have hD1 := hD0.self (sz := s.heap.size)
  generalize hAe : va_A (b_p cB cC cI cJ cZ oA rA Γ) s.heap.size = A at hD1 hE hX ⊢
  have hA : ∀ q : Nat, s.heap.size ≤ q → A q := fun q z => by rw [← hAe]; exact Or.inr z
  have hDD : ∀ Γ : HS, va_D A (b_p cB cC cI cJ cZ oA rA Γ) := fun Γ9 => va_D_fst (ws := (b_p cB cC cI cJ cZ oA rA Γ)) (ws' := (b_p cB cC cI cJ cZ oA rA Γ9)) rfl hD1
  have hN := hE.1
  have hS : va_S A s.heap s.heap [] := va_S.rf
  have hl := lv_entry ([.ref (oA 9), .int p0, .int p1]) (n := 5) (Nat.le_of_ble_eq_true rfl)
  rw [lg_entry_eq]
  generalize (lg_sl ([.ref (oA 9), .int p0, .int p1]) ++ List.replicate (5 - (lg_sl ([.ref (oA 9), .int p0, .int p1])).length) Slot.unset).toArray = ls at hl ⊢
  have hl : lv_has ls 5 [(0, .ref (oA 9)), (1, .int p0), (2, .int p1)] := hl
  unfold F_X6_isWithin at hF
  refine lv_iload_n hx hb dX6_isWithin_0 rfl (lv_at hl 1 rfl) ?_
  refine lv_istore_n (lv' := [(3, .int p0), (0, .ref (oA 9)), (1, .int p0), (2, .int p1)]) hx hb dX6_isWithin_1 rfl hl (by decide) rfl (fun ls hl => ?_)
  refine lv_iconst (v := 0) hx hb dX6_isWithin_2 (by decide +kernel) ?_
  refine lv_istore (lv' := [(4, .int 0), (3, .int p0), (0, .ref (oA 9)), (1, .int p0), (2, .int p1)]) hx hb dX6_isWithin_3 hl (by decide) rfl (fun ls hl => ?_)
  refine loopF_ind (P := fun (s_1 : Int32 × Int32 × HS) => ∀ (H : Heap) (locs : List Loc), va_P (dC, dI) vwCl (b_p cB cC cI cJ cZ oA rA s_1.2.2) H → va_S A s.heap H locs → ∀ ls : Array Slot, lv_has ls 5 [(0, .ref (oA 9)), (2, .int p1), (3, .int s_1.1), (4, .int s_1.2.1)] → W p l e (headSpec (g_ws yX6_isWithin cX6_isWithin 5 (some .boolean)) { frames := 3, cells := 0, slots := 0, locals := 81 }).room s m ([.ref (oA 9), .int p0, .int p1] : List Value).toArray below meth c H locs 0 0 (MQ below (va_Qi (fun r (_ : Unit) => r = res.1) (g_Bo (dC, dI) A (fun (_ : Unit) => (b_p cB cC cI cJ cZ oA rA res.2))) A) ([.ref (oA 9), .int p0, .int p1] : List Value).toArray s 0 0 A) (F0 m 5 ls [])) ?_ _ _ hF _ _ hP hS ls (lv_sub hl [2, 4, 1, 0] rfl)
  intro again_2 s_1 ih_3 hF_4
  intro H locs hP hS ls hl
  refine lv_iload hx hb dX6_isWithin_5 (lv_at hl 3 rfl) ?_
  refine lv_bipush (v := 120) hx hb dX6_isWithin_7 (by decide +kernel) ?_
  refine lv_icmp_gt (tgt := 38) hx hb dX6_isWithin_9 (by decide) (fun c_5 => ?_) (fun c_5 => ?_)
  · have hF_6 := ipos c_5 hF_4
    clear hF_4
    refine lv_iconst (v := 0) hx hb dX6_isWithin_38 (by decide +kernel) ?_
    have h9 := Option.some.inj hF_6
    subst h9
    exact W.zret (v := 0) hx hb hr (by decide +kernel) (fun t ht hW => ⟨⟨0, (), rfl, rfl, m_end ht hP, hDD _⟩, hS.F ht⟩) hS.2.2 dX6_isWithin_39
  · have hF_7 := ineg c_5 hF_4
    clear hF_4
    refine lv_iload_n hx hb dX6_isWithin_12 rfl (lv_at hl 2 rfl) ?_
    refine lv_if_eq (tgt := 38) hx hb dX6_isWithin_13 (by decide) (fun c_8 => ?_) (fun c_8 => ?_)
    · have hF_9 := ipos c_8 hF_7
      clear hF_7
      refine lv_iconst (v := 0) hx hb dX6_isWithin_38 (by decide +kernel) ?_
      have h9 := Option.some.inj hF_9
      subst h9
      exact W.zret (v := 0) hx hb hr (by decide +kernel) (fun t ht hW => ⟨⟨0, (), rfl, rfl, m_end ht hP, hDD _⟩, hS.F ht⟩) hS.2.2 dX6_isWithin_39
    · have hF_10 := ineg c_8 hF_7
      clear hF_7
      refine lv_iload_n hx hb dX6_isWithin_16 rfl (lv_at hl 2 rfl) ?_
      refine lv_iload_n hx hb dX6_isWithin_17 rfl (lv_at hl 1 rfl) ?_
      refine lv_icmp_ne (tgt := 23) hx hb dX6_isWithin_18 (by decide) (fun c_11 => ?_) (fun c_11 => ?_)
      · have hF_13 := ineg c_11 hF_10
        clear hF_10
        refine lv_aload_n hx hb dX6_isWithin_23 rfl (lv_at hl 0 rfl) ?_
        refine va_get (D := (dC, dI)) (ci := 6) (v := .ref (rA 9 0)) (C := RX6) (T := TX6) (N := 12) hx hb hts ii_X6 hown hK hP 0 rfl rfl 0 (by decide) (hts (.fieldLink RX6 9 "StoryHouse$Play" "parents" "[I") wq_217) (fun _ h9 => h9) rfl dX6_isWithin_24 ?_
        refine lv_iload_n hx hb dX6_isWithin_27 rfl (lv_at hl 2 rfl) ?_
        have hq9 : ((b_p cB cC cI cJ cZ oA rA s_1.2.2))[1]? = some (rA 9 0, .inl (cI, 121, .inl ((s_1.2.2 9).2.1 0))) := rfl
        have hPc := hP.sub (ws' := [(rA 9 0, .inl (cI, 121, .inl ((s_1.2.2 9).2.1 0)))]) [1] (pk_fm (er_C hq9))
        have hDc := (hDD s_1.2.2).sub (ws' := [(rA 9 0, .inl (cI, 121, .inl ((s_1.2.2 9).2.1 0)))]) [1] (by decide +kernel) (er_C hq9)
        have hFc := va_free (wc := [(rA 9 0, .inl (cI, 121, .inl ((s_1.2.2 9).2.1 0)))]) (hDD s_1.2.2) hS hA [1] (er_C hq9)
        refine g_ofi (wc := [(rA 9 0, .inl (cI, 121, .inl ((s_1.2.2 9).2.1 0)))]) (wr := (((b_p cB cC cI cJ cZ oA rA s_1.2.2)).eraseIdx 1)) hP (hDD s_1.2.2) hS hFc [1] ((List.range ((b_p cB cC cI cJ cZ oA rA s_1.2.2)).length).eraseIdx 1) (er_C hq9) er_R er_n er_d (va_runSN (As := [.ref (rA 9 0), .int s_1.1]) (rest := []) ⟨hx, hb, hml, hown, hts⟩ (c_X11_at l dC dI cB cC cI cJ cZ cP H.size (rA 9 0) s_1.1 121 ((s_1.2.2 9).2.1 0) (by decide)) ⟨va_cnB 2 hts (g_gA wq_407) rfl rfl rfl (nw_28 hN) (hts (.initialized RX11) wq_1) (by decide +kernel) ⟨Nat.le_of_ble_eq_true rfl, Nat.le_of_ble_eq_true rfl⟩, (hts (.static yX11_at) wq_406), trivial⟩ (g_preS g_bl0 hK hPc hDc hS hE hFc g_to0) rfl rfl hl.1 rfl (lv_room (Nat.le_of_ble_eq_true rfl)) dX6_isWithin_28 ⟨Nat.le_of_ble_eq_true rfl, Nat.le_of_ble_eq_true rfl⟩) (fun r9 u9 H locs hw9 hP' hD' hS => ?_)
        clear hPc hDc hFc hD'
        have hP : va_P (dC, dI) vwCl (b_p cB cC cI cJ cZ oA rA s_1.2.2) H := er_I hP' hq9
        clear hP' hq9
        subst hw9
        obtain ⟨x_14, ex_14, hF_15⟩ := bnd_e hF_13
        clear hF_13
        refine m_top ex_14 ?_
        refine lv_istore_n (lv' := [(3, .int x_14), (0, .ref (oA 9)), (2, .int p1), (4, .int s_1.2.1)]) hx hb dX6_isWithin_31 rfl hl (by decide) rfl (fun ls hl => ?_)
        obtain ⟨x_16, ex_16, hF_17⟩ := bnd_e hF_15
        clear hF_15
        refine lv_iinc (v := x_16) (lv' := [(4, .int x_16), (3, .int x_14), (0, .ref (oA 9)), (2, .int p1)]) hx hb dX6_isWithin_32 hl (k := 3) rfl (by rw [ex_16]; rfl) (by decide) rfl (fun ls hl => ?_)
        refine lv_goto (tgt := 5) hx hb dX6_isWithin_35 (by decide) ?_
        exact ih_3 (x_14, x_16, s_1.2.2) hF_17 _ _ hP hS ls (lv_sub hl [2, 3, 1, 0] rfl)
      · have hF_12 := ipos c_11 hF_10
        clear hF_10
        refine lv_iconst (v := 1) hx hb dX6_isWithin_21 (by decide +kernel) ?_
        have h9 := Option.some.inj hF_12
        subst h9
        exact W.zret (v := 1) hx hb hr (by decide +kernel) (fun t ht hW => ⟨⟨1, (), rfl, rfl, m_end ht hP, hDD _⟩, hS.F ht⟩) hS.2.2 dX6_isWithin_22
