/-! methods of the class: what each does is its function -/
theorem dX3_objectOp_0 : decode cX3_objectOp 0 = .ok (.iload_n 1, 1) := by decide +kernel
theorem dX3_objectOp_1 : decode cX3_objectOp 1 = .ok (.bipush 23, 2) := by decide +kernel
theorem dX3_objectOp_3 : decode cX3_objectOp 3 = .ok (.if_icmp .ne 10, 3) := by decide +kernel
theorem dX3_objectOp_6 : decode cX3_objectOp 6 = .ok (.aload_n 0, 1) := by decide +kernel
theorem dX3_objectOp_7 : decode cX3_objectOp 7 = .ok (.invokevirtual 102, 3) := by decide +kernel
theorem dX3_objectOp_10 : decode cX3_objectOp 10 = .ok (.goto 4, 3) := by decide +kernel
theorem dX3_objectOp_13 : decode cX3_objectOp 13 = .ok (.iconst 0, 1) := by decide +kernel
theorem dX3_objectOp_14 : decode cX3_objectOp 14 = .ok (.istore_n 2, 1) := by decide +kernel
theorem dX3_objectOp_15 : decode cX3_objectOp 15 = .ok (.aload_n 0, 1) := by decide +kernel
theorem dX3_objectOp_16 : decode cX3_objectOp 16 = .ok (.invokevirtual 102, 3) := by decide +kernel
theorem dX3_objectOp_19 : decode cX3_objectOp 19 = .ok (.istore_n 3, 1) := by decide +kernel
theorem dX3_objectOp_20 : decode cX3_objectOp 20 = .ok (.iload_n 1, 1) := by decide +kernel
theorem dX3_objectOp_21 : decode cX3_objectOp 21 = .ok (.bipush 22, 2) := by decide +kernel
theorem dX3_objectOp_23 : decode cX3_objectOp 23 = .ok (.if_icmp .ne 23, 3) := by decide +kernel
theorem dX3_objectOp_26 : decode cX3_objectOp 26 = .ok (.iload_n 3, 1) := by decide +kernel
theorem dX3_objectOp_27 : decode cX3_objectOp 27 = .ok (.iconst 1, 1) := by decide +kernel
theorem dX3_objectOp_28 : decode cX3_objectOp 28 = .ok (.if_icmp .eq 14, 3) := by decide +kernel
theorem dX3_objectOp_31 : decode cX3_objectOp 31 = .ok (.aload_n 0, 1) := by decide +kernel
theorem dX3_objectOp_32 : decode cX3_objectOp 32 = .ok (.getfield 52, 3) := by decide +kernel
theorem dX3_objectOp_35 : decode cX3_objectOp 35 = .ok (.iload_n 3, 1) := by decide +kernel
theorem dX3_objectOp_36 : decode cX3_objectOp 36 = .ok (.invokevirtual 202, 3) := by decide +kernel
theorem dX3_objectOp_39 : decode cX3_objectOp 39 = .ok (.ifCond .eq 7, 3) := by decide +kernel
theorem dX3_objectOp_42 : decode cX3_objectOp 42 = .ok (.iconst 1, 1) := by decide +kernel
theorem dX3_objectOp_43 : decode cX3_objectOp 43 = .ok (.goto 4, 3) := by decide +kernel
theorem dX3_objectOp_46 : decode cX3_objectOp 46 = .ok (.iconst 0, 1) := by decide +kernel
theorem dX3_objectOp_47 : decode cX3_objectOp 47 = .ok (.istore 4, 2) := by decide +kernel
theorem dX3_objectOp_49 : decode cX3_objectOp 49 = .ok (.aload_n 0, 1) := by decide +kernel
theorem dX3_objectOp_50 : decode cX3_objectOp 50 = .ok (.getfield 52, 3) := by decide +kernel
theorem dX3_objectOp_53 : decode cX3_objectOp 53 = .ok (.iload_n 3, 1) := by decide +kernel
theorem dX3_objectOp_54 : decode cX3_objectOp 54 = .ok (.invokevirtual 171, 3) := by decide +kernel
theorem dX3_objectOp_57 : decode cX3_objectOp 57 = .ok (.ifCond .eq 8, 3) := by decide +kernel
theorem dX3_objectOp_60 : decode cX3_objectOp 60 = .ok (.iload 4, 2) := by decide +kernel
theorem dX3_objectOp_62 : decode cX3_objectOp 62 = .ok (.ifCond .eq 9, 3) := by decide +kernel
theorem dX3_objectOp_65 : decode cX3_objectOp 65 = .ok (.aload_n 0, 1) := by decide +kernel
theorem dX3_objectOp_66 : decode cX3_objectOp 66 = .ok (.iconst 2, 1) := by decide +kernel
theorem dX3_objectOp_67 : decode cX3_objectOp 67 = .ok (.invokevirtual 106, 3) := by decide +kernel
theorem dX3_objectOp_70 : decode cX3_objectOp 70 = .ok (.return_, 1) := by decide +kernel
theorem dX3_objectOp_71 : decode cX3_objectOp 71 = .ok (.iload_n 1, 1) := by decide +kernel
theorem dX3_objectOp_72 : decode cX3_objectOp 72 = .ok (.tableswitch 129 21 26 #[121, 129, 40, 67, 85, 103], 40) := by decide +kernel
theorem dX3_objectOp_112 : decode cX3_objectOp 112 = .ok (.aload_n 0, 1) := by decide +kernel
theorem dX3_objectOp_113 : decode cX3_objectOp 113 = .ok (.aload_n 0, 1) := by decide +kernel
theorem dX3_objectOp_114 : decode cX3_objectOp 114 = .ok (.getfield 29, 3) := by decide +kernel
theorem dX3_objectOp_117 : decode cX3_objectOp 117 = .ok (.getfield 211, 3) := by decide +kernel
theorem dX3_objectOp_120 : decode cX3_objectOp 120 = .ok (.iload_n 3, 1) := by decide +kernel
theorem dX3_objectOp_121 : decode cX3_objectOp 121 = .ok (.invokestatic 98, 3) := by decide +kernel
theorem dX3_objectOp_124 : decode cX3_objectOp 124 = .ok (.iload_n 2, 1) := by decide +kernel
theorem dX3_objectOp_125 : decode cX3_objectOp 125 = .ok (.if_icmp .ne 7, 3) := by decide +kernel
theorem dX3_objectOp_128 : decode cX3_objectOp 128 = .ok (.iconst 1, 1) := by decide +kernel
theorem dX3_objectOp_129 : decode cX3_objectOp 129 = .ok (.goto 4, 3) := by decide +kernel
theorem dX3_objectOp_132 : decode cX3_objectOp 132 = .ok (.iconst 0, 1) := by decide +kernel
theorem dX3_objectOp_133 : decode cX3_objectOp 133 = .ok (.invokevirtual 113, 3) := by decide +kernel
theorem dX3_objectOp_136 : decode cX3_objectOp 136 = .ok (.goto 73, 3) := by decide +kernel
theorem dX3_objectOp_139 : decode cX3_objectOp 139 = .ok (.aload_n 0, 1) := by decide +kernel
theorem dX3_objectOp_140 : decode cX3_objectOp 140 = .ok (.aload_n 0, 1) := by decide +kernel
theorem dX3_objectOp_141 : decode cX3_objectOp 141 = .ok (.getfield 29, 3) := by decide +kernel
theorem dX3_objectOp_144 : decode cX3_objectOp 144 = .ok (.getfield 211, 3) := by decide +kernel
theorem dX3_objectOp_147 : decode cX3_objectOp 147 = .ok (.iload_n 3, 1) := by decide +kernel
theorem dX3_objectOp_148 : decode cX3_objectOp 148 = .ok (.invokestatic 98, 3) := by decide +kernel
theorem dX3_objectOp_151 : decode cX3_objectOp 151 = .ok (.invokevirtual 113, 3) := by decide +kernel
theorem dX3_objectOp_154 : decode cX3_objectOp 154 = .ok (.goto 55, 3) := by decide +kernel
theorem dX3_objectOp_157 : decode cX3_objectOp 157 = .ok (.aload_n 0, 1) := by decide +kernel
theorem dX3_objectOp_158 : decode cX3_objectOp 158 = .ok (.aload_n 0, 1) := by decide +kernel
theorem dX3_objectOp_159 : decode cX3_objectOp 159 = .ok (.getfield 29, 3) := by decide +kernel
theorem dX3_objectOp_162 : decode cX3_objectOp 162 = .ok (.getfield 214, 3) := by decide +kernel
theorem dX3_objectOp_165 : decode cX3_objectOp 165 = .ok (.iload_n 3, 1) := by decide +kernel
theorem dX3_objectOp_166 : decode cX3_objectOp 166 = .ok (.invokestatic 98, 3) := by decide +kernel
theorem dX3_objectOp_169 : decode cX3_objectOp 169 = .ok (.invokevirtual 113, 3) := by decide +kernel
theorem dX3_objectOp_172 : decode cX3_objectOp 172 = .ok (.goto 37, 3) := by decide +kernel
theorem dX3_objectOp_175 : decode cX3_objectOp 175 = .ok (.aload_n 0, 1) := by decide +kernel
theorem dX3_objectOp_176 : decode cX3_objectOp 176 = .ok (.aload_n 0, 1) := by decide +kernel
theorem dX3_objectOp_177 : decode cX3_objectOp 177 = .ok (.getfield 29, 3) := by decide +kernel
theorem dX3_objectOp_180 : decode cX3_objectOp 180 = .ok (.getfield 217, 3) := by decide +kernel
theorem dX3_objectOp_183 : decode cX3_objectOp 183 = .ok (.iload_n 3, 1) := by decide +kernel
theorem dX3_objectOp_184 : decode cX3_objectOp 184 = .ok (.invokestatic 98, 3) := by decide +kernel
theorem dX3_objectOp_187 : decode cX3_objectOp 187 = .ok (.invokevirtual 113, 3) := by decide +kernel
theorem dX3_objectOp_190 : decode cX3_objectOp 190 = .ok (.goto 19, 3) := by decide +kernel
theorem dX3_objectOp_193 : decode cX3_objectOp 193 = .ok (.aload_n 0, 1) := by decide +kernel
theorem dX3_objectOp_194 : decode cX3_objectOp 194 = .ok (.iload_n 3, 1) := by decide +kernel
theorem dX3_objectOp_195 : decode cX3_objectOp 195 = .ok (.invokevirtual 220, 3) := by decide +kernel
theorem dX3_objectOp_198 : decode cX3_objectOp 198 = .ok (.goto 11, 3) := by decide +kernel
theorem dX3_objectOp_201 : decode cX3_objectOp 201 = .ok (.aload_n 0, 1) := by decide +kernel
theorem dX3_objectOp_202 : decode cX3_objectOp 202 = .ok (.getfield 29, 3) := by decide +kernel
theorem dX3_objectOp_205 : decode cX3_objectOp 205 = .ok (.iload_n 3, 1) := by decide +kernel
theorem dX3_objectOp_206 : decode cX3_objectOp 206 = .ok (.invokevirtual 223, 3) := by decide +kernel
theorem dX3_objectOp_209 : decode cX3_objectOp 209 = .ok (.return_, 1) := by decide +kernel
def F_X3_objectOp (p0 : Int32) (Γ : HS) : HR :=
  bnd (fun (t_1 : Int32) (σ_2 : HS) => (
    (F_X3_pop σ_2).bind fun u_6 =>
    bnd (fun (t_8 : Int32) (σ_9 : HS) => (
      (F_X7_isObject u_6.1 σ_9).bind fun u_13 =>
      bnd (mrg (fun j => j == 4 || j == 5 || j == 6 || j == 7) σ_9 u_13.2) fun σ_15 =>
      bnd (fun  (σ_17 : HS) => (
        (F_X3_stop 2 σ_17).bind fun u_21 =>
        some (0, u_21.2)
      ) : HS → HR) fun j_18 =>
      if u_13.1 = 0 then (
        j_18  σ_15
      ) else (
        if t_8 = 0 then (
          if p0 = 21 then (
            (F_X3_sayName u_6.1 σ_15).bind fun u_30 =>
            some (0, u_30.2)
          ) else
          if p0 = 23 then (
            bnd ((g_at 121 ((σ_15 9).2.1 0) u_6.1)) fun (x_35 : Int32) =>
            bnd (fun (t_37 : Int32) (σ_38 : HS) => (
              (F_X3_push t_37 σ_38).bind fun u_42 =>
              some (0, u_42.2)
            ) : Int32 → HS → HR) fun j_39 =>
            if x_35 = t_1 then (
              j_39 1 σ_15
            ) else (
              j_39 0 σ_15
            )
          ) else
          if p0 = 24 then (
            bnd ((g_at 121 ((σ_15 9).2.1 0) u_6.1)) fun (x_50 : Int32) =>
            (F_X3_push x_50 σ_15).bind fun u_52 =>
            some (0, u_52.2)
          ) else
          if p0 = 25 then (
            bnd ((g_at 121 ((σ_15 9).2.1 1) u_6.1)) fun (x_57 : Int32) =>
            (F_X3_push x_57 σ_15).bind fun u_59 =>
            some (0, u_59.2)
          ) else
          if p0 = 26 then (
            bnd ((g_at 121 ((σ_15 9).2.1 2) u_6.1)) fun (x_64 : Int32) =>
            (F_X3_push x_64 σ_15).bind fun u_66 =>
            some (0, u_66.2)
          ) else
          (
            (F_X6_takeOut u_6.1 σ_15).bind fun u_69 =>
            bnd (mrg (fun j => j == 9) σ_15 u_69.2) fun σ_71 =>
            some (0, σ_71)
          )
        ) else (
          j_18  σ_15
        )
      )
    ) : Int32 → HS → HR) fun j_10 =>
    bnd (fun  (σ_74 : HS) => (
      j_10 0 σ_74
    ) : HS → HR) fun j_75 =>
    if p0 = 22 then (
      bnd (fun  (σ_80 : HS) => (
        j_10 1 σ_80
      ) : HS → HR) fun j_81 =>
      if u_6.1 = 1 then (
        j_81  u_6.2
      ) else (
        (F_X7_isRoom u_6.1 u_6.2).bind fun u_87 =>
        bnd (mrg (fun j => j == 4 || j == 5 || j == 6 || j == 7) u_6.2 u_87.2) fun σ_89 =>
        if u_87.1 = 0 then (
          j_75  σ_89
        ) else (
          j_81  σ_89
        )
      )
    ) else (
      j_75  u_6.2
    )
  ) : Int32 → HS → HR) fun j_3 =>
  if p0 = 23 then (
    (F_X3_pop Γ).bind fun u_97 =>
    j_3 u_97.1 u_97.2
  ) else (
    j_3 0 Γ
  )
set_option maxHeartbeats 4000000 in
set_option maxRecDepth 100000 in
theorem k_X3_objectOp (l : Launch) (dC : Nat → ClassId) (dI : Nat → Nat → Nat) (cB cC cI cJ cZ cP : ClassId) (oA : Nat → Nat) (rA : Nat → Nat → Nat) (sz : Nat)  (p0 : Int32) (Γ : HS) (res : Int32 × HS) (hF : F_X3_objectOp p0 Γ = some res) : Met l yX3_objectOp (g_ws yX3_objectOp cX3_objectOp 5 none) ({ frames := 8, cells := 0, slots := 0, locals := 197 }) (va_Pc [.ref (oA 10), .int p0] (g_B (dC, dI) [(cB, .byte), (cC, .char), (cI, .int), (cJ, .long), (cZ, .boolean), (cP, .object "StoryHouse$Play")] sz (b_k cB cC cI cJ cZ oA rA Γ ++ b_p cB cC cI cJ cZ oA rA Γ ++ b_o cB cC cI cJ cZ oA rA Γ ++ b_s cB cC cI cJ cZ oA rA Γ ++ b_c cB cC cI cJ cZ oA rA Γ ++ b_t cB cC cI cJ cZ oA rA Γ ++ b_d cB cC cI cJ cZ oA rA Γ) g_0)) (va_Qv (fun (_ : Unit) => True) (g_Bo (dC, dI) (va_A (b_k cB cC cI cJ cZ oA rA Γ ++ b_p cB cC cI cJ cZ oA rA Γ ++ b_o cB cC cI cJ cZ oA rA Γ ++ b_s cB cC cI cJ cZ oA rA Γ ++ b_c cB cC cI cJ cZ oA rA Γ ++ b_t cB cC cI cJ cZ oA rA Γ ++ b_d cB cC cI cJ cZ oA rA Γ) sz) (fun (_ : Unit) => (b_k cB cC cI cJ cZ oA rA res.2 ++ b_p cB cC cI cJ cZ oA rA res.2 ++ b_o cB cC cI cJ cZ oA rA res.2 ++ b_s cB cC cI cJ cZ oA rA res.2 ++ b_c cB cC cI cJ cZ oA rA res.2 ++ b_t cB cC cI cJ cZ oA rA res.2 ++ b_d cB cC cI cJ cZ oA rA res.2))) (va_A (b_k cB cC cI cJ cZ oA rA Γ ++ b_p cB cC cI cJ cZ oA rA Γ ++ b_o cB cC cI cJ cZ oA rA Γ ++ b_s cB cC cI cJ cZ oA rA Γ ++ b_c cB cC cI cJ cZ oA rA Γ ++ b_t cB cC cI cJ cZ oA rA Γ ++ b_d cB cC cI cJ cZ oA rA Γ) sz)) 0 0 (va_A (b_k cB cC cI cJ cZ oA rA Γ ++ b_p cB cC cI cJ cZ oA rA Γ ++ b_o cB cC cI cJ cZ oA rA Γ ++ b_s cB cC cI cJ cZ oA rA Γ ++ b_c cB cC cI cJ cZ oA rA Γ ++ b_t cB cC cI cJ cZ oA rA Γ ++ b_d cB cC cI cJ cZ oA rA Γ) sz) := by
  refine Met.ofW (cc := cX3_objectOp) (maxL := 5) (ret := none) (by decide) rfl ?_
  intro p e s m args below meth c s₁ B hml hv
  obtain ⟨rfl, hsz, hP, hK, hD0, hE, hX⟩ := hv
  have hx := B.exec
  have hb := B.bytes
  have hr := B.returns
  have hts0 := atoms_spec (ws := g_ws yX3_objectOp cX3_objectOp 5 none) B.pre
  have hts : ∀ w ∈ lw_good, w.before ([.ref (oA 10), .int p0] : List Value).toArray s = true := fun w z => hts0 w (List.mem_cons_of_mem _ z)
  have hown : s.vm.findClass RX3 = some m.cls := findClass_of_methodNamed B.named
  have hlocks := B.notSynchronized
  subst hsz
  have hD1 := hD0.self (sz := s.heap.size)
  generalize hAe : va_A (b_k cB cC cI cJ cZ oA rA Γ ++ b_p cB cC cI cJ cZ oA rA Γ ++ b_o cB cC cI cJ cZ oA rA Γ ++ b_s cB cC cI cJ cZ oA rA Γ ++ b_c cB cC cI cJ cZ oA rA Γ ++ b_t cB cC cI cJ cZ oA rA Γ ++ b_d cB cC cI cJ cZ oA rA Γ) s.heap.size = A at hD1 hE hX ⊢
  have hA : ∀ q : Nat, s.heap.size ≤ q → A q := fun q z => by rw [← hAe]; exact Or.inr z
  have hDD : ∀ Γ : HS, va_D A (b_k cB cC cI cJ cZ oA rA Γ ++ b_p cB cC cI cJ cZ oA rA Γ ++ b_o cB cC cI cJ cZ oA rA Γ ++ b_s cB cC cI cJ cZ oA rA Γ ++ b_c cB cC cI cJ cZ oA rA Γ ++ b_t cB cC cI cJ cZ oA rA Γ ++ b_d cB cC cI cJ cZ oA rA Γ) := fun Γ9 => va_D_fst (ws := (b_k cB cC cI cJ cZ oA rA Γ ++ b_p cB cC cI cJ cZ oA rA Γ ++ b_o cB cC cI cJ cZ oA rA Γ ++ b_s cB cC cI cJ cZ oA rA Γ ++ b_c cB cC cI cJ cZ oA rA Γ ++ b_t cB cC cI cJ cZ oA rA Γ ++ b_d cB cC cI cJ cZ oA rA Γ)) (ws' := (b_k cB cC cI cJ cZ oA rA Γ9 ++ b_p cB cC cI cJ cZ oA rA Γ9 ++ b_o cB cC cI cJ cZ oA rA Γ9 ++ b_s cB cC cI cJ cZ oA rA Γ9 ++ b_c cB cC cI cJ cZ oA rA Γ9 ++ b_t cB cC cI cJ cZ oA rA Γ9 ++ b_d cB cC cI cJ cZ oA rA Γ9)) rfl hD1
  have hN := hE.1
  have hS : va_S A s.heap s.heap [] := va_S.rf
  have hl := lv_entry ([.ref (oA 10), .int p0]) (n := 5) (Nat.le_of_ble_eq_true rfl)
  rw [lg_entry_eq]
  generalize (lg_sl ([.ref (oA 10), .int p0]) ++ List.replicate (5 - (lg_sl ([.ref (oA 10), .int p0])).length) Slot.unset).toArray = ls at hl ⊢
  have hl : lv_has ls 5 [(0, .ref (oA 10)), (1, .int p0)] := hl
  unfold F_X3_objectOp at hF
  refine lv_iload_n hx hb dX3_objectOp_0 rfl (lv_at hl 1 rfl) ?_
  refine lv_bipush (v := 23) hx hb dX3_objectOp_1 (by decide +kernel) ?_
  obtain ⟨j_3, ej_3, hF_4⟩ := bnd_e hF
  clear hF
  have Jj_3 : ∀ (t_1 : Int32) (σ_2 : HS), j_3 t_1 σ_2 = some res → ∀ (H : Heap) (locs : List Loc), va_P (dC, dI) vwCl (b_k cB cC cI cJ cZ oA rA σ_2 ++ b_p cB cC cI cJ cZ oA rA σ_2 ++ b_o cB cC cI cJ cZ oA rA σ_2 ++ b_s cB cC cI cJ cZ oA rA σ_2 ++ b_c cB cC cI cJ cZ oA rA σ_2 ++ b_t cB cC cI cJ cZ oA rA σ_2 ++ b_d cB cC cI cJ cZ oA rA σ_2) H → va_S A s.heap H locs → ∀ ls : Array Slot, lv_has ls 5 [(0, .ref (oA 10)), (1, .int p0)] → W p l e (headSpec (g_ws yX3_objectOp cX3_objectOp 5 none) { frames := 8, cells := 0, slots := 0, locals := 197 }).room s m ([.ref (oA 10), .int p0] : List Value).toArray below meth c H locs 0 0 (MQ below (va_Qv (fun (_ : Unit) => True) (g_Bo (dC, dI) A (fun (_ : Unit) => (b_k cB cC cI cJ cZ oA rA res.2 ++ b_p cB cC cI cJ cZ oA rA res.2 ++ b_o cB cC cI cJ cZ oA rA res.2 ++ b_s cB cC cI cJ cZ oA rA res.2 ++ b_c cB cC cI cJ cZ oA rA res.2 ++ b_t cB cC cI cJ cZ oA rA res.2 ++ b_d cB cC cI cJ cZ oA rA res.2))) A) ([.ref (oA 10), .int p0] : List Value).toArray s 0 0 A) (F0 m 14 ls [.int t_1]) := by
    intro t_1 σ_2 hF0 H locs hP hS ls hl
    subst ej_3
    have hF_5 := hF0
    clear hF0
    refine lv_istore_n (lv' := [(2, .int t_1), (0, .ref (oA 10)), (1, .int p0)]) hx hb dX3_objectOp_14 rfl hl (by decide) rfl (fun ls hl => ?_)
    refine lv_aload_n hx hb dX3_objectOp_15 rfl (lv_at hl 1 rfl) ?_
    obtain ⟨u_6, hu_6, hF_7⟩ := Option.bind_eq_some_iff.mp hF_5
    clear hF_5
    have hPc := bx_P (bs := [b_k cB cC cI cJ cZ oA rA σ_2, b_p cB cC cI cJ cZ oA rA σ_2, b_o cB cC cI cJ cZ oA rA σ_2, b_s cB cC cI cJ cZ oA rA σ_2, b_c cB cC cI cJ cZ oA rA σ_2, b_t cB cC cI cJ cZ oA rA σ_2, b_d cB cC cI cJ cZ oA rA σ_2]) (bs' := [b_k cB cC cI cJ cZ oA rA σ_2, b_p cB cC cI cJ cZ oA rA σ_2, b_o cB cC cI cJ cZ oA rA σ_2, b_s cB cC cI cJ cZ oA rA σ_2, b_c cB cC cI cJ cZ oA rA σ_2, b_t cB cC cI cJ cZ oA rA σ_2, b_d cB cC cI cJ cZ oA rA σ_2]) (ws' := (b_k cB cC cI cJ cZ oA rA σ_2 ++ b_p cB cC cI cJ cZ oA rA σ_2 ++ b_o cB cC cI cJ cZ oA rA σ_2 ++ b_s cB cC cI cJ cZ oA rA σ_2 ++ b_c cB cC cI cJ cZ oA rA σ_2 ++ b_t cB cC cI cJ cZ oA rA σ_2 ++ b_d cB cC cI cJ cZ oA rA σ_2)) hP fl_7 fl_7 [0, 1, 2, 3, 4, 5, 6] rfl
    have hDc := bx_D (bs := [b_k cB cC cI cJ cZ oA rA σ_2, b_p cB cC cI cJ cZ oA rA σ_2, b_o cB cC cI cJ cZ oA rA σ_2, b_s cB cC cI cJ cZ oA rA σ_2, b_c cB cC cI cJ cZ oA rA σ_2, b_t cB cC cI cJ cZ oA rA σ_2, b_d cB cC cI cJ cZ oA rA σ_2]) (bs' := [b_k cB cC cI cJ cZ oA rA σ_2, b_p cB cC cI cJ cZ oA rA σ_2, b_o cB cC cI cJ cZ oA rA σ_2, b_s cB cC cI cJ cZ oA rA σ_2, b_c cB cC cI cJ cZ oA rA σ_2, b_t cB cC cI cJ cZ oA rA σ_2, b_d cB cC cI cJ cZ oA rA σ_2]) (ws' := (b_k cB cC cI cJ cZ oA rA σ_2 ++ b_p cB cC cI cJ cZ oA rA σ_2 ++ b_o cB cC cI cJ cZ oA rA σ_2 ++ b_s cB cC cI cJ cZ oA rA σ_2 ++ b_c cB cC cI cJ cZ oA rA σ_2 ++ b_t cB cC cI cJ cZ oA rA σ_2 ++ b_d cB cC cI cJ cZ oA rA σ_2)) (hDD σ_2) fl_7 fl_7 [0, 1, 2, 3, 4, 5, 6] (by decide +kernel) rfl
    have hFc := bx_F (bs := [b_k cB cC cI cJ cZ oA rA σ_2, b_p cB cC cI cJ cZ oA rA σ_2, b_o cB cC cI cJ cZ oA rA σ_2, b_s cB cC cI cJ cZ oA rA σ_2, b_c cB cC cI cJ cZ oA rA σ_2, b_t cB cC cI cJ cZ oA rA σ_2, b_d cB cC cI cJ cZ oA rA σ_2]) (bs' := [b_k cB cC cI cJ cZ oA rA σ_2, b_p cB cC cI cJ cZ oA rA σ_2, b_o cB cC cI cJ cZ oA rA σ_2, b_s cB cC cI cJ cZ oA rA σ_2, b_c cB cC cI cJ cZ oA rA σ_2, b_t cB cC cI cJ cZ oA rA σ_2, b_d cB cC cI cJ cZ oA rA σ_2]) (wc := (b_k cB cC cI cJ cZ oA rA σ_2 ++ b_p cB cC cI cJ cZ oA rA σ_2 ++ b_o cB cC cI cJ cZ oA rA σ_2 ++ b_s cB cC cI cJ cZ oA rA σ_2 ++ b_c cB cC cI cJ cZ oA rA σ_2 ++ b_t cB cC cI cJ cZ oA rA σ_2 ++ b_d cB cC cI cJ cZ oA rA σ_2)) (hDD σ_2) hS hA fl_7 fl_7 [0, 1, 2, 3, 4, 5, 6] rfl
    refine g_ofi (wc := (b_k cB cC cI cJ cZ oA rA σ_2 ++ b_p cB cC cI cJ cZ oA rA σ_2 ++ b_o cB cC cI cJ cZ oA rA σ_2 ++ b_s cB cC cI cJ cZ oA rA σ_2 ++ b_c cB cC cI cJ cZ oA rA σ_2 ++ b_t cB cC cI cJ cZ oA rA σ_2 ++ b_d cB cC cI cJ cZ oA rA σ_2)) (wr := ([] : va_W)) hP (hDD σ_2) hS hFc (bx_ix [b_k cB cC cI cJ cZ oA rA σ_2, b_p cB cC cI cJ cZ oA rA σ_2, b_o cB cC cI cJ cZ oA rA σ_2, b_s cB cC cI cJ cZ oA rA σ_2, b_c cB cC cI cJ cZ oA rA σ_2, b_t cB cC cI cJ cZ oA rA σ_2, b_d cB cC cI cJ cZ oA rA σ_2] [0, 1, 2, 3, 4, 5, 6]) (bx_ix [b_k cB cC cI cJ cZ oA rA σ_2, b_p cB cC cI cJ cZ oA rA σ_2, b_o cB cC cI cJ cZ oA rA σ_2, b_s cB cC cI cJ cZ oA rA σ_2, b_c cB cC cI cJ cZ oA rA σ_2, b_t cB cC cI cJ cZ oA rA σ_2, b_d cB cC cI cJ cZ oA rA σ_2] []) (bx_C (bs := [b_k cB cC cI cJ cZ oA rA σ_2, b_p cB cC cI cJ cZ oA rA σ_2, b_o cB cC cI cJ cZ oA rA σ_2, b_s cB cC cI cJ cZ oA rA σ_2, b_c cB cC cI cJ cZ oA rA σ_2, b_t cB cC cI cJ cZ oA rA σ_2, b_d cB cC cI cJ cZ oA rA σ_2]) (bs' := [b_k cB cC cI cJ cZ oA rA σ_2, b_p cB cC cI cJ cZ oA rA σ_2, b_o cB cC cI cJ cZ oA rA σ_2, b_s cB cC cI cJ cZ oA rA σ_2, b_c cB cC cI cJ cZ oA rA σ_2, b_t cB cC cI cJ cZ oA rA σ_2, b_d cB cC cI cJ cZ oA rA σ_2]) (is := [0, 1, 2, 3, 4, 5, 6]) fl_7 fl_7 rfl) (bx_C (bs := [b_k cB cC cI cJ cZ oA rA σ_2, b_p cB cC cI cJ cZ oA rA σ_2, b_o cB cC cI cJ cZ oA rA σ_2, b_s cB cC cI cJ cZ oA rA σ_2, b_c cB cC cI cJ cZ oA rA σ_2, b_t cB cC cI cJ cZ oA rA σ_2, b_d cB cC cI cJ cZ oA rA σ_2]) (bs' := []) (is := []) fl_7 fl_0 rfl) (bx_n (by decide +kernel)) (bx_d (by decide +kernel)) (va_runV (As := []) (rest := []) ⟨hx, hb, hml, hown, hts⟩ (k_X3_pop l dC dI cB cC cI cJ cZ cP oA rA H.size  σ_2 _ hu_6) (cwV 0 hts (g_gV wq_1144 wq_1145 wq_2086 wq_11 wq_1146) rfl rfl rfl (by decide +kernel) ⟨Nat.le_of_ble_eq_true rfl, Nat.le_of_ble_eq_true rfl⟩) (g_preV g_bl0 hK hPc hDc hS hE hFc g_to0 (q0 := 0) (ci := 3) rfl rfl) rfl rfl hl.1 rfl (lv_room (Nat.le_of_ble_eq_true rfl)) dX3_objectOp_16 ⟨Nat.le_of_ble_eq_true rfl, Nat.le_of_ble_eq_true rfl⟩) (fun r9 u9 H locs hw9 hP' hD' hS => ?_)
    clear hPc hDc hFc
    subst hw9
    have hP : va_P (dC, dI) vwCl (b_k cB cC cI cJ cZ oA rA u_6.2 ++ b_p cB cC cI cJ cZ oA rA u_6.2 ++ b_o cB cC cI cJ cZ oA rA u_6.2 ++ b_s cB cC cI cJ cZ oA rA u_6.2 ++ b_c cB cC cI cJ cZ oA rA u_6.2 ++ b_t cB cC cI cJ cZ oA rA u_6.2 ++ b_d cB cC cI cJ cZ oA rA u_6.2) H := hP'
    clear hP' hD'
    refine lv_istore_n (lv' := [(3, .int u_6.1), (2, .int t_1), (0, .ref (oA 10)), (1, .int p0)]) hx hb dX3_objectOp_19 rfl hl (by decide) rfl (fun ls hl => ?_)
    refine lv_iload_n hx hb dX3_objectOp_20 rfl (lv_at hl 3 rfl) ?_
    refine lv_bipush (v := 22) hx hb dX3_objectOp_21 (by decide +kernel) ?_
    obtain ⟨j_10, ej_10, hF_11⟩ := bnd_e hF_7
    clear hF_7
    have Jj_10 : ∀ (t_8 : Int32) (σ_9 : HS), j_10 t_8 σ_9 = some res → ∀ (H : Heap) (locs : List Loc), va_P (dC, dI) vwCl (b_k cB cC cI cJ cZ oA rA σ_9 ++ b_p cB cC cI cJ cZ oA rA σ_9 ++ b_o cB cC cI cJ cZ oA rA σ_9 ++ b_s cB cC cI cJ cZ oA rA σ_9 ++ b_c cB cC cI cJ cZ oA rA σ_9 ++ b_t cB cC cI cJ cZ oA rA σ_9 ++ b_d cB cC cI cJ cZ oA rA σ_9) H → va_S A s.heap H locs → ∀ ls : Array Slot, lv_has ls 5 [(0, .ref (oA 10)), (1, .int p0), (2, .int t_1), (3, .int u_6.1)] → W p l e (headSpec (g_ws yX3_objectOp cX3_objectOp 5 none) { frames := 8, cells := 0, slots := 0, locals := 197 }).room s m ([.ref (oA 10), .int p0] : List Value).toArray below meth c H locs 0 0 (MQ below (va_Qv (fun (_ : Unit) => True) (g_Bo (dC, dI) A (fun (_ : Unit) => (b_k cB cC cI cJ cZ oA rA res.2 ++ b_p cB cC cI cJ cZ oA rA res.2 ++ b_o cB cC cI cJ cZ oA rA res.2 ++ b_s cB cC cI cJ cZ oA rA res.2 ++ b_c cB cC cI cJ cZ oA rA res.2 ++ b_t cB cC cI cJ cZ oA rA res.2 ++ b_d cB cC cI cJ cZ oA rA res.2))) A) ([.ref (oA 10), .int p0] : List Value).toArray s 0 0 A) (F0 m 47 ls [.int t_8]) := by
      intro t_8 σ_9 hF0 H locs hP hS ls hl
      subst ej_10
      have hF_12 := hF0
      clear hF0
      refine lv_istore (lv' := [(4, .int t_8), (0, .ref (oA 10)), (1, .int p0), (2, .int t_1), (3, .int u_6.1)]) hx hb dX3_objectOp_47 hl (by decide) rfl (fun ls hl => ?_)
      refine lv_aload_n hx hb dX3_objectOp_49 rfl (lv_at hl 1 rfl) ?_
      refine va_get (D := (dC, dI)) (ci := 3) (v := .ref (oA 4)) (C := RX3) (T := TX3) (N := 16) hx hb hts ii_X3 hown hK hP 0 rfl rfl 2 (by decide) (hts (.fieldLink RX3 52 "StoryHouse$Machine" "story" "LStoryHouse$Story;") wq_262) (fun _ h9 => h9) rfl dX3_objectOp_50 ?_
      refine lv_iload_n hx hb dX3_objectOp_53 rfl (lv_at hl 4 rfl) ?_
      obtain ⟨u_13, hu_13, hF_14⟩ := Option.bind_eq_some_iff.mp hF_12
      clear hF_12
      have hPc := bx_P (bs := [b_k cB cC cI cJ cZ oA rA σ_9, b_p cB cC cI cJ cZ oA rA σ_9, b_o cB cC cI cJ cZ oA rA σ_9, b_s cB cC cI cJ cZ oA rA σ_9, b_c cB cC cI cJ cZ oA rA σ_9, b_t cB cC cI cJ cZ oA rA σ_9, b_d cB cC cI cJ cZ oA rA σ_9]) (bs' := [b_s cB cC cI cJ cZ oA rA σ_9, b_c cB cC cI cJ cZ oA rA σ_9, b_t cB cC cI cJ cZ oA rA σ_9, b_d cB cC cI cJ cZ oA rA σ_9]) (ws' := (b_s cB cC cI cJ cZ oA rA σ_9 ++ b_c cB cC cI cJ cZ oA rA σ_9 ++ b_t cB cC cI cJ cZ oA rA σ_9 ++ b_d cB cC cI cJ cZ oA rA σ_9)) hP fl_7 fl_4 [3, 4, 5, 6] rfl
      have hDc := bx_D (bs := [b_k cB cC cI cJ cZ oA rA σ_9, b_p cB cC cI cJ cZ oA rA σ_9, b_o cB cC cI cJ cZ oA rA σ_9, b_s cB cC cI cJ cZ oA rA σ_9, b_c cB cC cI cJ cZ oA rA σ_9, b_t cB cC cI cJ cZ oA rA σ_9, b_d cB cC cI cJ cZ oA rA σ_9]) (bs' := [b_s cB cC cI cJ cZ oA rA σ_9, b_c cB cC cI cJ cZ oA rA σ_9, b_t cB cC cI cJ cZ oA rA σ_9, b_d cB cC cI cJ cZ oA rA σ_9]) (ws' := (b_s cB cC cI cJ cZ oA rA σ_9 ++ b_c cB cC cI cJ cZ oA rA σ_9 ++ b_t cB cC cI cJ cZ oA rA σ_9 ++ b_d cB cC cI cJ cZ oA rA σ_9)) (hDD σ_9) fl_7 fl_4 [3, 4, 5, 6] (by decide +kernel) rfl
      have hFc := bx_F (bs := [b_k cB cC cI cJ cZ oA rA σ_9, b_p cB cC cI cJ cZ oA rA σ_9, b_o cB cC cI cJ cZ oA rA σ_9, b_s cB cC cI cJ cZ oA rA σ_9, b_c cB cC cI cJ cZ oA rA σ_9, b_t cB cC cI cJ cZ oA rA σ_9, b_d cB cC cI cJ cZ oA rA σ_9]) (bs' := [b_s cB cC cI cJ cZ oA rA σ_9, b_c cB cC cI cJ cZ oA rA σ_9, b_t cB cC cI cJ cZ oA rA σ_9, b_d cB cC cI cJ cZ oA rA σ_9]) (wc := (b_s cB cC cI cJ cZ oA rA σ_9 ++ b_c cB cC cI cJ cZ oA rA σ_9 ++ b_t cB cC cI cJ cZ oA rA σ_9 ++ b_d cB cC cI cJ cZ oA rA σ_9)) (hDD σ_9) hS hA fl_7 fl_4 [3, 4, 5, 6] rfl
      refine g_ofi (wc := (b_s cB cC cI cJ cZ oA rA σ_9 ++ b_c cB cC cI cJ cZ oA rA σ_9 ++ b_t cB cC cI cJ cZ oA rA σ_9 ++ b_d cB cC cI cJ cZ oA rA σ_9)) (wr := (b_k cB cC cI cJ cZ oA rA σ_9 ++ b_p cB cC cI cJ cZ oA rA σ_9 ++ b_o cB cC cI cJ cZ oA rA σ_9)) hP (hDD σ_9) hS hFc (bx_ix [b_k cB cC cI cJ cZ oA rA σ_9, b_p cB cC cI cJ cZ oA rA σ_9, b_o cB cC cI cJ cZ oA rA σ_9, b_s cB cC cI cJ cZ oA rA σ_9, b_c cB cC cI cJ cZ oA rA σ_9, b_t cB cC cI cJ cZ oA rA σ_9, b_d cB cC cI cJ cZ oA rA σ_9] [3, 4, 5, 6]) (bx_ix [b_k cB cC cI cJ cZ oA rA σ_9, b_p cB cC cI cJ cZ oA rA σ_9, b_o cB cC cI cJ cZ oA rA σ_9, b_s cB cC cI cJ cZ oA rA σ_9, b_c cB cC cI cJ cZ oA rA σ_9, b_t cB cC cI cJ cZ oA rA σ_9, b_d cB cC cI cJ cZ oA rA σ_9] [0, 1, 2]) (bx_C (bs := [b_k cB cC cI cJ cZ oA rA σ_9, b_p cB cC cI cJ cZ oA rA σ_9, b_o cB cC cI cJ cZ oA rA σ_9, b_s cB cC cI cJ cZ oA rA σ_9, b_c cB cC cI cJ cZ oA rA σ_9, b_t cB cC cI cJ cZ oA rA σ_9, b_d cB cC cI cJ cZ oA rA σ_9]) (bs' := [b_s cB cC cI cJ cZ oA rA σ_9, b_c cB cC cI cJ cZ oA rA σ_9, b_t cB cC cI cJ cZ oA rA σ_9, b_d cB cC cI cJ cZ oA rA σ_9]) (is := [3, 4, 5, 6]) fl_7 fl_4 rfl) (bx_C (bs := [b_k cB cC cI cJ cZ oA rA σ_9, b_p cB cC cI cJ cZ oA rA σ_9, b_o cB cC cI cJ cZ oA rA σ_9, b_s cB cC cI cJ cZ oA rA σ_9, b_c cB cC cI cJ cZ oA rA σ_9, b_t cB cC cI cJ cZ oA rA σ_9, b_d cB cC cI cJ cZ oA rA σ_9]) (bs' := [b_k cB cC cI cJ cZ oA rA σ_9, b_p cB cC cI cJ cZ oA rA σ_9, b_o cB cC cI cJ cZ oA rA σ_9]) (is := [0, 1, 2]) fl_7 fl_3 rfl) (bx_n (by decide +kernel)) (bx_d (by decide +kernel)) (va_runV (As := [.int u_6.1]) (rest := []) ⟨hx, hb, hml, hown, hts⟩ (k_X7_isObject l dC dI cB cC cI cJ cZ cP oA rA H.size  u_6.1 σ_9 _ hu_13) (cwV 1 hts (g_gV wq_1169 wq_971 wq_972 wq_5 wq_973) rfl rfl rfl (by decide +kernel) ⟨Nat.le_of_ble_eq_true rfl, Nat.le_of_ble_eq_true rfl⟩) (g_preV g_bl0 hK hPc hDc hS hE hFc g_to0 (q0 := 0) (ci := 7) rfl rfl) rfl rfl hl.1 rfl (lv_room (Nat.le_of_ble_eq_true rfl)) dX3_objectOp_54 ⟨Nat.le_of_ble_eq_true rfl, Nat.le_of_ble_eq_true rfl⟩) (fun r9 u9 H locs hw9 hP' hD' hS => ?_)
      clear hPc hDc hFc
      subst hw9
      obtain ⟨σ_15, eσ_15, hF_16⟩ := bnd_e hF_14
      clear hF_14
      have hP : va_P (dC, dI) vwCl (b_k cB cC cI cJ cZ oA rA σ_15 ++ b_p cB cC cI cJ cZ oA rA σ_15 ++ b_o cB cC cI cJ cZ oA rA σ_15 ++ b_s cB cC cI cJ cZ oA rA σ_15 ++ b_c cB cC cI cJ cZ oA rA σ_15 ++ b_t cB cC cI cJ cZ oA rA σ_15 ++ b_d cB cC cI cJ cZ oA rA σ_15) H := by rw [eσ_15]; exact bx_P (bs := [b_k cB cC cI cJ cZ oA rA σ_9, b_p cB cC cI cJ cZ oA rA σ_9, b_o cB cC cI cJ cZ oA rA σ_9] ++ [b_s cB cC cI cJ cZ oA rA u_13.2, b_c cB cC cI cJ cZ oA rA u_13.2, b_t cB cC cI cJ cZ oA rA u_13.2, b_d cB cC cI cJ cZ oA rA u_13.2]) (bs' := [b_k cB cC cI cJ cZ oA rA (mrg (fun j => j == 4 || j == 5 || j == 6 || j == 7) σ_9 u_13.2), b_p cB cC cI cJ cZ oA rA (mrg (fun j => j == 4 || j == 5 || j == 6 || j == 7) σ_9 u_13.2), b_o cB cC cI cJ cZ oA rA (mrg (fun j => j == 4 || j == 5 || j == 6 || j == 7) σ_9 u_13.2), b_s cB cC cI cJ cZ oA rA (mrg (fun j => j == 4 || j == 5 || j == 6 || j == 7) σ_9 u_13.2), b_c cB cC cI cJ cZ oA rA (mrg (fun j => j == 4 || j == 5 || j == 6 || j == 7) σ_9 u_13.2), b_t cB cC cI cJ cZ oA rA (mrg (fun j => j == 4 || j == 5 || j == 6 || j == 7) σ_9 u_13.2), b_d cB cC cI cJ cZ oA rA (mrg (fun j => j == 4 || j == 5 || j == 6 || j == 7) σ_9 u_13.2)]) hP' (fl_a fl_3 fl_4) fl_7 [0, 1, 2, 3, 4, 5, 6] rfl
      clear hP' hD'
      obtain ⟨j_18, ej_18, hF_19⟩ := bnd_e hF_16
      clear hF_16
      have Jj_18 : ∀  (σ_17 : HS), j_18  σ_17 = some res → ∀ (H : Heap) (locs : List Loc), va_P (dC, dI) vwCl (b_k cB cC cI cJ cZ oA rA σ_17 ++ b_p cB cC cI cJ cZ oA rA σ_17 ++ b_o cB cC cI cJ cZ oA rA σ_17 ++ b_s cB cC cI cJ cZ oA rA σ_17 ++ b_c cB cC cI cJ cZ oA rA σ_17 ++ b_t cB cC cI cJ cZ oA rA σ_17 ++ b_d cB cC cI cJ cZ oA rA σ_17) H → va_S A s.heap H locs → ∀ ls : Array Slot, lv_has ls 5 [(0, .ref (oA 10))] → W p l e (headSpec (g_ws yX3_objectOp cX3_objectOp 5 none) { frames := 8, cells := 0, slots := 0, locals := 197 }).room s m ([.ref (oA 10), .int p0] : List Value).toArray below meth c H locs 0 0 (MQ below (va_Qv (fun (_ : Unit) => True) (g_Bo (dC, dI) A (fun (_ : Unit) => (b_k cB cC cI cJ cZ oA rA res.2 ++ b_p cB cC cI cJ cZ oA rA res.2 ++ b_o cB cC cI cJ cZ oA rA res.2 ++ b_s cB cC cI cJ cZ oA rA res.2 ++ b_c cB cC cI cJ cZ oA rA res.2 ++ b_t cB cC cI cJ cZ oA rA res.2 ++ b_d cB cC cI cJ cZ oA rA res.2))) A) ([.ref (oA 10), .int p0] : List Value).toArray s 0 0 A) (F0 m 65 ls []) := by
        intro  σ_17 hF0 H locs hP hS ls hl
        subst ej_18
        have hF_20 := hF0
        clear hF0
        refine lv_aload_n hx hb dX3_objectOp_65 rfl (lv_at hl 0 rfl) ?_
        refine lv_iconst (v := 2) hx hb dX3_objectOp_66 (by decide +kernel) ?_
        obtain ⟨u_21, hu_21, hF_22⟩ := Option.bind_eq_some_iff.mp hF_20
        clear hF_20
        have hPc := bx_P (bs := [b_k cB cC cI cJ cZ oA rA σ_17, b_p cB cC cI cJ cZ oA rA σ_17, b_o cB cC cI cJ cZ oA rA σ_17, b_s cB cC cI cJ cZ oA rA σ_17, b_c cB cC cI cJ cZ oA rA σ_17, b_t cB cC cI cJ cZ oA rA σ_17, b_d cB cC cI cJ cZ oA rA σ_17]) (bs' := [b_k cB cC cI cJ cZ oA rA σ_17, b_p cB cC cI cJ cZ oA rA σ_17, b_o cB cC cI cJ cZ oA rA σ_17, b_s cB cC cI cJ cZ oA rA σ_17, b_c cB cC cI cJ cZ oA rA σ_17, b_t cB cC cI cJ cZ oA rA σ_17, b_d cB cC cI cJ cZ oA rA σ_17]) (ws' := (b_k cB cC cI cJ cZ oA rA σ_17 ++ b_p cB cC cI cJ cZ oA rA σ_17 ++ b_o cB cC cI cJ cZ oA rA σ_17 ++ b_s cB cC cI cJ cZ oA rA σ_17 ++ b_c cB cC cI cJ cZ oA rA σ_17 ++ b_t cB cC cI cJ cZ oA rA σ_17 ++ b_d cB cC cI cJ cZ oA rA σ_17)) hP fl_7 fl_7 [0, 1, 2, 3, 4, 5, 6] rfl
        have hDc := bx_D (bs := [b_k cB cC cI cJ cZ oA rA σ_17, b_p cB cC cI cJ cZ oA rA σ_17, b_o cB cC cI cJ cZ oA rA σ_17, b_s cB cC cI cJ cZ oA rA σ_17, b_c cB cC cI cJ cZ oA rA σ_17, b_t cB cC cI cJ cZ oA rA σ_17, b_d cB cC cI cJ cZ oA rA σ_17]) (bs' := [b_k cB cC cI cJ cZ oA rA σ_17, b_p cB cC cI cJ cZ oA rA σ_17, b_o cB cC cI cJ cZ oA rA σ_17, b_s cB cC cI cJ cZ oA rA σ_17, b_c cB cC cI cJ cZ oA rA σ_17, b_t cB cC cI cJ cZ oA rA σ_17, b_d cB cC cI cJ cZ oA rA σ_17]) (ws' := (b_k cB cC cI cJ cZ oA rA σ_17 ++ b_p cB cC cI cJ cZ oA rA σ_17 ++ b_o cB cC cI cJ cZ oA rA σ_17 ++ b_s cB cC cI cJ cZ oA rA σ_17 ++ b_c cB cC cI cJ cZ oA rA σ_17 ++ b_t cB cC cI cJ cZ oA rA σ_17 ++ b_d cB cC cI cJ cZ oA rA σ_17)) (hDD σ_17) fl_7 fl_7 [0, 1, 2, 3, 4, 5, 6] (by decide +kernel) rfl
        have hFc := bx_F (bs := [b_k cB cC cI cJ cZ oA rA σ_17, b_p cB cC cI cJ cZ oA rA σ_17, b_o cB cC cI cJ cZ oA rA σ_17, b_s cB cC cI cJ cZ oA rA σ_17, b_c cB cC cI cJ cZ oA rA σ_17, b_t cB cC cI cJ cZ oA rA σ_17, b_d cB cC cI cJ cZ oA rA σ_17]) (bs' := [b_k cB cC cI cJ cZ oA rA σ_17, b_p cB cC cI cJ cZ oA rA σ_17, b_o cB cC cI cJ cZ oA rA σ_17, b_s cB cC cI cJ cZ oA rA σ_17, b_c cB cC cI cJ cZ oA rA σ_17, b_t cB cC cI cJ cZ oA rA σ_17, b_d cB cC cI cJ cZ oA rA σ_17]) (wc := (b_k cB cC cI cJ cZ oA rA σ_17 ++ b_p cB cC cI cJ cZ oA rA σ_17 ++ b_o cB cC cI cJ cZ oA rA σ_17 ++ b_s cB cC cI cJ cZ oA rA σ_17 ++ b_c cB cC cI cJ cZ oA rA σ_17 ++ b_t cB cC cI cJ cZ oA rA σ_17 ++ b_d cB cC cI cJ cZ oA rA σ_17)) (hDD σ_17) hS hA fl_7 fl_7 [0, 1, 2, 3, 4, 5, 6] rfl
        refine g_ofv (wc := (b_k cB cC cI cJ cZ oA rA σ_17 ++ b_p cB cC cI cJ cZ oA rA σ_17 ++ b_o cB cC cI cJ cZ oA rA σ_17 ++ b_s cB cC cI cJ cZ oA rA σ_17 ++ b_c cB cC cI cJ cZ oA rA σ_17 ++ b_t cB cC cI cJ cZ oA rA σ_17 ++ b_d cB cC cI cJ cZ oA rA σ_17)) (wr := ([] : va_W)) hP (hDD σ_17) hS hFc (bx_ix [b_k cB cC cI cJ cZ oA rA σ_17, b_p cB cC cI cJ cZ oA rA σ_17, b_o cB cC cI cJ cZ oA rA σ_17, b_s cB cC cI cJ cZ oA rA σ_17, b_c cB cC cI cJ cZ oA rA σ_17, b_t cB cC cI cJ cZ oA rA σ_17, b_d cB cC cI cJ cZ oA rA σ_17] [0, 1, 2, 3, 4, 5, 6]) (bx_ix [b_k cB cC cI cJ cZ oA rA σ_17, b_p cB cC cI cJ cZ oA rA σ_17, b_o cB cC cI cJ cZ oA rA σ_17, b_s cB cC cI cJ cZ oA rA σ_17, b_c cB cC cI cJ cZ oA rA σ_17, b_t cB cC cI cJ cZ oA rA σ_17, b_d cB cC cI cJ cZ oA rA σ_17] []) (bx_C (bs := [b_k cB cC cI cJ cZ oA rA σ_17, b_p cB cC cI cJ cZ oA rA σ_17, b_o cB cC cI cJ cZ oA rA σ_17, b_s cB cC cI cJ cZ oA rA σ_17, b_c cB cC cI cJ cZ oA rA σ_17, b_t cB cC cI cJ cZ oA rA σ_17, b_d cB cC cI cJ cZ oA rA σ_17]) (bs' := [b_k cB cC cI cJ cZ oA rA σ_17, b_p cB cC cI cJ cZ oA rA σ_17, b_o cB cC cI cJ cZ oA rA σ_17, b_s cB cC cI cJ cZ oA rA σ_17, b_c cB cC cI cJ cZ oA rA σ_17, b_t cB cC cI cJ cZ oA rA σ_17, b_d cB cC cI cJ cZ oA rA σ_17]) (is := [0, 1, 2, 3, 4, 5, 6]) fl_7 fl_7 rfl) (bx_C (bs := [b_k cB cC cI cJ cZ oA rA σ_17, b_p cB cC cI cJ cZ oA rA σ_17, b_o cB cC cI cJ cZ oA rA σ_17, b_s cB cC cI cJ cZ oA rA σ_17, b_c cB cC cI cJ cZ oA rA σ_17, b_t cB cC cI cJ cZ oA rA σ_17, b_d cB cC cI cJ cZ oA rA σ_17]) (bs' := []) (is := []) fl_7 fl_0 rfl) (bx_n (by decide +kernel)) (bx_d (by decide +kernel)) (va_runV (As := [.int 2]) (rest := []) ⟨hx, hb, hml, hown, hts⟩ (k_X3_stop l dC dI cB cC cI cJ cZ cP oA rA H.size  2 σ_17 _ hu_21) (cwV 1 hts (g_gV wq_1154 wq_1155 wq_2088 wq_11 wq_1156) rfl rfl rfl (by decide +kernel) ⟨Nat.le_of_ble_eq_true rfl, Nat.le_of_ble_eq_true rfl⟩) (g_preV g_bl0 hK hPc hDc hS hE hFc g_to0 (q0 := 0) (ci := 3) rfl rfl) rfl rfl hl.1 rfl (lv_room (Nat.le_of_ble_eq_true rfl)) dX3_objectOp_67 ⟨Nat.le_of_ble_eq_true rfl, Nat.le_of_ble_eq_true rfl⟩) (fun u9 H locs hw9 hP' hD' hS => ?_)
        clear hPc hDc hFc
        have hP : va_P (dC, dI) vwCl (b_k cB cC cI cJ cZ oA rA u_21.2 ++ b_p cB cC cI cJ cZ oA rA u_21.2 ++ b_o cB cC cI cJ cZ oA rA u_21.2 ++ b_s cB cC cI cJ cZ oA rA u_21.2 ++ b_c cB cC cI cJ cZ oA rA u_21.2 ++ b_t cB cC cI cJ cZ oA rA u_21.2 ++ b_d cB cC cI cJ cZ oA rA u_21.2) H := hP'
        clear hP' hD'
        have h9 := Option.some.inj hF_22
        subst h9
        exact W.vret hx hb hr (fun t ht hW => ⟨⟨(), rfl, trivial, m_end ht hP, hDD _⟩, hS.F ht⟩) hS.2.2 dX3_objectOp_70
      refine lv_if_eq (tgt := 65) hx hb dX3_objectOp_57 (by decide) (fun c_23 => ?_) (fun c_23 => ?_)
      · have hF_24 := ipos c_23 hF_19
        clear hF_19
        exact Jj_18  σ_15 hF_24 _ _ hP hS ls (lv_sub hl [1] rfl)
      · have hF_25 := ineg c_23 hF_19
        clear hF_19
        refine lv_iload hx hb dX3_objectOp_60 (lv_at hl 0 rfl) ?_
        refine lv_if_eq (tgt := 71) hx hb dX3_objectOp_62 (by decide) (fun c_26 => ?_) (fun c_26 => ?_)
        · have hF_27 := ipos c_26 hF_25
          clear hF_25
          refine lv_iload_n hx hb dX3_objectOp_71 rfl (lv_at hl 2 rfl) ?_
          by_cases c_28 : p0 = 21
          · have hF_29 := ipos c_28 hF_27
            clear hF_27
            refine lv_tableIn (off := 121) (tgt := 193) hx hb dX3_objectOp_72 (by rw [c_28]; decide +kernel) (by rw [c_28]; decide +kernel) (by rw [c_28]; decide +kernel) (by decide) ?_
            refine lv_aload_n hx hb dX3_objectOp_193 rfl (lv_at hl 1 rfl) ?_
            refine lv_iload_n hx hb dX3_objectOp_194 rfl (lv_at hl 4 rfl) ?_
            obtain ⟨u_30, hu_30, hF_31⟩ := Option.bind_eq_some_iff.mp hF_29
            clear hF_29
            have hPc := bx_P (bs := [b_k cB cC cI cJ cZ oA rA σ_15, b_p cB cC cI cJ cZ oA rA σ_15, b_o cB cC cI cJ cZ oA rA σ_15, b_s cB cC cI cJ cZ oA rA σ_15, b_c cB cC cI cJ cZ oA rA σ_15, b_t cB cC cI cJ cZ oA rA σ_15, b_d cB cC cI cJ cZ oA rA σ_15]) (bs' := [b_k cB cC cI cJ cZ oA rA σ_15, b_p cB cC cI cJ cZ oA rA σ_15, b_o cB cC cI cJ cZ oA rA σ_15, b_s cB cC cI cJ cZ oA rA σ_15, b_c cB cC cI cJ cZ oA rA σ_15, b_t cB cC cI cJ cZ oA rA σ_15, b_d cB cC cI cJ cZ oA rA σ_15]) (ws' := (b_k cB cC cI cJ cZ oA rA σ_15 ++ b_p cB cC cI cJ cZ oA rA σ_15 ++ b_o cB cC cI cJ cZ oA rA σ_15 ++ b_s cB cC cI cJ cZ oA rA σ_15 ++ b_c cB cC cI cJ cZ oA rA σ_15 ++ b_t cB cC cI cJ cZ oA rA σ_15 ++ b_d cB cC cI cJ cZ oA rA σ_15)) hP fl_7 fl_7 [0, 1, 2, 3, 4, 5, 6] rfl
            have hDc := bx_D (bs := [b_k cB cC cI cJ cZ oA rA σ_15, b_p cB cC cI cJ cZ oA rA σ_15, b_o cB cC cI cJ cZ oA rA σ_15, b_s cB cC cI cJ cZ oA rA σ_15, b_c cB cC cI cJ cZ oA rA σ_15, b_t cB cC cI cJ cZ oA rA σ_15, b_d cB cC cI cJ cZ oA rA σ_15]) (bs' := [b_k cB cC cI cJ cZ oA rA σ_15, b_p cB cC cI cJ cZ oA rA σ_15, b_o cB cC cI cJ cZ oA rA σ_15, b_s cB cC cI cJ cZ oA rA σ_15, b_c cB cC cI cJ cZ oA rA σ_15, b_t cB cC cI cJ cZ oA rA σ_15, b_d cB cC cI cJ cZ oA rA σ_15]) (ws' := (b_k cB cC cI cJ cZ oA rA σ_15 ++ b_p cB cC cI cJ cZ oA rA σ_15 ++ b_o cB cC cI cJ cZ oA rA σ_15 ++ b_s cB cC cI cJ cZ oA rA σ_15 ++ b_c cB cC cI cJ cZ oA rA σ_15 ++ b_t cB cC cI cJ cZ oA rA σ_15 ++ b_d cB cC cI cJ cZ oA rA σ_15)) (hDD σ_15) fl_7 fl_7 [0, 1, 2, 3, 4, 5, 6] (by decide +kernel) rfl
            have hFc := bx_F (bs := [b_k cB cC cI cJ cZ oA rA σ_15, b_p cB cC cI cJ cZ oA rA σ_15, b_o cB cC cI cJ cZ oA rA σ_15, b_s cB cC cI cJ cZ oA rA σ_15, b_c cB cC cI cJ cZ oA rA σ_15, b_t cB cC cI cJ cZ oA rA σ_15, b_d cB cC cI cJ cZ oA rA σ_15]) (bs' := [b_k cB cC cI cJ cZ oA rA σ_15, b_p cB cC cI cJ cZ oA rA σ_15, b_o cB cC cI cJ cZ oA rA σ_15, b_s cB cC cI cJ cZ oA rA σ_15, b_c cB cC cI cJ cZ oA rA σ_15, b_t cB cC cI cJ cZ oA rA σ_15, b_d cB cC cI cJ cZ oA rA σ_15]) (wc := (b_k cB cC cI cJ cZ oA rA σ_15 ++ b_p cB cC cI cJ cZ oA rA σ_15 ++ b_o cB cC cI cJ cZ oA rA σ_15 ++ b_s cB cC cI cJ cZ oA rA σ_15 ++ b_c cB cC cI cJ cZ oA rA σ_15 ++ b_t cB cC cI cJ cZ oA rA σ_15 ++ b_d cB cC cI cJ cZ oA rA σ_15)) (hDD σ_15) hS hA fl_7 fl_7 [0, 1, 2, 3, 4, 5, 6] rfl
            refine g_ofv (wc := (b_k cB cC cI cJ cZ oA rA σ_15 ++ b_p cB cC cI cJ cZ oA rA σ_15 ++ b_o cB cC cI cJ cZ oA rA σ_15 ++ b_s cB cC cI cJ cZ oA rA σ_15 ++ b_c cB cC cI cJ cZ oA rA σ_15 ++ b_t cB cC cI cJ cZ oA rA σ_15 ++ b_d cB cC cI cJ cZ oA rA σ_15)) (wr := ([] : va_W)) hP (hDD σ_15) hS hFc (bx_ix [b_k cB cC cI cJ cZ oA rA σ_15, b_p cB cC cI cJ cZ oA rA σ_15, b_o cB cC cI cJ cZ oA rA σ_15, b_s cB cC cI cJ cZ oA rA σ_15, b_c cB cC cI cJ cZ oA rA σ_15, b_t cB cC cI cJ cZ oA rA σ_15, b_d cB cC cI cJ cZ oA rA σ_15] [0, 1, 2, 3, 4, 5, 6]) (bx_ix [b_k cB cC cI cJ cZ oA rA σ_15, b_p cB cC cI cJ cZ oA rA σ_15, b_o cB cC cI cJ cZ oA rA σ_15, b_s cB cC cI cJ cZ oA rA σ_15, b_c cB cC cI cJ cZ oA rA σ_15, b_t cB cC cI cJ cZ oA rA σ_15, b_d cB cC cI cJ cZ oA rA σ_15] []) (bx_C (bs := [b_k cB cC cI cJ cZ oA rA σ_15, b_p cB cC cI cJ cZ oA rA σ_15, b_o cB cC cI cJ cZ oA rA σ_15, b_s cB cC cI cJ cZ oA rA σ_15, b_c cB cC cI cJ cZ oA rA σ_15, b_t cB cC cI cJ cZ oA rA σ_15, b_d cB cC cI cJ cZ oA rA σ_15]) (bs' := [b_k cB cC cI cJ cZ oA rA σ_15, b_p cB cC cI cJ cZ oA rA σ_15, b_o cB cC cI cJ cZ oA rA σ_15, b_s cB cC cI cJ cZ oA rA σ_15, b_c cB cC cI cJ cZ oA rA σ_15, b_t cB cC cI cJ cZ oA rA σ_15, b_d cB cC cI cJ cZ oA rA σ_15]) (is := [0, 1, 2, 3, 4, 5, 6]) fl_7 fl_7 rfl) (bx_C (bs := [b_k cB cC cI cJ cZ oA rA σ_15, b_p cB cC cI cJ cZ oA rA σ_15, b_o cB cC cI cJ cZ oA rA σ_15, b_s cB cC cI cJ cZ oA rA σ_15, b_c cB cC cI cJ cZ oA rA σ_15, b_t cB cC cI cJ cZ oA rA σ_15, b_d cB cC cI cJ cZ oA rA σ_15]) (bs' := []) (is := []) fl_7 fl_0 rfl) (bx_n (by decide +kernel)) (bx_d (by decide +kernel)) (va_runV (As := [.int u_6.1]) (rest := []) ⟨hx, hb, hml, hown, hts⟩ (k_X3_sayName l dC dI cB cC cI cJ cZ cP oA rA H.size  u_6.1 σ_15 _ hu_30) (cwV 1 hts (g_gV wq_1202 wq_1014 wq_1015 wq_11 wq_1016) rfl rfl rfl (by decide +kernel) ⟨Nat.le_of_ble_eq_true rfl, Nat.le_of_ble_eq_true rfl⟩) (g_preV g_bl0 hK hPc hDc hS hE hFc g_to0 (q0 := 0) (ci := 3) rfl rfl) rfl rfl hl.1 rfl (lv_room (Nat.le_of_ble_eq_true rfl)) dX3_objectOp_195 ⟨Nat.le_of_ble_eq_true rfl, Nat.le_of_ble_eq_true rfl⟩) (fun u9 H locs hw9 hP' hD' hS => ?_)
            clear hPc hDc hFc
            have hP : va_P (dC, dI) vwCl (b_k cB cC cI cJ cZ oA rA u_30.2 ++ b_p cB cC cI cJ cZ oA rA u_30.2 ++ b_o cB cC cI cJ cZ oA rA u_30.2 ++ b_s cB cC cI cJ cZ oA rA u_30.2 ++ b_c cB cC cI cJ cZ oA rA u_30.2 ++ b_t cB cC cI cJ cZ oA rA u_30.2 ++ b_d cB cC cI cJ cZ oA rA u_30.2) H := hP'
            clear hP' hD'
            refine lv_goto (tgt := 209) hx hb dX3_objectOp_198 (by decide) ?_
            have h9 := Option.some.inj hF_31
            subst h9
            exact W.vret hx hb hr (fun t ht hW => ⟨⟨(), rfl, trivial, m_end ht hP, hDD _⟩, hS.F ht⟩) hS.2.2 dX3_objectOp_209
          have hF_32 := ineg c_28 hF_27
          clear hF_27
          by_cases c_33 : p0 = 23
          · have hF_34 := ipos c_33 hF_32
            clear hF_32
            refine lv_tableIn (off := 40) (tgt := 112) hx hb dX3_objectOp_72 (by rw [c_33]; decide +kernel) (by rw [c_33]; decide +kernel) (by rw [c_33]; decide +kernel) (by decide) ?_
            refine lv_aload_n hx hb dX3_objectOp_112 rfl (lv_at hl 1 rfl) ?_
            refine lv_aload_n hx hb dX3_objectOp_113 rfl (lv_at hl 1 rfl) ?_
            refine va_get (D := (dC, dI)) (ci := 3) (v := .ref (oA 9)) (C := RX3) (T := TX3) (N := 16) hx hb hts ii_X3 hown hK hP 0 rfl rfl 0 (by decide) (hts (.fieldLink RX3 29 "StoryHouse$Machine" "play" "LStoryHouse$Play;") wq_259) (fun _ h9 => h9) rfl dX3_objectOp_114 ?_
            refine va_get (D := (dC, dI)) (ci := 6) (v := .ref (rA 9 0)) (C := RX6) (T := TX6) (N := 12) hx hb hts ii_X6 hown hK hP 5 rfl rfl 0 (by decide) (hts (.fieldLink RX3 211 "StoryHouse$Play" "parents" "[I") wq_220) (fun _ h9 => h9) rfl dX3_objectOp_117 ?_
            refine lv_iload_n hx hb dX3_objectOp_120 rfl (lv_at hl 4 rfl) ?_
            have hq9 : ((b_k cB cC cI cJ cZ oA rA σ_15 ++ b_p cB cC cI cJ cZ oA rA σ_15 ++ b_o cB cC cI cJ cZ oA rA σ_15 ++ b_s cB cC cI cJ cZ oA rA σ_15 ++ b_c cB cC cI cJ cZ oA rA σ_15 ++ b_t cB cC cI cJ cZ oA rA σ_15 ++ b_d cB cC cI cJ cZ oA rA σ_15))[6]? = some (rA 9 0, .inl (cI, 121, .inl ((σ_15 9).2.1 0))) := rfl
            have hPc := hP.sub (ws' := [(rA 9 0, .inl (cI, 121, .inl ((σ_15 9).2.1 0)))]) [6] (pk_fm (er_C hq9))
            have hDc := (hDD σ_15).sub (ws' := [(rA 9 0, .inl (cI, 121, .inl ((σ_15 9).2.1 0)))]) [6] (by decide +kernel) (er_C hq9)
            have hFc := va_free (wc := [(rA 9 0, .inl (cI, 121, .inl ((σ_15 9).2.1 0)))]) (hDD σ_15) hS hA [6] (er_C hq9)
            refine g_ofi (wc := [(rA 9 0, .inl (cI, 121, .inl ((σ_15 9).2.1 0)))]) (wr := (((b_k cB cC cI cJ cZ oA rA σ_15 ++ b_p cB cC cI cJ cZ oA rA σ_15 ++ b_o cB cC cI cJ cZ oA rA σ_15 ++ b_s cB cC cI cJ cZ oA rA σ_15 ++ b_c cB cC cI cJ cZ oA rA σ_15 ++ b_t cB cC cI cJ cZ oA rA σ_15 ++ b_d cB cC cI cJ cZ oA rA σ_15)).eraseIdx 6)) hP (hDD σ_15) hS hFc [6] ((List.range ((b_k cB cC cI cJ cZ oA rA σ_15 ++ b_p cB cC cI cJ cZ oA rA σ_15 ++ b_o cB cC cI cJ cZ oA rA σ_15 ++ b_s cB cC cI cJ cZ oA rA σ_15 ++ b_c cB cC cI cJ cZ oA rA σ_15 ++ b_t cB cC cI cJ cZ oA rA σ_15 ++ b_d cB cC cI cJ cZ oA rA σ_15)).length).eraseIdx 6) (er_C hq9) er_R er_n er_d (va_runSN (As := [.ref (rA 9 0), .int u_6.1]) (rest := [.ref (oA 10)]) ⟨hx, hb, hml, hown, hts⟩ (c_X11_at l dC dI cB cC cI cJ cZ cP H.size (rA 9 0) u_6.1 121 ((σ_15 9).2.1 0) (by decide)) ⟨va_cnB 2 hts (g_gA wq_407) rfl rfl rfl (nw_30 hN) (hts (.initialized RX11) wq_1) (by decide +kernel) ⟨Nat.le_of_ble_eq_true rfl, Nat.le_of_ble_eq_true rfl⟩, (hts (.static yX11_at) wq_406), trivial⟩ (g_preS g_bl0 hK hPc hDc hS hE hFc g_to0) rfl rfl hl.1 rfl (lv_room (Nat.le_of_ble_eq_true rfl)) dX3_objectOp_121 ⟨Nat.le_of_ble_eq_true rfl, Nat.le_of_ble_eq_true rfl⟩) (fun r9 u9 H locs hw9 hP' hD' hS => ?_)
            clear hPc hDc hFc hD'
            have hP : va_P (dC, dI) vwCl (b_k cB cC cI cJ cZ oA rA σ_15 ++ b_p cB cC cI cJ cZ oA rA σ_15 ++ b_o cB cC cI cJ cZ oA rA σ_15 ++ b_s cB cC cI cJ cZ oA rA σ_15 ++ b_c cB cC cI cJ cZ oA rA σ_15 ++ b_t cB cC cI cJ cZ oA rA σ_15 ++ b_d cB cC cI cJ cZ oA rA σ_15) H := er_I hP' hq9
            clear hP' hq9
            subst hw9
            obtain ⟨x_35, ex_35, hF_36⟩ := bnd_e hF_34
            clear hF_34
            refine m_top ex_35 ?_
            refine lv_iload_n hx hb dX3_objectOp_124 rfl (lv_at hl 3 rfl) ?_
            obtain ⟨j_39, ej_39, hF_40⟩ := bnd_e hF_36
            clear hF_36
            have Jj_39 : ∀ (t_37 : Int32) (σ_38 : HS), j_39 t_37 σ_38 = some res → ∀ (H : Heap) (locs : List Loc), va_P (dC, dI) vwCl (b_k cB cC cI cJ cZ oA rA σ_38 ++ b_p cB cC cI cJ cZ oA rA σ_38 ++ b_o cB cC cI cJ cZ oA rA σ_38 ++ b_s cB cC cI cJ cZ oA rA σ_38 ++ b_c cB cC cI cJ cZ oA rA σ_38 ++ b_t cB cC cI cJ cZ oA rA σ_38 ++ b_d cB cC cI cJ cZ oA rA σ_38) H → va_S A s.heap H locs → ∀ ls : Array Slot, lv_has ls 5 [] → W p l e (headSpec (g_ws yX3_objectOp cX3_objectOp 5 none) { frames := 8, cells := 0, slots := 0, locals := 197 }).room s m ([.ref (oA 10), .int p0] : List Value).toArray below meth c H locs 0 0 (MQ below (va_Qv (fun (_ : Unit) => True) (g_Bo (dC, dI) A (fun (_ : Unit) => (b_k cB cC cI cJ cZ oA rA res.2 ++ b_p cB cC cI cJ cZ oA rA res.2 ++ b_o cB cC cI cJ cZ oA rA res.2 ++ b_s cB cC cI cJ cZ oA rA res.2 ++ b_c cB cC cI cJ cZ oA rA res.2 ++ b_t cB cC cI cJ cZ oA rA res.2 ++ b_d cB cC cI cJ cZ oA rA res.2))) A) ([.ref (oA 10), .int p0] : List Value).toArray s 0 0 A) (F0 m 133 ls [.int t_37, .ref (oA 10)]) := by
              intro t_37 σ_38 hF0 H locs hP hS ls hl
              subst ej_39
              have hF_41 := hF0
              clear hF0
              obtain ⟨u_42, hu_42, hF_43⟩ := Option.bind_eq_some_iff.mp hF_41
              clear hF_41
              have hPc := bx_P (bs := [b_k cB cC cI cJ cZ oA rA σ_38, b_p cB cC cI cJ cZ oA rA σ_38, b_o cB cC cI cJ cZ oA rA σ_38, b_s cB cC cI cJ cZ oA rA σ_38, b_c cB cC cI cJ cZ oA rA σ_38, b_t cB cC cI cJ cZ oA rA σ_38, b_d cB cC cI cJ cZ oA rA σ_38]) (bs' := [b_k cB cC cI cJ cZ oA rA σ_38, b_p cB cC cI cJ cZ oA rA σ_38, b_o cB cC cI cJ cZ oA rA σ_38, b_s cB cC cI cJ cZ oA rA σ_38, b_c cB cC cI cJ cZ oA rA σ_38, b_t cB cC cI cJ cZ oA rA σ_38, b_d cB cC cI cJ cZ oA rA σ_38]) (ws' := (b_k cB cC cI cJ cZ oA rA σ_38 ++ b_p cB cC cI cJ cZ oA rA σ_38 ++ b_o cB cC cI cJ cZ oA rA σ_38 ++ b_s cB cC cI cJ cZ oA rA σ_38 ++ b_c cB cC cI cJ cZ oA rA σ_38 ++ b_t cB cC cI cJ cZ oA rA σ_38 ++ b_d cB cC cI cJ cZ oA rA σ_38)) hP fl_7 fl_7 [0, 1, 2, 3, 4, 5, 6] rfl
              have hDc := bx_D (bs := [b_k cB cC cI cJ cZ oA rA σ_38, b_p cB cC cI cJ cZ oA rA σ_38, b_o cB cC cI cJ cZ oA rA σ_38, b_s cB cC cI cJ cZ oA rA σ_38, b_c cB cC cI cJ cZ oA rA σ_38, b_t cB cC cI cJ cZ oA rA σ_38, b_d cB cC cI cJ cZ oA rA σ_38]) (bs' := [b_k cB cC cI cJ cZ oA rA σ_38, b_p cB cC cI cJ cZ oA rA σ_38, b_o cB cC cI cJ cZ oA rA σ_38, b_s cB cC cI cJ cZ oA rA σ_38, b_c cB cC cI cJ cZ oA rA σ_38, b_t cB cC cI cJ cZ oA rA σ_38, b_d cB cC cI cJ cZ oA rA σ_38]) (ws' := (b_k cB cC cI cJ cZ oA rA σ_38 ++ b_p cB cC cI cJ cZ oA rA σ_38 ++ b_o cB cC cI cJ cZ oA rA σ_38 ++ b_s cB cC cI cJ cZ oA rA σ_38 ++ b_c cB cC cI cJ cZ oA rA σ_38 ++ b_t cB cC cI cJ cZ oA rA σ_38 ++ b_d cB cC cI cJ cZ oA rA σ_38)) (hDD σ_38) fl_7 fl_7 [0, 1, 2, 3, 4, 5, 6] (by decide +kernel) rfl
              have hFc := bx_F (bs := [b_k cB cC cI cJ cZ oA rA σ_38, b_p cB cC cI cJ cZ oA rA σ_38, b_o cB cC cI cJ cZ oA rA σ_38, b_s cB cC cI cJ cZ oA rA σ_38, b_c cB cC cI cJ cZ oA rA σ_38, b_t cB cC cI cJ cZ oA rA σ_38, b_d cB cC cI cJ cZ oA rA σ_38]) (bs' := [b_k cB cC cI cJ cZ oA rA σ_38, b_p cB cC cI cJ cZ oA rA σ_38, b_o cB cC cI cJ cZ oA rA σ_38, b_s cB cC cI cJ cZ oA rA σ_38, b_c cB cC cI cJ cZ oA rA σ_38, b_t cB cC cI cJ cZ oA rA σ_38, b_d cB cC cI cJ cZ oA rA σ_38]) (wc := (b_k cB cC cI cJ cZ oA rA σ_38 ++ b_p cB cC cI cJ cZ oA rA σ_38 ++ b_o cB cC cI cJ cZ oA rA σ_38 ++ b_s cB cC cI cJ cZ oA rA σ_38 ++ b_c cB cC cI cJ cZ oA rA σ_38 ++ b_t cB cC cI cJ cZ oA rA σ_38 ++ b_d cB cC cI cJ cZ oA rA σ_38)) (hDD σ_38) hS hA fl_7 fl_7 [0, 1, 2, 3, 4, 5, 6] rfl
              refine g_ofv (wc := (b_k cB cC cI cJ cZ oA rA σ_38 ++ b_p cB cC cI cJ cZ oA rA σ_38 ++ b_o cB cC cI cJ cZ oA rA σ_38 ++ b_s cB cC cI cJ cZ oA rA σ_38 ++ b_c cB cC cI cJ cZ oA rA σ_38 ++ b_t cB cC cI cJ cZ oA rA σ_38 ++ b_d cB cC cI cJ cZ oA rA σ_38)) (wr := ([] : va_W)) hP (hDD σ_38) hS hFc (bx_ix [b_k cB cC cI cJ cZ oA rA σ_38, b_p cB cC cI cJ cZ oA rA σ_38, b_o cB cC cI cJ cZ oA rA σ_38, b_s cB cC cI cJ cZ oA rA σ_38, b_c cB cC cI cJ cZ oA rA σ_38, b_t cB cC cI cJ cZ oA rA σ_38, b_d cB cC cI cJ cZ oA rA σ_38] [0, 1, 2, 3, 4, 5, 6]) (bx_ix [b_k cB cC cI cJ cZ oA rA σ_38, b_p cB cC cI cJ cZ oA rA σ_38, b_o cB cC cI cJ cZ oA rA σ_38, b_s cB cC cI cJ cZ oA rA σ_38, b_c cB cC cI cJ cZ oA rA σ_38, b_t cB cC cI cJ cZ oA rA σ_38, b_d cB cC cI cJ cZ oA rA σ_38] []) (bx_C (bs := [b_k cB cC cI cJ cZ oA rA σ_38, b_p cB cC cI cJ cZ oA rA σ_38, b_o cB cC cI cJ cZ oA rA σ_38, b_s cB cC cI cJ cZ oA rA σ_38, b_c cB cC cI cJ cZ oA rA σ_38, b_t cB cC cI cJ cZ oA rA σ_38, b_d cB cC cI cJ cZ oA rA σ_38]) (bs' := [b_k cB cC cI cJ cZ oA rA σ_38, b_p cB cC cI cJ cZ oA rA σ_38, b_o cB cC cI cJ cZ oA rA σ_38, b_s cB cC cI cJ cZ oA rA σ_38, b_c cB cC cI cJ cZ oA rA σ_38, b_t cB cC cI cJ cZ oA rA σ_38, b_d cB cC cI cJ cZ oA rA σ_38]) (is := [0, 1, 2, 3, 4, 5, 6]) fl_7 fl_7 rfl) (bx_C (bs := [b_k cB cC cI cJ cZ oA rA σ_38, b_p cB cC cI cJ cZ oA rA σ_38, b_o cB cC cI cJ cZ oA rA σ_38, b_s cB cC cI cJ cZ oA rA σ_38, b_c cB cC cI cJ cZ oA rA σ_38, b_t cB cC cI cJ cZ oA rA σ_38, b_d cB cC cI cJ cZ oA rA σ_38]) (bs' := []) (is := []) fl_7 fl_0 rfl) (bx_n (by decide +kernel)) (bx_d (by decide +kernel)) (va_runV (As := [.int t_37]) (rest := []) ⟨hx, hb, hml, hown, hts⟩ (k_X3_push l dC dI cB cC cI cJ cZ cP oA rA H.size  t_37 σ_38 _ hu_42) (cwV 1 hts (g_gV wq_1141 wq_1142 wq_2085 wq_11 wq_1143) rfl rfl rfl (by decide +kernel) ⟨Nat.le_of_ble_eq_true rfl, Nat.le_of_ble_eq_true rfl⟩) (g_preV g_bl0 hK hPc hDc hS hE hFc g_to0 (q0 := 0) (ci := 3) rfl rfl) rfl rfl hl.1 rfl (lv_room (Nat.le_of_ble_eq_true rfl)) dX3_objectOp_133 ⟨Nat.le_of_ble_eq_true rfl, Nat.le_of_ble_eq_true rfl⟩) (fun u9 H locs hw9 hP' hD' hS => ?_)
              clear hPc hDc hFc
              have hP : va_P (dC, dI) vwCl (b_k cB cC cI cJ cZ oA rA u_42.2 ++ b_p cB cC cI cJ cZ oA rA u_42.2 ++ b_o cB cC cI cJ cZ oA rA u_42.2 ++ b_s cB cC cI cJ cZ oA rA u_42.2 ++ b_c cB cC cI cJ cZ oA rA u_42.2 ++ b_t cB cC cI cJ cZ oA rA u_42.2 ++ b_d cB cC cI cJ cZ oA rA u_42.2) H := hP'
              clear hP' hD'
              refine lv_goto (tgt := 209) hx hb dX3_objectOp_136 (by decide) ?_
              have h9 := Option.some.inj hF_43
              subst h9
              exact W.vret hx hb hr (fun t ht hW => ⟨⟨(), rfl, trivial, m_end ht hP, hDD _⟩, hS.F ht⟩) hS.2.2 dX3_objectOp_209
            refine lv_icmp_ne (tgt := 132) hx hb dX3_objectOp_125 (by decide) (fun c_44 => ?_) (fun c_44 => ?_)
            · have hF_46 := ineg c_44 hF_40
              clear hF_40
              refine lv_iconst (v := 0) hx hb dX3_objectOp_132 (by decide +kernel) ?_
              exact Jj_39 0 σ_15 hF_46 _ _ hP hS ls (lv_sub hl [] rfl)
            · have hF_45 := ipos c_44 hF_40
              clear hF_40
              refine lv_iconst (v := 1) hx hb dX3_objectOp_128 (by decide +kernel) ?_
              refine lv_goto (tgt := 133) hx hb dX3_objectOp_129 (by decide) ?_
              exact Jj_39 1 σ_15 hF_45 _ _ hP hS ls (lv_sub hl [] rfl)
          have hF_47 := ineg c_33 hF_32
          clear hF_32
          by_cases c_48 : p0 = 24
          · have hF_49 := ipos c_48 hF_47
            clear hF_47
            refine lv_tableIn (off := 67) (tgt := 139) hx hb dX3_objectOp_72 (by rw [c_48]; decide +kernel) (by rw [c_48]; decide +kernel) (by rw [c_48]; decide +kernel) (by decide) ?_
            refine lv_aload_n hx hb dX3_objectOp_139 rfl (lv_at hl 1 rfl) ?_
            refine lv_aload_n hx hb dX3_objectOp_140 rfl (lv_at hl 1 rfl) ?_
            refine va_get (D := (dC, dI)) (ci := 3) (v := .ref (oA 9)) (C := RX3) (T := TX3) (N := 16) hx hb hts ii_X3 hown hK hP 0 rfl rfl 0 (by decide) (hts (.fieldLink RX3 29 "StoryHouse$Machine" "play" "LStoryHouse$Play;") wq_259) (fun _ h9 => h9) rfl dX3_objectOp_141 ?_
            refine va_get (D := (dC, dI)) (ci := 6) (v := .ref (rA 9 0)) (C := RX6) (T := TX6) (N := 12) hx hb hts ii_X6 hown hK hP 5 rfl rfl 0 (by decide) (hts (.fieldLink RX3 211 "StoryHouse$Play" "parents" "[I") wq_220) (fun _ h9 => h9) rfl dX3_objectOp_144 ?_
            refine lv_iload_n hx hb dX3_objectOp_147 rfl (lv_at hl 4 rfl) ?_
            have hq9 : ((b_k cB cC cI cJ cZ oA rA σ_15 ++ b_p cB cC cI cJ cZ oA rA σ_15 ++ b_o cB cC cI cJ cZ oA rA σ_15 ++ b_s cB cC cI cJ cZ oA rA σ_15 ++ b_c cB cC cI cJ cZ oA rA σ_15 ++ b_t cB cC cI cJ cZ oA rA σ_15 ++ b_d cB cC cI cJ cZ oA rA σ_15))[6]? = some (rA 9 0, .inl (cI, 121, .inl ((σ_15 9).2.1 0))) := rfl
            have hPc := hP.sub (ws' := [(rA 9 0, .inl (cI, 121, .inl ((σ_15 9).2.1 0)))]) [6] (pk_fm (er_C hq9))
            have hDc := (hDD σ_15).sub (ws' := [(rA 9 0, .inl (cI, 121, .inl ((σ_15 9).2.1 0)))]) [6] (by decide +kernel) (er_C hq9)
            have hFc := va_free (wc := [(rA 9 0, .inl (cI, 121, .inl ((σ_15 9).2.1 0)))]) (hDD σ_15) hS hA [6] (er_C hq9)
            refine g_ofi (wc := [(rA 9 0, .inl (cI, 121, .inl ((σ_15 9).2.1 0)))]) (wr := (((b_k cB cC cI cJ cZ oA rA σ_15 ++ b_p cB cC cI cJ cZ oA rA σ_15 ++ b_o cB cC cI cJ cZ oA rA σ_15 ++ b_s cB cC cI cJ cZ oA rA σ_15 ++ b_c cB cC cI cJ cZ oA rA σ_15 ++ b_t cB cC cI cJ cZ oA rA σ_15 ++ b_d cB cC cI cJ cZ oA rA σ_15)).eraseIdx 6)) hP (hDD σ_15) hS hFc [6] ((List.range ((b_k cB cC cI cJ cZ oA rA σ_15 ++ b_p cB cC cI cJ cZ oA rA σ_15 ++ b_o cB cC cI cJ cZ oA rA σ_15 ++ b_s cB cC cI cJ cZ oA rA σ_15 ++ b_c cB cC cI cJ cZ oA rA σ_15 ++ b_t cB cC cI cJ cZ oA rA σ_15 ++ b_d cB cC cI cJ cZ oA rA σ_15)).length).eraseIdx 6) (er_C hq9) er_R er_n er_d (va_runSN (As := [.ref (rA 9 0), .int u_6.1]) (rest := [.ref (oA 10)]) ⟨hx, hb, hml, hown, hts⟩ (c_X11_at l dC dI cB cC cI cJ cZ cP H.size (rA 9 0) u_6.1 121 ((σ_15 9).2.1 0) (by decide)) ⟨va_cnB 2 hts (g_gA wq_407) rfl rfl rfl (nw_30 hN) (hts (.initialized RX11) wq_1) (by decide +kernel) ⟨Nat.le_of_ble_eq_true rfl, Nat.le_of_ble_eq_true rfl⟩, (hts (.static yX11_at) wq_406), trivial⟩ (g_preS g_bl0 hK hPc hDc hS hE hFc g_to0) rfl rfl hl.1 rfl (lv_room (Nat.le_of_ble_eq_true rfl)) dX3_objectOp_148 ⟨Nat.le_of_ble_eq_true rfl, Nat.le_of_ble_eq_true rfl⟩) (fun r9 u9 H locs hw9 hP' hD' hS => ?_)
            clear hPc hDc hFc hD'
            have hP : va_P (dC, dI) vwCl (b_k cB cC cI cJ cZ oA rA σ_15 ++ b_p cB cC cI cJ cZ oA rA σ_15 ++ b_o cB cC cI cJ cZ oA rA σ_15 ++ b_s cB cC cI cJ cZ oA rA σ_15 ++ b_c cB cC cI cJ cZ oA rA σ_15 ++ b_t cB cC cI cJ cZ oA rA σ_15 ++ b_d cB cC cI cJ cZ oA rA σ_15) H := er_I hP' hq9
            clear hP' hq9
            subst hw9
            obtain ⟨x_50, ex_50, hF_51⟩ := bnd_e hF_49
            clear hF_49
            refine m_top ex_50 ?_
            obtain ⟨u_52, hu_52, hF_53⟩ := Option.bind_eq_some_iff.mp hF_51
            clear hF_51
            have hPc := bx_P (bs := [b_k cB cC cI cJ cZ oA rA σ_15, b_p cB cC cI cJ cZ oA rA σ_15, b_o cB cC cI cJ cZ oA rA σ_15, b_s cB cC cI cJ cZ oA rA σ_15, b_c cB cC cI cJ cZ oA rA σ_15, b_t cB cC cI cJ cZ oA rA σ_15, b_d cB cC cI cJ cZ oA rA σ_15]) (bs' := [b_k cB cC cI cJ cZ oA rA σ_15, b_p cB cC cI cJ cZ oA rA σ_15, b_o cB cC cI cJ cZ oA rA σ_15, b_s cB cC cI cJ cZ oA rA σ_15, b_c cB cC cI cJ cZ oA rA σ_15, b_t cB cC cI cJ cZ oA rA σ_15, b_d cB cC cI cJ cZ oA rA σ_15]) (ws' := (b_k cB cC cI cJ cZ oA rA σ_15 ++ b_p cB cC cI cJ cZ oA rA σ_15 ++ b_o cB cC cI cJ cZ oA rA σ_15 ++ b_s cB cC cI cJ cZ oA rA σ_15 ++ b_c cB cC cI cJ cZ oA rA σ_15 ++ b_t cB cC cI cJ cZ oA rA σ_15 ++ b_d cB cC cI cJ cZ oA rA σ_15)) hP fl_7 fl_7 [0, 1, 2, 3, 4, 5, 6] rfl
            have hDc := bx_D (bs := [b_k cB cC cI cJ cZ oA rA σ_15, b_p cB cC cI cJ cZ oA rA σ_15, b_o cB cC cI cJ cZ oA rA σ_15, b_s cB cC cI cJ cZ oA rA σ_15, b_c cB cC cI cJ cZ oA rA σ_15, b_t cB cC cI cJ cZ oA rA σ_15, b_d cB cC cI cJ cZ oA rA σ_15]) (bs' := [b_k cB cC cI cJ cZ oA rA σ_15, b_p cB cC cI cJ cZ oA rA σ_15, b_o cB cC cI cJ cZ oA rA σ_15, b_s cB cC cI cJ cZ oA rA σ_15, b_c cB cC cI cJ cZ oA rA σ_15, b_t cB cC cI cJ cZ oA rA σ_15, b_d cB cC cI cJ cZ oA rA σ_15]) (ws' := (b_k cB cC cI cJ cZ oA rA σ_15 ++ b_p cB cC cI cJ cZ oA rA σ_15 ++ b_o cB cC cI cJ cZ oA rA σ_15 ++ b_s cB cC cI cJ cZ oA rA σ_15 ++ b_c cB cC cI cJ cZ oA rA σ_15 ++ b_t cB cC cI cJ cZ oA rA σ_15 ++ b_d cB cC cI cJ cZ oA rA σ_15)) (hDD σ_15) fl_7 fl_7 [0, 1, 2, 3, 4, 5, 6] (by decide +kernel) rfl
            have hFc := bx_F (bs := [b_k cB cC cI cJ cZ oA rA σ_15, b_p cB cC cI cJ cZ oA rA σ_15, b_o cB cC cI cJ cZ oA rA σ_15, b_s cB cC cI cJ cZ oA rA σ_15, b_c cB cC cI cJ cZ oA rA σ_15, b_t cB cC cI cJ cZ oA rA σ_15, b_d cB cC cI cJ cZ oA rA σ_15]) (bs' := [b_k cB cC cI cJ cZ oA rA σ_15, b_p cB cC cI cJ cZ oA rA σ_15, b_o cB cC cI cJ cZ oA rA σ_15, b_s cB cC cI cJ cZ oA rA σ_15, b_c cB cC cI cJ cZ oA rA σ_15, b_t cB cC cI cJ cZ oA rA σ_15, b_d cB cC cI cJ cZ oA rA σ_15]) (wc := (b_k cB cC cI cJ cZ oA rA σ_15 ++ b_p cB cC cI cJ cZ oA rA σ_15 ++ b_o cB cC cI cJ cZ oA rA σ_15 ++ b_s cB cC cI cJ cZ oA rA σ_15 ++ b_c cB cC cI cJ cZ oA rA σ_15 ++ b_t cB cC cI cJ cZ oA rA σ_15 ++ b_d cB cC cI cJ cZ oA rA σ_15)) (hDD σ_15) hS hA fl_7 fl_7 [0, 1, 2, 3, 4, 5, 6] rfl
            refine g_ofv (wc := (b_k cB cC cI cJ cZ oA rA σ_15 ++ b_p cB cC cI cJ cZ oA rA σ_15 ++ b_o cB cC cI cJ cZ oA rA σ_15 ++ b_s cB cC cI cJ cZ oA rA σ_15 ++ b_c cB cC cI cJ cZ oA rA σ_15 ++ b_t cB cC cI cJ cZ oA rA σ_15 ++ b_d cB cC cI cJ cZ oA rA σ_15)) (wr := ([] : va_W)) hP (hDD σ_15) hS hFc (bx_ix [b_k cB cC cI cJ cZ oA rA σ_15, b_p cB cC cI cJ cZ oA rA σ_15, b_o cB cC cI cJ cZ oA rA σ_15, b_s cB cC cI cJ cZ oA rA σ_15, b_c cB cC cI cJ cZ oA rA σ_15, b_t cB cC cI cJ cZ oA rA σ_15, b_d cB cC cI cJ cZ oA rA σ_15] [0, 1, 2, 3, 4, 5, 6]) (bx_ix [b_k cB cC cI cJ cZ oA rA σ_15, b_p cB cC cI cJ cZ oA rA σ_15, b_o cB cC cI cJ cZ oA rA σ_15, b_s cB cC cI cJ cZ oA rA σ_15, b_c cB cC cI cJ cZ oA rA σ_15, b_t cB cC cI cJ cZ oA rA σ_15, b_d cB cC cI cJ cZ oA rA σ_15] []) (bx_C (bs := [b_k cB cC cI cJ cZ oA rA σ_15, b_p cB cC cI cJ cZ oA rA σ_15, b_o cB cC cI cJ cZ oA rA σ_15, b_s cB cC cI cJ cZ oA rA σ_15, b_c cB cC cI cJ cZ oA rA σ_15, b_t cB cC cI cJ cZ oA rA σ_15, b_d cB cC cI cJ cZ oA rA σ_15]) (bs' := [b_k cB cC cI cJ cZ oA rA σ_15, b_p cB cC cI cJ cZ oA rA σ_15, b_o cB cC cI cJ cZ oA rA σ_15, b_s cB cC cI cJ cZ oA rA σ_15, b_c cB cC cI cJ cZ oA rA σ_15, b_t cB cC cI cJ cZ oA rA σ_15, b_d cB cC cI cJ cZ oA rA σ_15]) (is := [0, 1, 2, 3, 4, 5, 6]) fl_7 fl_7 rfl) (bx_C (bs := [b_k cB cC cI cJ cZ oA rA σ_15, b_p cB cC cI cJ cZ oA rA σ_15, b_o cB cC cI cJ cZ oA rA σ_15, b_s cB cC cI cJ cZ oA rA σ_15, b_c cB cC cI cJ cZ oA rA σ_15, b_t cB cC cI cJ cZ oA rA σ_15, b_d cB cC cI cJ cZ oA rA σ_15]) (bs' := []) (is := []) fl_7 fl_0 rfl) (bx_n (by decide +kernel)) (bx_d (by decide +kernel)) (va_runV (As := [.int x_50]) (rest := []) ⟨hx, hb, hml, hown, hts⟩ (k_X3_push l dC dI cB cC cI cJ cZ cP oA rA H.size  x_50 σ_15 _ hu_52) (cwV 1 hts (g_gV wq_1141 wq_1142 wq_2085 wq_11 wq_1143) rfl rfl rfl (by decide +kernel) ⟨Nat.le_of_ble_eq_true rfl, Nat.le_of_ble_eq_true rfl⟩) (g_preV g_bl0 hK hPc hDc hS hE hFc g_to0 (q0 := 0) (ci := 3) rfl rfl) rfl rfl hl.1 rfl (lv_room (Nat.le_of_ble_eq_true rfl)) dX3_objectOp_151 ⟨Nat.le_of_ble_eq_true rfl, Nat.le_of_ble_eq_true rfl⟩) (fun u9 H locs hw9 hP' hD' hS => ?_)
            clear hPc hDc hFc
            have hP : va_P (dC, dI) vwCl (b_k cB cC cI cJ cZ oA rA u_52.2 ++ b_p cB cC cI cJ cZ oA rA u_52.2 ++ b_o cB cC cI cJ cZ oA rA u_52.2 ++ b_s cB cC cI cJ cZ oA rA u_52.2 ++ b_c cB cC cI cJ cZ oA rA u_52.2 ++ b_t cB cC cI cJ cZ oA rA u_52.2 ++ b_d cB cC cI cJ cZ oA rA u_52.2) H := hP'
            clear hP' hD'
            refine lv_goto (tgt := 209) hx hb dX3_objectOp_154 (by decide) ?_
            have h9 := Option.some.inj hF_53
            subst h9
            exact W.vret hx hb hr (fun t ht hW => ⟨⟨(), rfl, trivial, m_end ht hP, hDD _⟩, hS.F ht⟩) hS.2.2 dX3_objectOp_209
          have hF_54 := ineg c_48 hF_47
          clear hF_47
          by_cases c_55 : p0 = 25
          · have hF_56 := ipos c_55 hF_54
            clear hF_54
            refine lv_tableIn (off := 85) (tgt := 157) hx hb dX3_objectOp_72 (by rw [c_55]; decide +kernel) (by rw [c_55]; decide +kernel) (by rw [c_55]; decide +kernel) (by decide) ?_
            refine lv_aload_n hx hb dX3_objectOp_157 rfl (lv_at hl 1 rfl) ?_
            refine lv_aload_n hx hb dX3_objectOp_158 rfl (lv_at hl 1 rfl) ?_
            refine va_get (D := (dC, dI)) (ci := 3) (v := .ref (oA 9)) (C := RX3) (T := TX3) (N := 16) hx hb hts ii_X3 hown hK hP 0 rfl rfl 0 (by decide) (hts (.fieldLink RX3 29 "StoryHouse$Machine" "play" "LStoryHouse$Play;") wq_259) (fun _ h9 => h9) rfl dX3_objectOp_159 ?_
            refine va_get (D := (dC, dI)) (ci := 6) (v := .ref (rA 9 1)) (C := RX6) (T := TX6) (N := 12) hx hb hts ii_X6 hown hK hP 5 rfl rfl 1 (by decide) (hts (.fieldLink RX3 214 "StoryHouse$Play" "firsts" "[I") wq_224) (fun _ h9 => h9) rfl dX3_objectOp_162 ?_
            refine lv_iload_n hx hb dX3_objectOp_165 rfl (lv_at hl 4 rfl) ?_
            have hq9 : ((b_k cB cC cI cJ cZ oA rA σ_15 ++ b_p cB cC cI cJ cZ oA rA σ_15 ++ b_o cB cC cI cJ cZ oA rA σ_15 ++ b_s cB cC cI cJ cZ oA rA σ_15 ++ b_c cB cC cI cJ cZ oA rA σ_15 ++ b_t cB cC cI cJ cZ oA rA σ_15 ++ b_d cB cC cI cJ cZ oA rA σ_15))[7]? = some (rA 9 1, .inl (cI, 121, .inl ((σ_15 9).2.1 1))) := rfl
            have hPc := hP.sub (ws' := [(rA 9 1, .inl (cI, 121, .inl ((σ_15 9).2.1 1)))]) [7] (pk_fm (er_C hq9))
            have hDc := (hDD σ_15).sub (ws' := [(rA 9 1, .inl (cI, 121, .inl ((σ_15 9).2.1 1)))]) [7] (by decide +kernel) (er_C hq9)
            have hFc := va_free (wc := [(rA 9 1, .inl (cI, 121, .inl ((σ_15 9).2.1 1)))]) (hDD σ_15) hS hA [7] (er_C hq9)
            refine g_ofi (wc := [(rA 9 1, .inl (cI, 121, .inl ((σ_15 9).2.1 1)))]) (wr := (((b_k cB cC cI cJ cZ oA rA σ_15 ++ b_p cB cC cI cJ cZ oA rA σ_15 ++ b_o cB cC cI cJ cZ oA rA σ_15 ++ b_s cB cC cI cJ cZ oA rA σ_15 ++ b_c cB cC cI cJ cZ oA rA σ_15 ++ b_t cB cC cI cJ cZ oA rA σ_15 ++ b_d cB cC cI cJ cZ oA rA σ_15)).eraseIdx 7)) hP (hDD σ_15) hS hFc [7] ((List.range ((b_k cB cC cI cJ cZ oA rA σ_15 ++ b_p cB cC cI cJ cZ oA rA σ_15 ++ b_o cB cC cI cJ cZ oA rA σ_15 ++ b_s cB cC cI cJ cZ oA rA σ_15 ++ b_c cB cC cI cJ cZ oA rA σ_15 ++ b_t cB cC cI cJ cZ oA rA σ_15 ++ b_d cB cC cI cJ cZ oA rA σ_15)).length).eraseIdx 7) (er_C hq9) er_R er_n er_d (va_runSN (As := [.ref (rA 9 1), .int u_6.1]) (rest := [.ref (oA 10)]) ⟨hx, hb, hml, hown, hts⟩ (c_X11_at l dC dI cB cC cI cJ cZ cP H.size (rA 9 1) u_6.1 121 ((σ_15 9).2.1 1) (by decide)) ⟨va_cnB 2 hts (g_gA wq_407) rfl rfl rfl (nw_30 hN) (hts (.initialized RX11) wq_1) (by decide +kernel) ⟨Nat.le_of_ble_eq_true rfl, Nat.le_of_ble_eq_true rfl⟩, (hts (.static yX11_at) wq_406), trivial⟩ (g_preS g_bl0 hK hPc hDc hS hE hFc g_to0) rfl rfl hl.1 rfl (lv_room (Nat.le_of_ble_eq_true rfl)) dX3_objectOp_166 ⟨Nat.le_of_ble_eq_true rfl, Nat.le_of_ble_eq_true rfl⟩) (fun r9 u9 H locs hw9 hP' hD' hS => ?_)
            clear hPc hDc hFc hD'
            have hP : va_P (dC, dI) vwCl (b_k cB cC cI cJ cZ oA rA σ_15 ++ b_p cB cC cI cJ cZ oA rA σ_15 ++ b_o cB cC cI cJ cZ oA rA σ_15 ++ b_s cB cC cI cJ cZ oA rA σ_15 ++ b_c cB cC cI cJ cZ oA rA σ_15 ++ b_t cB cC cI cJ cZ oA rA σ_15 ++ b_d cB cC cI cJ cZ oA rA σ_15) H := er_I hP' hq9
            clear hP' hq9
            subst hw9
            obtain ⟨x_57, ex_57, hF_58⟩ := bnd_e hF_56
            clear hF_56
            refine m_top ex_57 ?_
            obtain ⟨u_59, hu_59, hF_60⟩ := Option.bind_eq_some_iff.mp hF_58
            clear hF_58
            have hPc := bx_P (bs := [b_k cB cC cI cJ cZ oA rA σ_15, b_p cB cC cI cJ cZ oA rA σ_15, b_o cB cC cI cJ cZ oA rA σ_15, b_s cB cC cI cJ cZ oA rA σ_15, b_c cB cC cI cJ cZ oA rA σ_15, b_t cB cC cI cJ cZ oA rA σ_15, b_d cB cC cI cJ cZ oA rA σ_15]) (bs' := [b_k cB cC cI cJ cZ oA rA σ_15, b_p cB cC cI cJ cZ oA rA σ_15, b_o cB cC cI cJ cZ oA rA σ_15, b_s cB cC cI cJ cZ oA rA σ_15, b_c cB cC cI cJ cZ oA rA σ_15, b_t cB cC cI cJ cZ oA rA σ_15, b_d cB cC cI cJ cZ oA rA σ_15]) (ws' := (b_k cB cC cI cJ cZ oA rA σ_15 ++ b_p cB cC cI cJ cZ oA rA σ_15 ++ b_o cB cC cI cJ cZ oA rA σ_15 ++ b_s cB cC cI cJ cZ oA rA σ_15 ++ b_c cB cC cI cJ cZ oA rA σ_15 ++ b_t cB cC cI cJ cZ oA rA σ_15 ++ b_d cB cC cI cJ cZ oA rA σ_15)) hP fl_7 fl_7 [0, 1, 2, 3, 4, 5, 6] rfl
            have hDc := bx_D (bs := [b_k cB cC cI cJ cZ oA rA σ_15, b_p cB cC cI cJ cZ oA rA σ_15, b_o cB cC cI cJ cZ oA rA σ_15, b_s cB cC cI cJ cZ oA rA σ_15, b_c cB cC cI cJ cZ oA rA σ_15, b_t cB cC cI cJ cZ oA rA σ_15, b_d cB cC cI cJ cZ oA rA σ_15]) (bs' := [b_k cB cC cI cJ cZ oA rA σ_15, b_p cB cC cI cJ cZ oA rA σ_15, b_o cB cC cI cJ cZ oA rA σ_15, b_s cB cC cI cJ cZ oA rA σ_15, b_c cB cC cI cJ cZ oA rA σ_15, b_t cB cC cI cJ cZ oA rA σ_15, b_d cB cC cI cJ cZ oA rA σ_15]) (ws' := (b_k cB cC cI cJ cZ oA rA σ_15 ++ b_p cB cC cI cJ cZ oA rA σ_15 ++ b_o cB cC cI cJ cZ oA rA σ_15 ++ b_s cB cC cI cJ cZ oA rA σ_15 ++ b_c cB cC cI cJ cZ oA rA σ_15 ++ b_t cB cC cI cJ cZ oA rA σ_15 ++ b_d cB cC cI cJ cZ oA rA σ_15)) (hDD σ_15) fl_7 fl_7 [0, 1, 2, 3, 4, 5, 6] (by decide +kernel) rfl
            have hFc := bx_F (bs := [b_k cB cC cI cJ cZ oA rA σ_15, b_p cB cC cI cJ cZ oA rA σ_15, b_o cB cC cI cJ cZ oA rA σ_15, b_s cB cC cI cJ cZ oA rA σ_15, b_c cB cC cI cJ cZ oA rA σ_15, b_t cB cC cI cJ cZ oA rA σ_15, b_d cB cC cI cJ cZ oA rA σ_15]) (bs' := [b_k cB cC cI cJ cZ oA rA σ_15, b_p cB cC cI cJ cZ oA rA σ_15, b_o cB cC cI cJ cZ oA rA σ_15, b_s cB cC cI cJ cZ oA rA σ_15, b_c cB cC cI cJ cZ oA rA σ_15, b_t cB cC cI cJ cZ oA rA σ_15, b_d cB cC cI cJ cZ oA rA σ_15]) (wc := (b_k cB cC cI cJ cZ oA rA σ_15 ++ b_p cB cC cI cJ cZ oA rA σ_15 ++ b_o cB cC cI cJ cZ oA rA σ_15 ++ b_s cB cC cI cJ cZ oA rA σ_15 ++ b_c cB cC cI cJ cZ oA rA σ_15 ++ b_t cB cC cI cJ cZ oA rA σ_15 ++ b_d cB cC cI cJ cZ oA rA σ_15)) (hDD σ_15) hS hA fl_7 fl_7 [0, 1, 2, 3, 4, 5, 6] rfl
            refine g_ofv (wc := (b_k cB cC cI cJ cZ oA rA σ_15 ++ b_p cB cC cI cJ cZ oA rA σ_15 ++ b_o cB cC cI cJ cZ oA rA σ_15 ++ b_s cB cC cI cJ cZ oA rA σ_15 ++ b_c cB cC cI cJ cZ oA rA σ_15 ++ b_t cB cC cI cJ cZ oA rA σ_15 ++ b_d cB cC cI cJ cZ oA rA σ_15)) (wr := ([] : va_W)) hP (hDD σ_15) hS hFc (bx_ix [b_k cB cC cI cJ cZ oA rA σ_15, b_p cB cC cI cJ cZ oA rA σ_15, b_o cB cC cI cJ cZ oA rA σ_15, b_s cB cC cI cJ cZ oA rA σ_15, b_c cB cC cI cJ cZ oA rA σ_15, b_t cB cC cI cJ cZ oA rA σ_15, b_d cB cC cI cJ cZ oA rA σ_15] [0, 1, 2, 3, 4, 5, 6]) (bx_ix [b_k cB cC cI cJ cZ oA rA σ_15, b_p cB cC cI cJ cZ oA rA σ_15, b_o cB cC cI cJ cZ oA rA σ_15, b_s cB cC cI cJ cZ oA rA σ_15, b_c cB cC cI cJ cZ oA rA σ_15, b_t cB cC cI cJ cZ oA rA σ_15, b_d cB cC cI cJ cZ oA rA σ_15] []) (bx_C (bs := [b_k cB cC cI cJ cZ oA rA σ_15, b_p cB cC cI cJ cZ oA rA σ_15, b_o cB cC cI cJ cZ oA rA σ_15, b_s cB cC cI cJ cZ oA rA σ_15, b_c cB cC cI cJ cZ oA rA σ_15, b_t cB cC cI cJ cZ oA rA σ_15, b_d cB cC cI cJ cZ oA rA σ_15]) (bs' := [b_k cB cC cI cJ cZ oA rA σ_15, b_p cB cC cI cJ cZ oA rA σ_15, b_o cB cC cI cJ cZ oA rA σ_15, b_s cB cC cI cJ cZ oA rA σ_15, b_c cB cC cI cJ cZ oA rA σ_15, b_t cB cC cI cJ cZ oA rA σ_15, b_d cB cC cI cJ cZ oA rA σ_15]) (is := [0, 1, 2, 3, 4, 5, 6]) fl_7 fl_7 rfl) (bx_C (bs := [b_k cB cC cI cJ cZ oA rA σ_15, b_p cB cC cI cJ cZ oA rA σ_15, b_o cB cC cI cJ cZ oA rA σ_15, b_s cB cC cI cJ cZ oA rA σ_15, b_c cB cC cI cJ cZ oA rA σ_15, b_t cB cC cI cJ cZ oA rA σ_15, b_d cB cC cI cJ cZ oA rA σ_15]) (bs' := []) (is := []) fl_7 fl_0 rfl) (bx_n (by decide +kernel)) (bx_d (by decide +kernel)) (va_runV (As := [.int x_57]) (rest := []) ⟨hx, hb, hml, hown, hts⟩ (k_X3_push l dC dI cB cC cI cJ cZ cP oA rA H.size  x_57 σ_15 _ hu_59) (cwV 1 hts (g_gV wq_1141 wq_1142 wq_2085 wq_11 wq_1143) rfl rfl rfl (by decide +kernel) ⟨Nat.le_of_ble_eq_true rfl, Nat.le_of_ble_eq_true rfl⟩) (g_preV g_bl0 hK hPc hDc hS hE hFc g_to0 (q0 := 0) (ci := 3) rfl rfl) rfl rfl hl.1 rfl (lv_room (Nat.le_of_ble_eq_true rfl)) dX3_objectOp_169 ⟨Nat.le_of_ble_eq_true rfl, Nat.le_of_ble_eq_true rfl⟩) (fun u9 H locs hw9 hP' hD' hS => ?_)
            clear hPc hDc hFc
            have hP : va_P (dC, dI) vwCl (b_k cB cC cI cJ cZ oA rA u_59.2 ++ b_p cB cC cI cJ cZ oA rA u_59.2 ++ b_o cB cC cI cJ cZ oA rA u_59.2 ++ b_s cB cC cI cJ cZ oA rA u_59.2 ++ b_c cB cC cI cJ cZ oA rA u_59.2 ++ b_t cB cC cI cJ cZ oA rA u_59.2 ++ b_d cB cC cI cJ cZ oA rA u_59.2) H := hP'
            clear hP' hD'
            refine lv_goto (tgt := 209) hx hb dX3_objectOp_172 (by decide) ?_
            have h9 := Option.some.inj hF_60
            subst h9
            exact W.vret hx hb hr (fun t ht hW => ⟨⟨(), rfl, trivial, m_end ht hP, hDD _⟩, hS.F ht⟩) hS.2.2 dX3_objectOp_209
          have hF_61 := ineg c_55 hF_54
          clear hF_54
          by_cases c_62 : p0 = 26
          · have hF_63 := ipos c_62 hF_61
            clear hF_61
            refine lv_tableIn (off := 103) (tgt := 175) hx hb dX3_objectOp_72 (by rw [c_62]; decide +kernel) (by rw [c_62]; decide +kernel) (by rw [c_62]; decide +kernel) (by decide) ?_
            refine lv_aload_n hx hb dX3_objectOp_175 rfl (lv_at hl 1 rfl) ?_
            refine lv_aload_n hx hb dX3_objectOp_176 rfl (lv_at hl 1 rfl) ?_
            refine va_get (D := (dC, dI)) (ci := 3) (v := .ref (oA 9)) (C := RX3) (T := TX3) (N := 16) hx hb hts ii_X3 hown hK hP 0 rfl rfl 0 (by decide) (hts (.fieldLink RX3 29 "StoryHouse$Machine" "play" "LStoryHouse$Play;") wq_259) (fun _ h9 => h9) rfl dX3_objectOp_177 ?_
            refine va_get (D := (dC, dI)) (ci := 6) (v := .ref (rA 9 2)) (C := RX6) (T := TX6) (N := 12) hx hb hts ii_X6 hown hK hP 5 rfl rfl 2 (by decide) (hts (.fieldLink RX3 217 "StoryHouse$Play" "nexts" "[I") wq_228) (fun _ h9 => h9) rfl dX3_objectOp_180 ?_
            refine lv_iload_n hx hb dX3_objectOp_183 rfl (lv_at hl 4 rfl) ?_
            have hq9 : ((b_k cB cC cI cJ cZ oA rA σ_15 ++ b_p cB cC cI cJ cZ oA rA σ_15 ++ b_o cB cC cI cJ cZ oA rA σ_15 ++ b_s cB cC cI cJ cZ oA rA σ_15 ++ b_c cB cC cI cJ cZ oA rA σ_15 ++ b_t cB cC cI cJ cZ oA rA σ_15 ++ b_d cB cC cI cJ cZ oA rA σ_15))[8]? = some (rA 9 2, .inl (cI, 121, .inl ((σ_15 9).2.1 2))) := rfl
            have hPc := hP.sub (ws' := [(rA 9 2, .inl (cI, 121, .inl ((σ_15 9).2.1 2)))]) [8] (pk_fm (er_C hq9))
            have hDc := (hDD σ_15).sub (ws' := [(rA 9 2, .inl (cI, 121, .inl ((σ_15 9).2.1 2)))]) [8] (by decide +kernel) (er_C hq9)
            have hFc := va_free (wc := [(rA 9 2, .inl (cI, 121, .inl ((σ_15 9).2.1 2)))]) (hDD σ_15) hS hA [8] (er_C hq9)
            refine g_ofi (wc := [(rA 9 2, .inl (cI, 121, .inl ((σ_15 9).2.1 2)))]) (wr := (((b_k cB cC cI cJ cZ oA rA σ_15 ++ b_p cB cC cI cJ cZ oA rA σ_15 ++ b_o cB cC cI cJ cZ oA rA σ_15 ++ b_s cB cC cI cJ cZ oA rA σ_15 ++ b_c cB cC cI cJ cZ oA rA σ_15 ++ b_t cB cC cI cJ cZ oA rA σ_15 ++ b_d cB cC cI cJ cZ oA rA σ_15)).eraseIdx 8)) hP (hDD σ_15) hS hFc [8] ((List.range ((b_k cB cC cI cJ cZ oA rA σ_15 ++ b_p cB cC cI cJ cZ oA rA σ_15 ++ b_o cB cC cI cJ cZ oA rA σ_15 ++ b_s cB cC cI cJ cZ oA rA σ_15 ++ b_c cB cC cI cJ cZ oA rA σ_15 ++ b_t cB cC cI cJ cZ oA rA σ_15 ++ b_d cB cC cI cJ cZ oA rA σ_15)).length).eraseIdx 8) (er_C hq9) er_R er_n er_d (va_runSN (As := [.ref (rA 9 2), .int u_6.1]) (rest := [.ref (oA 10)]) ⟨hx, hb, hml, hown, hts⟩ (c_X11_at l dC dI cB cC cI cJ cZ cP H.size (rA 9 2) u_6.1 121 ((σ_15 9).2.1 2) (by decide)) ⟨va_cnB 2 hts (g_gA wq_407) rfl rfl rfl (nw_30 hN) (hts (.initialized RX11) wq_1) (by decide +kernel) ⟨Nat.le_of_ble_eq_true rfl, Nat.le_of_ble_eq_true rfl⟩, (hts (.static yX11_at) wq_406), trivial⟩ (g_preS g_bl0 hK hPc hDc hS hE hFc g_to0) rfl rfl hl.1 rfl (lv_room (Nat.le_of_ble_eq_true rfl)) dX3_objectOp_184 ⟨Nat.le_of_ble_eq_true rfl, Nat.le_of_ble_eq_true rfl⟩) (fun r9 u9 H locs hw9 hP' hD' hS => ?_)
            clear hPc hDc hFc hD'
            have hP : va_P (dC, dI) vwCl (b_k cB cC cI cJ cZ oA rA σ_15 ++ b_p cB cC cI cJ cZ oA rA σ_15 ++ b_o cB cC cI cJ cZ oA rA σ_15 ++ b_s cB cC cI cJ cZ oA rA σ_15 ++ b_c cB cC cI cJ cZ oA rA σ_15 ++ b_t cB cC cI cJ cZ oA rA σ_15 ++ b_d cB cC cI cJ cZ oA rA σ_15) H := er_I hP' hq9
            clear hP' hq9
            subst hw9
            obtain ⟨x_64, ex_64, hF_65⟩ := bnd_e hF_63
            clear hF_63
            refine m_top ex_64 ?_
            obtain ⟨u_66, hu_66, hF_67⟩ := Option.bind_eq_some_iff.mp hF_65
            clear hF_65
            have hPc := bx_P (bs := [b_k cB cC cI cJ cZ oA rA σ_15, b_p cB cC cI cJ cZ oA rA σ_15, b_o cB cC cI cJ cZ oA rA σ_15, b_s cB cC cI cJ cZ oA rA σ_15, b_c cB cC cI cJ cZ oA rA σ_15, b_t cB cC cI cJ cZ oA rA σ_15, b_d cB cC cI cJ cZ oA rA σ_15]) (bs' := [b_k cB cC cI cJ cZ oA rA σ_15, b_p cB cC cI cJ cZ oA rA σ_15, b_o cB cC cI cJ cZ oA rA σ_15, b_s cB cC cI cJ cZ oA rA σ_15, b_c cB cC cI cJ cZ oA rA σ_15, b_t cB cC cI cJ cZ oA rA σ_15, b_d cB cC cI cJ cZ oA rA σ_15]) (ws' := (b_k cB cC cI cJ cZ oA rA σ_15 ++ b_p cB cC cI cJ cZ oA rA σ_15 ++ b_o cB cC cI cJ cZ oA rA σ_15 ++ b_s cB cC cI cJ cZ oA rA σ_15 ++ b_c cB cC cI cJ cZ oA rA σ_15 ++ b_t cB cC cI cJ cZ oA rA σ_15 ++ b_d cB cC cI cJ cZ oA rA σ_15)) hP fl_7 fl_7 [0, 1, 2, 3, 4, 5, 6] rfl
            have hDc := bx_D (bs := [b_k cB cC cI cJ cZ oA rA σ_15, b_p cB cC cI cJ cZ oA rA σ_15, b_o cB cC cI cJ cZ oA rA σ_15, b_s cB cC cI cJ cZ oA rA σ_15, b_c cB cC cI cJ cZ oA rA σ_15, b_t cB cC cI cJ cZ oA rA σ_15, b_d cB cC cI cJ cZ oA rA σ_15]) (bs' := [b_k cB cC cI cJ cZ oA rA σ_15, b_p cB cC cI cJ cZ oA rA σ_15, b_o cB cC cI cJ cZ oA rA σ_15, b_s cB cC cI cJ cZ oA rA σ_15, b_c cB cC cI cJ cZ oA rA σ_15, b_t cB cC cI cJ cZ oA rA σ_15, b_d cB cC cI cJ cZ oA rA σ_15]) (ws' := (b_k cB cC cI cJ cZ oA rA σ_15 ++ b_p cB cC cI cJ cZ oA rA σ_15 ++ b_o cB cC cI cJ cZ oA rA σ_15 ++ b_s cB cC cI cJ cZ oA rA σ_15 ++ b_c cB cC cI cJ cZ oA rA σ_15 ++ b_t cB cC cI cJ cZ oA rA σ_15 ++ b_d cB cC cI cJ cZ oA rA σ_15)) (hDD σ_15) fl_7 fl_7 [0, 1, 2, 3, 4, 5, 6] (by decide +kernel) rfl
            have hFc := bx_F (bs := [b_k cB cC cI cJ cZ oA rA σ_15, b_p cB cC cI cJ cZ oA rA σ_15, b_o cB cC cI cJ cZ oA rA σ_15, b_s cB cC cI cJ cZ oA rA σ_15, b_c cB cC cI cJ cZ oA rA σ_15, b_t cB cC cI cJ cZ oA rA σ_15, b_d cB cC cI cJ cZ oA rA σ_15]) (bs' := [b_k cB cC cI cJ cZ oA rA σ_15, b_p cB cC cI cJ cZ oA rA σ_15, b_o cB cC cI cJ cZ oA rA σ_15, b_s cB cC cI cJ cZ oA rA σ_15, b_c cB cC cI cJ cZ oA rA σ_15, b_t cB cC cI cJ cZ oA rA σ_15, b_d cB cC cI cJ cZ oA rA σ_15]) (wc := (b_k cB cC cI cJ cZ oA rA σ_15 ++ b_p cB cC cI cJ cZ oA rA σ_15 ++ b_o cB cC cI cJ cZ oA rA σ_15 ++ b_s cB cC cI cJ cZ oA rA σ_15 ++ b_c cB cC cI cJ cZ oA rA σ_15 ++ b_t cB cC cI cJ cZ oA rA σ_15 ++ b_d cB cC cI cJ cZ oA rA σ_15)) (hDD σ_15) hS hA fl_7 fl_7 [0, 1, 2, 3, 4, 5, 6] rfl
            refine g_ofv (wc := (b_k cB cC cI cJ cZ oA rA σ_15 ++ b_p cB cC cI cJ cZ oA rA σ_15 ++ b_o cB cC cI cJ cZ oA rA σ_15 ++ b_s cB cC cI cJ cZ oA rA σ_15 ++ b_c cB cC cI cJ cZ oA rA σ_15 ++ b_t cB cC cI cJ cZ oA rA σ_15 ++ b_d cB cC cI cJ cZ oA rA σ_15)) (wr := ([] : va_W)) hP (hDD σ_15) hS hFc (bx_ix [b_k cB cC cI cJ cZ oA rA σ_15, b_p cB cC cI cJ cZ oA rA σ_15, b_o cB cC cI cJ cZ oA rA σ_15, b_s cB cC cI cJ cZ oA rA σ_15, b_c cB cC cI cJ cZ oA rA σ_15, b_t cB cC cI cJ cZ oA rA σ_15, b_d cB cC cI cJ cZ oA rA σ_15] [0, 1, 2, 3, 4, 5, 6]) (bx_ix [b_k cB cC cI cJ cZ oA rA σ_15, b_p cB cC cI cJ cZ oA rA σ_15, b_o cB cC cI cJ cZ oA rA σ_15, b_s cB cC cI cJ cZ oA rA σ_15, b_c cB cC cI cJ cZ oA rA σ_15, b_t cB cC cI cJ cZ oA rA σ_15, b_d cB cC cI cJ cZ oA rA σ_15] []) (bx_C (bs := [b_k cB cC cI cJ cZ oA rA σ_15, b_p cB cC cI cJ cZ oA rA σ_15, b_o cB cC cI cJ cZ oA rA σ_15, b_s cB cC cI cJ cZ oA rA σ_15, b_c cB cC cI cJ cZ oA rA σ_15, b_t cB cC cI cJ cZ oA rA σ_15, b_d cB cC cI cJ cZ oA rA σ_15]) (bs' := [b_k cB cC cI cJ cZ oA rA σ_15, b_p cB cC cI cJ cZ oA rA σ_15, b_o cB cC cI cJ cZ oA rA σ_15, b_s cB cC cI cJ cZ oA rA σ_15, b_c cB cC cI cJ cZ oA rA σ_15, b_t cB cC cI cJ cZ oA rA σ_15, b_d cB cC cI cJ cZ oA rA σ_15]) (is := [0, 1, 2, 3, 4, 5, 6]) fl_7 fl_7 rfl) (bx_C (bs := [b_k cB cC cI cJ cZ oA rA σ_15, b_p cB cC cI cJ cZ oA rA σ_15, b_o cB cC cI cJ cZ oA rA σ_15, b_s cB cC cI cJ cZ oA rA σ_15, b_c cB cC cI cJ cZ oA rA σ_15, b_t cB cC cI cJ cZ oA rA σ_15, b_d cB cC cI cJ cZ oA rA σ_15]) (bs' := []) (is := []) fl_7 fl_0 rfl) (bx_n (by decide +kernel)) (bx_d (by decide +kernel)) (va_runV (As := [.int x_64]) (rest := []) ⟨hx, hb, hml, hown, hts⟩ (k_X3_push l dC dI cB cC cI cJ cZ cP oA rA H.size  x_64 σ_15 _ hu_66) (cwV 1 hts (g_gV wq_1141 wq_1142 wq_2085 wq_11 wq_1143) rfl rfl rfl (by decide +kernel) ⟨Nat.le_of_ble_eq_true rfl, Nat.le_of_ble_eq_true rfl⟩) (g_preV g_bl0 hK hPc hDc hS hE hFc g_to0 (q0 := 0) (ci := 3) rfl rfl) rfl rfl hl.1 rfl (lv_room (Nat.le_of_ble_eq_true rfl)) dX3_objectOp_187 ⟨Nat.le_of_ble_eq_true rfl, Nat.le_of_ble_eq_true rfl⟩) (fun u9 H locs hw9 hP' hD' hS => ?_)
            clear hPc hDc hFc
            have hP : va_P (dC, dI) vwCl (b_k cB cC cI cJ cZ oA rA u_66.2 ++ b_p cB cC cI cJ cZ oA rA u_66.2 ++ b_o cB cC cI cJ cZ oA rA u_66.2 ++ b_s cB cC cI cJ cZ oA rA u_66.2 ++ b_c cB cC cI cJ cZ oA rA u_66.2 ++ b_t cB cC cI cJ cZ oA rA u_66.2 ++ b_d cB cC cI cJ cZ oA rA u_66.2) H := hP'
            clear hP' hD'
            refine lv_goto (tgt := 209) hx hb dX3_objectOp_190 (by decide) ?_
            have h9 := Option.some.inj hF_67
            subst h9
            exact W.vret hx hb hr (fun t ht hW => ⟨⟨(), rfl, trivial, m_end ht hP, hDD _⟩, hS.F ht⟩) hS.2.2 dX3_objectOp_209
          have hF_68 := ineg c_62 hF_61
          clear hF_61
          refine m_tabD (lo := 21) (n := 6) (tgt := 201) hx hb dX3_objectOp_72 (by decide +kernel) (by decide) (fun j9 h9 e9 => by
              match j9, h9 with
              | 0, _ => exact absurd ((by rw [e9]; decide +kernel)) c_28
              | 1, _ => rfl
              | 2, _ => exact absurd ((by rw [e9]; decide +kernel)) c_33
              | 3, _ => exact absurd ((by rw [e9]; decide +kernel)) c_48
              | 4, _ => exact absurd ((by rw [e9]; decide +kernel)) c_55
              | 5, _ => exact absurd ((by rw [e9]; decide +kernel)) c_62
              | n9 + 6, h9 => exact absurd h9 (by omega)) ?_
          refine lv_aload_n hx hb dX3_objectOp_201 rfl (lv_at hl 1 rfl) ?_
          refine va_get (D := (dC, dI)) (ci := 3) (v := .ref (oA 9)) (C := RX3) (T := TX3) (N := 16) hx hb hts ii_X3 hown hK hP 0 rfl rfl 0 (by decide) (hts (.fieldLink RX3 29 "StoryHouse$Machine" "play" "LStoryHouse$Play;") wq_259) (fun _ h9 => h9) rfl dX3_objectOp_202 ?_
          refine lv_iload_n hx hb dX3_objectOp_205 rfl (lv_at hl 4 rfl) ?_
          obtain ⟨u_69, hu_69, hF_70⟩ := Option.bind_eq_some_iff.mp hF_68
          clear hF_68
          have hPc := bx_P (bs := [b_k cB cC cI cJ cZ oA rA σ_15, b_p cB cC cI cJ cZ oA rA σ_15, b_o cB cC cI cJ cZ oA rA σ_15, b_s cB cC cI cJ cZ oA rA σ_15, b_c cB cC cI cJ cZ oA rA σ_15, b_t cB cC cI cJ cZ oA rA σ_15, b_d cB cC cI cJ cZ oA rA σ_15]) (bs' := [b_p cB cC cI cJ cZ oA rA σ_15]) (ws' := (b_p cB cC cI cJ cZ oA rA σ_15)) hP fl_7 fl_1 [1] rfl
          have hDc := bx_D (bs := [b_k cB cC cI cJ cZ oA rA σ_15, b_p cB cC cI cJ cZ oA rA σ_15, b_o cB cC cI cJ cZ oA rA σ_15, b_s cB cC cI cJ cZ oA rA σ_15, b_c cB cC cI cJ cZ oA rA σ_15, b_t cB cC cI cJ cZ oA rA σ_15, b_d cB cC cI cJ cZ oA rA σ_15]) (bs' := [b_p cB cC cI cJ cZ oA rA σ_15]) (ws' := (b_p cB cC cI cJ cZ oA rA σ_15)) (hDD σ_15) fl_7 fl_1 [1] (by decide +kernel) rfl
          have hFc := bx_F (bs := [b_k cB cC cI cJ cZ oA rA σ_15, b_p cB cC cI cJ cZ oA rA σ_15, b_o cB cC cI cJ cZ oA rA σ_15, b_s cB cC cI cJ cZ oA rA σ_15, b_c cB cC cI cJ cZ oA rA σ_15, b_t cB cC cI cJ cZ oA rA σ_15, b_d cB cC cI cJ cZ oA rA σ_15]) (bs' := [b_p cB cC cI cJ cZ oA rA σ_15]) (wc := (b_p cB cC cI cJ cZ oA rA σ_15)) (hDD σ_15) hS hA fl_7 fl_1 [1] rfl
          refine g_ofv (wc := (b_p cB cC cI cJ cZ oA rA σ_15)) (wr := (b_k cB cC cI cJ cZ oA rA σ_15 ++ b_o cB cC cI cJ cZ oA rA σ_15 ++ b_s cB cC cI cJ cZ oA rA σ_15 ++ b_c cB cC cI cJ cZ oA rA σ_15 ++ b_t cB cC cI cJ cZ oA rA σ_15 ++ b_d cB cC cI cJ cZ oA rA σ_15)) hP (hDD σ_15) hS hFc (bx_ix [b_k cB cC cI cJ cZ oA rA σ_15, b_p cB cC cI cJ cZ oA rA σ_15, b_o cB cC cI cJ cZ oA rA σ_15, b_s cB cC cI cJ cZ oA rA σ_15, b_c cB cC cI cJ cZ oA rA σ_15, b_t cB cC cI cJ cZ oA rA σ_15, b_d cB cC cI cJ cZ oA rA σ_15] [1]) (bx_ix [b_k cB cC cI cJ cZ oA rA σ_15, b_p cB cC cI cJ cZ oA rA σ_15, b_o cB cC cI cJ cZ oA rA σ_15, b_s cB cC cI cJ cZ oA rA σ_15, b_c cB cC cI cJ cZ oA rA σ_15, b_t cB cC cI cJ cZ oA rA σ_15, b_d cB cC cI cJ cZ oA rA σ_15] [0, 2, 3, 4, 5, 6]) (bx_C (bs := [b_k cB cC cI cJ cZ oA rA σ_15, b_p cB cC cI cJ cZ oA rA σ_15, b_o cB cC cI cJ cZ oA rA σ_15, b_s cB cC cI cJ cZ oA rA σ_15, b_c cB cC cI cJ cZ oA rA σ_15, b_t cB cC cI cJ cZ oA rA σ_15, b_d cB cC cI cJ cZ oA rA σ_15]) (bs' := [b_p cB cC cI cJ cZ oA rA σ_15]) (is := [1]) fl_7 fl_1 rfl) (bx_C (bs := [b_k cB cC cI cJ cZ oA rA σ_15, b_p cB cC cI cJ cZ oA rA σ_15, b_o cB cC cI cJ cZ oA rA σ_15, b_s cB cC cI cJ cZ oA rA σ_15, b_c cB cC cI cJ cZ oA rA σ_15, b_t cB cC cI cJ cZ oA rA σ_15, b_d cB cC cI cJ cZ oA rA σ_15]) (bs' := [b_k cB cC cI cJ cZ oA rA σ_15, b_o cB cC cI cJ cZ oA rA σ_15, b_s cB cC cI cJ cZ oA rA σ_15, b_c cB cC cI cJ cZ oA rA σ_15, b_t cB cC cI cJ cZ oA rA σ_15, b_d cB cC cI cJ cZ oA rA σ_15]) (is := [0, 2, 3, 4, 5, 6]) fl_7 fl_6 rfl) (bx_n (by decide +kernel)) (bx_d (by decide +kernel)) (va_runV (As := [.int u_6.1]) (rest := []) ⟨hx, hb, hml, hown, hts⟩ (k_X6_takeOut l dC dI cB cC cI cJ cZ cP oA rA H.size  u_6.1 σ_15 _ hu_69) (cwV 1 hts (g_gV wq_1203 wq_967 wq_968 wq_10 wq_969) rfl rfl rfl (by decide +kernel) ⟨Nat.le_of_ble_eq_true rfl, Nat.le_of_ble_eq_true rfl⟩) (g_preV g_bl0 hK hPc hDc hS hE hFc g_to0 (q0 := 0) (ci := 6) rfl rfl) rfl rfl hl.1 rfl (lv_room (Nat.le_of_ble_eq_true rfl)) dX3_objectOp_206 ⟨Nat.le_of_ble_eq_true rfl, Nat.le_of_ble_eq_true rfl⟩) (fun u9 H locs hw9 hP' hD' hS => ?_)
          clear hPc hDc hFc
          obtain ⟨σ_71, eσ_71, hF_72⟩ := bnd_e hF_70
          clear hF_70
          have hP : va_P (dC, dI) vwCl (b_k cB cC cI cJ cZ oA rA σ_71 ++ b_p cB cC cI cJ cZ oA rA σ_71 ++ b_o cB cC cI cJ cZ oA rA σ_71 ++ b_s cB cC cI cJ cZ oA rA σ_71 ++ b_c cB cC cI cJ cZ oA rA σ_71 ++ b_t cB cC cI cJ cZ oA rA σ_71 ++ b_d cB cC cI cJ cZ oA rA σ_71) H := by rw [eσ_71]; exact bx_P (bs := [b_k cB cC cI cJ cZ oA rA σ_15, b_o cB cC cI cJ cZ oA rA σ_15, b_s cB cC cI cJ cZ oA rA σ_15, b_c cB cC cI cJ cZ oA rA σ_15, b_t cB cC cI cJ cZ oA rA σ_15, b_d cB cC cI cJ cZ oA rA σ_15] ++ [b_p cB cC cI cJ cZ oA rA u_69.2]) (bs' := [b_k cB cC cI cJ cZ oA rA (mrg (fun j => j == 9) σ_15 u_69.2), b_p cB cC cI cJ cZ oA rA (mrg (fun j => j == 9) σ_15 u_69.2), b_o cB cC cI cJ cZ oA rA (mrg (fun j => j == 9) σ_15 u_69.2), b_s cB cC cI cJ cZ oA rA (mrg (fun j => j == 9) σ_15 u_69.2), b_c cB cC cI cJ cZ oA rA (mrg (fun j => j == 9) σ_15 u_69.2), b_t cB cC cI cJ cZ oA rA (mrg (fun j => j == 9) σ_15 u_69.2), b_d cB cC cI cJ cZ oA rA (mrg (fun j => j == 9) σ_15 u_69.2)]) hP' (fl_a fl_6 fl_1) fl_7 [0, 6, 1, 2, 3, 4, 5] rfl
          clear hP' hD'
          have h9 := Option.some.inj hF_72
          subst h9
          exact W.vret hx hb hr (fun t ht hW => ⟨⟨(), rfl, trivial, m_end ht hP, hDD _⟩, hS.F ht⟩) hS.2.2 dX3_objectOp_209
        · have hF_73 := ineg c_26 hF_25
          clear hF_25
          exact Jj_18  σ_15 hF_73 _ _ hP hS ls (lv_sub hl [1] rfl)
    obtain ⟨j_75, ej_75, hF_76⟩ := bnd_e hF_11
    clear hF_11
    have Jj_75 : ∀  (σ_74 : HS), j_75  σ_74 = some res → ∀ (H : Heap) (locs : List Loc), va_P (dC, dI) vwCl (b_k cB cC cI cJ cZ oA rA σ_74 ++ b_p cB cC cI cJ cZ oA rA σ_74 ++ b_o cB cC cI cJ cZ oA rA σ_74 ++ b_s cB cC cI cJ cZ oA rA σ_74 ++ b_c cB cC cI cJ cZ oA rA σ_74 ++ b_t cB cC cI cJ cZ oA rA σ_74 ++ b_d cB cC cI cJ cZ oA rA σ_74) H → va_S A s.heap H locs → ∀ ls : Array Slot, lv_has ls 5 [(0, .ref (oA 10)), (1, .int p0), (2, .int t_1), (3, .int u_6.1)] → W p l e (headSpec (g_ws yX3_objectOp cX3_objectOp 5 none) { frames := 8, cells := 0, slots := 0, locals := 197 }).room s m ([.ref (oA 10), .int p0] : List Value).toArray below meth c H locs 0 0 (MQ below (va_Qv (fun (_ : Unit) => True) (g_Bo (dC, dI) A (fun (_ : Unit) => (b_k cB cC cI cJ cZ oA rA res.2 ++ b_p cB cC cI cJ cZ oA rA res.2 ++ b_o cB cC cI cJ cZ oA rA res.2 ++ b_s cB cC cI cJ cZ oA rA res.2 ++ b_c cB cC cI cJ cZ oA rA res.2 ++ b_t cB cC cI cJ cZ oA rA res.2 ++ b_d cB cC cI cJ cZ oA rA res.2))) A) ([.ref (oA 10), .int p0] : List Value).toArray s 0 0 A) (F0 m 46 ls []) := by
      intro  σ_74 hF0 H locs hP hS ls hl
      subst ej_75
      have hF_77 := hF0
      clear hF0
      refine lv_iconst (v := 0) hx hb dX3_objectOp_46 (by decide +kernel) ?_
      exact Jj_10 0 σ_74 hF_77 _ _ hP hS ls (lv_sub hl [0, 1, 2, 3] rfl)
    refine lv_icmp_ne (tgt := 46) hx hb dX3_objectOp_23 (by decide) (fun c_78 => ?_) (fun c_78 => ?_)
    · have hF_94 := ineg c_78 hF_76
      clear hF_76
      exact Jj_75  u_6.2 hF_94 _ _ hP hS ls (lv_sub hl [2, 3, 1, 0] rfl)
    · have hF_79 := ipos c_78 hF_76
      clear hF_76
      refine lv_iload_n hx hb dX3_objectOp_26 rfl (lv_at hl 0 rfl) ?_
      refine lv_iconst (v := 1) hx hb dX3_objectOp_27 (by decide +kernel) ?_
      obtain ⟨j_81, ej_81, hF_82⟩ := bnd_e hF_79
      clear hF_79
      have Jj_81 : ∀  (σ_80 : HS), j_81  σ_80 = some res → ∀ (H : Heap) (locs : List Loc), va_P (dC, dI) vwCl (b_k cB cC cI cJ cZ oA rA σ_80 ++ b_p cB cC cI cJ cZ oA rA σ_80 ++ b_o cB cC cI cJ cZ oA rA σ_80 ++ b_s cB cC cI cJ cZ oA rA σ_80 ++ b_c cB cC cI cJ cZ oA rA σ_80 ++ b_t cB cC cI cJ cZ oA rA σ_80 ++ b_d cB cC cI cJ cZ oA rA σ_80) H → va_S A s.heap H locs → ∀ ls : Array Slot, lv_has ls 5 [(0, .ref (oA 10)), (1, .int p0), (2, .int t_1), (3, .int u_6.1)] → W p l e (headSpec (g_ws yX3_objectOp cX3_objectOp 5 none) { frames := 8, cells := 0, slots := 0, locals := 197 }).room s m ([.ref (oA 10), .int p0] : List Value).toArray below meth c H locs 0 0 (MQ below (va_Qv (fun (_ : Unit) => True) (g_Bo (dC, dI) A (fun (_ : Unit) => (b_k cB cC cI cJ cZ oA rA res.2 ++ b_p cB cC cI cJ cZ oA rA res.2 ++ b_o cB cC cI cJ cZ oA rA res.2 ++ b_s cB cC cI cJ cZ oA rA res.2 ++ b_c cB cC cI cJ cZ oA rA res.2 ++ b_t cB cC cI cJ cZ oA rA res.2 ++ b_d cB cC cI cJ cZ oA rA res.2))) A) ([.ref (oA 10), .int p0] : List Value).toArray s 0 0 A) (F0 m 42 ls []) := by
        intro  σ_80 hF0 H locs hP hS ls hl
        subst ej_81
        have hF_83 := hF0
        clear hF0
        refine lv_iconst (v := 1) hx hb dX3_objectOp_42 (by decide +kernel) ?_
        refine lv_goto (tgt := 47) hx hb dX3_objectOp_43 (by decide) ?_
        exact Jj_10 1 σ_80 hF_83 _ _ hP hS ls (lv_sub hl [0, 1, 2, 3] rfl)
      refine lv_icmp_eq (tgt := 42) hx hb dX3_objectOp_28 (by decide) (fun c_84 => ?_) (fun c_84 => ?_)
      · have hF_85 := ipos c_84 hF_82
        clear hF_82
        exact Jj_81  u_6.2 hF_85 _ _ hP hS ls (lv_sub hl [2, 3, 1, 0] rfl)
      · have hF_86 := ineg c_84 hF_82
        clear hF_82
        refine lv_aload_n hx hb dX3_objectOp_31 rfl (lv_at hl 2 rfl) ?_
        refine va_get (D := (dC, dI)) (ci := 3) (v := .ref (oA 4)) (C := RX3) (T := TX3) (N := 16) hx hb hts ii_X3 hown hK hP 0 rfl rfl 2 (by decide) (hts (.fieldLink RX3 52 "StoryHouse$Machine" "story" "LStoryHouse$Story;") wq_262) (fun _ h9 => h9) rfl dX3_objectOp_32 ?_
        refine lv_iload_n hx hb dX3_objectOp_35 rfl (lv_at hl 0 rfl) ?_
        obtain ⟨u_87, hu_87, hF_88⟩ := Option.bind_eq_some_iff.mp hF_86
        clear hF_86
        have hPc := bx_P (bs := [b_k cB cC cI cJ cZ oA rA u_6.2, b_p cB cC cI cJ cZ oA rA u_6.2, b_o cB cC cI cJ cZ oA rA u_6.2, b_s cB cC cI cJ cZ oA rA u_6.2, b_c cB cC cI cJ cZ oA rA u_6.2, b_t cB cC cI cJ cZ oA rA u_6.2, b_d cB cC cI cJ cZ oA rA u_6.2]) (bs' := [b_s cB cC cI cJ cZ oA rA u_6.2, b_c cB cC cI cJ cZ oA rA u_6.2, b_t cB cC cI cJ cZ oA rA u_6.2, b_d cB cC cI cJ cZ oA rA u_6.2]) (ws' := (b_s cB cC cI cJ cZ oA rA u_6.2 ++ b_c cB cC cI cJ cZ oA rA u_6.2 ++ b_t cB cC cI cJ cZ oA rA u_6.2 ++ b_d cB cC cI cJ cZ oA rA u_6.2)) hP fl_7 fl_4 [3, 4, 5, 6] rfl
        have hDc := bx_D (bs := [b_k cB cC cI cJ cZ oA rA u_6.2, b_p cB cC cI cJ cZ oA rA u_6.2, b_o cB cC cI cJ cZ oA rA u_6.2, b_s cB cC cI cJ cZ oA rA u_6.2, b_c cB cC cI cJ cZ oA rA u_6.2, b_t cB cC cI cJ cZ oA rA u_6.2, b_d cB cC cI cJ cZ oA rA u_6.2]) (bs' := [b_s cB cC cI cJ cZ oA rA u_6.2, b_c cB cC cI cJ cZ oA rA u_6.2, b_t cB cC cI cJ cZ oA rA u_6.2, b_d cB cC cI cJ cZ oA rA u_6.2]) (ws' := (b_s cB cC cI cJ cZ oA rA u_6.2 ++ b_c cB cC cI cJ cZ oA rA u_6.2 ++ b_t cB cC cI cJ cZ oA rA u_6.2 ++ b_d cB cC cI cJ cZ oA rA u_6.2)) (hDD u_6.2) fl_7 fl_4 [3, 4, 5, 6] (by decide +kernel) rfl
        have hFc := bx_F (bs := [b_k cB cC cI cJ cZ oA rA u_6.2, b_p cB cC cI cJ cZ oA rA u_6.2, b_o cB cC cI cJ cZ oA rA u_6.2, b_s cB cC cI cJ cZ oA rA u_6.2, b_c cB cC cI cJ cZ oA rA u_6.2, b_t cB cC cI cJ cZ oA rA u_6.2, b_d cB cC cI cJ cZ oA rA u_6.2]) (bs' := [b_s cB cC cI cJ cZ oA rA u_6.2, b_c cB cC cI cJ cZ oA rA u_6.2, b_t cB cC cI cJ cZ oA rA u_6.2, b_d cB cC cI cJ cZ oA rA u_6.2]) (wc := (b_s cB cC cI cJ cZ oA rA u_6.2 ++ b_c cB cC cI cJ cZ oA rA u_6.2 ++ b_t cB cC cI cJ cZ oA rA u_6.2 ++ b_d cB cC cI cJ cZ oA rA u_6.2)) (hDD u_6.2) hS hA fl_7 fl_4 [3, 4, 5, 6] rfl
        refine g_ofi (wc := (b_s cB cC cI cJ cZ oA rA u_6.2 ++ b_c cB cC cI cJ cZ oA rA u_6.2 ++ b_t cB cC cI cJ cZ oA rA u_6.2 ++ b_d cB cC cI cJ cZ oA rA u_6.2)) (wr := (b_k cB cC cI cJ cZ oA rA u_6.2 ++ b_p cB cC cI cJ cZ oA rA u_6.2 ++ b_o cB cC cI cJ cZ oA rA u_6.2)) hP (hDD u_6.2) hS hFc (bx_ix [b_k cB cC cI cJ cZ oA rA u_6.2, b_p cB cC cI cJ cZ oA rA u_6.2, b_o cB cC cI cJ cZ oA rA u_6.2, b_s cB cC cI cJ cZ oA rA u_6.2, b_c cB cC cI cJ cZ oA rA u_6.2, b_t cB cC cI cJ cZ oA rA u_6.2, b_d cB cC cI cJ cZ oA rA u_6.2] [3, 4, 5, 6]) (bx_ix [b_k cB cC cI cJ cZ oA rA u_6.2, b_p cB cC cI cJ cZ oA rA u_6.2, b_o cB cC cI cJ cZ oA rA u_6.2, b_s cB cC cI cJ cZ oA rA u_6.2, b_c cB cC cI cJ cZ oA rA u_6.2, b_t cB cC cI cJ cZ oA rA u_6.2, b_d cB cC cI cJ cZ oA rA u_6.2] [0, 1, 2]) (bx_C (bs := [b_k cB cC cI cJ cZ oA rA u_6.2, b_p cB cC cI cJ cZ oA rA u_6.2, b_o cB cC cI cJ cZ oA rA u_6.2, b_s cB cC cI cJ cZ oA rA u_6.2, b_c cB cC cI cJ cZ oA rA u_6.2, b_t cB cC cI cJ cZ oA rA u_6.2, b_d cB cC cI cJ cZ oA rA u_6.2]) (bs' := [b_s cB cC cI cJ cZ oA rA u_6.2, b_c cB cC cI cJ cZ oA rA u_6.2, b_t cB cC cI cJ cZ oA rA u_6.2, b_d cB cC cI cJ cZ oA rA u_6.2]) (is := [3, 4, 5, 6]) fl_7 fl_4 rfl) (bx_C (bs := [b_k cB cC cI cJ cZ oA rA u_6.2, b_p cB cC cI cJ cZ oA rA u_6.2, b_o cB cC cI cJ cZ oA rA u_6.2, b_s cB cC cI cJ cZ oA rA u_6.2, b_c cB cC cI cJ cZ oA rA u_6.2, b_t cB cC cI cJ cZ oA rA u_6.2, b_d cB cC cI cJ cZ oA rA u_6.2]) (bs' := [b_k cB cC cI cJ cZ oA rA u_6.2, b_p cB cC cI cJ cZ oA rA u_6.2, b_o cB cC cI cJ cZ oA rA u_6.2]) (is := [0, 1, 2]) fl_7 fl_3 rfl) (bx_n (by decide +kernel)) (bx_d (by decide +kernel)) (va_runV (As := [.int u_6.1]) (rest := []) ⟨hx, hb, hml, hown, hts⟩ (k_X7_isRoom l dC dI cB cC cI cJ cZ cP oA rA H.size  u_6.1 u_6.2 _ hu_87) (cwV 1 hts (g_gV wq_1178 wq_816 wq_817 wq_5 wq_818) rfl rfl rfl (by decide +kernel) ⟨Nat.le_of_ble_eq_true rfl, Nat.le_of_ble_eq_true rfl⟩) (g_preV g_bl0 hK hPc hDc hS hE hFc g_to0 (q0 := 0) (ci := 7) rfl rfl) rfl rfl hl.1 rfl (lv_room (Nat.le_of_ble_eq_true rfl)) dX3_objectOp_36 ⟨Nat.le_of_ble_eq_true rfl, Nat.le_of_ble_eq_true rfl⟩) (fun r9 u9 H locs hw9 hP' hD' hS => ?_)
        clear hPc hDc hFc
        subst hw9
        obtain ⟨σ_89, eσ_89, hF_90⟩ := bnd_e hF_88
        clear hF_88
        have hP : va_P (dC, dI) vwCl (b_k cB cC cI cJ cZ oA rA σ_89 ++ b_p cB cC cI cJ cZ oA rA σ_89 ++ b_o cB cC cI cJ cZ oA rA σ_89 ++ b_s cB cC cI cJ cZ oA rA σ_89 ++ b_c cB cC cI cJ cZ oA rA σ_89 ++ b_t cB cC cI cJ cZ oA rA σ_89 ++ b_d cB cC cI cJ cZ oA rA σ_89) H := by rw [eσ_89]; exact bx_P (bs := [b_k cB cC cI cJ cZ oA rA u_6.2, b_p cB cC cI cJ cZ oA rA u_6.2, b_o cB cC cI cJ cZ oA rA u_6.2] ++ [b_s cB cC cI cJ cZ oA rA u_87.2, b_c cB cC cI cJ cZ oA rA u_87.2, b_t cB cC cI cJ cZ oA rA u_87.2, b_d cB cC cI cJ cZ oA rA u_87.2]) (bs' := [b_k cB cC cI cJ cZ oA rA (mrg (fun j => j == 4 || j == 5 || j == 6 || j == 7) u_6.2 u_87.2), b_p cB cC cI cJ cZ oA rA (mrg (fun j => j == 4 || j == 5 || j == 6 || j == 7) u_6.2 u_87.2), b_o cB cC cI cJ cZ oA rA (mrg (fun j => j == 4 || j == 5 || j == 6 || j == 7) u_6.2 u_87.2), b_s cB cC cI cJ cZ oA rA (mrg (fun j => j == 4 || j == 5 || j == 6 || j == 7) u_6.2 u_87.2), b_c cB cC cI cJ cZ oA rA (mrg (fun j => j == 4 || j == 5 || j == 6 || j == 7) u_6.2 u_87.2), b_t cB cC cI cJ cZ oA rA (mrg (fun j => j == 4 || j == 5 || j == 6 || j == 7) u_6.2 u_87.2), b_d cB cC cI cJ cZ oA rA (mrg (fun j => j == 4 || j == 5 || j == 6 || j == 7) u_6.2 u_87.2)]) hP' (fl_a fl_3 fl_4) fl_7 [0, 1, 2, 3, 4, 5, 6] rfl
        clear hP' hD'
        refine lv_if_eq (tgt := 46) hx hb dX3_objectOp_39 (by decide) (fun c_91 => ?_) (fun c_91 => ?_)
        · have hF_92 := ipos c_91 hF_90
          clear hF_90
          exact Jj_75  σ_89 hF_92 _ _ hP hS ls (lv_sub hl [2, 3, 1, 0] rfl)
        · have hF_93 := ineg c_91 hF_90
          clear hF_90
          exact Jj_81  σ_89 hF_93 _ _ hP hS ls (lv_sub hl [2, 3, 1, 0] rfl)
  refine lv_icmp_ne (tgt := 13) hx hb dX3_objectOp_3 (by decide) (fun c_95 => ?_) (fun c_95 => ?_)
  · have hF_99 := ineg c_95 hF_4
    clear hF_4
    refine lv_iconst (v := 0) hx hb dX3_objectOp_13 (by decide +kernel) ?_
    exact Jj_3 0 Γ hF_99 _ _ hP hS ls (lv_sub hl [0, 1] rfl)
  · have hF_96 := ipos c_95 hF_4
    clear hF_4
    refine lv_aload_n hx hb dX3_objectOp_6 rfl (lv_at hl 0 rfl) ?_
    obtain ⟨u_97, hu_97, hF_98⟩ := Option.bind_eq_some_iff.mp hF_96
    clear hF_96
    have hPc := bx_P (bs := [b_k cB cC cI cJ cZ oA rA Γ, b_p cB cC cI cJ cZ oA rA Γ, b_o cB cC cI cJ cZ oA rA Γ, b_s cB cC cI cJ cZ oA rA Γ, b_c cB cC cI cJ cZ oA rA Γ, b_t cB cC cI cJ cZ oA rA Γ, b_d cB cC cI cJ cZ oA rA Γ]) (bs' := [b_k cB cC cI cJ cZ oA rA Γ, b_p cB cC cI cJ cZ oA rA Γ, b_o cB cC cI cJ cZ oA rA Γ, b_s cB cC cI cJ cZ oA rA Γ, b_c cB cC cI cJ cZ oA rA Γ, b_t cB cC cI cJ cZ oA rA Γ, b_d cB cC cI cJ cZ oA rA Γ]) (ws' := (b_k cB cC cI cJ cZ oA rA Γ ++ b_p cB cC cI cJ cZ oA rA Γ ++ b_o cB cC cI cJ cZ oA rA Γ ++ b_s cB cC cI cJ cZ oA rA Γ ++ b_c cB cC cI cJ cZ oA rA Γ ++ b_t cB cC cI cJ cZ oA rA Γ ++ b_d cB cC cI cJ cZ oA rA Γ)) hP fl_7 fl_7 [0, 1, 2, 3, 4, 5, 6] rfl
    have hDc := bx_D (bs := [b_k cB cC cI cJ cZ oA rA Γ, b_p cB cC cI cJ cZ oA rA Γ, b_o cB cC cI cJ cZ oA rA Γ, b_s cB cC cI cJ cZ oA rA Γ, b_c cB cC cI cJ cZ oA rA Γ, b_t cB cC cI cJ cZ oA rA Γ, b_d cB cC cI cJ cZ oA rA Γ]) (bs' := [b_k cB cC cI cJ cZ oA rA Γ, b_p cB cC cI cJ cZ oA rA Γ, b_o cB cC cI cJ cZ oA rA Γ, b_s cB cC cI cJ cZ oA rA Γ, b_c cB cC cI cJ cZ oA rA Γ, b_t cB cC cI cJ cZ oA rA Γ, b_d cB cC cI cJ cZ oA rA Γ]) (ws' := (b_k cB cC cI cJ cZ oA rA Γ ++ b_p cB cC cI cJ cZ oA rA Γ ++ b_o cB cC cI cJ cZ oA rA Γ ++ b_s cB cC cI cJ cZ oA rA Γ ++ b_c cB cC cI cJ cZ oA rA Γ ++ b_t cB cC cI cJ cZ oA rA Γ ++ b_d cB cC cI cJ cZ oA rA Γ)) (hDD Γ) fl_7 fl_7 [0, 1, 2, 3, 4, 5, 6] (by decide +kernel) rfl
    have hFc := bx_F (bs := [b_k cB cC cI cJ cZ oA rA Γ, b_p cB cC cI cJ cZ oA rA Γ, b_o cB cC cI cJ cZ oA rA Γ, b_s cB cC cI cJ cZ oA rA Γ, b_c cB cC cI cJ cZ oA rA Γ, b_t cB cC cI cJ cZ oA rA Γ, b_d cB cC cI cJ cZ oA rA Γ]) (bs' := [b_k cB cC cI cJ cZ oA rA Γ, b_p cB cC cI cJ cZ oA rA Γ, b_o cB cC cI cJ cZ oA rA Γ, b_s cB cC cI cJ cZ oA rA Γ, b_c cB cC cI cJ cZ oA rA Γ, b_t cB cC cI cJ cZ oA rA Γ, b_d cB cC cI cJ cZ oA rA Γ]) (wc := (b_k cB cC cI cJ cZ oA rA Γ ++ b_p cB cC cI cJ cZ oA rA Γ ++ b_o cB cC cI cJ cZ oA rA Γ ++ b_s cB cC cI cJ cZ oA rA Γ ++ b_c cB cC cI cJ cZ oA rA Γ ++ b_t cB cC cI cJ cZ oA rA Γ ++ b_d cB cC cI cJ cZ oA rA Γ)) (hDD Γ) hS hA fl_7 fl_7 [0, 1, 2, 3, 4, 5, 6] rfl
    refine g_ofi (wc := (b_k cB cC cI cJ cZ oA rA Γ ++ b_p cB cC cI cJ cZ oA rA Γ ++ b_o cB cC cI cJ cZ oA rA Γ ++ b_s cB cC cI cJ cZ oA rA Γ ++ b_c cB cC cI cJ cZ oA rA Γ ++ b_t cB cC cI cJ cZ oA rA Γ ++ b_d cB cC cI cJ cZ oA rA Γ)) (wr := ([] : va_W)) hP (hDD Γ) hS hFc (bx_ix [b_k cB cC cI cJ cZ oA rA Γ, b_p cB cC cI cJ cZ oA rA Γ, b_o cB cC cI cJ cZ oA rA Γ, b_s cB cC cI cJ cZ oA rA Γ, b_c cB cC cI cJ cZ oA rA Γ, b_t cB cC cI cJ cZ oA rA Γ, b_d cB cC cI cJ cZ oA rA Γ] [0, 1, 2, 3, 4, 5, 6]) (bx_ix [b_k cB cC cI cJ cZ oA rA Γ, b_p cB cC cI cJ cZ oA rA Γ, b_o cB cC cI cJ cZ oA rA Γ, b_s cB cC cI cJ cZ oA rA Γ, b_c cB cC cI cJ cZ oA rA Γ, b_t cB cC cI cJ cZ oA rA Γ, b_d cB cC cI cJ cZ oA rA Γ] []) (bx_C (bs := [b_k cB cC cI cJ cZ oA rA Γ, b_p cB cC cI cJ cZ oA rA Γ, b_o cB cC cI cJ cZ oA rA Γ, b_s cB cC cI cJ cZ oA rA Γ, b_c cB cC cI cJ cZ oA rA Γ, b_t cB cC cI cJ cZ oA rA Γ, b_d cB cC cI cJ cZ oA rA Γ]) (bs' := [b_k cB cC cI cJ cZ oA rA Γ, b_p cB cC cI cJ cZ oA rA Γ, b_o cB cC cI cJ cZ oA rA Γ, b_s cB cC cI cJ cZ oA rA Γ, b_c cB cC cI cJ cZ oA rA Γ, b_t cB cC cI cJ cZ oA rA Γ, b_d cB cC cI cJ cZ oA rA Γ]) (is := [0, 1, 2, 3, 4, 5, 6]) fl_7 fl_7 rfl) (bx_C (bs := [b_k cB cC cI cJ cZ oA rA Γ, b_p cB cC cI cJ cZ oA rA Γ, b_o cB cC cI cJ cZ oA rA Γ, b_s cB cC cI cJ cZ oA rA Γ, b_c cB cC cI cJ cZ oA rA Γ, b_t cB cC cI cJ cZ oA rA Γ, b_d cB cC cI cJ cZ oA rA Γ]) (bs' := []) (is := []) fl_7 fl_0 rfl) (bx_n (by decide +kernel)) (bx_d (by decide +kernel)) (va_runV (As := []) (rest := []) ⟨hx, hb, hml, hown, hts⟩ (k_X3_pop l dC dI cB cC cI cJ cZ cP oA rA s.heap.size  Γ _ hu_97) (cwV 0 hts (g_gV wq_1144 wq_1145 wq_2086 wq_11 wq_1146) rfl rfl rfl (by decide +kernel) ⟨Nat.le_of_ble_eq_true rfl, Nat.le_of_ble_eq_true rfl⟩) (g_preV g_bl0 hK hPc hDc hS hE hFc g_to0 (q0 := 0) (ci := 3) rfl rfl) rfl rfl hl.1 rfl (lv_room (Nat.le_of_ble_eq_true rfl)) dX3_objectOp_7 ⟨Nat.le_of_ble_eq_true rfl, Nat.le_of_ble_eq_true rfl⟩) (fun r9 u9 H locs hw9 hP' hD' hS => ?_)
    clear hPc hDc hFc
    subst hw9
    have hP : va_P (dC, dI) vwCl (b_k cB cC cI cJ cZ oA rA u_97.2 ++ b_p cB cC cI cJ cZ oA rA u_97.2 ++ b_o cB cC cI cJ cZ oA rA u_97.2 ++ b_s cB cC cI cJ cZ oA rA u_97.2 ++ b_c cB cC cI cJ cZ oA rA u_97.2 ++ b_t cB cC cI cJ cZ oA rA u_97.2 ++ b_d cB cC cI cJ cZ oA rA u_97.2) H := hP'
    clear hP' hD'
    refine lv_goto (tgt := 14) hx hb dX3_objectOp_10 (by decide) ?_
    exact Jj_3 u_97.1 u_97.2 hF_98 _ _ hP hS ls (lv_sub hl [0, 1] rfl)
