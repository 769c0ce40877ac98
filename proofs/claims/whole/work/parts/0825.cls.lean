/-! methods of the class: what each does is its function -/
theorem dX4_gatherItems_0 : decode cX4_gatherItems 0 = .ok (.aload_n 0, 1) := by decide +kernel
theorem dX4_gatherItems_1 : decode cX4_gatherItems 1 = .ok (.getfield 11, 3) := by decide +kernel
theorem dX4_gatherItems_4 : decode cX4_gatherItems 4 = .ok (.sipush 16001, 3) := by decide +kernel
theorem dX4_gatherItems_7 : decode cX4_gatherItems 7 = .ok (.invokestatic 92, 3) := by decide +kernel
theorem dX4_gatherItems_10 : decode cX4_gatherItems 10 = .ok (.aload_n 0, 1) := by decide +kernel
theorem dX4_gatherItems_11 : decode cX4_gatherItems 11 = .ok (.getfield 17, 3) := by decide +kernel
theorem dX4_gatherItems_14 : decode cX4_gatherItems 14 = .ok (.iconst 0, 1) := by decide +kernel
theorem dX4_gatherItems_15 : decode cX4_gatherItems 15 = .ok (.invokestatic 92, 3) := by decide +kernel
theorem dX4_gatherItems_18 : decode cX4_gatherItems 18 = .ok (.aload_n 0, 1) := by decide +kernel
theorem dX4_gatherItems_19 : decode cX4_gatherItems 19 = .ok (.getfield 23, 3) := by decide +kernel
theorem dX4_gatherItems_22 : decode cX4_gatherItems 22 = .ok (.iconst 0, 1) := by decide +kernel
theorem dX4_gatherItems_23 : decode cX4_gatherItems 23 = .ok (.invokestatic 92, 3) := by decide +kernel
theorem dX4_gatherItems_26 : decode cX4_gatherItems 26 = .ok (.iconst 0, 1) := by decide +kernel
theorem dX4_gatherItems_27 : decode cX4_gatherItems 27 = .ok (.istore_n 1, 1) := by decide +kernel
theorem dX4_gatherItems_28 : decode cX4_gatherItems 28 = .ok (.iconst 1, 1) := by decide +kernel
theorem dX4_gatherItems_29 : decode cX4_gatherItems 29 = .ok (.istore_n 2, 1) := by decide +kernel
theorem dX4_gatherItems_30 : decode cX4_gatherItems 30 = .ok (.iload_n 2, 1) := by decide +kernel
theorem dX4_gatherItems_31 : decode cX4_gatherItems 31 = .ok (.bipush 11, 2) := by decide +kernel
theorem dX4_gatherItems_33 : decode cX4_gatherItems 33 = .ok (.if_icmp .gt 68, 3) := by decide +kernel
theorem dX4_gatherItems_36 : decode cX4_gatherItems 36 = .ok (.ldc 98, 2) := by decide +kernel
theorem dX4_gatherItems_38 : decode cX4_gatherItems 38 = .ok (.iload_n 1, 1) := by decide +kernel
theorem dX4_gatherItems_39 : decode cX4_gatherItems 39 = .ok (.invokestatic 100, 3) := by decide +kernel
theorem dX4_gatherItems_42 : decode cX4_gatherItems 42 = .ok (.istore_n 3, 1) := by decide +kernel
theorem dX4_gatherItems_43 : decode cX4_gatherItems 43 = .ok (.aload_n 0, 1) := by decide +kernel
theorem dX4_gatherItems_44 : decode cX4_gatherItems 44 = .ok (.getfield 32, 3) := by decide +kernel
theorem dX4_gatherItems_47 : decode cX4_gatherItems 47 = .ok (.ldc 98, 2) := by decide +kernel
theorem dX4_gatherItems_49 : decode cX4_gatherItems 49 = .ok (.iload_n 1, 1) := by decide +kernel
theorem dX4_gatherItems_50 : decode cX4_gatherItems 50 = .ok (.iload_n 3, 1) := by decide +kernel
theorem dX4_gatherItems_51 : decode cX4_gatherItems 51 = .ok (.bipush 12, 2) := by decide +kernel
theorem dX4_gatherItems_53 : decode cX4_gatherItems 53 = .ok (.invokestatic 104, 3) := by decide +kernel
theorem dX4_gatherItems_56 : decode cX4_gatherItems 56 = .ok (.invokevirtual 108, 3) := by decide +kernel
theorem dX4_gatherItems_59 : decode cX4_gatherItems 59 = .ok (.istore 4, 2) := by decide +kernel
theorem dX4_gatherItems_61 : decode cX4_gatherItems 61 = .ok (.aload_n 0, 1) := by decide +kernel
theorem dX4_gatherItems_62 : decode cX4_gatherItems 62 = .ok (.getfield 11, 3) := by decide +kernel
theorem dX4_gatherItems_65 : decode cX4_gatherItems 65 = .ok (.iload 4, 2) := by decide +kernel
theorem dX4_gatherItems_67 : decode cX4_gatherItems 67 = .ok (.iconst 0, 1) := by decide +kernel
theorem dX4_gatherItems_68 : decode cX4_gatherItems 68 = .ok (.invokestatic 112, 3) := by decide +kernel
theorem dX4_gatherItems_71 : decode cX4_gatherItems 71 = .ok (.aload_n 0, 1) := by decide +kernel
theorem dX4_gatherItems_72 : decode cX4_gatherItems 72 = .ok (.getfield 17, 3) := by decide +kernel
theorem dX4_gatherItems_75 : decode cX4_gatherItems 75 = .ok (.iload 4, 2) := by decide +kernel
theorem dX4_gatherItems_77 : decode cX4_gatherItems 77 = .ok (.iconst 3, 1) := by decide +kernel
theorem dX4_gatherItems_78 : decode cX4_gatherItems 78 = .ok (.invokestatic 112, 3) := by decide +kernel
theorem dX4_gatherItems_81 : decode cX4_gatherItems 81 = .ok (.aload_n 0, 1) := by decide +kernel
theorem dX4_gatherItems_82 : decode cX4_gatherItems 82 = .ok (.getfield 20, 3) := by decide +kernel
theorem dX4_gatherItems_85 : decode cX4_gatherItems 85 = .ok (.iload 4, 2) := by decide +kernel
theorem dX4_gatherItems_87 : decode cX4_gatherItems 87 = .ok (.iload_n 2, 1) := by decide +kernel
theorem dX4_gatherItems_88 : decode cX4_gatherItems 88 = .ok (.invokestatic 112, 3) := by decide +kernel
theorem dX4_gatherItems_91 : decode cX4_gatherItems 91 = .ok (.iload_n 3, 1) := by decide +kernel
theorem dX4_gatherItems_92 : decode cX4_gatherItems 92 = .ok (.iconst 1, 1) := by decide +kernel
theorem dX4_gatherItems_93 : decode cX4_gatherItems 93 = .ok (.iadd, 1) := by decide +kernel
theorem dX4_gatherItems_94 : decode cX4_gatherItems 94 = .ok (.istore_n 1, 1) := by decide +kernel
theorem dX4_gatherItems_95 : decode cX4_gatherItems 95 = .ok (.iinc 2 1, 3) := by decide +kernel
theorem dX4_gatherItems_98 : decode cX4_gatherItems 98 = .ok (.goto (-68), 3) := by decide +kernel
theorem dX4_gatherItems_101 : decode cX4_gatherItems 101 = .ok (.iconst 0, 1) := by decide +kernel
theorem dX4_gatherItems_102 : decode cX4_gatherItems 102 = .ok (.istore_n 2, 1) := by decide +kernel
theorem dX4_gatherItems_103 : decode cX4_gatherItems 103 = .ok (.iload_n 2, 1) := by decide +kernel
theorem dX4_gatherItems_104 : decode cX4_gatherItems 104 = .ok (.aload_n 0, 1) := by decide +kernel
theorem dX4_gatherItems_105 : decode cX4_gatherItems 105 = .ok (.getfield 32, 3) := by decide +kernel
theorem dX4_gatherItems_108 : decode cX4_gatherItems 108 = .ok (.getfield 53, 3) := by decide +kernel
theorem dX4_gatherItems_111 : decode cX4_gatherItems 111 = .ok (.if_icmp .ge 71, 3) := by decide +kernel
theorem dX4_gatherItems_114 : decode cX4_gatherItems 114 = .ok (.aload_n 0, 1) := by decide +kernel
theorem dX4_gatherItems_115 : decode cX4_gatherItems 115 = .ok (.getfield 32, 3) := by decide +kernel
theorem dX4_gatherItems_118 : decode cX4_gatherItems 118 = .ok (.iload_n 2, 1) := by decide +kernel
theorem dX4_gatherItems_119 : decode cX4_gatherItems 119 = .ok (.invokevirtual 116, 3) := by decide +kernel
theorem dX4_gatherItems_122 : decode cX4_gatherItems 122 = .ok (.istore_n 3, 1) := by decide +kernel
theorem dX4_gatherItems_123 : decode cX4_gatherItems 123 = .ok (.aload_n 0, 1) := by decide +kernel
theorem dX4_gatherItems_124 : decode cX4_gatherItems 124 = .ok (.getfield 32, 3) := by decide +kernel
theorem dX4_gatherItems_127 : decode cX4_gatherItems 127 = .ok (.iload_n 2, 1) := by decide +kernel
theorem dX4_gatherItems_128 : decode cX4_gatherItems 128 = .ok (.iconst 1, 1) := by decide +kernel
theorem dX4_gatherItems_129 : decode cX4_gatherItems 129 = .ok (.iadd, 1) := by decide +kernel
theorem dX4_gatherItems_130 : decode cX4_gatherItems 130 = .ok (.invokevirtual 119, 3) := by decide +kernel
theorem dX4_gatherItems_133 : decode cX4_gatherItems 133 = .ok (.istore 4, 2) := by decide +kernel
theorem dX4_gatherItems_135 : decode cX4_gatherItems 135 = .ok (.iload_n 3, 1) := by decide +kernel
theorem dX4_gatherItems_136 : decode cX4_gatherItems 136 = .ok (.sipush 230, 3) := by decide +kernel
theorem dX4_gatherItems_139 : decode cX4_gatherItems 139 = .ok (.if_icmp .lt 37, 3) := by decide +kernel
theorem dX4_gatherItems_142 : decode cX4_gatherItems 142 = .ok (.iload_n 3, 1) := by decide +kernel
theorem dX4_gatherItems_143 : decode cX4_gatherItems 143 = .ok (.sipush 235, 3) := by decide +kernel
theorem dX4_gatherItems_146 : decode cX4_gatherItems 146 = .ok (.if_icmp .gt 30, 3) := by decide +kernel
theorem dX4_gatherItems_149 : decode cX4_gatherItems 149 = .ok (.aload_n 0, 1) := by decide +kernel
theorem dX4_gatherItems_150 : decode cX4_gatherItems 150 = .ok (.getfield 11, 3) := by decide +kernel
theorem dX4_gatherItems_153 : decode cX4_gatherItems 153 = .ok (.iload 4, 2) := by decide +kernel
theorem dX4_gatherItems_155 : decode cX4_gatherItems 155 = .ok (.invokestatic 122, 3) := by decide +kernel
theorem dX4_gatherItems_158 : decode cX4_gatherItems 158 = .ok (.sipush 16001, 3) := by decide +kernel
theorem dX4_gatherItems_161 : decode cX4_gatherItems 161 = .ok (.if_icmp .ne 15, 3) := by decide +kernel
theorem dX4_gatherItems_164 : decode cX4_gatherItems 164 = .ok (.aload_n 0, 1) := by decide +kernel
theorem dX4_gatherItems_165 : decode cX4_gatherItems 165 = .ok (.getfield 11, 3) := by decide +kernel
theorem dX4_gatherItems_168 : decode cX4_gatherItems 168 = .ok (.iload 4, 2) := by decide +kernel
theorem dX4_gatherItems_170 : decode cX4_gatherItems 170 = .ok (.iload_n 2, 1) := by decide +kernel
theorem dX4_gatherItems_171 : decode cX4_gatherItems 171 = .ok (.iconst 1, 1) := by decide +kernel
theorem dX4_gatherItems_172 : decode cX4_gatherItems 172 = .ok (.iadd, 1) := by decide +kernel
theorem dX4_gatherItems_173 : decode cX4_gatherItems 173 = .ok (.invokestatic 112, 3) := by decide +kernel
theorem dX4_gatherItems_176 : decode cX4_gatherItems 176 = .ok (.iinc 2 1, 3) := by decide +kernel
theorem dX4_gatherItems_179 : decode cX4_gatherItems 179 = .ok (.goto (-76), 3) := by decide +kernel
theorem dX4_gatherItems_182 : decode cX4_gatherItems 182 = .ok (.return_, 1) := by decide +kernel
def F_X4_gatherItems  (Γ : HS) : HR :=
  bnd (cA' Γ 3 2 (g_fill 4500 ((Γ 3).2.1 2) 16001)) fun σ_1 =>
  bnd (cA' σ_1 3 3 (g_fill 4500 ((σ_1 3).2.1 3) 0)) fun σ_3 =>
  bnd (cA' σ_3 3 5 (g_fill 4500 ((σ_3 3).2.1 5) 0)) fun σ_5 =>
  loopF (fun (again_8 : (Int32 × Int32 × HS) → HR) (s_7 : Int32 × Int32 × HS) => (
    if 11 < s_7.2.1 then (
      loopF (fun (again_14 : (Int32 × HS) → HR) (s_13 : Int32 × HS) => (
        if ((s_13.2 1).1 2) ≤ s_13.1 then (
          some (0, s_13.2)
        ) else (
          (F_X10_kindOf s_13.1 s_13.2).bind fun u_20 =>
          bnd (mrg (fun j => j == 1) s_13.2 u_20.2) fun σ_22 =>
          (F_X10_worthOf (s_13.1 + 1) σ_22).bind fun u_24 =>
          bnd (mrg (fun j => j == 1) σ_22 u_24.2) fun σ_26 =>
          bnd (fun  (σ_28 : HS) => (
            bnd (s_13.1 + 1) fun (x_32 : Int32) =>
            again_14 (x_32, σ_28)
          ) : HS → HR) fun j_29 =>
          if u_20.1 < 230 then (
            j_29  σ_26
          ) else (
            if 235 < u_20.1 then (
              j_29  σ_26
            ) else (
              bnd ((g_at 4500 ((σ_26 3).2.1 2) u_24.1)) fun (x_40 : Int32) =>
              if x_40 = 16001 then (
                bnd ((s_13.1 + 1)) fun (x_44 : Int32) =>
                bnd (cA' σ_26 3 2 (g_put 4500 ((σ_26 3).2.1 2) u_24.1 x_44)) fun σ_46 =>
                j_29  σ_46
              ) else (
                j_29  σ_26
              )
            )
          )
        )
      )) FU (0, s_7.2.2)
    ) else (
      (F_X11_wordEnd ([108, 111, 111, 107, 32, 105, 110, 118, 101, 110, 116, 111, 114, 121, 32, 119, 97, 105, 116, 32, 116, 97, 107, 101, 32, 100, 114, 111, 112, 32, 101, 120, 97, 109, 105, 110, 101, 32, 111, 112, 101, 110, 32, 99, 108, 111, 115, 101, 32, 112, 117, 116, 105, 110, 32, 112, 117, 116, 111, 110, 32, 103, 111, 32] : List Int32) s_7.1 s_7.2.2).bind fun u_51 =>
      (F_X11_packed ([108, 111, 111, 107, 32, 105, 110, 118, 101, 110, 116, 111, 114, 121, 32, 119, 97, 105, 116, 32, 116, 97, 107, 101, 32, 100, 114, 111, 112, 32, 101, 120, 97, 109, 105, 110, 101, 32, 111, 112, 101, 110, 32, 99, 108, 111, 115, 101, 32, 112, 117, 116, 105, 110, 32, 112, 117, 116, 111, 110, 32, 103, 111, 32] : List Int32) s_7.1 u_51.1 12 s_7.2.2).bind fun u_54 =>
      (F_X10_numberOf u_54.1 s_7.2.2).bind fun u_56 =>
      bnd (mrg (fun j => j == 1) s_7.2.2 u_56.2) fun σ_58 =>
      bnd (cA' σ_58 3 2 (g_put 4500 ((σ_58 3).2.1 2) u_56.1 0)) fun σ_60 =>
      bnd (cA' σ_60 3 3 (g_put 4500 ((σ_60 3).2.1 3) u_56.1 3)) fun σ_62 =>
      bnd (cA' σ_62 3 4 (g_put 4500 ((σ_62 3).2.1 4) u_56.1 s_7.2.1)) fun σ_64 =>
      bnd ((u_51.1 + 1)) fun (x_66 : Int32) =>
      bnd (s_7.2.1 + 1) fun (x_68 : Int32) =>
      again_8 (x_66, x_68, σ_64)
    )
  )) FU (0, 1, σ_5)
set_option maxHeartbeats 4000000 in
set_option maxRecDepth 100000 in
theorem k_X4_gatherItems (l : Launch) (dC : Nat → ClassId) (dI : Nat → Nat → Nat) (cB cC cI cJ cZ cP : ClassId) (oA : Nat → Nat) (rA : Nat → Nat → Nat) (sz : Nat)   (Γ : HS) (res : Int32 × HS) (hF : F_X4_gatherItems  Γ = some res) : Met l yX4_gatherItems (g_ws yX4_gatherItems cX4_gatherItems 5 none) ({ frames := 6, cells := 0, slots := 0, locals := 153 }) (va_Pc [.ref (oA 3)] (g_B (dC, dI) [(cB, .byte), (cC, .char), (cI, .int), (cJ, .long), (cZ, .boolean), (cP, .object "StoryHouse$Play")] sz (b_m cB cC cI cJ cZ oA rA Γ ++ b_w cB cC cI cJ cZ oA rA Γ ++ b_s cB cC cI cJ cZ oA rA Γ ++ b_c cB cC cI cJ cZ oA rA Γ ++ b_t cB cC cI cJ cZ oA rA Γ ++ b_d cB cC cI cJ cZ oA rA Γ) g_0)) (va_Qv (fun (_ : Unit) => True) (g_Bo (dC, dI) (va_A (b_m cB cC cI cJ cZ oA rA Γ ++ b_w cB cC cI cJ cZ oA rA Γ ++ b_s cB cC cI cJ cZ oA rA Γ ++ b_c cB cC cI cJ cZ oA rA Γ ++ b_t cB cC cI cJ cZ oA rA Γ ++ b_d cB cC cI cJ cZ oA rA Γ) sz) (fun (_ : Unit) => (b_m cB cC cI cJ cZ oA rA res.2 ++ b_w cB cC cI cJ cZ oA rA res.2 ++ b_s cB cC cI cJ cZ oA rA res.2 ++ b_c cB cC cI cJ cZ oA rA res.2 ++ b_t cB cC cI cJ cZ oA rA res.2 ++ b_d cB cC cI cJ cZ oA rA res.2))) (va_A (b_m cB cC cI cJ cZ oA rA Γ ++ b_w cB cC cI cJ cZ oA rA Γ ++ b_s cB cC cI cJ cZ oA rA Γ ++ b_c cB cC cI cJ cZ oA rA Γ ++ b_t cB cC cI cJ cZ oA rA Γ ++ b_d cB cC cI cJ cZ oA rA Γ) sz)) 0 0 (va_A (b_m cB cC cI cJ cZ oA rA Γ ++ b_w cB cC cI cJ cZ oA rA Γ ++ b_s cB cC cI cJ cZ oA rA Γ ++ b_c cB cC cI cJ cZ oA rA Γ ++ b_t cB cC cI cJ cZ oA rA Γ ++ b_d cB cC cI cJ cZ oA rA Γ) sz) := by
  refine Met.ofW (cc := cX4_gatherItems) (maxL := 5) (ret := none) (by decide) rfl ?_
  intro p e s m args below meth c s₁ B hml hv
  obtain ⟨rfl, hsz, hP, hK, hD0, hE, hX⟩ := hv
  have hx := B.exec
  have hb := B.bytes
  have hr := B.returns
  have hts0 := atoms_spec (ws := g_ws yX4_gatherItems cX4_gatherItems 5 none) B.pre
  have hts : ∀ w ∈ lw_good, w.before ([.ref (oA 3)] : List Value).toArray s = true := fun w z => hts0 w (List.mem_cons_of_mem _ z)
  have hown : s.vm.findClass RX4 = some m.cls := findClass_of_methodNamed B.named
  have hlocks := B.notSynchronized
  subst hsz
  have hD1 := hD0.self (sz := s.heap.size)
  generalize hAe : va_A (b_m cB cC cI cJ cZ oA rA Γ ++ b_w cB cC cI cJ cZ oA rA Γ ++ b_s cB cC cI cJ cZ oA rA Γ ++ b_c cB cC cI cJ cZ oA rA Γ ++ b_t cB cC cI cJ cZ oA rA Γ ++ b_d cB cC cI cJ cZ oA rA Γ) s.heap.size = A at hD1 hE hX ⊢
  have hA : ∀ q : Nat, s.heap.size ≤ q → A q := fun q z => by rw [← hAe]; exact Or.inr z
  have hDD : ∀ Γ : HS, va_D A (b_m cB cC cI cJ cZ oA rA Γ ++ b_w cB cC cI cJ cZ oA rA Γ ++ b_s cB cC cI cJ cZ oA rA Γ ++ b_c cB cC cI cJ cZ oA rA Γ ++ b_t cB cC cI cJ cZ oA rA Γ ++ b_d cB cC cI cJ cZ oA rA Γ) := fun Γ9 => va_D_fst (ws := (b_m cB cC cI cJ cZ oA rA Γ ++ b_w cB cC cI cJ cZ oA rA Γ ++ b_s cB cC cI cJ cZ oA rA Γ ++ b_c cB cC cI cJ cZ oA rA Γ ++ b_t cB cC cI cJ cZ oA rA Γ ++ b_d cB cC cI cJ cZ oA rA Γ)) (ws' := (b_m cB cC cI cJ cZ oA rA Γ9 ++ b_w cB cC cI cJ cZ oA rA Γ9 ++ b_s cB cC cI cJ cZ oA rA Γ9 ++ b_c cB cC cI cJ cZ oA rA Γ9 ++ b_t cB cC cI cJ cZ oA rA Γ9 ++ b_d cB cC cI cJ cZ oA rA Γ9)) rfl hD1
  have hN := hE.1
  have hS : va_S A s.heap s.heap [] := va_S.rf
  have hl := lv_entry ([.ref (oA 3)]) (n := 5) (Nat.le_of_ble_eq_true rfl)
  rw [lg_entry_eq]
  generalize (lg_sl ([.ref (oA 3)]) ++ List.replicate (5 - (lg_sl ([.ref (oA 3)])).length) Slot.unset).toArray = ls at hl ⊢
  have hl : lv_has ls 5 [(0, .ref (oA 3))] := hl
  unfold F_X4_gatherItems at hF
  refine lv_aload_n hx hb dX4_gatherItems_0 rfl (lv_at hl 0 rfl) ?_
  refine va_get (D := (dC, dI)) (ci := 4) (v := .ref (rA 3 2)) (C := RX4) (T := TX4) (N := 18) hx hb hts ii_X4 hown hK hP 0 rfl rfl 2 (by decide) (hts (.fieldLink RX4 11 "StoryHouse$Meanings" "toldAt" "[I") wq_88) (fun _ h9 => h9) rfl dX4_gatherItems_1 ?_
  refine lv_sipush (v := 16001) hx hb dX4_gatherItems_4 (by decide +kernel) ?_
  have hq9 : ((b_m cB cC cI cJ cZ oA rA Γ ++ b_w cB cC cI cJ cZ oA rA Γ ++ b_s cB cC cI cJ cZ oA rA Γ ++ b_c cB cC cI cJ cZ oA rA Γ ++ b_t cB cC cI cJ cZ oA rA Γ ++ b_d cB cC cI cJ cZ oA rA Γ))[1]? = some (rA 3 2, .inl (cI, 4500, .inl ((Γ 3).2.1 2))) := rfl
  have hPc := hP.sub (ws' := [(rA 3 2, .inl (cI, 4500, .inl ((Γ 3).2.1 2)))]) [1] (pk_fm (er_C hq9))
  have hDc := (hDD Γ).sub (ws' := [(rA 3 2, .inl (cI, 4500, .inl ((Γ 3).2.1 2)))]) [1] (by decide +kernel) (er_C hq9)
  have hFc := va_free (wc := [(rA 3 2, .inl (cI, 4500, .inl ((Γ 3).2.1 2)))]) (hDD Γ) hS hA [1] (er_C hq9)
  refine g_ofv (wc := [(rA 3 2, .inl (cI, 4500, .inl ((Γ 3).2.1 2)))]) (wr := (((b_m cB cC cI cJ cZ oA rA Γ ++ b_w cB cC cI cJ cZ oA rA Γ ++ b_s cB cC cI cJ cZ oA rA Γ ++ b_c cB cC cI cJ cZ oA rA Γ ++ b_t cB cC cI cJ cZ oA rA Γ ++ b_d cB cC cI cJ cZ oA rA Γ)).eraseIdx 1)) hP (hDD Γ) hS hFc [1] ((List.range ((b_m cB cC cI cJ cZ oA rA Γ ++ b_w cB cC cI cJ cZ oA rA Γ ++ b_s cB cC cI cJ cZ oA rA Γ ++ b_c cB cC cI cJ cZ oA rA Γ ++ b_t cB cC cI cJ cZ oA rA Γ ++ b_d cB cC cI cJ cZ oA rA Γ)).length).eraseIdx 1) (er_C hq9) er_R er_n er_d (va_runS (As := [.ref (rA 3 2), .int 16001]) (rest := []) ⟨hx, hb, hml, hown, hts⟩ (c_fill l dC dI cB cC cI cJ cZ cP s.heap.size (rA 3 2) 16001 4500 ((Γ 3).2.1 2) (by decide)) (va_cwS 2 hts (g_gS wq_712 wq_340 wq_21 wq_341) rfl rfl rfl (by decide +kernel) ⟨Nat.le_of_ble_eq_true rfl, Nat.le_of_ble_eq_true rfl⟩) (g_preS g_bl0 hK hPc hDc hS hE hFc g_to0) rfl rfl hl.1 rfl (lv_room (Nat.le_of_ble_eq_true rfl)) dX4_gatherItems_7 ⟨Nat.le_of_ble_eq_true rfl, Nat.le_of_ble_eq_true rfl⟩) (fun g9 H locs hw9 hP' hD' hS => ?_)
  clear hPc hDc hFc hD'
  obtain ⟨σ_1, eσ_1, hF_2⟩ := bnd_e hF
  clear hF
  subst hw9
  have hP : va_P (dC, dI) vwCl (b_m cB cC cI cJ cZ oA rA σ_1 ++ b_w cB cC cI cJ cZ oA rA σ_1 ++ b_s cB cC cI cJ cZ oA rA σ_1 ++ b_c cB cC cI cJ cZ oA rA σ_1 ++ b_t cB cC cI cJ cZ oA rA σ_1 ++ b_d cB cC cI cJ cZ oA rA σ_1) H := by rw [eσ_1]; exact cs_mwsctd_m_2 ▸ er_P hP' (er_lt hq9)
  clear hP' hq9
  refine lv_aload_n hx hb dX4_gatherItems_10 rfl (lv_at hl 0 rfl) ?_
  refine va_get (D := (dC, dI)) (ci := 4) (v := .ref (rA 3 3)) (C := RX4) (T := TX4) (N := 18) hx hb hts ii_X4 hown hK hP 0 rfl rfl 3 (by decide) (hts (.fieldLink RX4 17 "StoryHouse$Meanings" "sorts" "[I") wq_89) (fun _ h9 => h9) rfl dX4_gatherItems_11 ?_
  refine lv_iconst (v := 0) hx hb dX4_gatherItems_14 (by decide +kernel) ?_
  have hq9 : ((b_m cB cC cI cJ cZ oA rA σ_1 ++ b_w cB cC cI cJ cZ oA rA σ_1 ++ b_s cB cC cI cJ cZ oA rA σ_1 ++ b_c cB cC cI cJ cZ oA rA σ_1 ++ b_t cB cC cI cJ cZ oA rA σ_1 ++ b_d cB cC cI cJ cZ oA rA σ_1))[2]? = some (rA 3 3, .inl (cI, 4500, .inl ((σ_1 3).2.1 3))) := rfl
  have hPc := hP.sub (ws' := [(rA 3 3, .inl (cI, 4500, .inl ((σ_1 3).2.1 3)))]) [2] (pk_fm (er_C hq9))
  have hDc := (hDD σ_1).sub (ws' := [(rA 3 3, .inl (cI, 4500, .inl ((σ_1 3).2.1 3)))]) [2] (by decide +kernel) (er_C hq9)
  have hFc := va_free (wc := [(rA 3 3, .inl (cI, 4500, .inl ((σ_1 3).2.1 3)))]) (hDD σ_1) hS hA [2] (er_C hq9)
  refine g_ofv (wc := [(rA 3 3, .inl (cI, 4500, .inl ((σ_1 3).2.1 3)))]) (wr := (((b_m cB cC cI cJ cZ oA rA σ_1 ++ b_w cB cC cI cJ cZ oA rA σ_1 ++ b_s cB cC cI cJ cZ oA rA σ_1 ++ b_c cB cC cI cJ cZ oA rA σ_1 ++ b_t cB cC cI cJ cZ oA rA σ_1 ++ b_d cB cC cI cJ cZ oA rA σ_1)).eraseIdx 2)) hP (hDD σ_1) hS hFc [2] ((List.range ((b_m cB cC cI cJ cZ oA rA σ_1 ++ b_w cB cC cI cJ cZ oA rA σ_1 ++ b_s cB cC cI cJ cZ oA rA σ_1 ++ b_c cB cC cI cJ cZ oA rA σ_1 ++ b_t cB cC cI cJ cZ oA rA σ_1 ++ b_d cB cC cI cJ cZ oA rA σ_1)).length).eraseIdx 2) (er_C hq9) er_R er_n er_d (va_runS (As := [.ref (rA 3 3), .int 0]) (rest := []) ⟨hx, hb, hml, hown, hts⟩ (c_fill l dC dI cB cC cI cJ cZ cP H.size (rA 3 3) 0 4500 ((σ_1 3).2.1 3) (by decide)) (va_cwS 2 hts (g_gS wq_712 wq_340 wq_21 wq_341) rfl rfl rfl (by decide +kernel) ⟨Nat.le_of_ble_eq_true rfl, Nat.le_of_ble_eq_true rfl⟩) (g_preS g_bl0 hK hPc hDc hS hE hFc g_to0) rfl rfl hl.1 rfl (lv_room (Nat.le_of_ble_eq_true rfl)) dX4_gatherItems_15 ⟨Nat.le_of_ble_eq_true rfl, Nat.le_of_ble_eq_true rfl⟩) (fun g9 H locs hw9 hP' hD' hS => ?_)
  clear hPc hDc hFc hD'
  obtain ⟨σ_3, eσ_3, hF_4⟩ := bnd_e hF_2
  clear hF_2
  subst hw9
  have hP : va_P (dC, dI) vwCl (b_m cB cC cI cJ cZ oA rA σ_3 ++ b_w cB cC cI cJ cZ oA rA σ_3 ++ b_s cB cC cI cJ cZ oA rA σ_3 ++ b_c cB cC cI cJ cZ oA rA σ_3 ++ b_t cB cC cI cJ cZ oA rA σ_3 ++ b_d cB cC cI cJ cZ oA rA σ_3) H := by rw [eσ_3]; exact cs_mwsctd_m_3 ▸ er_P hP' (er_lt hq9)
  clear hP' hq9
  refine lv_aload_n hx hb dX4_gatherItems_18 rfl (lv_at hl 0 rfl) ?_
  refine va_get (D := (dC, dI)) (ci := 4) (v := .ref (rA 3 5)) (C := RX4) (T := TX4) (N := 18) hx hb hts ii_X4 hown hK hP 0 rfl rfl 5 (by decide) (hts (.fieldLink RX4 23 "StoryHouse$Meanings" "seen" "[I") wq_91) (fun _ h9 => h9) rfl dX4_gatherItems_19 ?_
  refine lv_iconst (v := 0) hx hb dX4_gatherItems_22 (by decide +kernel) ?_
  have hq9 : ((b_m cB cC cI cJ cZ oA rA σ_3 ++ b_w cB cC cI cJ cZ oA rA σ_3 ++ b_s cB cC cI cJ cZ oA rA σ_3 ++ b_c cB cC cI cJ cZ oA rA σ_3 ++ b_t cB cC cI cJ cZ oA rA σ_3 ++ b_d cB cC cI cJ cZ oA rA σ_3))[4]? = some (rA 3 5, .inl (cI, 4500, .inl ((σ_3 3).2.1 5))) := rfl
  have hPc := hP.sub (ws' := [(rA 3 5, .inl (cI, 4500, .inl ((σ_3 3).2.1 5)))]) [4] (pk_fm (er_C hq9))
  have hDc := (hDD σ_3).sub (ws' := [(rA 3 5, .inl (cI, 4500, .inl ((σ_3 3).2.1 5)))]) [4] (by decide +kernel) (er_C hq9)
  have hFc := va_free (wc := [(rA 3 5, .inl (cI, 4500, .inl ((σ_3 3).2.1 5)))]) (hDD σ_3) hS hA [4] (er_C hq9)
  refine g_ofv (wc := [(rA 3 5, .inl (cI, 4500, .inl ((σ_3 3).2.1 5)))]) (wr := (((b_m cB cC cI cJ cZ oA rA σ_3 ++ b_w cB cC cI cJ cZ oA rA σ_3 ++ b_s cB cC cI cJ cZ oA rA σ_3 ++ b_c cB cC cI cJ cZ oA rA σ_3 ++ b_t cB cC cI cJ cZ oA rA σ_3 ++ b_d cB cC cI cJ cZ oA rA σ_3)).eraseIdx 4)) hP (hDD σ_3) hS hFc [4] ((List.range ((b_m cB cC cI cJ cZ oA rA σ_3 ++ b_w cB cC cI cJ cZ oA rA σ_3 ++ b_s cB cC cI cJ cZ oA rA σ_3 ++ b_c cB cC cI cJ cZ oA rA σ_3 ++ b_t cB cC cI cJ cZ oA rA σ_3 ++ b_d cB cC cI cJ cZ oA rA σ_3)).length).eraseIdx 4) (er_C hq9) er_R er_n er_d (va_runS (As := [.ref (rA 3 5), .int 0]) (rest := []) ⟨hx, hb, hml, hown, hts⟩ (c_fill l dC dI cB cC cI cJ cZ cP H.size (rA 3 5) 0 4500 ((σ_3 3).2.1 5) (by decide)) (va_cwS 2 hts (g_gS wq_712 wq_340 wq_21 wq_341) rfl rfl rfl (by decide +kernel) ⟨Nat.le_of_ble_eq_true rfl, Nat.le_of_ble_eq_true rfl⟩) (g_preS g_bl0 hK hPc hDc hS hE hFc g_to0) rfl rfl hl.1 rfl (lv_room (Nat.le_of_ble_eq_true rfl)) dX4_gatherItems_23 ⟨Nat.le_of_ble_eq_true rfl, Nat.le_of_ble_eq_true rfl⟩) (fun g9 H locs hw9 hP' hD' hS => ?_)
  clear hPc hDc hFc hD'
  obtain ⟨σ_5, eσ_5, hF_6⟩ := bnd_e hF_4
  clear hF_4
  subst hw9
  have hP : va_P (dC, dI) vwCl (b_m cB cC cI cJ cZ oA rA σ_5 ++ b_w cB cC cI cJ cZ oA rA σ_5 ++ b_s cB cC cI cJ cZ oA rA σ_5 ++ b_c cB cC cI cJ cZ oA rA σ_5 ++ b_t cB cC cI cJ cZ oA rA σ_5 ++ b_d cB cC cI cJ cZ oA rA σ_5) H := by rw [eσ_5]; exact cs_mwsctd_m_5 ▸ er_P hP' (er_lt hq9)
  clear hP' hq9
  refine lv_iconst (v := 0) hx hb dX4_gatherItems_26 (by decide +kernel) ?_
  refine lv_istore_n (lv' := [(1, .int 0), (0, .ref (oA 3))]) hx hb dX4_gatherItems_27 rfl hl (by decide) rfl (fun ls hl => ?_)
  refine lv_iconst (v := 1) hx hb dX4_gatherItems_28 (by decide +kernel) ?_
  refine lv_istore_n (lv' := [(2, .int 1), (1, .int 0), (0, .ref (oA 3))]) hx hb dX4_gatherItems_29 rfl hl (by decide) rfl (fun ls hl => ?_)
  refine loopF_ind (P := fun (s_7 : Int32 × Int32 × HS) => ∀ (H : Heap) (locs : List Loc), va_P (dC, dI) vwCl (b_m cB cC cI cJ cZ oA rA s_7.2.2 ++ b_w cB cC cI cJ cZ oA rA s_7.2.2 ++ b_s cB cC cI cJ cZ oA rA s_7.2.2 ++ b_c cB cC cI cJ cZ oA rA s_7.2.2 ++ b_t cB cC cI cJ cZ oA rA s_7.2.2 ++ b_d cB cC cI cJ cZ oA rA s_7.2.2) H → va_S A s.heap H locs → ∀ ls : Array Slot, lv_has ls 5 [(0, .ref (oA 3)), (1, .int s_7.1), (2, .int s_7.2.1)] → W p l e (headSpec (g_ws yX4_gatherItems cX4_gatherItems 5 none) { frames := 6, cells := 0, slots := 0, locals := 153 }).room s m ([.ref (oA 3)] : List Value).toArray below meth c H locs 0 0 (MQ below (va_Qv (fun (_ : Unit) => True) (g_Bo (dC, dI) A (fun (_ : Unit) => (b_m cB cC cI cJ cZ oA rA res.2 ++ b_w cB cC cI cJ cZ oA rA res.2 ++ b_s cB cC cI cJ cZ oA rA res.2 ++ b_c cB cC cI cJ cZ oA rA res.2 ++ b_t cB cC cI cJ cZ oA rA res.2 ++ b_d cB cC cI cJ cZ oA rA res.2))) A) ([.ref (oA 3)] : List Value).toArray s 0 0 A) (F0 m 30 ls [])) ?_ _ _ hF_6 _ _ hP hS ls (lv_sub hl [2, 1, 0] rfl)
  intro again_8 s_7 ih_9 hF_10
  intro H locs hP hS ls hl
  refine lv_iload_n hx hb dX4_gatherItems_30 rfl (lv_at hl 2 rfl) ?_
  refine lv_bipush (v := 11) hx hb dX4_gatherItems_31 (by decide +kernel) ?_
  refine lv_icmp_gt (tgt := 101) hx hb dX4_gatherItems_33 (by decide) (fun c_11 => ?_) (fun c_11 => ?_)
  · have hF_12 := ipos c_11 hF_10
    clear hF_10
    refine lv_iconst (v := 0) hx hb dX4_gatherItems_101 (by decide +kernel) ?_
    refine lv_istore_n (lv' := [(2, .int 0), (0, .ref (oA 3)), (1, .int s_7.1)]) hx hb dX4_gatherItems_102 rfl hl (by decide) rfl (fun ls hl => ?_)
    refine loopF_ind (P := fun (s_13 : Int32 × HS) => ∀ (H : Heap) (locs : List Loc), va_P (dC, dI) vwCl (b_m cB cC cI cJ cZ oA rA s_13.2 ++ b_w cB cC cI cJ cZ oA rA s_13.2 ++ b_s cB cC cI cJ cZ oA rA s_13.2 ++ b_c cB cC cI cJ cZ oA rA s_13.2 ++ b_t cB cC cI cJ cZ oA rA s_13.2 ++ b_d cB cC cI cJ cZ oA rA s_13.2) H → va_S A s.heap H locs → ∀ ls : Array Slot, lv_has ls 5 [(0, .ref (oA 3)), (2, .int s_13.1)] → W p l e (headSpec (g_ws yX4_gatherItems cX4_gatherItems 5 none) { frames := 6, cells := 0, slots := 0, locals := 153 }).room s m ([.ref (oA 3)] : List Value).toArray below meth c H locs 0 0 (MQ below (va_Qv (fun (_ : Unit) => True) (g_Bo (dC, dI) A (fun (_ : Unit) => (b_m cB cC cI cJ cZ oA rA res.2 ++ b_w cB cC cI cJ cZ oA rA res.2 ++ b_s cB cC cI cJ cZ oA rA res.2 ++ b_c cB cC cI cJ cZ oA rA res.2 ++ b_t cB cC cI cJ cZ oA rA res.2 ++ b_d cB cC cI cJ cZ oA rA res.2))) A) ([.ref (oA 3)] : List Value).toArray s 0 0 A) (F0 m 103 ls [])) ?_ _ _ hF_12 _ _ hP hS ls (lv_sub hl [1, 0] rfl)
    intro again_14 s_13 ih_15 hF_16
    intro H locs hP hS ls hl
    refine lv_iload_n hx hb dX4_gatherItems_103 rfl (lv_at hl 1 rfl) ?_
    refine lv_aload_n hx hb dX4_gatherItems_104 rfl (lv_at hl 0 rfl) ?_
    refine va_get (D := (dC, dI)) (ci := 4) (v := .ref (oA 1)) (C := RX4) (T := TX4) (N := 18) hx hb hts ii_X4 hown hK hP 0 rfl rfl 0 (by decide) (hts (.fieldLink RX4 32 "StoryHouse$Meanings" "words" "LStoryHouse$Words;") wq_86) (fun _ h9 => h9) rfl dX4_gatherItems_105 ?_
    refine va_get (D := (dC, dI)) (ci := 10) (v := .int ((s_13.2 1).1 2)) (C := RX10) (T := TX10) (N := 12) hx hb hts ii_X10 hown hK hP 7 rfl rfl 2 (by decide) (hts (.fieldLink RX4 53 "StoryHouse$Words" "count" "I") wq_45) (fun _ h9 => h9) rfl dX4_gatherItems_108 ?_
    refine lv_icmp_ge (tgt := 182) hx hb dX4_gatherItems_111 (by decide) (fun c_17 => ?_) (fun c_17 => ?_)
    · have hF_18 := ipos c_17 hF_16
      clear hF_16
      have h9 := Option.some.inj hF_18
      subst h9
      exact W.vret hx hb hr (fun t ht hW => ⟨⟨(), rfl, trivial, m_end ht hP, hDD _⟩, hS.F ht⟩) hS.2.2 dX4_gatherItems_182
    · have hF_19 := ineg c_17 hF_16
      clear hF_16
      refine lv_aload_n hx hb dX4_gatherItems_114 rfl (lv_at hl 0 rfl) ?_
      refine va_get (D := (dC, dI)) (ci := 4) (v := .ref (oA 1)) (C := RX4) (T := TX4) (N := 18) hx hb hts ii_X4 hown hK hP 0 rfl rfl 0 (by decide) (hts (.fieldLink RX4 32 "StoryHouse$Meanings" "words" "LStoryHouse$Words;") wq_86) (fun _ h9 => h9) rfl dX4_gatherItems_115 ?_
      refine lv_iload_n hx hb dX4_gatherItems_118 rfl (lv_at hl 1 rfl) ?_
      obtain ⟨u_20, hu_20, hF_21⟩ := Option.bind_eq_some_iff.mp hF_19
      clear hF_19
      have hPc := bx_P (bs := [b_m cB cC cI cJ cZ oA rA s_13.2, b_w cB cC cI cJ cZ oA rA s_13.2, b_s cB cC cI cJ cZ oA rA s_13.2, b_c cB cC cI cJ cZ oA rA s_13.2, b_t cB cC cI cJ cZ oA rA s_13.2, b_d cB cC cI cJ cZ oA rA s_13.2]) (bs' := [b_w cB cC cI cJ cZ oA rA s_13.2]) (ws' := (b_w cB cC cI cJ cZ oA rA s_13.2)) hP fl_6 fl_1 [1] rfl
      have hDc := bx_D (bs := [b_m cB cC cI cJ cZ oA rA s_13.2, b_w cB cC cI cJ cZ oA rA s_13.2, b_s cB cC cI cJ cZ oA rA s_13.2, b_c cB cC cI cJ cZ oA rA s_13.2, b_t cB cC cI cJ cZ oA rA s_13.2, b_d cB cC cI cJ cZ oA rA s_13.2]) (bs' := [b_w cB cC cI cJ cZ oA rA s_13.2]) (ws' := (b_w cB cC cI cJ cZ oA rA s_13.2)) (hDD s_13.2) fl_6 fl_1 [1] (by decide +kernel) rfl
      have hFc := bx_F (bs := [b_m cB cC cI cJ cZ oA rA s_13.2, b_w cB cC cI cJ cZ oA rA s_13.2, b_s cB cC cI cJ cZ oA rA s_13.2, b_c cB cC cI cJ cZ oA rA s_13.2, b_t cB cC cI cJ cZ oA rA s_13.2, b_d cB cC cI cJ cZ oA rA s_13.2]) (bs' := [b_w cB cC cI cJ cZ oA rA s_13.2]) (wc := (b_w cB cC cI cJ cZ oA rA s_13.2)) (hDD s_13.2) hS hA fl_6 fl_1 [1] rfl
      refine g_ofi (wc := (b_w cB cC cI cJ cZ oA rA s_13.2)) (wr := (b_m cB cC cI cJ cZ oA rA s_13.2 ++ b_s cB cC cI cJ cZ oA rA s_13.2 ++ b_c cB cC cI cJ cZ oA rA s_13.2 ++ b_t cB cC cI cJ cZ oA rA s_13.2 ++ b_d cB cC cI cJ cZ oA rA s_13.2)) hP (hDD s_13.2) hS hFc (bx_ix [b_m cB cC cI cJ cZ oA rA s_13.2, b_w cB cC cI cJ cZ oA rA s_13.2, b_s cB cC cI cJ cZ oA rA s_13.2, b_c cB cC cI cJ cZ oA rA s_13.2, b_t cB cC cI cJ cZ oA rA s_13.2, b_d cB cC cI cJ cZ oA rA s_13.2] [1]) (bx_ix [b_m cB cC cI cJ cZ oA rA s_13.2, b_w cB cC cI cJ cZ oA rA s_13.2, b_s cB cC cI cJ cZ oA rA s_13.2, b_c cB cC cI cJ cZ oA rA s_13.2, b_t cB cC cI cJ cZ oA rA s_13.2, b_d cB cC cI cJ cZ oA rA s_13.2] [0, 2, 3, 4, 5]) (bx_C (bs := [b_m cB cC cI cJ cZ oA rA s_13.2, b_w cB cC cI cJ cZ oA rA s_13.2, b_s cB cC cI cJ cZ oA rA s_13.2, b_c cB cC cI cJ cZ oA rA s_13.2, b_t cB cC cI cJ cZ oA rA s_13.2, b_d cB cC cI cJ cZ oA rA s_13.2]) (bs' := [b_w cB cC cI cJ cZ oA rA s_13.2]) (is := [1]) fl_6 fl_1 rfl) (bx_C (bs := [b_m cB cC cI cJ cZ oA rA s_13.2, b_w cB cC cI cJ cZ oA rA s_13.2, b_s cB cC cI cJ cZ oA rA s_13.2, b_c cB cC cI cJ cZ oA rA s_13.2, b_t cB cC cI cJ cZ oA rA s_13.2, b_d cB cC cI cJ cZ oA rA s_13.2]) (bs' := [b_m cB cC cI cJ cZ oA rA s_13.2, b_s cB cC cI cJ cZ oA rA s_13.2, b_c cB cC cI cJ cZ oA rA s_13.2, b_t cB cC cI cJ cZ oA rA s_13.2, b_d cB cC cI cJ cZ oA rA s_13.2]) (is := [0, 2, 3, 4, 5]) fl_6 fl_5 rfl) (bx_n (by decide +kernel)) (bx_d (by decide +kernel)) (va_runV (As := [.int s_13.1]) (rest := []) ⟨hx, hb, hml, hown, hts⟩ (k_X10_kindOf l dC dI cB cC cI cJ cZ cP oA rA H.size  s_13.1 s_13.2 _ hu_20) (cwV 1 hts (g_gV wq_714 wq_543 wq_544 wq_2 wq_545) rfl rfl rfl (by decide +kernel) ⟨Nat.le_of_ble_eq_true rfl, Nat.le_of_ble_eq_true rfl⟩) (g_preV g_bl0 hK hPc hDc hS hE hFc g_to0 (q0 := 0) (ci := 10) rfl rfl) rfl rfl hl.1 rfl (lv_room (Nat.le_of_ble_eq_true rfl)) dX4_gatherItems_119 ⟨Nat.le_of_ble_eq_true rfl, Nat.le_of_ble_eq_true rfl⟩) (fun r9 u9 H locs hw9 hP' hD' hS => ?_)
      clear hPc hDc hFc
      subst hw9
      obtain ⟨σ_22, eσ_22, hF_23⟩ := bnd_e hF_21
      clear hF_21
      have hP : va_P (dC, dI) vwCl (b_m cB cC cI cJ cZ oA rA σ_22 ++ b_w cB cC cI cJ cZ oA rA σ_22 ++ b_s cB cC cI cJ cZ oA rA σ_22 ++ b_c cB cC cI cJ cZ oA rA σ_22 ++ b_t cB cC cI cJ cZ oA rA σ_22 ++ b_d cB cC cI cJ cZ oA rA σ_22) H := by rw [eσ_22]; exact bx_P (bs := [b_m cB cC cI cJ cZ oA rA s_13.2, b_s cB cC cI cJ cZ oA rA s_13.2, b_c cB cC cI cJ cZ oA rA s_13.2, b_t cB cC cI cJ cZ oA rA s_13.2, b_d cB cC cI cJ cZ oA rA s_13.2] ++ [b_w cB cC cI cJ cZ oA rA u_20.2]) (bs' := [b_m cB cC cI cJ cZ oA rA (mrg (fun j => j == 1) s_13.2 u_20.2), b_w cB cC cI cJ cZ oA rA (mrg (fun j => j == 1) s_13.2 u_20.2), b_s cB cC cI cJ cZ oA rA (mrg (fun j => j == 1) s_13.2 u_20.2), b_c cB cC cI cJ cZ oA rA (mrg (fun j => j == 1) s_13.2 u_20.2), b_t cB cC cI cJ cZ oA rA (mrg (fun j => j == 1) s_13.2 u_20.2), b_d cB cC cI cJ cZ oA rA (mrg (fun j => j == 1) s_13.2 u_20.2)]) hP' (fl_a fl_5 fl_1) fl_6 [0, 5, 1, 2, 3, 4] rfl
      clear hP' hD'
      refine lv_istore_n (lv' := [(3, .int u_20.1), (0, .ref (oA 3)), (2, .int s_13.1)]) hx hb dX4_gatherItems_122 rfl hl (by decide) rfl (fun ls hl => ?_)
      refine lv_aload_n hx hb dX4_gatherItems_123 rfl (lv_at hl 1 rfl) ?_
      refine va_get (D := (dC, dI)) (ci := 4) (v := .ref (oA 1)) (C := RX4) (T := TX4) (N := 18) hx hb hts ii_X4 hown hK hP 0 rfl rfl 0 (by decide) (hts (.fieldLink RX4 32 "StoryHouse$Meanings" "words" "LStoryHouse$Words;") wq_86) (fun _ h9 => h9) rfl dX4_gatherItems_124 ?_
      refine lv_iload_n hx hb dX4_gatherItems_127 rfl (lv_at hl 2 rfl) ?_
      refine lv_iconst (v := 1) hx hb dX4_gatherItems_128 (by decide +kernel) ?_
      refine lv_iadd hx hb dX4_gatherItems_129 ?_
      obtain ⟨u_24, hu_24, hF_25⟩ := Option.bind_eq_some_iff.mp hF_23
      clear hF_23
      have hPc := bx_P (bs := [b_m cB cC cI cJ cZ oA rA σ_22, b_w cB cC cI cJ cZ oA rA σ_22, b_s cB cC cI cJ cZ oA rA σ_22, b_c cB cC cI cJ cZ oA rA σ_22, b_t cB cC cI cJ cZ oA rA σ_22, b_d cB cC cI cJ cZ oA rA σ_22]) (bs' := [b_w cB cC cI cJ cZ oA rA σ_22]) (ws' := (b_w cB cC cI cJ cZ oA rA σ_22)) hP fl_6 fl_1 [1] rfl
      have hDc := bx_D (bs := [b_m cB cC cI cJ cZ oA rA σ_22, b_w cB cC cI cJ cZ oA rA σ_22, b_s cB cC cI cJ cZ oA rA σ_22, b_c cB cC cI cJ cZ oA rA σ_22, b_t cB cC cI cJ cZ oA rA σ_22, b_d cB cC cI cJ cZ oA rA σ_22]) (bs' := [b_w cB cC cI cJ cZ oA rA σ_22]) (ws' := (b_w cB cC cI cJ cZ oA rA σ_22)) (hDD σ_22) fl_6 fl_1 [1] (by decide +kernel) rfl
      have hFc := bx_F (bs := [b_m cB cC cI cJ cZ oA rA σ_22, b_w cB cC cI cJ cZ oA rA σ_22, b_s cB cC cI cJ cZ oA rA σ_22, b_c cB cC cI cJ cZ oA rA σ_22, b_t cB cC cI cJ cZ oA rA σ_22, b_d cB cC cI cJ cZ oA rA σ_22]) (bs' := [b_w cB cC cI cJ cZ oA rA σ_22]) (wc := (b_w cB cC cI cJ cZ oA rA σ_22)) (hDD σ_22) hS hA fl_6 fl_1 [1] rfl
      refine g_ofi (wc := (b_w cB cC cI cJ cZ oA rA σ_22)) (wr := (b_m cB cC cI cJ cZ oA rA σ_22 ++ b_s cB cC cI cJ cZ oA rA σ_22 ++ b_c cB cC cI cJ cZ oA rA σ_22 ++ b_t cB cC cI cJ cZ oA rA σ_22 ++ b_d cB cC cI cJ cZ oA rA σ_22)) hP (hDD σ_22) hS hFc (bx_ix [b_m cB cC cI cJ cZ oA rA σ_22, b_w cB cC cI cJ cZ oA rA σ_22, b_s cB cC cI cJ cZ oA rA σ_22, b_c cB cC cI cJ cZ oA rA σ_22, b_t cB cC cI cJ cZ oA rA σ_22, b_d cB cC cI cJ cZ oA rA σ_22] [1]) (bx_ix [b_m cB cC cI cJ cZ oA rA σ_22, b_w cB cC cI cJ cZ oA rA σ_22, b_s cB cC cI cJ cZ oA rA σ_22, b_c cB cC cI cJ cZ oA rA σ_22, b_t cB cC cI cJ cZ oA rA σ_22, b_d cB cC cI cJ cZ oA rA σ_22] [0, 2, 3, 4, 5]) (bx_C (bs := [b_m cB cC cI cJ cZ oA rA σ_22, b_w cB cC cI cJ cZ oA rA σ_22, b_s cB cC cI cJ cZ oA rA σ_22, b_c cB cC cI cJ cZ oA rA σ_22, b_t cB cC cI cJ cZ oA rA σ_22, b_d cB cC cI cJ cZ oA rA σ_22]) (bs' := [b_w cB cC cI cJ cZ oA rA σ_22]) (is := [1]) fl_6 fl_1 rfl) (bx_C (bs := [b_m cB cC cI cJ cZ oA rA σ_22, b_w cB cC cI cJ cZ oA rA σ_22, b_s cB cC cI cJ cZ oA rA σ_22, b_c cB cC cI cJ cZ oA rA σ_22, b_t cB cC cI cJ cZ oA rA σ_22, b_d cB cC cI cJ cZ oA rA σ_22]) (bs' := [b_m cB cC cI cJ cZ oA rA σ_22, b_s cB cC cI cJ cZ oA rA σ_22, b_c cB cC cI cJ cZ oA rA σ_22, b_t cB cC cI cJ cZ oA rA σ_22, b_d cB cC cI cJ cZ oA rA σ_22]) (is := [0, 2, 3, 4, 5]) fl_6 fl_5 rfl) (bx_n (by decide +kernel)) (bx_d (by decide +kernel)) (va_runV (As := [.int (s_13.1 + 1)]) (rest := []) ⟨hx, hb, hml, hown, hts⟩ (k_X10_worthOf l dC dI cB cC cI cJ cZ cP oA rA H.size  (s_13.1 + 1) σ_22 _ hu_24) (cwV 1 hts (g_gV wq_715 wq_653 wq_654 wq_2 wq_655) rfl rfl rfl (by decide +kernel) ⟨Nat.le_of_ble_eq_true rfl, Nat.le_of_ble_eq_true rfl⟩) (g_preV g_bl0 hK hPc hDc hS hE hFc g_to0 (q0 := 0) (ci := 10) rfl rfl) rfl rfl hl.1 rfl (lv_room (Nat.le_of_ble_eq_true rfl)) dX4_gatherItems_130 ⟨Nat.le_of_ble_eq_true rfl, Nat.le_of_ble_eq_true rfl⟩) (fun r9 u9 H locs hw9 hP' hD' hS => ?_)
      clear hPc hDc hFc
      subst hw9
      obtain ⟨σ_26, eσ_26, hF_27⟩ := bnd_e hF_25
      clear hF_25
      have hP : va_P (dC, dI) vwCl (b_m cB cC cI cJ cZ oA rA σ_26 ++ b_w cB cC cI cJ cZ oA rA σ_26 ++ b_s cB cC cI cJ cZ oA rA σ_26 ++ b_c cB cC cI cJ cZ oA rA σ_26 ++ b_t cB cC cI cJ cZ oA rA σ_26 ++ b_d cB cC cI cJ cZ oA rA σ_26) H := by rw [eσ_26]; exact bx_P (bs := [b_m cB cC cI cJ cZ oA rA σ_22, b_s cB cC cI cJ cZ oA rA σ_22, b_c cB cC cI cJ cZ oA rA σ_22, b_t cB cC cI cJ cZ oA rA σ_22, b_d cB cC cI cJ cZ oA rA σ_22] ++ [b_w cB cC cI cJ cZ oA rA u_24.2]) (bs' := [b_m cB cC cI cJ cZ oA rA (mrg (fun j => j == 1) σ_22 u_24.2), b_w cB cC cI cJ cZ oA rA (mrg (fun j => j == 1) σ_22 u_24.2), b_s cB cC cI cJ cZ oA rA (mrg (fun j => j == 1) σ_22 u_24.2), b_c cB cC cI cJ cZ oA rA (mrg (fun j => j == 1) σ_22 u_24.2), b_t cB cC cI cJ cZ oA rA (mrg (fun j => j == 1) σ_22 u_24.2), b_d cB cC cI cJ cZ oA rA (mrg (fun j => j == 1) σ_22 u_24.2)]) hP' (fl_a fl_5 fl_1) fl_6 [0, 5, 1, 2, 3, 4] rfl
      clear hP' hD'
      refine lv_istore (lv' := [(4, .int u_24.1), (3, .int u_20.1), (0, .ref (oA 3)), (2, .int s_13.1)]) hx hb dX4_gatherItems_133 hl (by decide) rfl (fun ls hl => ?_)
      refine lv_iload_n hx hb dX4_gatherItems_135 rfl (lv_at hl 1 rfl) ?_
      refine lv_sipush (v := 230) hx hb dX4_gatherItems_136 (by decide +kernel) ?_
      obtain ⟨j_29, ej_29, hF_30⟩ := bnd_e hF_27
      clear hF_27
      have Jj_29 : ∀  (σ_28 : HS), j_29  σ_28 = some res → ∀ (H : Heap) (locs : List Loc), va_P (dC, dI) vwCl (b_m cB cC cI cJ cZ oA rA σ_28 ++ b_w cB cC cI cJ cZ oA rA σ_28 ++ b_s cB cC cI cJ cZ oA rA σ_28 ++ b_c cB cC cI cJ cZ oA rA σ_28 ++ b_t cB cC cI cJ cZ oA rA σ_28 ++ b_d cB cC cI cJ cZ oA rA σ_28) H → va_S A s.heap H locs → ∀ ls : Array Slot, lv_has ls 5 [(0, .ref (oA 3)), (2, .int s_13.1)] → W p l e (headSpec (g_ws yX4_gatherItems cX4_gatherItems 5 none) { frames := 6, cells := 0, slots := 0, locals := 153 }).room s m ([.ref (oA 3)] : List Value).toArray below meth c H locs 0 0 (MQ below (va_Qv (fun (_ : Unit) => True) (g_Bo (dC, dI) A (fun (_ : Unit) => (b_m cB cC cI cJ cZ oA rA res.2 ++ b_w cB cC cI cJ cZ oA rA res.2 ++ b_s cB cC cI cJ cZ oA rA res.2 ++ b_c cB cC cI cJ cZ oA rA res.2 ++ b_t cB cC cI cJ cZ oA rA res.2 ++ b_d cB cC cI cJ cZ oA rA res.2))) A) ([.ref (oA 3)] : List Value).toArray s 0 0 A) (F0 m 176 ls []) := by
        intro  σ_28 hF0 H locs hP hS ls hl
        subst ej_29
        have hF_31 := hF0
        clear hF0
        obtain ⟨x_32, ex_32, hF_33⟩ := bnd_e hF_31
        clear hF_31
        refine lv_iinc (v := x_32) (lv' := [(2, .int x_32), (0, .ref (oA 3))]) hx hb dX4_gatherItems_176 hl (k := 1) rfl (by rw [ex_32]; rfl) (by decide) rfl (fun ls hl => ?_)
        refine lv_goto (tgt := 103) hx hb dX4_gatherItems_179 (by decide) ?_
        exact ih_15 (x_32, σ_28) hF_33 _ _ hP hS ls (lv_sub hl [1, 0] rfl)
      refine lv_icmp_lt (tgt := 176) hx hb dX4_gatherItems_139 (by decide) (fun c_34 => ?_) (fun c_34 => ?_)
      · have hF_35 := ipos c_34 hF_30
        clear hF_30
        exact Jj_29  σ_26 hF_35 _ _ hP hS ls (lv_sub hl [2, 3] rfl)
      · have hF_36 := ineg c_34 hF_30
        clear hF_30
        refine lv_iload_n hx hb dX4_gatherItems_142 rfl (lv_at hl 1 rfl) ?_
        refine lv_sipush (v := 235) hx hb dX4_gatherItems_143 (by decide +kernel) ?_
        refine lv_icmp_gt (tgt := 176) hx hb dX4_gatherItems_146 (by decide) (fun c_37 => ?_) (fun c_37 => ?_)
        · have hF_38 := ipos c_37 hF_36
          clear hF_36
          exact Jj_29  σ_26 hF_38 _ _ hP hS ls (lv_sub hl [2, 3] rfl)
        · have hF_39 := ineg c_37 hF_36
          clear hF_36
          refine lv_aload_n hx hb dX4_gatherItems_149 rfl (lv_at hl 2 rfl) ?_
          refine va_get (D := (dC, dI)) (ci := 4) (v := .ref (rA 3 2)) (C := RX4) (T := TX4) (N := 18) hx hb hts ii_X4 hown hK hP 0 rfl rfl 2 (by decide) (hts (.fieldLink RX4 11 "StoryHouse$Meanings" "toldAt" "[I") wq_88) (fun _ h9 => h9) rfl dX4_gatherItems_150 ?_
          refine lv_iload hx hb dX4_gatherItems_153 (lv_at hl 0 rfl) ?_
          have hq9 : ((b_m cB cC cI cJ cZ oA rA σ_26 ++ b_w cB cC cI cJ cZ oA rA σ_26 ++ b_s cB cC cI cJ cZ oA rA σ_26 ++ b_c cB cC cI cJ cZ oA rA σ_26 ++ b_t cB cC cI cJ cZ oA rA σ_26 ++ b_d cB cC cI cJ cZ oA rA σ_26))[1]? = some (rA 3 2, .inl (cI, 4500, .inl ((σ_26 3).2.1 2))) := rfl
          have hPc := hP.sub (ws' := [(rA 3 2, .inl (cI, 4500, .inl ((σ_26 3).2.1 2)))]) [1] (pk_fm (er_C hq9))
          have hDc := (hDD σ_26).sub (ws' := [(rA 3 2, .inl (cI, 4500, .inl ((σ_26 3).2.1 2)))]) [1] (by decide +kernel) (er_C hq9)
          have hFc := va_free (wc := [(rA 3 2, .inl (cI, 4500, .inl ((σ_26 3).2.1 2)))]) (hDD σ_26) hS hA [1] (er_C hq9)
          refine g_ofi (wc := [(rA 3 2, .inl (cI, 4500, .inl ((σ_26 3).2.1 2)))]) (wr := (((b_m cB cC cI cJ cZ oA rA σ_26 ++ b_w cB cC cI cJ cZ oA rA σ_26 ++ b_s cB cC cI cJ cZ oA rA σ_26 ++ b_c cB cC cI cJ cZ oA rA σ_26 ++ b_t cB cC cI cJ cZ oA rA σ_26 ++ b_d cB cC cI cJ cZ oA rA σ_26)).eraseIdx 1)) hP (hDD σ_26) hS hFc [1] ((List.range ((b_m cB cC cI cJ cZ oA rA σ_26 ++ b_w cB cC cI cJ cZ oA rA σ_26 ++ b_s cB cC cI cJ cZ oA rA σ_26 ++ b_c cB cC cI cJ cZ oA rA σ_26 ++ b_t cB cC cI cJ cZ oA rA σ_26 ++ b_d cB cC cI cJ cZ oA rA σ_26)).length).eraseIdx 1) (er_C hq9) er_R er_n er_d (va_runSN (As := [.ref (rA 3 2), .int u_24.1]) (rest := []) ⟨hx, hb, hml, hown, hts⟩ (c_X11_at l dC dI cB cC cI cJ cZ cP H.size (rA 3 2) u_24.1 4500 ((σ_26 3).2.1 2) (by decide)) ⟨va_cnB 2 hts (g_gA wq_407) rfl rfl rfl (nw_24 hN) (hts (.initialized RX11) wq_1) (by decide +kernel) ⟨Nat.le_of_ble_eq_true rfl, Nat.le_of_ble_eq_true rfl⟩, (hts (.static yX11_at) wq_406), trivial⟩ (g_preS g_bl0 hK hPc hDc hS hE hFc g_to0) rfl rfl hl.1 rfl (lv_room (Nat.le_of_ble_eq_true rfl)) dX4_gatherItems_155 ⟨Nat.le_of_ble_eq_true rfl, Nat.le_of_ble_eq_true rfl⟩) (fun r9 u9 H locs hw9 hP' hD' hS => ?_)
          clear hPc hDc hFc hD'
          have hP : va_P (dC, dI) vwCl (b_m cB cC cI cJ cZ oA rA σ_26 ++ b_w cB cC cI cJ cZ oA rA σ_26 ++ b_s cB cC cI cJ cZ oA rA σ_26 ++ b_c cB cC cI cJ cZ oA rA σ_26 ++ b_t cB cC cI cJ cZ oA rA σ_26 ++ b_d cB cC cI cJ cZ oA rA σ_26) H := er_I hP' hq9
          clear hP' hq9
          subst hw9
          obtain ⟨x_40, ex_40, hF_41⟩ := bnd_e hF_39
          clear hF_39
          refine m_top ex_40 ?_
          refine lv_sipush (v := 16001) hx hb dX4_gatherItems_158 (by decide +kernel) ?_
          refine lv_icmp_ne (tgt := 176) hx hb dX4_gatherItems_161 (by decide) (fun c_42 => ?_) (fun c_42 => ?_)
          · have hF_48 := ineg c_42 hF_41
            clear hF_41
            exact Jj_29  σ_26 hF_48 _ _ hP hS ls (lv_sub hl [2, 3] rfl)
          · have hF_43 := ipos c_42 hF_41
            clear hF_41
            refine lv_aload_n hx hb dX4_gatherItems_164 rfl (lv_at hl 2 rfl) ?_
            refine va_get (D := (dC, dI)) (ci := 4) (v := .ref (rA 3 2)) (C := RX4) (T := TX4) (N := 18) hx hb hts ii_X4 hown hK hP 0 rfl rfl 2 (by decide) (hts (.fieldLink RX4 11 "StoryHouse$Meanings" "toldAt" "[I") wq_88) (fun _ h9 => h9) rfl dX4_gatherItems_165 ?_
            refine lv_iload hx hb dX4_gatherItems_168 (lv_at hl 0 rfl) ?_
            refine lv_iload_n hx hb dX4_gatherItems_170 rfl (lv_at hl 3 rfl) ?_
            refine lv_iconst (v := 1) hx hb dX4_gatherItems_171 (by decide +kernel) ?_
            refine lv_iadd hx hb dX4_gatherItems_172 ?_
            obtain ⟨x_44, ex_44, hF_45⟩ := bnd_e hF_43
            clear hF_43
            refine m_top ex_44 ?_
            have hq9 : ((b_m cB cC cI cJ cZ oA rA σ_26 ++ b_w cB cC cI cJ cZ oA rA σ_26 ++ b_s cB cC cI cJ cZ oA rA σ_26 ++ b_c cB cC cI cJ cZ oA rA σ_26 ++ b_t cB cC cI cJ cZ oA rA σ_26 ++ b_d cB cC cI cJ cZ oA rA σ_26))[1]? = some (rA 3 2, .inl (cI, 4500, .inl ((σ_26 3).2.1 2))) := rfl
            have hPc := hP.sub (ws' := [(rA 3 2, .inl (cI, 4500, .inl ((σ_26 3).2.1 2)))]) [1] (pk_fm (er_C hq9))
            have hDc := (hDD σ_26).sub (ws' := [(rA 3 2, .inl (cI, 4500, .inl ((σ_26 3).2.1 2)))]) [1] (by decide +kernel) (er_C hq9)
            have hFc := va_free (wc := [(rA 3 2, .inl (cI, 4500, .inl ((σ_26 3).2.1 2)))]) (hDD σ_26) hS hA [1] (er_C hq9)
            refine g_ofv (wc := [(rA 3 2, .inl (cI, 4500, .inl ((σ_26 3).2.1 2)))]) (wr := (((b_m cB cC cI cJ cZ oA rA σ_26 ++ b_w cB cC cI cJ cZ oA rA σ_26 ++ b_s cB cC cI cJ cZ oA rA σ_26 ++ b_c cB cC cI cJ cZ oA rA σ_26 ++ b_t cB cC cI cJ cZ oA rA σ_26 ++ b_d cB cC cI cJ cZ oA rA σ_26)).eraseIdx 1)) hP (hDD σ_26) hS hFc [1] ((List.range ((b_m cB cC cI cJ cZ oA rA σ_26 ++ b_w cB cC cI cJ cZ oA rA σ_26 ++ b_s cB cC cI cJ cZ oA rA σ_26 ++ b_c cB cC cI cJ cZ oA rA σ_26 ++ b_t cB cC cI cJ cZ oA rA σ_26 ++ b_d cB cC cI cJ cZ oA rA σ_26)).length).eraseIdx 1) (er_C hq9) er_R er_n er_d (va_runSN (As := [.ref (rA 3 2), .int u_24.1, .int x_44]) (rest := []) ⟨hx, hb, hml, hown, hts⟩ (c_X11_put l dC dI cB cC cI cJ cZ cP H.size (rA 3 2) u_24.1 x_44 4500 ((σ_26 3).2.1 2) (by decide)) ⟨va_cnB 3 hts (g_gA wq_412) rfl rfl rfl (nw_23 hN) (hts (.initialized RX11) wq_1) (by decide +kernel) ⟨Nat.le_of_ble_eq_true rfl, Nat.le_of_ble_eq_true rfl⟩, (hts (.static yX11_put) wq_411), trivial⟩ (g_preS g_bl0 hK hPc hDc hS hE hFc g_to0) rfl rfl hl.1 rfl (lv_room (Nat.le_of_ble_eq_true rfl)) dX4_gatherItems_173 ⟨Nat.le_of_ble_eq_true rfl, Nat.le_of_ble_eq_true rfl⟩) (fun g9 H locs hw9 hP' hD' hS => ?_)
            clear hPc hDc hFc hD'
            obtain ⟨σ_46, eσ_46, hF_47⟩ := bnd_e hF_45
            clear hF_45
            subst hw9
            have hP : va_P (dC, dI) vwCl (b_m cB cC cI cJ cZ oA rA σ_46 ++ b_w cB cC cI cJ cZ oA rA σ_46 ++ b_s cB cC cI cJ cZ oA rA σ_46 ++ b_c cB cC cI cJ cZ oA rA σ_46 ++ b_t cB cC cI cJ cZ oA rA σ_46 ++ b_d cB cC cI cJ cZ oA rA σ_46) H := by rw [eσ_46]; exact cs_mwsctd_m_2 ▸ er_P hP' (er_lt hq9)
            clear hP' hq9
            exact Jj_29  σ_46 hF_47 _ _ hP hS ls (lv_sub hl [2, 3] rfl)
  · have hF_49 := ineg c_11 hF_10
    clear hF_10
    obtain ⟨q_50, vq_50, hRq_50, hSq_50⟩ := hE.2.2.2.2 _ (List.mem_of_getElem? (i := 20) rfl)
    refine va_ldcS (own := RX4) (tx := "look inventory wait take drop examine open close putin puton go ") hx hb hown hRq_50 dX4_gatherItems_36 ?_
    refine lv_iload_n hx hb dX4_gatherItems_38 rfl (lv_at hl 1 rfl) ?_
    obtain ⟨u_51, hu_51, hF_52⟩ := Option.bind_eq_some_iff.mp hF_49
    clear hF_49
    have hPc : va_P (dC, dI) vwCl [] H := fun k q z => by simp at z
    have hDc : va_D A [] := ⟨fun i j p q z => by simp at z, fun k q z => by simp at z⟩
    have hFc := c_nil hA hS
    refine c_cs (v := u_51.1) hA hP hS (va_runSN (As := [.ref q_50, .int s_7.1]) (rest := []) ⟨hx, hb, hml, hown, hts⟩ (k_X11_wordEnd l dC dI cB cC cI cJ cZ cP oA rA H.size q_50 _ ([108, 111, 111, 107, 32, 105, 110, 118, 101, 110, 116, 111, 114, 121, 32, 119, 97, 105, 116, 32, 116, 97, 107, 101, 32, 100, 114, 111, 112, 32, 101, 120, 97, 109, 105, 110, 101, 32, 111, 112, 101, 110, 32, 99, 108, 111, 115, 101, 32, 112, 117, 116, 105, 110, 32, 112, 117, 116, 111, 110, 32, 103, 111, 32] : List Int32) s_7.1 s_7.2.2 _ hu_51) ⟨va_cnB 2 hts (g_gA wq_355) rfl rfl rfl (nw_21 hN) (hts (.initialized RX11) wq_1) (by decide +kernel) ⟨Nat.le_of_ble_eq_true rfl, Nat.le_of_ble_eq_true rfl⟩, (hts (.static yX11_wordEnd) wq_354), trivial⟩ (g_preS g_blS hK hPc hDc hS hE hFc (g_toS hSq_50 hS hFc)) rfl rfl hl.1 rfl (lv_room (Nat.le_of_ble_eq_true rfl)) dX4_gatherItems_39 ⟨Nat.le_of_ble_eq_true rfl, Nat.le_of_ble_eq_true rfl⟩) (fun H locs hP hS => ?_)
    clear hPc hDc hFc
    refine lv_istore_n (lv' := [(3, .int u_51.1), (0, .ref (oA 3)), (1, .int s_7.1), (2, .int s_7.2.1)]) hx hb dX4_gatherItems_42 rfl hl (by decide) rfl (fun ls hl => ?_)
    refine lv_aload_n hx hb dX4_gatherItems_43 rfl (lv_at hl 1 rfl) ?_
    refine va_get (D := (dC, dI)) (ci := 4) (v := .ref (oA 1)) (C := RX4) (T := TX4) (N := 18) hx hb hts ii_X4 hown hK hP 0 rfl rfl 0 (by decide) (hts (.fieldLink RX4 32 "StoryHouse$Meanings" "words" "LStoryHouse$Words;") wq_86) (fun _ h9 => h9) rfl dX4_gatherItems_44 ?_
    obtain ⟨q_53, vq_53, hRq_53, hSq_53⟩ := hE.2.2.2.2 _ (List.mem_of_getElem? (i := 20) rfl)
    refine va_ldcS (own := RX4) (tx := "look inventory wait take drop examine open close putin puton go ") hx hb hown hRq_53 dX4_gatherItems_47 ?_
    refine lv_iload_n hx hb dX4_gatherItems_49 rfl (lv_at hl 2 rfl) ?_
    refine lv_iload_n hx hb dX4_gatherItems_50 rfl (lv_at hl 0 rfl) ?_
    refine lv_bipush (v := 12) hx hb dX4_gatherItems_51 (by decide +kernel) ?_
    obtain ⟨u_54, hu_54, hF_55⟩ := Option.bind_eq_some_iff.mp hF_52
    clear hF_52
    have hPc : va_P (dC, dI) vwCl [] H := fun k q z => by simp at z
    have hDc : va_D A [] := ⟨fun i j p q z => by simp at z, fun k q z => by simp at z⟩
    have hFc := c_nil hA hS
    refine c_csl (v := u_54.1) hA hP hS (va_runSN (As := [.ref q_53, .int s_7.1, .int u_51.1, .int 12]) (rest := [.ref (oA 1)]) ⟨hx, hb, hml, hown, hts⟩ (k_X11_packed l dC dI cB cC cI cJ cZ cP oA rA H.size q_53 _ ([108, 111, 111, 107, 32, 105, 110, 118, 101, 110, 116, 111, 114, 121, 32, 119, 97, 105, 116, 32, 116, 97, 107, 101, 32, 100, 114, 111, 112, 32, 101, 120, 97, 109, 105, 110, 101, 32, 111, 112, 101, 110, 32, 99, 108, 111, 115, 101, 32, 112, 117, 116, 105, 110, 32, 112, 117, 116, 111, 110, 32, 103, 111, 32] : List Int32) s_7.1 u_51.1 12 s_7.2.2 _ hu_54) ⟨va_cnB 4 hts (g_gA wq_393) rfl rfl rfl (nw_22 hN) (hts (.initialized RX11) wq_1) (by decide +kernel) ⟨Nat.le_of_ble_eq_true rfl, Nat.le_of_ble_eq_true rfl⟩, (hts (.static yX11_packed) wq_392), trivial⟩ (g_preS g_blS hK hPc hDc hS hE hFc (g_toS hSq_53 hS hFc)) rfl rfl hl.1 rfl (lv_room (Nat.le_of_ble_eq_true rfl)) dX4_gatherItems_53 ⟨Nat.le_of_ble_eq_true rfl, Nat.le_of_ble_eq_true rfl⟩) (fun H locs hP hS => ?_)
    clear hPc hDc hFc
    obtain ⟨u_56, hu_56, hF_57⟩ := Option.bind_eq_some_iff.mp hF_55
    clear hF_55
    have hPc := bx_P (bs := [b_m cB cC cI cJ cZ oA rA s_7.2.2, b_w cB cC cI cJ cZ oA rA s_7.2.2, b_s cB cC cI cJ cZ oA rA s_7.2.2, b_c cB cC cI cJ cZ oA rA s_7.2.2, b_t cB cC cI cJ cZ oA rA s_7.2.2, b_d cB cC cI cJ cZ oA rA s_7.2.2]) (bs' := [b_w cB cC cI cJ cZ oA rA s_7.2.2]) (ws' := (b_w cB cC cI cJ cZ oA rA s_7.2.2)) hP fl_6 fl_1 [1] rfl
    have hDc := bx_D (bs := [b_m cB cC cI cJ cZ oA rA s_7.2.2, b_w cB cC cI cJ cZ oA rA s_7.2.2, b_s cB cC cI cJ cZ oA rA s_7.2.2, b_c cB cC cI cJ cZ oA rA s_7.2.2, b_t cB cC cI cJ cZ oA rA s_7.2.2, b_d cB cC cI cJ cZ oA rA s_7.2.2]) (bs' := [b_w cB cC cI cJ cZ oA rA s_7.2.2]) (ws' := (b_w cB cC cI cJ cZ oA rA s_7.2.2)) (hDD s_7.2.2) fl_6 fl_1 [1] (by decide +kernel) rfl
    have hFc := bx_F (bs := [b_m cB cC cI cJ cZ oA rA s_7.2.2, b_w cB cC cI cJ cZ oA rA s_7.2.2, b_s cB cC cI cJ cZ oA rA s_7.2.2, b_c cB cC cI cJ cZ oA rA s_7.2.2, b_t cB cC cI cJ cZ oA rA s_7.2.2, b_d cB cC cI cJ cZ oA rA s_7.2.2]) (bs' := [b_w cB cC cI cJ cZ oA rA s_7.2.2]) (wc := (b_w cB cC cI cJ cZ oA rA s_7.2.2)) (hDD s_7.2.2) hS hA fl_6 fl_1 [1] rfl
    refine g_ofi (wc := (b_w cB cC cI cJ cZ oA rA s_7.2.2)) (wr := (b_m cB cC cI cJ cZ oA rA s_7.2.2 ++ b_s cB cC cI cJ cZ oA rA s_7.2.2 ++ b_c cB cC cI cJ cZ oA rA s_7.2.2 ++ b_t cB cC cI cJ cZ oA rA s_7.2.2 ++ b_d cB cC cI cJ cZ oA rA s_7.2.2)) hP (hDD s_7.2.2) hS hFc (bx_ix [b_m cB cC cI cJ cZ oA rA s_7.2.2, b_w cB cC cI cJ cZ oA rA s_7.2.2, b_s cB cC cI cJ cZ oA rA s_7.2.2, b_c cB cC cI cJ cZ oA rA s_7.2.2, b_t cB cC cI cJ cZ oA rA s_7.2.2, b_d cB cC cI cJ cZ oA rA s_7.2.2] [1]) (bx_ix [b_m cB cC cI cJ cZ oA rA s_7.2.2, b_w cB cC cI cJ cZ oA rA s_7.2.2, b_s cB cC cI cJ cZ oA rA s_7.2.2, b_c cB cC cI cJ cZ oA rA s_7.2.2, b_t cB cC cI cJ cZ oA rA s_7.2.2, b_d cB cC cI cJ cZ oA rA s_7.2.2] [0, 2, 3, 4, 5]) (bx_C (bs := [b_m cB cC cI cJ cZ oA rA s_7.2.2, b_w cB cC cI cJ cZ oA rA s_7.2.2, b_s cB cC cI cJ cZ oA rA s_7.2.2, b_c cB cC cI cJ cZ oA rA s_7.2.2, b_t cB cC cI cJ cZ oA rA s_7.2.2, b_d cB cC cI cJ cZ oA rA s_7.2.2]) (bs' := [b_w cB cC cI cJ cZ oA rA s_7.2.2]) (is := [1]) fl_6 fl_1 rfl) (bx_C (bs := [b_m cB cC cI cJ cZ oA rA s_7.2.2, b_w cB cC cI cJ cZ oA rA s_7.2.2, b_s cB cC cI cJ cZ oA rA s_7.2.2, b_c cB cC cI cJ cZ oA rA s_7.2.2, b_t cB cC cI cJ cZ oA rA s_7.2.2, b_d cB cC cI cJ cZ oA rA s_7.2.2]) (bs' := [b_m cB cC cI cJ cZ oA rA s_7.2.2, b_s cB cC cI cJ cZ oA rA s_7.2.2, b_c cB cC cI cJ cZ oA rA s_7.2.2, b_t cB cC cI cJ cZ oA rA s_7.2.2, b_d cB cC cI cJ cZ oA rA s_7.2.2]) (is := [0, 2, 3, 4, 5]) fl_6 fl_5 rfl) (bx_n (by decide +kernel)) (bx_d (by decide +kernel)) (va_runV (As := [.long u_54.1]) (rest := []) ⟨hx, hb, hml, hown, hts⟩ (k_X10_numberOf l dC dI cB cC cI cJ cZ cP oA rA H.size  u_54.1 s_7.2.2 _ hu_56) (cwV 1 hts (g_gV wq_713 wq_402 wq_403 wq_2 wq_404) rfl rfl rfl (by decide +kernel) ⟨Nat.le_of_ble_eq_true rfl, Nat.le_of_ble_eq_true rfl⟩) (g_preV g_bl0 hK hPc hDc hS hE hFc g_to0 (q0 := 0) (ci := 10) rfl rfl) rfl rfl hl.1 rfl (lv_room (Nat.le_of_ble_eq_true rfl)) dX4_gatherItems_56 ⟨Nat.le_of_ble_eq_true rfl, Nat.le_of_ble_eq_true rfl⟩) (fun r9 u9 H locs hw9 hP' hD' hS => ?_)
    clear hPc hDc hFc
    subst hw9
    obtain ⟨σ_58, eσ_58, hF_59⟩ := bnd_e hF_57
    clear hF_57
    have hP : va_P (dC, dI) vwCl (b_m cB cC cI cJ cZ oA rA σ_58 ++ b_w cB cC cI cJ cZ oA rA σ_58 ++ b_s cB cC cI cJ cZ oA rA σ_58 ++ b_c cB cC cI cJ cZ oA rA σ_58 ++ b_t cB cC cI cJ cZ oA rA σ_58 ++ b_d cB cC cI cJ cZ oA rA σ_58) H := by rw [eσ_58]; exact bx_P (bs := [b_m cB cC cI cJ cZ oA rA s_7.2.2, b_s cB cC cI cJ cZ oA rA s_7.2.2, b_c cB cC cI cJ cZ oA rA s_7.2.2, b_t cB cC cI cJ cZ oA rA s_7.2.2, b_d cB cC cI cJ cZ oA rA s_7.2.2] ++ [b_w cB cC cI cJ cZ oA rA u_56.2]) (bs' := [b_m cB cC cI cJ cZ oA rA (mrg (fun j => j == 1) s_7.2.2 u_56.2), b_w cB cC cI cJ cZ oA rA (mrg (fun j => j == 1) s_7.2.2 u_56.2), b_s cB cC cI cJ cZ oA rA (mrg (fun j => j == 1) s_7.2.2 u_56.2), b_c cB cC cI cJ cZ oA rA (mrg (fun j => j == 1) s_7.2.2 u_56.2), b_t cB cC cI cJ cZ oA rA (mrg (fun j => j == 1) s_7.2.2 u_56.2), b_d cB cC cI cJ cZ oA rA (mrg (fun j => j == 1) s_7.2.2 u_56.2)]) hP' (fl_a fl_5 fl_1) fl_6 [0, 5, 1, 2, 3, 4] rfl
    clear hP' hD'
    refine lv_istore (lv' := [(4, .int u_56.1), (3, .int u_51.1), (0, .ref (oA 3)), (1, .int s_7.1), (2, .int s_7.2.1)]) hx hb dX4_gatherItems_59 hl (by decide) rfl (fun ls hl => ?_)
    refine lv_aload_n hx hb dX4_gatherItems_61 rfl (lv_at hl 2 rfl) ?_
    refine va_get (D := (dC, dI)) (ci := 4) (v := .ref (rA 3 2)) (C := RX4) (T := TX4) (N := 18) hx hb hts ii_X4 hown hK hP 0 rfl rfl 2 (by decide) (hts (.fieldLink RX4 11 "StoryHouse$Meanings" "toldAt" "[I") wq_88) (fun _ h9 => h9) rfl dX4_gatherItems_62 ?_
    refine lv_iload hx hb dX4_gatherItems_65 (lv_at hl 0 rfl) ?_
    refine lv_iconst (v := 0) hx hb dX4_gatherItems_67 (by decide +kernel) ?_
    have hq9 : ((b_m cB cC cI cJ cZ oA rA σ_58 ++ b_w cB cC cI cJ cZ oA rA σ_58 ++ b_s cB cC cI cJ cZ oA rA σ_58 ++ b_c cB cC cI cJ cZ oA rA σ_58 ++ b_t cB cC cI cJ cZ oA rA σ_58 ++ b_d cB cC cI cJ cZ oA rA σ_58))[1]? = some (rA 3 2, .inl (cI, 4500, .inl ((σ_58 3).2.1 2))) := rfl
    have hPc := hP.sub (ws' := [(rA 3 2, .inl (cI, 4500, .inl ((σ_58 3).2.1 2)))]) [1] (pk_fm (er_C hq9))
    have hDc := (hDD σ_58).sub (ws' := [(rA 3 2, .inl (cI, 4500, .inl ((σ_58 3).2.1 2)))]) [1] (by decide +kernel) (er_C hq9)
    have hFc := va_free (wc := [(rA 3 2, .inl (cI, 4500, .inl ((σ_58 3).2.1 2)))]) (hDD σ_58) hS hA [1] (er_C hq9)
    refine g_ofv (wc := [(rA 3 2, .inl (cI, 4500, .inl ((σ_58 3).2.1 2)))]) (wr := (((b_m cB cC cI cJ cZ oA rA σ_58 ++ b_w cB cC cI cJ cZ oA rA σ_58 ++ b_s cB cC cI cJ cZ oA rA σ_58 ++ b_c cB cC cI cJ cZ oA rA σ_58 ++ b_t cB cC cI cJ cZ oA rA σ_58 ++ b_d cB cC cI cJ cZ oA rA σ_58)).eraseIdx 1)) hP (hDD σ_58) hS hFc [1] ((List.range ((b_m cB cC cI cJ cZ oA rA σ_58 ++ b_w cB cC cI cJ cZ oA rA σ_58 ++ b_s cB cC cI cJ cZ oA rA σ_58 ++ b_c cB cC cI cJ cZ oA rA σ_58 ++ b_t cB cC cI cJ cZ oA rA σ_58 ++ b_d cB cC cI cJ cZ oA rA σ_58)).length).eraseIdx 1) (er_C hq9) er_R er_n er_d (va_runSN (As := [.ref (rA 3 2), .int u_56.1, .int 0]) (rest := []) ⟨hx, hb, hml, hown, hts⟩ (c_X11_put l dC dI cB cC cI cJ cZ cP H.size (rA 3 2) u_56.1 0 4500 ((σ_58 3).2.1 2) (by decide)) ⟨va_cnB 3 hts (g_gA wq_412) rfl rfl rfl (nw_23 hN) (hts (.initialized RX11) wq_1) (by decide +kernel) ⟨Nat.le_of_ble_eq_true rfl, Nat.le_of_ble_eq_true rfl⟩, (hts (.static yX11_put) wq_411), trivial⟩ (g_preS g_bl0 hK hPc hDc hS hE hFc g_to0) rfl rfl hl.1 rfl (lv_room (Nat.le_of_ble_eq_true rfl)) dX4_gatherItems_68 ⟨Nat.le_of_ble_eq_true rfl, Nat.le_of_ble_eq_true rfl⟩) (fun g9 H locs hw9 hP' hD' hS => ?_)
    clear hPc hDc hFc hD'
    obtain ⟨σ_60, eσ_60, hF_61⟩ := bnd_e hF_59
    clear hF_59
    subst hw9
    have hP : va_P (dC, dI) vwCl (b_m cB cC cI cJ cZ oA rA σ_60 ++ b_w cB cC cI cJ cZ oA rA σ_60 ++ b_s cB cC cI cJ cZ oA rA σ_60 ++ b_c cB cC cI cJ cZ oA rA σ_60 ++ b_t cB cC cI cJ cZ oA rA σ_60 ++ b_d cB cC cI cJ cZ oA rA σ_60) H := by rw [eσ_60]; exact cs_mwsctd_m_2 ▸ er_P hP' (er_lt hq9)
    clear hP' hq9
    refine lv_aload_n hx hb dX4_gatherItems_71 rfl (lv_at hl 2 rfl) ?_
    refine va_get (D := (dC, dI)) (ci := 4) (v := .ref (rA 3 3)) (C := RX4) (T := TX4) (N := 18) hx hb hts ii_X4 hown hK hP 0 rfl rfl 3 (by decide) (hts (.fieldLink RX4 17 "StoryHouse$Meanings" "sorts" "[I") wq_89) (fun _ h9 => h9) rfl dX4_gatherItems_72 ?_
    refine lv_iload hx hb dX4_gatherItems_75 (lv_at hl 0 rfl) ?_
    refine lv_iconst (v := 3) hx hb dX4_gatherItems_77 (by decide +kernel) ?_
    have hq9 : ((b_m cB cC cI cJ cZ oA rA σ_60 ++ b_w cB cC cI cJ cZ oA rA σ_60 ++ b_s cB cC cI cJ cZ oA rA σ_60 ++ b_c cB cC cI cJ cZ oA rA σ_60 ++ b_t cB cC cI cJ cZ oA rA σ_60 ++ b_d cB cC cI cJ cZ oA rA σ_60))[2]? = some (rA 3 3, .inl (cI, 4500, .inl ((σ_60 3).2.1 3))) := rfl
    have hPc := hP.sub (ws' := [(rA 3 3, .inl (cI, 4500, .inl ((σ_60 3).2.1 3)))]) [2] (pk_fm (er_C hq9))
    have hDc := (hDD σ_60).sub (ws' := [(rA 3 3, .inl (cI, 4500, .inl ((σ_60 3).2.1 3)))]) [2] (by decide +kernel) (er_C hq9)
    have hFc := va_free (wc := [(rA 3 3, .inl (cI, 4500, .inl ((σ_60 3).2.1 3)))]) (hDD σ_60) hS hA [2] (er_C hq9)
    refine g_ofv (wc := [(rA 3 3, .inl (cI, 4500, .inl ((σ_60 3).2.1 3)))]) (wr := (((b_m cB cC cI cJ cZ oA rA σ_60 ++ b_w cB cC cI cJ cZ oA rA σ_60 ++ b_s cB cC cI cJ cZ oA rA σ_60 ++ b_c cB cC cI cJ cZ oA rA σ_60 ++ b_t cB cC cI cJ cZ oA rA σ_60 ++ b_d cB cC cI cJ cZ oA rA σ_60)).eraseIdx 2)) hP (hDD σ_60) hS hFc [2] ((List.range ((b_m cB cC cI cJ cZ oA rA σ_60 ++ b_w cB cC cI cJ cZ oA rA σ_60 ++ b_s cB cC cI cJ cZ oA rA σ_60 ++ b_c cB cC cI cJ cZ oA rA σ_60 ++ b_t cB cC cI cJ cZ oA rA σ_60 ++ b_d cB cC cI cJ cZ oA rA σ_60)).length).eraseIdx 2) (er_C hq9) er_R er_n er_d (va_runSN (As := [.ref (rA 3 3), .int u_56.1, .int 3]) (rest := []) ⟨hx, hb, hml, hown, hts⟩ (c_X11_put l dC dI cB cC cI cJ cZ cP H.size (rA 3 3) u_56.1 3 4500 ((σ_60 3).2.1 3) (by decide)) ⟨va_cnB 3 hts (g_gA wq_412) rfl rfl rfl (nw_23 hN) (hts (.initialized RX11) wq_1) (by decide +kernel) ⟨Nat.le_of_ble_eq_true rfl, Nat.le_of_ble_eq_true rfl⟩, (hts (.static yX11_put) wq_411), trivial⟩ (g_preS g_bl0 hK hPc hDc hS hE hFc g_to0) rfl rfl hl.1 rfl (lv_room (Nat.le_of_ble_eq_true rfl)) dX4_gatherItems_78 ⟨Nat.le_of_ble_eq_true rfl, Nat.le_of_ble_eq_true rfl⟩) (fun g9 H locs hw9 hP' hD' hS => ?_)
    clear hPc hDc hFc hD'
    obtain ⟨σ_62, eσ_62, hF_63⟩ := bnd_e hF_61
    clear hF_61
    subst hw9
    have hP : va_P (dC, dI) vwCl (b_m cB cC cI cJ cZ oA rA σ_62 ++ b_w cB cC cI cJ cZ oA rA σ_62 ++ b_s cB cC cI cJ cZ oA rA σ_62 ++ b_c cB cC cI cJ cZ oA rA σ_62 ++ b_t cB cC cI cJ cZ oA rA σ_62 ++ b_d cB cC cI cJ cZ oA rA σ_62) H := by rw [eσ_62]; exact cs_mwsctd_m_3 ▸ er_P hP' (er_lt hq9)
    clear hP' hq9
    refine lv_aload_n hx hb dX4_gatherItems_81 rfl (lv_at hl 2 rfl) ?_
    refine va_get (D := (dC, dI)) (ci := 4) (v := .ref (rA 3 4)) (C := RX4) (T := TX4) (N := 18) hx hb hts ii_X4 hown hK hP 0 rfl rfl 4 (by decide) (hts (.fieldLink RX4 20 "StoryHouse$Meanings" "numbers" "[I") wq_90) (fun _ h9 => h9) rfl dX4_gatherItems_82 ?_
    refine lv_iload hx hb dX4_gatherItems_85 (lv_at hl 0 rfl) ?_
    refine lv_iload_n hx hb dX4_gatherItems_87 rfl (lv_at hl 4 rfl) ?_
    have hq9 : ((b_m cB cC cI cJ cZ oA rA σ_62 ++ b_w cB cC cI cJ cZ oA rA σ_62 ++ b_s cB cC cI cJ cZ oA rA σ_62 ++ b_c cB cC cI cJ cZ oA rA σ_62 ++ b_t cB cC cI cJ cZ oA rA σ_62 ++ b_d cB cC cI cJ cZ oA rA σ_62))[3]? = some (rA 3 4, .inl (cI, 4500, .inl ((σ_62 3).2.1 4))) := rfl
    have hPc := hP.sub (ws' := [(rA 3 4, .inl (cI, 4500, .inl ((σ_62 3).2.1 4)))]) [3] (pk_fm (er_C hq9))
    have hDc := (hDD σ_62).sub (ws' := [(rA 3 4, .inl (cI, 4500, .inl ((σ_62 3).2.1 4)))]) [3] (by decide +kernel) (er_C hq9)
    have hFc := va_free (wc := [(rA 3 4, .inl (cI, 4500, .inl ((σ_62 3).2.1 4)))]) (hDD σ_62) hS hA [3] (er_C hq9)
    refine g_ofv (wc := [(rA 3 4, .inl (cI, 4500, .inl ((σ_62 3).2.1 4)))]) (wr := (((b_m cB cC cI cJ cZ oA rA σ_62 ++ b_w cB cC cI cJ cZ oA rA σ_62 ++ b_s cB cC cI cJ cZ oA rA σ_62 ++ b_c cB cC cI cJ cZ oA rA σ_62 ++ b_t cB cC cI cJ cZ oA rA σ_62 ++ b_d cB cC cI cJ cZ oA rA σ_62)).eraseIdx 3)) hP (hDD σ_62) hS hFc [3] ((List.range ((b_m cB cC cI cJ cZ oA rA σ_62 ++ b_w cB cC cI cJ cZ oA rA σ_62 ++ b_s cB cC cI cJ cZ oA rA σ_62 ++ b_c cB cC cI cJ cZ oA rA σ_62 ++ b_t cB cC cI cJ cZ oA rA σ_62 ++ b_d cB cC cI cJ cZ oA rA σ_62)).length).eraseIdx 3) (er_C hq9) er_R er_n er_d (va_runSN (As := [.ref (rA 3 4), .int u_56.1, .int s_7.2.1]) (rest := []) ⟨hx, hb, hml, hown, hts⟩ (c_X11_put l dC dI cB cC cI cJ cZ cP H.size (rA 3 4) u_56.1 s_7.2.1 4500 ((σ_62 3).2.1 4) (by decide)) ⟨va_cnB 3 hts (g_gA wq_412) rfl rfl rfl (nw_23 hN) (hts (.initialized RX11) wq_1) (by decide +kernel) ⟨Nat.le_of_ble_eq_true rfl, Nat.le_of_ble_eq_true rfl⟩, (hts (.static yX11_put) wq_411), trivial⟩ (g_preS g_bl0 hK hPc hDc hS hE hFc g_to0) rfl rfl hl.1 rfl (lv_room (Nat.le_of_ble_eq_true rfl)) dX4_gatherItems_88 ⟨Nat.le_of_ble_eq_true rfl, Nat.le_of_ble_eq_true rfl⟩) (fun g9 H locs hw9 hP' hD' hS => ?_)
    clear hPc hDc hFc hD'
    obtain ⟨σ_64, eσ_64, hF_65⟩ := bnd_e hF_63
    clear hF_63
    subst hw9
    have hP : va_P (dC, dI) vwCl (b_m cB cC cI cJ cZ oA rA σ_64 ++ b_w cB cC cI cJ cZ oA rA σ_64 ++ b_s cB cC cI cJ cZ oA rA σ_64 ++ b_c cB cC cI cJ cZ oA rA σ_64 ++ b_t cB cC cI cJ cZ oA rA σ_64 ++ b_d cB cC cI cJ cZ oA rA σ_64) H := by rw [eσ_64]; exact cs_mwsctd_m_4 ▸ er_P hP' (er_lt hq9)
    clear hP' hq9
    refine lv_iload_n hx hb dX4_gatherItems_91 rfl (lv_at hl 1 rfl) ?_
    refine lv_iconst (v := 1) hx hb dX4_gatherItems_92 (by decide +kernel) ?_
    refine lv_iadd hx hb dX4_gatherItems_93 ?_
    obtain ⟨x_66, ex_66, hF_67⟩ := bnd_e hF_65
    clear hF_65
    refine m_top ex_66 ?_
    refine lv_istore_n (lv' := [(1, .int x_66), (4, .int u_56.1), (3, .int u_51.1), (0, .ref (oA 3)), (2, .int s_7.2.1)]) hx hb dX4_gatherItems_94 rfl hl (by decide) rfl (fun ls hl => ?_)
    obtain ⟨x_68, ex_68, hF_69⟩ := bnd_e hF_67
    clear hF_67
    refine lv_iinc (v := x_68) (lv' := [(2, .int x_68), (1, .int x_66), (4, .int u_56.1), (3, .int u_51.1), (0, .ref (oA 3))]) hx hb dX4_gatherItems_95 hl (k := 4) rfl (by rw [ex_68]; rfl) (by decide) rfl (fun ls hl => ?_)
    refine lv_goto (tgt := 30) hx hb dX4_gatherItems_98 (by decide) ?_
    exact ih_9 (x_66, x_68, σ_64) hF_69 _ _ hP hS ls (lv_sub hl [4, 1, 0] rfl)
theorem dX4_exitPart_0 : decode cX4_exitPart 0 = .ok (.aload_n 0, 1) := by decide +kernel
theorem dX4_exitPart_1 : decode cX4_exitPart 1 = .ok (.iload_n 1, 1) := by decide +kernel
theorem dX4_exitPart_2 : decode cX4_exitPart 2 = .ok (.iconst 2, 1) := by decide +kernel
theorem dX4_exitPart_3 : decode cX4_exitPart 3 = .ok (.iadd, 1) := by decide +kernel
theorem dX4_exitPart_4 : decode cX4_exitPart 4 = .ok (.invokevirtual 221, 3) := by decide +kernel
theorem dX4_exitPart_7 : decode cX4_exitPart 7 = .ok (.iconst 1, 1) := by decide +kernel
theorem dX4_exitPart_8 : decode cX4_exitPart 8 = .ok (.if_icmp .eq 11, 3) := by decide +kernel
theorem dX4_exitPart_11 : decode cX4_exitPart 11 = .ok (.aload_n 0, 1) := by decide +kernel
theorem dX4_exitPart_12 : decode cX4_exitPart 12 = .ok (.iconst 3, 1) := by decide +kernel
theorem dX4_exitPart_13 : decode cX4_exitPart 13 = .ok (.iload_n 1, 1) := by decide +kernel
theorem dX4_exitPart_14 : decode cX4_exitPart 14 = .ok (.iconst 2, 1) := by decide +kernel
theorem dX4_exitPart_15 : decode cX4_exitPart 15 = .ok (.iadd, 1) := by decide +kernel
theorem dX4_exitPart_16 : decode cX4_exitPart 16 = .ok (.invokevirtual 84, 3) := by decide +kernel
theorem dX4_exitPart_19 : decode cX4_exitPart 19 = .ok (.aload_n 0, 1) := by decide +kernel
theorem dX4_exitPart_20 : decode cX4_exitPart 20 = .ok (.getfield 36, 3) := by decide +kernel
theorem dX4_exitPart_23 : decode cX4_exitPart 23 = .ok (.getfield 224, 3) := by decide +kernel
theorem dX4_exitPart_26 : decode cX4_exitPart 26 = .ok (.aload_n 0, 1) := by decide +kernel
theorem dX4_exitPart_27 : decode cX4_exitPart 27 = .ok (.getfield 190, 3) := by decide +kernel
theorem dX4_exitPart_30 : decode cX4_exitPart 30 = .ok (.bipush 6, 2) := by decide +kernel
theorem dX4_exitPart_32 : decode cX4_exitPart 32 = .ok (.imul, 1) := by decide +kernel
theorem dX4_exitPart_33 : decode cX4_exitPart 33 = .ok (.aload_n 0, 1) := by decide +kernel
theorem dX4_exitPart_34 : decode cX4_exitPart 34 = .ok (.getfield 32, 3) := by decide +kernel
theorem dX4_exitPart_37 : decode cX4_exitPart 37 = .ok (.iload_n 1, 1) := by decide +kernel
theorem dX4_exitPart_38 : decode cX4_exitPart 38 = .ok (.iconst 1, 1) := by decide +kernel
theorem dX4_exitPart_39 : decode cX4_exitPart 39 = .ok (.iadd, 1) := by decide +kernel
theorem dX4_exitPart_40 : decode cX4_exitPart 40 = .ok (.invokevirtual 116, 3) := by decide +kernel
theorem dX4_exitPart_43 : decode cX4_exitPart 43 = .ok (.iadd, 1) := by decide +kernel
theorem dX4_exitPart_44 : decode cX4_exitPart 44 = .ok (.sipush 200, 3) := by decide +kernel
theorem dX4_exitPart_47 : decode cX4_exitPart 47 = .ok (.isub, 1) := by decide +kernel
theorem dX4_exitPart_48 : decode cX4_exitPart 48 = .ok (.aload_n 0, 1) := by decide +kernel
theorem dX4_exitPart_49 : decode cX4_exitPart 49 = .ok (.iload_n 1, 1) := by decide +kernel
theorem dX4_exitPart_50 : decode cX4_exitPart 50 = .ok (.iconst 2, 1) := by decide +kernel
theorem dX4_exitPart_51 : decode cX4_exitPart 51 = .ok (.iadd, 1) := by decide +kernel
theorem dX4_exitPart_52 : decode cX4_exitPart 52 = .ok (.invokevirtual 193, 3) := by decide +kernel
theorem dX4_exitPart_55 : decode cX4_exitPart 55 = .ok (.invokestatic 112, 3) := by decide +kernel
theorem dX4_exitPart_58 : decode cX4_exitPart 58 = .ok (.return_, 1) := by decide +kernel
def F_X4_exitPart (p0 : Int32) (Γ : HS) : HR :=
  (F_X4_sortOf (p0 + 2) Γ).bind fun u_1 =>
  bnd (fun  (σ_3 : HS) => (
    (F_X10_kindOf (p0 + 1) σ_3).bind fun u_7 =>
    bnd (mrg (fun j => j == 1) σ_3 u_7.2) fun σ_9 =>
    (F_X4_numberOf (p0 + 2) σ_9).bind fun u_11 =>
    bnd (cA' u_11.2 4 6 (g_put 726 ((u_11.2 4).2.1 6) (((((σ_3 3).1 13) * 6) + u_7.1) - 200) u_11.1)) fun σ_13 =>
    some (0, σ_13)
  ) : HS → HR) fun j_4 =>
  if u_1.1 = 1 then (
    j_4  u_1.2
  ) else (
    (F_X4_fail 3 (p0 + 2) u_1.2).bind fun u_18 =>
    j_4  u_18.2
  )
set_option maxHeartbeats 4000000 in
set_option maxRecDepth 100000 in
theorem k_X4_exitPart (l : Launch) (dC : Nat → ClassId) (dI : Nat → Nat → Nat) (cB cC cI cJ cZ cP : ClassId) (oA : Nat → Nat) (rA : Nat → Nat → Nat) (sz : Nat)  (p0 : Int32) (Γ : HS) (res : Int32 × HS) (hF : F_X4_exitPart p0 Γ = some res) : Met l yX4_exitPart (g_ws yX4_exitPart cX4_exitPart 2 none) ({ frames := 5, cells := 0, slots := 0, locals := 124 }) (va_Pc [.ref (oA 3), .int p0] (g_B (dC, dI) [(cB, .byte), (cC, .char), (cI, .int), (cJ, .long), (cZ, .boolean), (cP, .object "StoryHouse$Play")] sz (b_m cB cC cI cJ cZ oA rA Γ ++ b_w cB cC cI cJ cZ oA rA Γ ++ b_s cB cC cI cJ cZ oA rA Γ ++ b_c cB cC cI cJ cZ oA rA Γ ++ b_t cB cC cI cJ cZ oA rA Γ ++ b_d cB cC cI cJ cZ oA rA Γ) g_0)) (va_Qv (fun (_ : Unit) => True) (g_Bo (dC, dI) (va_A (b_m cB cC cI cJ cZ oA rA Γ ++ b_w cB cC cI cJ cZ oA rA Γ ++ b_s cB cC cI cJ cZ oA rA Γ ++ b_c cB cC cI cJ cZ oA rA Γ ++ b_t cB cC cI cJ cZ oA rA Γ ++ b_d cB cC cI cJ cZ oA rA Γ) sz) (fun (_ : Unit) => (b_m cB cC cI cJ cZ oA rA res.2 ++ b_w cB cC cI cJ cZ oA rA res.2 ++ b_s cB cC cI cJ cZ oA rA res.2 ++ b_c cB cC cI cJ cZ oA rA res.2 ++ b_t cB cC cI cJ cZ oA rA res.2 ++ b_d cB cC cI cJ cZ oA rA res.2))) (va_A (b_m cB cC cI cJ cZ oA rA Γ ++ b_w cB cC cI cJ cZ oA rA Γ ++ b_s cB cC cI cJ cZ oA rA Γ ++ b_c cB cC cI cJ cZ oA rA Γ ++ b_t cB cC cI cJ cZ oA rA Γ ++ b_d cB cC cI cJ cZ oA rA Γ) sz)) 0 0 (va_A (b_m cB cC cI cJ cZ oA rA Γ ++ b_w cB cC cI cJ cZ oA rA Γ ++ b_s cB cC cI cJ cZ oA rA Γ ++ b_c cB cC cI cJ cZ oA rA Γ ++ b_t cB cC cI cJ cZ oA rA Γ ++ b_d cB cC cI cJ cZ oA rA Γ) sz) := by
  refine Met.ofW (cc := cX4_exitPart) (maxL := 2) (ret := none) (by decide) rfl ?_
  intro p e s m args below meth c s₁ B hml hv
  obtain ⟨rfl, hsz, hP, hK, hD0, hE, hX⟩ := hv
  have hx := B.exec
  have hb := B.bytes
  have hr := B.returns
  have hts0 := atoms_spec (ws := g_ws yX4_exitPart cX4_exitPart 2 none) B.pre
  have hts : ∀ w ∈ lw_good, w.before ([.ref (oA 3), .int p0] : List Value).toArray s = true := fun w z => hts0 w (List.mem_cons_of_mem _ z)
  have hown : s.vm.findClass RX4 = some m.cls := findClass_of_methodNamed B.named
  have hlocks := B.notSynchronized
  subst hsz
  have hD1 := hD0.self (sz := s.heap.size)
  generalize hAe : va_A (b_m cB cC cI cJ cZ oA rA Γ ++ b_w cB cC cI cJ cZ oA rA Γ ++ b_s cB cC cI cJ cZ oA rA Γ ++ b_c cB cC cI cJ cZ oA rA Γ ++ b_t cB cC cI cJ cZ oA rA Γ ++ b_d cB cC cI cJ cZ oA rA Γ) s.heap.size = A at hD1 hE hX ⊢
  have hA : ∀ q : Nat, s.heap.size ≤ q → A q := fun q z => by rw [← hAe]; exact Or.inr z
  have hDD : ∀ Γ : HS, va_D A (b_m cB cC cI cJ cZ oA rA Γ ++ b_w cB cC cI cJ cZ oA rA Γ ++ b_s cB cC cI cJ cZ oA rA Γ ++ b_c cB cC cI cJ cZ oA rA Γ ++ b_t cB cC cI cJ cZ oA rA Γ ++ b_d cB cC cI cJ cZ oA rA Γ) := fun Γ9 => va_D_fst (ws := (b_m cB cC cI cJ cZ oA rA Γ ++ b_w cB cC cI cJ cZ oA rA Γ ++ b_s cB cC cI cJ cZ oA rA Γ ++ b_c cB cC cI cJ cZ oA rA Γ ++ b_t cB cC cI cJ cZ oA rA Γ ++ b_d cB cC cI cJ cZ oA rA Γ)) (ws' := (b_m cB cC cI cJ cZ oA rA Γ9 ++ b_w cB cC cI cJ cZ oA rA Γ9 ++ b_s cB cC cI cJ cZ oA rA Γ9 ++ b_c cB cC cI cJ cZ oA rA Γ9 ++ b_t cB cC cI cJ cZ oA rA Γ9 ++ b_d cB cC cI cJ cZ oA rA Γ9)) rfl hD1
  have hN := hE.1
  have hS : va_S A s.heap s.heap [] := va_S.rf
  have hl := lv_entry ([.ref (oA 3), .int p0]) (n := 2) (Nat.le_of_ble_eq_true rfl)
  rw [lg_entry_eq]
  generalize (lg_sl ([.ref (oA 3), .int p0]) ++ List.replicate (2 - (lg_sl ([.ref (oA 3), .int p0])).length) Slot.unset).toArray = ls at hl ⊢
  have hl : lv_has ls 2 [(0, .ref (oA 3)), (1, .int p0)] := hl
  unfold F_X4_exitPart at hF
  refine lv_aload_n hx hb dX4_exitPart_0 rfl (lv_at hl 0 rfl) ?_
  refine lv_iload_n hx hb dX4_exitPart_1 rfl (lv_at hl 1 rfl) ?_
  refine lv_iconst (v := 2) hx hb dX4_exitPart_2 (by decide +kernel) ?_
  refine lv_iadd hx hb dX4_exitPart_3 ?_
  obtain ⟨u_1, hu_1, hF_2⟩ := Option.bind_eq_some_iff.mp hF
  clear hF
  have hPc := bx_P (bs := [b_m cB cC cI cJ cZ oA rA Γ, b_w cB cC cI cJ cZ oA rA Γ, b_s cB cC cI cJ cZ oA rA Γ, b_c cB cC cI cJ cZ oA rA Γ, b_t cB cC cI cJ cZ oA rA Γ, b_d cB cC cI cJ cZ oA rA Γ]) (bs' := [b_m cB cC cI cJ cZ oA rA Γ, b_w cB cC cI cJ cZ oA rA Γ, b_s cB cC cI cJ cZ oA rA Γ, b_c cB cC cI cJ cZ oA rA Γ, b_t cB cC cI cJ cZ oA rA Γ, b_d cB cC cI cJ cZ oA rA Γ]) (ws' := (b_m cB cC cI cJ cZ oA rA Γ ++ b_w cB cC cI cJ cZ oA rA Γ ++ b_s cB cC cI cJ cZ oA rA Γ ++ b_c cB cC cI cJ cZ oA rA Γ ++ b_t cB cC cI cJ cZ oA rA Γ ++ b_d cB cC cI cJ cZ oA rA Γ)) hP fl_6 fl_6 [0, 1, 2, 3, 4, 5] rfl
  have hDc := bx_D (bs := [b_m cB cC cI cJ cZ oA rA Γ, b_w cB cC cI cJ cZ oA rA Γ, b_s cB cC cI cJ cZ oA rA Γ, b_c cB cC cI cJ cZ oA rA Γ, b_t cB cC cI cJ cZ oA rA Γ, b_d cB cC cI cJ cZ oA rA Γ]) (bs' := [b_m cB cC cI cJ cZ oA rA Γ, b_w cB cC cI cJ cZ oA rA Γ, b_s cB cC cI cJ cZ oA rA Γ, b_c cB cC cI cJ cZ oA rA Γ, b_t cB cC cI cJ cZ oA rA Γ, b_d cB cC cI cJ cZ oA rA Γ]) (ws' := (b_m cB cC cI cJ cZ oA rA Γ ++ b_w cB cC cI cJ cZ oA rA Γ ++ b_s cB cC cI cJ cZ oA rA Γ ++ b_c cB cC cI cJ cZ oA rA Γ ++ b_t cB cC cI cJ cZ oA rA Γ ++ b_d cB cC cI cJ cZ oA rA Γ)) (hDD Γ) fl_6 fl_6 [0, 1, 2, 3, 4, 5] (by decide +kernel) rfl
  have hFc := bx_F (bs := [b_m cB cC cI cJ cZ oA rA Γ, b_w cB cC cI cJ cZ oA rA Γ, b_s cB cC cI cJ cZ oA rA Γ, b_c cB cC cI cJ cZ oA rA Γ, b_t cB cC cI cJ cZ oA rA Γ, b_d cB cC cI cJ cZ oA rA Γ]) (bs' := [b_m cB cC cI cJ cZ oA rA Γ, b_w cB cC cI cJ cZ oA rA Γ, b_s cB cC cI cJ cZ oA rA Γ, b_c cB cC cI cJ cZ oA rA Γ, b_t cB cC cI cJ cZ oA rA Γ, b_d cB cC cI cJ cZ oA rA Γ]) (wc := (b_m cB cC cI cJ cZ oA rA Γ ++ b_w cB cC cI cJ cZ oA rA Γ ++ b_s cB cC cI cJ cZ oA rA Γ ++ b_c cB cC cI cJ cZ oA rA Γ ++ b_t cB cC cI cJ cZ oA rA Γ ++ b_d cB cC cI cJ cZ oA rA Γ)) (hDD Γ) hS hA fl_6 fl_6 [0, 1, 2, 3, 4, 5] rfl
  refine g_ofi (wc := (b_m cB cC cI cJ cZ oA rA Γ ++ b_w cB cC cI cJ cZ oA rA Γ ++ b_s cB cC cI cJ cZ oA rA Γ ++ b_c cB cC cI cJ cZ oA rA Γ ++ b_t cB cC cI cJ cZ oA rA Γ ++ b_d cB cC cI cJ cZ oA rA Γ)) (wr := ([] : va_W)) hP (hDD Γ) hS hFc (bx_ix [b_m cB cC cI cJ cZ oA rA Γ, b_w cB cC cI cJ cZ oA rA Γ, b_s cB cC cI cJ cZ oA rA Γ, b_c cB cC cI cJ cZ oA rA Γ, b_t cB cC cI cJ cZ oA rA Γ, b_d cB cC cI cJ cZ oA rA Γ] [0, 1, 2, 3, 4, 5]) (bx_ix [b_m cB cC cI cJ cZ oA rA Γ, b_w cB cC cI cJ cZ oA rA Γ, b_s cB cC cI cJ cZ oA rA Γ, b_c cB cC cI cJ cZ oA rA Γ, b_t cB cC cI cJ cZ oA rA Γ, b_d cB cC cI cJ cZ oA rA Γ] []) (bx_C (bs := [b_m cB cC cI cJ cZ oA rA Γ, b_w cB cC cI cJ cZ oA rA Γ, b_s cB cC cI cJ cZ oA rA Γ, b_c cB cC cI cJ cZ oA rA Γ, b_t cB cC cI cJ cZ oA rA Γ, b_d cB cC cI cJ cZ oA rA Γ]) (bs' := [b_m cB cC cI cJ cZ oA rA Γ, b_w cB cC cI cJ cZ oA rA Γ, b_s cB cC cI cJ cZ oA rA Γ, b_c cB cC cI cJ cZ oA rA Γ, b_t cB cC cI cJ cZ oA rA Γ, b_d cB cC cI cJ cZ oA rA Γ]) (is := [0, 1, 2, 3, 4, 5]) fl_6 fl_6 rfl) (bx_C (bs := [b_m cB cC cI cJ cZ oA rA Γ, b_w cB cC cI cJ cZ oA rA Γ, b_s cB cC cI cJ cZ oA rA Γ, b_c cB cC cI cJ cZ oA rA Γ, b_t cB cC cI cJ cZ oA rA Γ, b_d cB cC cI cJ cZ oA rA Γ]) (bs' := []) (is := []) fl_6 fl_0 rfl) (bx_n (by decide +kernel)) (bx_d (by decide +kernel)) (va_runV (As := [.int (p0 + 2)]) (rest := []) ⟨hx, hb, hml, hown, hts⟩ (k_X4_sortOf l dC dI cB cC cI cJ cZ cP oA rA s.heap.size  (p0 + 2) Γ _ hu_1) (cwV 1 hts (g_gV wq_766 wq_767 wq_2050 wq_4 wq_768) rfl rfl rfl (by decide +kernel) ⟨Nat.le_of_ble_eq_true rfl, Nat.le_of_ble_eq_true rfl⟩) (g_preV g_bl0 hK hPc hDc hS hE hFc g_to0 (q0 := 0) (ci := 4) rfl rfl) rfl rfl hl.1 rfl (lv_room (Nat.le_of_ble_eq_true rfl)) dX4_exitPart_4 ⟨Nat.le_of_ble_eq_true rfl, Nat.le_of_ble_eq_true rfl⟩) (fun r9 u9 H locs hw9 hP' hD' hS => ?_)
  clear hPc hDc hFc
  subst hw9
  have hP : va_P (dC, dI) vwCl (b_m cB cC cI cJ cZ oA rA u_1.2 ++ b_w cB cC cI cJ cZ oA rA u_1.2 ++ b_s cB cC cI cJ cZ oA rA u_1.2 ++ b_c cB cC cI cJ cZ oA rA u_1.2 ++ b_t cB cC cI cJ cZ oA rA u_1.2 ++ b_d cB cC cI cJ cZ oA rA u_1.2) H := hP'
  clear hP' hD'
  refine lv_iconst (v := 1) hx hb dX4_exitPart_7 (by decide +kernel) ?_
  obtain ⟨j_4, ej_4, hF_5⟩ := bnd_e hF_2
  clear hF_2
  have Jj_4 : ∀  (σ_3 : HS), j_4  σ_3 = some res → ∀ (H : Heap) (locs : List Loc), va_P (dC, dI) vwCl (b_m cB cC cI cJ cZ oA rA σ_3 ++ b_w cB cC cI cJ cZ oA rA σ_3 ++ b_s cB cC cI cJ cZ oA rA σ_3 ++ b_c cB cC cI cJ cZ oA rA σ_3 ++ b_t cB cC cI cJ cZ oA rA σ_3 ++ b_d cB cC cI cJ cZ oA rA σ_3) H → va_S A s.heap H locs → ∀ ls : Array Slot, lv_has ls 2 [(0, .ref (oA 3)), (1, .int p0)] → W p l e (headSpec (g_ws yX4_exitPart cX4_exitPart 2 none) { frames := 5, cells := 0, slots := 0, locals := 124 }).room s m ([.ref (oA 3), .int p0] : List Value).toArray below meth c H locs 0 0 (MQ below (va_Qv (fun (_ : Unit) => True) (g_Bo (dC, dI) A (fun (_ : Unit) => (b_m cB cC cI cJ cZ oA rA res.2 ++ b_w cB cC cI cJ cZ oA rA res.2 ++ b_s cB cC cI cJ cZ oA rA res.2 ++ b_c cB cC cI cJ cZ oA rA res.2 ++ b_t cB cC cI cJ cZ oA rA res.2 ++ b_d cB cC cI cJ cZ oA rA res.2))) A) ([.ref (oA 3), .int p0] : List Value).toArray s 0 0 A) (F0 m 19 ls []) := by
    intro  σ_3 hF0 H locs hP hS ls hl
    subst ej_4
    have hF_6 := hF0
    clear hF0
    refine lv_aload_n hx hb dX4_exitPart_19 rfl (lv_at hl 0 rfl) ?_
    refine va_get (D := (dC, dI)) (ci := 4) (v := .ref (oA 4)) (C := RX4) (T := TX4) (N := 18) hx hb hts ii_X4 hown hK hP 0 rfl rfl 1 (by decide) (hts (.fieldLink RX4 36 "StoryHouse$Meanings" "story" "LStoryHouse$Story;") wq_87) (fun _ h9 => h9) rfl dX4_exitPart_20 ?_
    refine va_get (D := (dC, dI)) (ci := 7) (v := .ref (rA 4 6)) (C := RX7) (T := TX7) (N := 19) hx hb hts ii_X7 hown hK hP 16 rfl rfl 6 (by decide) (hts (.fieldLink RX4 224 "StoryHouse$Story" "exits" "[I") wq_169) (fun _ h9 => h9) rfl dX4_exitPart_23 ?_
    refine lv_aload_n hx hb dX4_exitPart_26 rfl (lv_at hl 0 rfl) ?_
    refine va_get (D := (dC, dI)) (ci := 4) (v := .int ((σ_3 3).1 13)) (C := RX4) (T := TX4) (N := 18) hx hb hts ii_X4 hown hK hP 0 rfl rfl 13 (by decide) (hts (.fieldLink RX4 190 "StoryHouse$Meanings" "object" "I") wq_99) (fun _ h9 => h9) rfl dX4_exitPart_27 ?_
    refine lv_bipush (v := 6) hx hb dX4_exitPart_30 (by decide +kernel) ?_
    refine lv_imul hx hb dX4_exitPart_32 ?_
    refine lv_aload_n hx hb dX4_exitPart_33 rfl (lv_at hl 0 rfl) ?_
    refine va_get (D := (dC, dI)) (ci := 4) (v := .ref (oA 1)) (C := RX4) (T := TX4) (N := 18) hx hb hts ii_X4 hown hK hP 0 rfl rfl 0 (by decide) (hts (.fieldLink RX4 32 "StoryHouse$Meanings" "words" "LStoryHouse$Words;") wq_86) (fun _ h9 => h9) rfl dX4_exitPart_34 ?_
    refine lv_iload_n hx hb dX4_exitPart_37 rfl (lv_at hl 1 rfl) ?_
    refine lv_iconst (v := 1) hx hb dX4_exitPart_38 (by decide +kernel) ?_
    refine lv_iadd hx hb dX4_exitPart_39 ?_
    obtain ⟨u_7, hu_7, hF_8⟩ := Option.bind_eq_some_iff.mp hF_6
    clear hF_6
    have hPc := bx_P (bs := [b_m cB cC cI cJ cZ oA rA σ_3, b_w cB cC cI cJ cZ oA rA σ_3, b_s cB cC cI cJ cZ oA rA σ_3, b_c cB cC cI cJ cZ oA rA σ_3, b_t cB cC cI cJ cZ oA rA σ_3, b_d cB cC cI cJ cZ oA rA σ_3]) (bs' := [b_w cB cC cI cJ cZ oA rA σ_3]) (ws' := (b_w cB cC cI cJ cZ oA rA σ_3)) hP fl_6 fl_1 [1] rfl
    have hDc := bx_D (bs := [b_m cB cC cI cJ cZ oA rA σ_3, b_w cB cC cI cJ cZ oA rA σ_3, b_s cB cC cI cJ cZ oA rA σ_3, b_c cB cC cI cJ cZ oA rA σ_3, b_t cB cC cI cJ cZ oA rA σ_3, b_d cB cC cI cJ cZ oA rA σ_3]) (bs' := [b_w cB cC cI cJ cZ oA rA σ_3]) (ws' := (b_w cB cC cI cJ cZ oA rA σ_3)) (hDD σ_3) fl_6 fl_1 [1] (by decide +kernel) rfl
    have hFc := bx_F (bs := [b_m cB cC cI cJ cZ oA rA σ_3, b_w cB cC cI cJ cZ oA rA σ_3, b_s cB cC cI cJ cZ oA rA σ_3, b_c cB cC cI cJ cZ oA rA σ_3, b_t cB cC cI cJ cZ oA rA σ_3, b_d cB cC cI cJ cZ oA rA σ_3]) (bs' := [b_w cB cC cI cJ cZ oA rA σ_3]) (wc := (b_w cB cC cI cJ cZ oA rA σ_3)) (hDD σ_3) hS hA fl_6 fl_1 [1] rfl
    refine g_ofi (wc := (b_w cB cC cI cJ cZ oA rA σ_3)) (wr := (b_m cB cC cI cJ cZ oA rA σ_3 ++ b_s cB cC cI cJ cZ oA rA σ_3 ++ b_c cB cC cI cJ cZ oA rA σ_3 ++ b_t cB cC cI cJ cZ oA rA σ_3 ++ b_d cB cC cI cJ cZ oA rA σ_3)) hP (hDD σ_3) hS hFc (bx_ix [b_m cB cC cI cJ cZ oA rA σ_3, b_w cB cC cI cJ cZ oA rA σ_3, b_s cB cC cI cJ cZ oA rA σ_3, b_c cB cC cI cJ cZ oA rA σ_3, b_t cB cC cI cJ cZ oA rA σ_3, b_d cB cC cI cJ cZ oA rA σ_3] [1]) (bx_ix [b_m cB cC cI cJ cZ oA rA σ_3, b_w cB cC cI cJ cZ oA rA σ_3, b_s cB cC cI cJ cZ oA rA σ_3, b_c cB cC cI cJ cZ oA rA σ_3, b_t cB cC cI cJ cZ oA rA σ_3, b_d cB cC cI cJ cZ oA rA σ_3] [0, 2, 3, 4, 5]) (bx_C (bs := [b_m cB cC cI cJ cZ oA rA σ_3, b_w cB cC cI cJ cZ oA rA σ_3, b_s cB cC cI cJ cZ oA rA σ_3, b_c cB cC cI cJ cZ oA rA σ_3, b_t cB cC cI cJ cZ oA rA σ_3, b_d cB cC cI cJ cZ oA rA σ_3]) (bs' := [b_w cB cC cI cJ cZ oA rA σ_3]) (is := [1]) fl_6 fl_1 rfl) (bx_C (bs := [b_m cB cC cI cJ cZ oA rA σ_3, b_w cB cC cI cJ cZ oA rA σ_3, b_s cB cC cI cJ cZ oA rA σ_3, b_c cB cC cI cJ cZ oA rA σ_3, b_t cB cC cI cJ cZ oA rA σ_3, b_d cB cC cI cJ cZ oA rA σ_3]) (bs' := [b_m cB cC cI cJ cZ oA rA σ_3, b_s cB cC cI cJ cZ oA rA σ_3, b_c cB cC cI cJ cZ oA rA σ_3, b_t cB cC cI cJ cZ oA rA σ_3, b_d cB cC cI cJ cZ oA rA σ_3]) (is := [0, 2, 3, 4, 5]) fl_6 fl_5 rfl) (bx_n (by decide +kernel)) (bx_d (by decide +kernel)) (va_runV (As := [.int (p0 + 1)]) (rest := [.int (((σ_3 3).1 13) * 6), .ref (rA 4 6)]) ⟨hx, hb, hml, hown, hts⟩ (k_X10_kindOf l dC dI cB cC cI cJ cZ cP oA rA H.size  (p0 + 1) σ_3 _ hu_7) (cwV 1 hts (g_gV wq_714 wq_543 wq_544 wq_2 wq_545) rfl rfl rfl (by decide +kernel) ⟨Nat.le_of_ble_eq_true rfl, Nat.le_of_ble_eq_true rfl⟩) (g_preV g_bl0 hK hPc hDc hS hE hFc g_to0 (q0 := 0) (ci := 10) rfl rfl) rfl rfl hl.1 rfl (lv_room (Nat.le_of_ble_eq_true rfl)) dX4_exitPart_40 ⟨Nat.le_of_ble_eq_true rfl, Nat.le_of_ble_eq_true rfl⟩) (fun r9 u9 H locs hw9 hP' hD' hS => ?_)
    clear hPc hDc hFc
    subst hw9
    obtain ⟨σ_9, eσ_9, hF_10⟩ := bnd_e hF_8
    clear hF_8
    have hP : va_P (dC, dI) vwCl (b_m cB cC cI cJ cZ oA rA σ_9 ++ b_w cB cC cI cJ cZ oA rA σ_9 ++ b_s cB cC cI cJ cZ oA rA σ_9 ++ b_c cB cC cI cJ cZ oA rA σ_9 ++ b_t cB cC cI cJ cZ oA rA σ_9 ++ b_d cB cC cI cJ cZ oA rA σ_9) H := by rw [eσ_9]; exact bx_P (bs := [b_m cB cC cI cJ cZ oA rA σ_3, b_s cB cC cI cJ cZ oA rA σ_3, b_c cB cC cI cJ cZ oA rA σ_3, b_t cB cC cI cJ cZ oA rA σ_3, b_d cB cC cI cJ cZ oA rA σ_3] ++ [b_w cB cC cI cJ cZ oA rA u_7.2]) (bs' := [b_m cB cC cI cJ cZ oA rA (mrg (fun j => j == 1) σ_3 u_7.2), b_w cB cC cI cJ cZ oA rA (mrg (fun j => j == 1) σ_3 u_7.2), b_s cB cC cI cJ cZ oA rA (mrg (fun j => j == 1) σ_3 u_7.2), b_c cB cC cI cJ cZ oA rA (mrg (fun j => j == 1) σ_3 u_7.2), b_t cB cC cI cJ cZ oA rA (mrg (fun j => j == 1) σ_3 u_7.2), b_d cB cC cI cJ cZ oA rA (mrg (fun j => j == 1) σ_3 u_7.2)]) hP' (fl_a fl_5 fl_1) fl_6 [0, 5, 1, 2, 3, 4] rfl
    clear hP' hD'
    refine lv_iadd hx hb dX4_exitPart_43 ?_
    refine lv_sipush (v := 200) hx hb dX4_exitPart_44 (by decide +kernel) ?_
    refine lv_isub hx hb dX4_exitPart_47 ?_
    refine lv_aload_n hx hb dX4_exitPart_48 rfl (lv_at hl 0 rfl) ?_
    refine lv_iload_n hx hb dX4_exitPart_49 rfl (lv_at hl 1 rfl) ?_
    refine lv_iconst (v := 2) hx hb dX4_exitPart_50 (by decide +kernel) ?_
    refine lv_iadd hx hb dX4_exitPart_51 ?_
    obtain ⟨u_11, hu_11, hF_12⟩ := Option.bind_eq_some_iff.mp hF_10
    clear hF_10
    have hPc := bx_P (bs := [b_m cB cC cI cJ cZ oA rA σ_9, b_w cB cC cI cJ cZ oA rA σ_9, b_s cB cC cI cJ cZ oA rA σ_9, b_c cB cC cI cJ cZ oA rA σ_9, b_t cB cC cI cJ cZ oA rA σ_9, b_d cB cC cI cJ cZ oA rA σ_9]) (bs' := [b_m cB cC cI cJ cZ oA rA σ_9, b_w cB cC cI cJ cZ oA rA σ_9, b_s cB cC cI cJ cZ oA rA σ_9, b_c cB cC cI cJ cZ oA rA σ_9, b_t cB cC cI cJ cZ oA rA σ_9, b_d cB cC cI cJ cZ oA rA σ_9]) (ws' := (b_m cB cC cI cJ cZ oA rA σ_9 ++ b_w cB cC cI cJ cZ oA rA σ_9 ++ b_s cB cC cI cJ cZ oA rA σ_9 ++ b_c cB cC cI cJ cZ oA rA σ_9 ++ b_t cB cC cI cJ cZ oA rA σ_9 ++ b_d cB cC cI cJ cZ oA rA σ_9)) hP fl_6 fl_6 [0, 1, 2, 3, 4, 5] rfl
    have hDc := bx_D (bs := [b_m cB cC cI cJ cZ oA rA σ_9, b_w cB cC cI cJ cZ oA rA σ_9, b_s cB cC cI cJ cZ oA rA σ_9, b_c cB cC cI cJ cZ oA rA σ_9, b_t cB cC cI cJ cZ oA rA σ_9, b_d cB cC cI cJ cZ oA rA σ_9]) (bs' := [b_m cB cC cI cJ cZ oA rA σ_9, b_w cB cC cI cJ cZ oA rA σ_9, b_s cB cC cI cJ cZ oA rA σ_9, b_c cB cC cI cJ cZ oA rA σ_9, b_t cB cC cI cJ cZ oA rA σ_9, b_d cB cC cI cJ cZ oA rA σ_9]) (ws' := (b_m cB cC cI cJ cZ oA rA σ_9 ++ b_w cB cC cI cJ cZ oA rA σ_9 ++ b_s cB cC cI cJ cZ oA rA σ_9 ++ b_c cB cC cI cJ cZ oA rA σ_9 ++ b_t cB cC cI cJ cZ oA rA σ_9 ++ b_d cB cC cI cJ cZ oA rA σ_9)) (hDD σ_9) fl_6 fl_6 [0, 1, 2, 3, 4, 5] (by decide +kernel) rfl
    have hFc := bx_F (bs := [b_m cB cC cI cJ cZ oA rA σ_9, b_w cB cC cI cJ cZ oA rA σ_9, b_s cB cC cI cJ cZ oA rA σ_9, b_c cB cC cI cJ cZ oA rA σ_9, b_t cB cC cI cJ cZ oA rA σ_9, b_d cB cC cI cJ cZ oA rA σ_9]) (bs' := [b_m cB cC cI cJ cZ oA rA σ_9, b_w cB cC cI cJ cZ oA rA σ_9, b_s cB cC cI cJ cZ oA rA σ_9, b_c cB cC cI cJ cZ oA rA σ_9, b_t cB cC cI cJ cZ oA rA σ_9, b_d cB cC cI cJ cZ oA rA σ_9]) (wc := (b_m cB cC cI cJ cZ oA rA σ_9 ++ b_w cB cC cI cJ cZ oA rA σ_9 ++ b_s cB cC cI cJ cZ oA rA σ_9 ++ b_c cB cC cI cJ cZ oA rA σ_9 ++ b_t cB cC cI cJ cZ oA rA σ_9 ++ b_d cB cC cI cJ cZ oA rA σ_9)) (hDD σ_9) hS hA fl_6 fl_6 [0, 1, 2, 3, 4, 5] rfl
    refine g_ofi (wc := (b_m cB cC cI cJ cZ oA rA σ_9 ++ b_w cB cC cI cJ cZ oA rA σ_9 ++ b_s cB cC cI cJ cZ oA rA σ_9 ++ b_c cB cC cI cJ cZ oA rA σ_9 ++ b_t cB cC cI cJ cZ oA rA σ_9 ++ b_d cB cC cI cJ cZ oA rA σ_9)) (wr := ([] : va_W)) hP (hDD σ_9) hS hFc (bx_ix [b_m cB cC cI cJ cZ oA rA σ_9, b_w cB cC cI cJ cZ oA rA σ_9, b_s cB cC cI cJ cZ oA rA σ_9, b_c cB cC cI cJ cZ oA rA σ_9, b_t cB cC cI cJ cZ oA rA σ_9, b_d cB cC cI cJ cZ oA rA σ_9] [0, 1, 2, 3, 4, 5]) (bx_ix [b_m cB cC cI cJ cZ oA rA σ_9, b_w cB cC cI cJ cZ oA rA σ_9, b_s cB cC cI cJ cZ oA rA σ_9, b_c cB cC cI cJ cZ oA rA σ_9, b_t cB cC cI cJ cZ oA rA σ_9, b_d cB cC cI cJ cZ oA rA σ_9] []) (bx_C (bs := [b_m cB cC cI cJ cZ oA rA σ_9, b_w cB cC cI cJ cZ oA rA σ_9, b_s cB cC cI cJ cZ oA rA σ_9, b_c cB cC cI cJ cZ oA rA σ_9, b_t cB cC cI cJ cZ oA rA σ_9, b_d cB cC cI cJ cZ oA rA σ_9]) (bs' := [b_m cB cC cI cJ cZ oA rA σ_9, b_w cB cC cI cJ cZ oA rA σ_9, b_s cB cC cI cJ cZ oA rA σ_9, b_c cB cC cI cJ cZ oA rA σ_9, b_t cB cC cI cJ cZ oA rA σ_9, b_d cB cC cI cJ cZ oA rA σ_9]) (is := [0, 1, 2, 3, 4, 5]) fl_6 fl_6 rfl) (bx_C (bs := [b_m cB cC cI cJ cZ oA rA σ_9, b_w cB cC cI cJ cZ oA rA σ_9, b_s cB cC cI cJ cZ oA rA σ_9, b_c cB cC cI cJ cZ oA rA σ_9, b_t cB cC cI cJ cZ oA rA σ_9, b_d cB cC cI cJ cZ oA rA σ_9]) (bs' := []) (is := []) fl_6 fl_0 rfl) (bx_n (by decide +kernel)) (bx_d (by decide +kernel)) (va_runV (As := [.int (p0 + 2)]) (rest := [.int (((((σ_3 3).1 13) * 6) + u_7.1) - 200), .ref (rA 4 6)]) ⟨hx, hb, hml, hown, hts⟩ (k_X4_numberOf l dC dI cB cC cI cJ cZ cP oA rA H.size  (p0 + 2) σ_9 _ hu_11) (cwV 1 hts (g_gV wq_769 wq_770 wq_2051 wq_4 wq_771) rfl rfl rfl (by decide +kernel) ⟨Nat.le_of_ble_eq_true rfl, Nat.le_of_ble_eq_true rfl⟩) (g_preV g_bl0 hK hPc hDc hS hE hFc g_to0 (q0 := 0) (ci := 4) rfl rfl) rfl rfl hl.1 rfl (lv_room (Nat.le_of_ble_eq_true rfl)) dX4_exitPart_52 ⟨Nat.le_of_ble_eq_true rfl, Nat.le_of_ble_eq_true rfl⟩) (fun r9 u9 H locs hw9 hP' hD' hS => ?_)
    clear hPc hDc hFc
    subst hw9
    have hP : va_P (dC, dI) vwCl (b_m cB cC cI cJ cZ oA rA u_11.2 ++ b_w cB cC cI cJ cZ oA rA u_11.2 ++ b_s cB cC cI cJ cZ oA rA u_11.2 ++ b_c cB cC cI cJ cZ oA rA u_11.2 ++ b_t cB cC cI cJ cZ oA rA u_11.2 ++ b_d cB cC cI cJ cZ oA rA u_11.2) H := hP'
    clear hP' hD'
    have hq9 : ((b_m cB cC cI cJ cZ oA rA u_11.2 ++ b_w cB cC cI cJ cZ oA rA u_11.2 ++ b_s cB cC cI cJ cZ oA rA u_11.2 ++ b_c cB cC cI cJ cZ oA rA u_11.2 ++ b_t cB cC cI cJ cZ oA rA u_11.2 ++ b_d cB cC cI cJ cZ oA rA u_11.2))[23]? = some (rA 4 6, .inl (cI, 726, .inl ((u_11.2 4).2.1 6))) := rfl
    have hPc := hP.sub (ws' := [(rA 4 6, .inl (cI, 726, .inl ((u_11.2 4).2.1 6)))]) [23] (pk_fm (er_C hq9))
    have hDc := (hDD u_11.2).sub (ws' := [(rA 4 6, .inl (cI, 726, .inl ((u_11.2 4).2.1 6)))]) [23] (by decide +kernel) (er_C hq9)
    have hFc := va_free (wc := [(rA 4 6, .inl (cI, 726, .inl ((u_11.2 4).2.1 6)))]) (hDD u_11.2) hS hA [23] (er_C hq9)
    refine g_ofv (wc := [(rA 4 6, .inl (cI, 726, .inl ((u_11.2 4).2.1 6)))]) (wr := (((b_m cB cC cI cJ cZ oA rA u_11.2 ++ b_w cB cC cI cJ cZ oA rA u_11.2 ++ b_s cB cC cI cJ cZ oA rA u_11.2 ++ b_c cB cC cI cJ cZ oA rA u_11.2 ++ b_t cB cC cI cJ cZ oA rA u_11.2 ++ b_d cB cC cI cJ cZ oA rA u_11.2)).eraseIdx 23)) hP (hDD u_11.2) hS hFc [23] ((List.range ((b_m cB cC cI cJ cZ oA rA u_11.2 ++ b_w cB cC cI cJ cZ oA rA u_11.2 ++ b_s cB cC cI cJ cZ oA rA u_11.2 ++ b_c cB cC cI cJ cZ oA rA u_11.2 ++ b_t cB cC cI cJ cZ oA rA u_11.2 ++ b_d cB cC cI cJ cZ oA rA u_11.2)).length).eraseIdx 23) (er_C hq9) er_R er_n er_d (va_runSN (As := [.ref (rA 4 6), .int (((((σ_3 3).1 13) * 6) + u_7.1) - 200), .int u_11.1]) (rest := []) ⟨hx, hb, hml, hown, hts⟩ (c_X11_put l dC dI cB cC cI cJ cZ cP H.size (rA 4 6) (((((σ_3 3).1 13) * 6) + u_7.1) - 200) u_11.1 726 ((u_11.2 4).2.1 6) (by decide)) ⟨va_cnB 3 hts (g_gA wq_412) rfl rfl rfl (nw_23 hN) (hts (.initialized RX11) wq_1) (by decide +kernel) ⟨Nat.le_of_ble_eq_true rfl, Nat.le_of_ble_eq_true rfl⟩, (hts (.static yX11_put) wq_411), trivial⟩ (g_preS g_bl0 hK hPc hDc hS hE hFc g_to0) rfl rfl hl.1 rfl (lv_room (Nat.le_of_ble_eq_true rfl)) dX4_exitPart_55 ⟨Nat.le_of_ble_eq_true rfl, Nat.le_of_ble_eq_true rfl⟩) (fun g9 H locs hw9 hP' hD' hS => ?_)
    clear hPc hDc hFc hD'
    obtain ⟨σ_13, eσ_13, hF_14⟩ := bnd_e hF_12
    clear hF_12
    subst hw9
    have hP : va_P (dC, dI) vwCl (b_m cB cC cI cJ cZ oA rA σ_13 ++ b_w cB cC cI cJ cZ oA rA σ_13 ++ b_s cB cC cI cJ cZ oA rA σ_13 ++ b_c cB cC cI cJ cZ oA rA σ_13 ++ b_t cB cC cI cJ cZ oA rA σ_13 ++ b_d cB cC cI cJ cZ oA rA σ_13) H := by rw [eσ_13]; exact cs_mwsctd_s_6 ▸ er_P hP' (er_lt hq9)
    clear hP' hq9
    have h9 := Option.some.inj hF_14
    subst h9
    exact W.vret hx hb hr (fun t ht hW => ⟨⟨(), rfl, trivial, m_end ht hP, hDD _⟩, hS.F ht⟩) hS.2.2 dX4_exitPart_58
  refine lv_icmp_eq (tgt := 19) hx hb dX4_exitPart_8 (by decide) (fun c_15 => ?_) (fun c_15 => ?_)
  · have hF_16 := ipos c_15 hF_5
    clear hF_5
    exact Jj_4  u_1.2 hF_16 _ _ hP hS ls (lv_sub hl [0, 1] rfl)
  · have hF_17 := ineg c_15 hF_5
    clear hF_5
    refine lv_aload_n hx hb dX4_exitPart_11 rfl (lv_at hl 0 rfl) ?_
    refine lv_iconst (v := 3) hx hb dX4_exitPart_12 (by decide +kernel) ?_
    refine lv_iload_n hx hb dX4_exitPart_13 rfl (lv_at hl 1 rfl) ?_
    refine lv_iconst (v := 2) hx hb dX4_exitPart_14 (by decide +kernel) ?_
    refine lv_iadd hx hb dX4_exitPart_15 ?_
    obtain ⟨u_18, hu_18, hF_19⟩ := Option.bind_eq_some_iff.mp hF_17
    clear hF_17
    have hPc := bx_P (bs := [b_m cB cC cI cJ cZ oA rA u_1.2, b_w cB cC cI cJ cZ oA rA u_1.2, b_s cB cC cI cJ cZ oA rA u_1.2, b_c cB cC cI cJ cZ oA rA u_1.2, b_t cB cC cI cJ cZ oA rA u_1.2, b_d cB cC cI cJ cZ oA rA u_1.2]) (bs' := [b_m cB cC cI cJ cZ oA rA u_1.2, b_w cB cC cI cJ cZ oA rA u_1.2, b_s cB cC cI cJ cZ oA rA u_1.2, b_c cB cC cI cJ cZ oA rA u_1.2, b_t cB cC cI cJ cZ oA rA u_1.2, b_d cB cC cI cJ cZ oA rA u_1.2]) (ws' := (b_m cB cC cI cJ cZ oA rA u_1.2 ++ b_w cB cC cI cJ cZ oA rA u_1.2 ++ b_s cB cC cI cJ cZ oA rA u_1.2 ++ b_c cB cC cI cJ cZ oA rA u_1.2 ++ b_t cB cC cI cJ cZ oA rA u_1.2 ++ b_d cB cC cI cJ cZ oA rA u_1.2)) hP fl_6 fl_6 [0, 1, 2, 3, 4, 5] rfl
    have hDc := bx_D (bs := [b_m cB cC cI cJ cZ oA rA u_1.2, b_w cB cC cI cJ cZ oA rA u_1.2, b_s cB cC cI cJ cZ oA rA u_1.2, b_c cB cC cI cJ cZ oA rA u_1.2, b_t cB cC cI cJ cZ oA rA u_1.2, b_d cB cC cI cJ cZ oA rA u_1.2]) (bs' := [b_m cB cC cI cJ cZ oA rA u_1.2, b_w cB cC cI cJ cZ oA rA u_1.2, b_s cB cC cI cJ cZ oA rA u_1.2, b_c cB cC cI cJ cZ oA rA u_1.2, b_t cB cC cI cJ cZ oA rA u_1.2, b_d cB cC cI cJ cZ oA rA u_1.2]) (ws' := (b_m cB cC cI cJ cZ oA rA u_1.2 ++ b_w cB cC cI cJ cZ oA rA u_1.2 ++ b_s cB cC cI cJ cZ oA rA u_1.2 ++ b_c cB cC cI cJ cZ oA rA u_1.2 ++ b_t cB cC cI cJ cZ oA rA u_1.2 ++ b_d cB cC cI cJ cZ oA rA u_1.2)) (hDD u_1.2) fl_6 fl_6 [0, 1, 2, 3, 4, 5] (by decide +kernel) rfl
    have hFc := bx_F (bs := [b_m cB cC cI cJ cZ oA rA u_1.2, b_w cB cC cI cJ cZ oA rA u_1.2, b_s cB cC cI cJ cZ oA rA u_1.2, b_c cB cC cI cJ cZ oA rA u_1.2, b_t cB cC cI cJ cZ oA rA u_1.2, b_d cB cC cI cJ cZ oA rA u_1.2]) (bs' := [b_m cB cC cI cJ cZ oA rA u_1.2, b_w cB cC cI cJ cZ oA rA u_1.2, b_s cB cC cI cJ cZ oA rA u_1.2, b_c cB cC cI cJ cZ oA rA u_1.2, b_t cB cC cI cJ cZ oA rA u_1.2, b_d cB cC cI cJ cZ oA rA u_1.2]) (wc := (b_m cB cC cI cJ cZ oA rA u_1.2 ++ b_w cB cC cI cJ cZ oA rA u_1.2 ++ b_s cB cC cI cJ cZ oA rA u_1.2 ++ b_c cB cC cI cJ cZ oA rA u_1.2 ++ b_t cB cC cI cJ cZ oA rA u_1.2 ++ b_d cB cC cI cJ cZ oA rA u_1.2)) (hDD u_1.2) hS hA fl_6 fl_6 [0, 1, 2, 3, 4, 5] rfl
    refine g_ofv (wc := (b_m cB cC cI cJ cZ oA rA u_1.2 ++ b_w cB cC cI cJ cZ oA rA u_1.2 ++ b_s cB cC cI cJ cZ oA rA u_1.2 ++ b_c cB cC cI cJ cZ oA rA u_1.2 ++ b_t cB cC cI cJ cZ oA rA u_1.2 ++ b_d cB cC cI cJ cZ oA rA u_1.2)) (wr := ([] : va_W)) hP (hDD u_1.2) hS hFc (bx_ix [b_m cB cC cI cJ cZ oA rA u_1.2, b_w cB cC cI cJ cZ oA rA u_1.2, b_s cB cC cI cJ cZ oA rA u_1.2, b_c cB cC cI cJ cZ oA rA u_1.2, b_t cB cC cI cJ cZ oA rA u_1.2, b_d cB cC cI cJ cZ oA rA u_1.2] [0, 1, 2, 3, 4, 5]) (bx_ix [b_m cB cC cI cJ cZ oA rA u_1.2, b_w cB cC cI cJ cZ oA rA u_1.2, b_s cB cC cI cJ cZ oA rA u_1.2, b_c cB cC cI cJ cZ oA rA u_1.2, b_t cB cC cI cJ cZ oA rA u_1.2, b_d cB cC cI cJ cZ oA rA u_1.2] []) (bx_C (bs := [b_m cB cC cI cJ cZ oA rA u_1.2, b_w cB cC cI cJ cZ oA rA u_1.2, b_s cB cC cI cJ cZ oA rA u_1.2, b_c cB cC cI cJ cZ oA rA u_1.2, b_t cB cC cI cJ cZ oA rA u_1.2, b_d cB cC cI cJ cZ oA rA u_1.2]) (bs' := [b_m cB cC cI cJ cZ oA rA u_1.2, b_w cB cC cI cJ cZ oA rA u_1.2, b_s cB cC cI cJ cZ oA rA u_1.2, b_c cB cC cI cJ cZ oA rA u_1.2, b_t cB cC cI cJ cZ oA rA u_1.2, b_d cB cC cI cJ cZ oA rA u_1.2]) (is := [0, 1, 2, 3, 4, 5]) fl_6 fl_6 rfl) (bx_C (bs := [b_m cB cC cI cJ cZ oA rA u_1.2, b_w cB cC cI cJ cZ oA rA u_1.2, b_s cB cC cI cJ cZ oA rA u_1.2, b_c cB cC cI cJ cZ oA rA u_1.2, b_t cB cC cI cJ cZ oA rA u_1.2, b_d cB cC cI cJ cZ oA rA u_1.2]) (bs' := []) (is := []) fl_6 fl_0 rfl) (bx_n (by decide +kernel)) (bx_d (by decide +kernel)) (va_runV (As := [.int 3, .int (p0 + 2)]) (rest := []) ⟨hx, hb, hml, hown, hts⟩ (k_X4_fail l dC dI cB cC cI cJ cZ cP oA rA H.size  3 (p0 + 2) u_1.2 _ hu_18) (cwV 2 hts (g_gV wq_725 wq_726 wq_2037 wq_4 wq_727) rfl rfl rfl (by decide +kernel) ⟨Nat.le_of_ble_eq_true rfl, Nat.le_of_ble_eq_true rfl⟩) (g_preV g_bl0 hK hPc hDc hS hE hFc g_to0 (q0 := 0) (ci := 4) rfl rfl) rfl rfl hl.1 rfl (lv_room (Nat.le_of_ble_eq_true rfl)) dX4_exitPart_16 ⟨Nat.le_of_ble_eq_true rfl, Nat.le_of_ble_eq_true rfl⟩) (fun u9 H locs hw9 hP' hD' hS => ?_)
    clear hPc hDc hFc
    have hP : va_P (dC, dI) vwCl (b_m cB cC cI cJ cZ oA rA u_18.2 ++ b_w cB cC cI cJ cZ oA rA u_18.2 ++ b_s cB cC cI cJ cZ oA rA u_18.2 ++ b_c cB cC cI cJ cZ oA rA u_18.2 ++ b_t cB cC cI cJ cZ oA rA u_18.2 ++ b_d cB cC cI cJ cZ oA rA u_18.2) H := hP'
    clear hP' hD'
    exact Jj_4  u_18.2 hF_19 _ _ hP hS ls (lv_sub hl [0, 1] rfl)
theorem dX4_inPart_0 : decode cX4_inPart 0 = .ok (.aload_n 0, 1) := by decide +kernel
theorem dX4_inPart_1 : decode cX4_inPart 1 = .ok (.iload_n 1, 1) := by decide +kernel
theorem dX4_inPart_2 : decode cX4_inPart 2 = .ok (.invokevirtual 221, 3) := by decide +kernel
theorem dX4_inPart_5 : decode cX4_inPart 5 = .ok (.istore_n 2, 1) := by decide +kernel
theorem dX4_inPart_6 : decode cX4_inPart 6 = .ok (.aload_n 0, 1) := by decide +kernel
theorem dX4_inPart_7 : decode cX4_inPart 7 = .ok (.getfield 32, 3) := by decide +kernel
theorem dX4_inPart_10 : decode cX4_inPart 10 = .ok (.iload_n 1, 1) := by decide +kernel
theorem dX4_inPart_11 : decode cX4_inPart 11 = .ok (.invokevirtual 116, 3) := by decide +kernel
theorem dX4_inPart_14 : decode cX4_inPart 14 = .ok (.sipush 228, 3) := by decide +kernel
theorem dX4_inPart_17 : decode cX4_inPart 17 = .ok (.if_icmp .ne 7, 3) := by decide +kernel
theorem dX4_inPart_20 : decode cX4_inPart 20 = .ok (.iconst 1, 1) := by decide +kernel
theorem dX4_inPart_21 : decode cX4_inPart 21 = .ok (.goto 4, 3) := by decide +kernel
theorem dX4_inPart_24 : decode cX4_inPart 24 = .ok (.iconst 0, 1) := by decide +kernel
theorem dX4_inPart_25 : decode cX4_inPart 25 = .ok (.istore_n 3, 1) := by decide +kernel
theorem dX4_inPart_26 : decode cX4_inPart 26 = .ok (.iload_n 3, 1) := by decide +kernel
theorem dX4_inPart_27 : decode cX4_inPart 27 = .ok (.ifCond .ne 19, 3) := by decide +kernel
theorem dX4_inPart_30 : decode cX4_inPart 30 = .ok (.iload_n 2, 1) := by decide +kernel
theorem dX4_inPart_31 : decode cX4_inPart 31 = .ok (.iconst 1, 1) := by decide +kernel
theorem dX4_inPart_32 : decode cX4_inPart 32 = .ok (.if_icmp .eq 14, 3) := by decide +kernel
theorem dX4_inPart_35 : decode cX4_inPart 35 = .ok (.iload_n 2, 1) := by decide +kernel
theorem dX4_inPart_36 : decode cX4_inPart 36 = .ok (.iconst 2, 1) := by decide +kernel
theorem dX4_inPart_37 : decode cX4_inPart 37 = .ok (.if_icmp .eq 9, 3) := by decide +kernel
theorem dX4_inPart_40 : decode cX4_inPart 40 = .ok (.aload_n 0, 1) := by decide +kernel
theorem dX4_inPart_41 : decode cX4_inPart 41 = .ok (.iconst 3, 1) := by decide +kernel
theorem dX4_inPart_42 : decode cX4_inPart 42 = .ok (.iload_n 1, 1) := by decide +kernel
theorem dX4_inPart_43 : decode cX4_inPart 43 = .ok (.invokevirtual 84, 3) := by decide +kernel
theorem dX4_inPart_46 : decode cX4_inPart 46 = .ok (.aload_n 0, 1) := by decide +kernel
theorem dX4_inPart_47 : decode cX4_inPart 47 = .ok (.getfield 36, 3) := by decide +kernel
theorem dX4_inPart_50 : decode cX4_inPart 50 = .ok (.getfield 227, 3) := by decide +kernel
theorem dX4_inPart_53 : decode cX4_inPart 53 = .ok (.aload_n 0, 1) := by decide +kernel
theorem dX4_inPart_54 : decode cX4_inPart 54 = .ok (.getfield 190, 3) := by decide +kernel
theorem dX4_inPart_57 : decode cX4_inPart 57 = .ok (.iload_n 3, 1) := by decide +kernel
theorem dX4_inPart_58 : decode cX4_inPart 58 = .ok (.ifCond .eq 7, 3) := by decide +kernel
theorem dX4_inPart_61 : decode cX4_inPart 61 = .ok (.iconst 1, 1) := by decide +kernel
theorem dX4_inPart_62 : decode cX4_inPart 62 = .ok (.goto 8, 3) := by decide +kernel
theorem dX4_inPart_65 : decode cX4_inPart 65 = .ok (.aload_n 0, 1) := by decide +kernel
theorem dX4_inPart_66 : decode cX4_inPart 66 = .ok (.iload_n 1, 1) := by decide +kernel
theorem dX4_inPart_67 : decode cX4_inPart 67 = .ok (.invokevirtual 193, 3) := by decide +kernel
theorem dX4_inPart_70 : decode cX4_inPart 70 = .ok (.invokestatic 112, 3) := by decide +kernel
theorem dX4_inPart_73 : decode cX4_inPart 73 = .ok (.return_, 1) := by decide +kernel
def F_X4_inPart (p0 : Int32) (Γ : HS) : HR :=
  (F_X4_sortOf p0 Γ).bind fun u_1 =>
  (F_X10_kindOf p0 u_1.2).bind fun u_3 =>
  bnd (mrg (fun j => j == 1) u_1.2 u_3.2) fun σ_5 =>
  bnd (fun (t_7 : Int32) (σ_8 : HS) => (
    bnd (fun  (σ_12 : HS) => (
      bnd (fun (t_16 : Int32) (σ_17 : HS) => (
        bnd (cA' σ_17 4 4 (g_put 121 ((σ_17 4).2.1 4) ((σ_12 3).1 13) t_16)) fun σ_21 =>
        some (0, σ_21)
      ) : Int32 → HS → HR) fun j_18 =>
      if t_7 = 0 then (
        (F_X4_numberOf p0 σ_12).bind fun u_25 =>
        j_18 u_25.1 u_25.2
      ) else (
        j_18 1 σ_12
      )
    ) : HS → HR) fun j_13 =>
    if t_7 = 0 then (
      if u_1.1 = 1 then (
        j_13  σ_8
      ) else (
        if u_1.1 = 2 then (
          j_13  σ_8
        ) else (
          (F_X4_fail 3 p0 σ_8).bind fun u_36 =>
          j_13  u_36.2
        )
      )
    ) else (
      j_13  σ_8
    )
  ) : Int32 → HS → HR) fun j_9 =>
  if u_3.1 = 228 then (
    j_9 1 σ_5
  ) else (
    j_9 0 σ_5
  )
set_option maxHeartbeats 4000000 in
set_option maxRecDepth 100000 in
theorem k_X4_inPart (l : Launch) (dC : Nat → ClassId) (dI : Nat → Nat → Nat) (cB cC cI cJ cZ cP : ClassId) (oA : Nat → Nat) (rA : Nat → Nat → Nat) (sz : Nat)  (p0 : Int32) (Γ : HS) (res : Int32 × HS) (hF : F_X4_inPart p0 Γ = some res) : Met l yX4_inPart (g_ws yX4_inPart cX4_inPart 4 none) ({ frames := 5, cells := 0, slots := 0, locals := 124 }) (va_Pc [.ref (oA 3), .int p0] (g_B (dC, dI) [(cB, .byte), (cC, .char), (cI, .int), (cJ, .long), (cZ, .boolean), (cP, .object "StoryHouse$Play")] sz (b_m cB cC cI cJ cZ oA rA Γ ++ b_w cB cC cI cJ cZ oA rA Γ ++ b_s cB cC cI cJ cZ oA rA Γ ++ b_c cB cC cI cJ cZ oA rA Γ ++ b_t cB cC cI cJ cZ oA rA Γ ++ b_d cB cC cI cJ cZ oA rA Γ) g_0)) (va_Qv (fun (_ : Unit) => True) (g_Bo (dC, dI) (va_A (b_m cB cC cI cJ cZ oA rA Γ ++ b_w cB cC cI cJ cZ oA rA Γ ++ b_s cB cC cI cJ cZ oA rA Γ ++ b_c cB cC cI cJ cZ oA rA Γ ++ b_t cB cC cI cJ cZ oA rA Γ ++ b_d cB cC cI cJ cZ oA rA Γ) sz) (fun (_ : Unit) => (b_m cB cC cI cJ cZ oA rA res.2 ++ b_w cB cC cI cJ cZ oA rA res.2 ++ b_s cB cC cI cJ cZ oA rA res.2 ++ b_c cB cC cI cJ cZ oA rA res.2 ++ b_t cB cC cI cJ cZ oA rA res.2 ++ b_d cB cC cI cJ cZ oA rA res.2))) (va_A (b_m cB cC cI cJ cZ oA rA Γ ++ b_w cB cC cI cJ cZ oA rA Γ ++ b_s cB cC cI cJ cZ oA rA Γ ++ b_c cB cC cI cJ cZ oA rA Γ ++ b_t cB cC cI cJ cZ oA rA Γ ++ b_d cB cC cI cJ cZ oA rA Γ) sz)) 0 0 (va_A (b_m cB cC cI cJ cZ oA rA Γ ++ b_w cB cC cI cJ cZ oA rA Γ ++ b_s cB cC cI cJ cZ oA rA Γ ++ b_c cB cC cI cJ cZ oA rA Γ ++ b_t cB cC cI cJ cZ oA rA Γ ++ b_d cB cC cI cJ cZ oA rA Γ) sz) := by
  refine Met.ofW (cc := cX4_inPart) (maxL := 4) (ret := none) (by decide) rfl ?_
  intro p e s m args below meth c s₁ B hml hv
  obtain ⟨rfl, hsz, hP, hK, hD0, hE, hX⟩ := hv
  have hx := B.exec
  have hb := B.bytes
  have hr := B.returns
  have hts0 := atoms_spec (ws := g_ws yX4_inPart cX4_inPart 4 none) B.pre
  have hts : ∀ w ∈ lw_good, w.before ([.ref (oA 3), .int p0] : List Value).toArray s = true := fun w z => hts0 w (List.mem_cons_of_mem _ z)
  have hown : s.vm.findClass RX4 = some m.cls := findClass_of_methodNamed B.named
  have hlocks := B.notSynchronized
  subst hsz
  have hD1 := hD0.self (sz := s.heap.size)
  generalize hAe : va_A (b_m cB cC cI cJ cZ oA rA Γ ++ b_w cB cC cI cJ cZ oA rA Γ ++ b_s cB cC cI cJ cZ oA rA Γ ++ b_c cB cC cI cJ cZ oA rA Γ ++ b_t cB cC cI cJ cZ oA rA Γ ++ b_d cB cC cI cJ cZ oA rA Γ) s.heap.size = A at hD1 hE hX ⊢
  have hA : ∀ q : Nat, s.heap.size ≤ q → A q := fun q z => by rw [← hAe]; exact Or.inr z
  have hDD : ∀ Γ : HS, va_D A (b_m cB cC cI cJ cZ oA rA Γ ++ b_w cB cC cI cJ cZ oA rA Γ ++ b_s cB cC cI cJ cZ oA rA Γ ++ b_c cB cC cI cJ cZ oA rA Γ ++ b_t cB cC cI cJ cZ oA rA Γ ++ b_d cB cC cI cJ cZ oA rA Γ) := fun Γ9 => va_D_fst (ws := (b_m cB cC cI cJ cZ oA rA Γ ++ b_w cB cC cI cJ cZ oA rA Γ ++ b_s cB cC cI cJ cZ oA rA Γ ++ b_c cB cC cI cJ cZ oA rA Γ ++ b_t cB cC cI cJ cZ oA rA Γ ++ b_d cB cC cI cJ cZ oA rA Γ)) (ws' := (b_m cB cC cI cJ cZ oA rA Γ9 ++ b_w cB cC cI cJ cZ oA rA Γ9 ++ b_s cB cC cI cJ cZ oA rA Γ9 ++ b_c cB cC cI cJ cZ oA rA Γ9 ++ b_t cB cC cI cJ cZ oA rA Γ9 ++ b_d cB cC cI cJ cZ oA rA Γ9)) rfl hD1
  have hN := hE.1
  have hS : va_S A s.heap s.heap [] := va_S.rf
  have hl := lv_entry ([.ref (oA 3), .int p0]) (n := 4) (Nat.le_of_ble_eq_true rfl)
  rw [lg_entry_eq]
  generalize (lg_sl ([.ref (oA 3), .int p0]) ++ List.replicate (4 - (lg_sl ([.ref (oA 3), .int p0])).length) Slot.unset).toArray = ls at hl ⊢
  have hl : lv_has ls 4 [(0, .ref (oA 3)), (1, .int p0)] := hl
  unfold F_X4_inPart at hF
  refine lv_aload_n hx hb dX4_inPart_0 rfl (lv_at hl 0 rfl) ?_
  refine lv_iload_n hx hb dX4_inPart_1 rfl (lv_at hl 1 rfl) ?_
  obtain ⟨u_1, hu_1, hF_2⟩ := Option.bind_eq_some_iff.mp hF
  clear hF
  have hPc := bx_P (bs := [b_m cB cC cI cJ cZ oA rA Γ, b_w cB cC cI cJ cZ oA rA Γ, b_s cB cC cI cJ cZ oA rA Γ, b_c cB cC cI cJ cZ oA rA Γ, b_t cB cC cI cJ cZ oA rA Γ, b_d cB cC cI cJ cZ oA rA Γ]) (bs' := [b_m cB cC cI cJ cZ oA rA Γ, b_w cB cC cI cJ cZ oA rA Γ, b_s cB cC cI cJ cZ oA rA Γ, b_c cB cC cI cJ cZ oA rA Γ, b_t cB cC cI cJ cZ oA rA Γ, b_d cB cC cI cJ cZ oA rA Γ]) (ws' := (b_m cB cC cI cJ cZ oA rA Γ ++ b_w cB cC cI cJ cZ oA rA Γ ++ b_s cB cC cI cJ cZ oA rA Γ ++ b_c cB cC cI cJ cZ oA rA Γ ++ b_t cB cC cI cJ cZ oA rA Γ ++ b_d cB cC cI cJ cZ oA rA Γ)) hP fl_6 fl_6 [0, 1, 2, 3, 4, 5] rfl
  have hDc := bx_D (bs := [b_m cB cC cI cJ cZ oA rA Γ, b_w cB cC cI cJ cZ oA rA Γ, b_s cB cC cI cJ cZ oA rA Γ, b_c cB cC cI cJ cZ oA rA Γ, b_t cB cC cI cJ cZ oA rA Γ, b_d cB cC cI cJ cZ oA rA Γ]) (bs' := [b_m cB cC cI cJ cZ oA rA Γ, b_w cB cC cI cJ cZ oA rA Γ, b_s cB cC cI cJ cZ oA rA Γ, b_c cB cC cI cJ cZ oA rA Γ, b_t cB cC cI cJ cZ oA rA Γ, b_d cB cC cI cJ cZ oA rA Γ]) (ws' := (b_m cB cC cI cJ cZ oA rA Γ ++ b_w cB cC cI cJ cZ oA rA Γ ++ b_s cB cC cI cJ cZ oA rA Γ ++ b_c cB cC cI cJ cZ oA rA Γ ++ b_t cB cC cI cJ cZ oA rA Γ ++ b_d cB cC cI cJ cZ oA rA Γ)) (hDD Γ) fl_6 fl_6 [0, 1, 2, 3, 4, 5] (by decide +kernel) rfl
  have hFc := bx_F (bs := [b_m cB cC cI cJ cZ oA rA Γ, b_w cB cC cI cJ cZ oA rA Γ, b_s cB cC cI cJ cZ oA rA Γ, b_c cB cC cI cJ cZ oA rA Γ, b_t cB cC cI cJ cZ oA rA Γ, b_d cB cC cI cJ cZ oA rA Γ]) (bs' := [b_m cB cC cI cJ cZ oA rA Γ, b_w cB cC cI cJ cZ oA rA Γ, b_s cB cC cI cJ cZ oA rA Γ, b_c cB cC cI cJ cZ oA rA Γ, b_t cB cC cI cJ cZ oA rA Γ, b_d cB cC cI cJ cZ oA rA Γ]) (wc := (b_m cB cC cI cJ cZ oA rA Γ ++ b_w cB cC cI cJ cZ oA rA Γ ++ b_s cB cC cI cJ cZ oA rA Γ ++ b_c cB cC cI cJ cZ oA rA Γ ++ b_t cB cC cI cJ cZ oA rA Γ ++ b_d cB cC cI cJ cZ oA rA Γ)) (hDD Γ) hS hA fl_6 fl_6 [0, 1, 2, 3, 4, 5] rfl
  refine g_ofi (wc := (b_m cB cC cI cJ cZ oA rA Γ ++ b_w cB cC cI cJ cZ oA rA Γ ++ b_s cB cC cI cJ cZ oA rA Γ ++ b_c cB cC cI cJ cZ oA rA Γ ++ b_t cB cC cI cJ cZ oA rA Γ ++ b_d cB cC cI cJ cZ oA rA Γ)) (wr := ([] : va_W)) hP (hDD Γ) hS hFc (bx_ix [b_m cB cC cI cJ cZ oA rA Γ, b_w cB cC cI cJ cZ oA rA Γ, b_s cB cC cI cJ cZ oA rA Γ, b_c cB cC cI cJ cZ oA rA Γ, b_t cB cC cI cJ cZ oA rA Γ, b_d cB cC cI cJ cZ oA rA Γ] [0, 1, 2, 3, 4, 5]) (bx_ix [b_m cB cC cI cJ cZ oA rA Γ, b_w cB cC cI cJ cZ oA rA Γ, b_s cB cC cI cJ cZ oA rA Γ, b_c cB cC cI cJ cZ oA rA Γ, b_t cB cC cI cJ cZ oA rA Γ, b_d cB cC cI cJ cZ oA rA Γ] []) (bx_C (bs := [b_m cB cC cI cJ cZ oA rA Γ, b_w cB cC cI cJ cZ oA rA Γ, b_s cB cC cI cJ cZ oA rA Γ, b_c cB cC cI cJ cZ oA rA Γ, b_t cB cC cI cJ cZ oA rA Γ, b_d cB cC cI cJ cZ oA rA Γ]) (bs' := [b_m cB cC cI cJ cZ oA rA Γ, b_w cB cC cI cJ cZ oA rA Γ, b_s cB cC cI cJ cZ oA rA Γ, b_c cB cC cI cJ cZ oA rA Γ, b_t cB cC cI cJ cZ oA rA Γ, b_d cB cC cI cJ cZ oA rA Γ]) (is := [0, 1, 2, 3, 4, 5]) fl_6 fl_6 rfl) (bx_C (bs := [b_m cB cC cI cJ cZ oA rA Γ, b_w cB cC cI cJ cZ oA rA Γ, b_s cB cC cI cJ cZ oA rA Γ, b_c cB cC cI cJ cZ oA rA Γ, b_t cB cC cI cJ cZ oA rA Γ, b_d cB cC cI cJ cZ oA rA Γ]) (bs' := []) (is := []) fl_6 fl_0 rfl) (bx_n (by decide +kernel)) (bx_d (by decide +kernel)) (va_runV (As := [.int p0]) (rest := []) ⟨hx, hb, hml, hown, hts⟩ (k_X4_sortOf l dC dI cB cC cI cJ cZ cP oA rA s.heap.size  p0 Γ _ hu_1) (cwV 1 hts (g_gV wq_766 wq_767 wq_2050 wq_4 wq_768) rfl rfl rfl (by decide +kernel) ⟨Nat.le_of_ble_eq_true rfl, Nat.le_of_ble_eq_true rfl⟩) (g_preV g_bl0 hK hPc hDc hS hE hFc g_to0 (q0 := 0) (ci := 4) rfl rfl) rfl rfl hl.1 rfl (lv_room (Nat.le_of_ble_eq_true rfl)) dX4_inPart_2 ⟨Nat.le_of_ble_eq_true rfl, Nat.le_of_ble_eq_true rfl⟩) (fun r9 u9 H locs hw9 hP' hD' hS => ?_)
  clear hPc hDc hFc
  subst hw9
  have hP : va_P (dC, dI) vwCl (b_m cB cC cI cJ cZ oA rA u_1.2 ++ b_w cB cC cI cJ cZ oA rA u_1.2 ++ b_s cB cC cI cJ cZ oA rA u_1.2 ++ b_c cB cC cI cJ cZ oA rA u_1.2 ++ b_t cB cC cI cJ cZ oA rA u_1.2 ++ b_d cB cC cI cJ cZ oA rA u_1.2) H := hP'
  clear hP' hD'
  refine lv_istore_n (lv' := [(2, .int u_1.1), (0, .ref (oA 3)), (1, .int p0)]) hx hb dX4_inPart_5 rfl hl (by decide) rfl (fun ls hl => ?_)
  refine lv_aload_n hx hb dX4_inPart_6 rfl (lv_at hl 1 rfl) ?_
  refine va_get (D := (dC, dI)) (ci := 4) (v := .ref (oA 1)) (C := RX4) (T := TX4) (N := 18) hx hb hts ii_X4 hown hK hP 0 rfl rfl 0 (by decide) (hts (.fieldLink RX4 32 "StoryHouse$Meanings" "words" "LStoryHouse$Words;") wq_86) (fun _ h9 => h9) rfl dX4_inPart_7 ?_
  refine lv_iload_n hx hb dX4_inPart_10 rfl (lv_at hl 2 rfl) ?_
  obtain ⟨u_3, hu_3, hF_4⟩ := Option.bind_eq_some_iff.mp hF_2
  clear hF_2
  have hPc := bx_P (bs := [b_m cB cC cI cJ cZ oA rA u_1.2, b_w cB cC cI cJ cZ oA rA u_1.2, b_s cB cC cI cJ cZ oA rA u_1.2, b_c cB cC cI cJ cZ oA rA u_1.2, b_t cB cC cI cJ cZ oA rA u_1.2, b_d cB cC cI cJ cZ oA rA u_1.2]) (bs' := [b_w cB cC cI cJ cZ oA rA u_1.2]) (ws' := (b_w cB cC cI cJ cZ oA rA u_1.2)) hP fl_6 fl_1 [1] rfl
  have hDc := bx_D (bs := [b_m cB cC cI cJ cZ oA rA u_1.2, b_w cB cC cI cJ cZ oA rA u_1.2, b_s cB cC cI cJ cZ oA rA u_1.2, b_c cB cC cI cJ cZ oA rA u_1.2, b_t cB cC cI cJ cZ oA rA u_1.2, b_d cB cC cI cJ cZ oA rA u_1.2]) (bs' := [b_w cB cC cI cJ cZ oA rA u_1.2]) (ws' := (b_w cB cC cI cJ cZ oA rA u_1.2)) (hDD u_1.2) fl_6 fl_1 [1] (by decide +kernel) rfl
  have hFc := bx_F (bs := [b_m cB cC cI cJ cZ oA rA u_1.2, b_w cB cC cI cJ cZ oA rA u_1.2, b_s cB cC cI cJ cZ oA rA u_1.2, b_c cB cC cI cJ cZ oA rA u_1.2, b_t cB cC cI cJ cZ oA rA u_1.2, b_d cB cC cI cJ cZ oA rA u_1.2]) (bs' := [b_w cB cC cI cJ cZ oA rA u_1.2]) (wc := (b_w cB cC cI cJ cZ oA rA u_1.2)) (hDD u_1.2) hS hA fl_6 fl_1 [1] rfl
  refine g_ofi (wc := (b_w cB cC cI cJ cZ oA rA u_1.2)) (wr := (b_m cB cC cI cJ cZ oA rA u_1.2 ++ b_s cB cC cI cJ cZ oA rA u_1.2 ++ b_c cB cC cI cJ cZ oA rA u_1.2 ++ b_t cB cC cI cJ cZ oA rA u_1.2 ++ b_d cB cC cI cJ cZ oA rA u_1.2)) hP (hDD u_1.2) hS hFc (bx_ix [b_m cB cC cI cJ cZ oA rA u_1.2, b_w cB cC cI cJ cZ oA rA u_1.2, b_s cB cC cI cJ cZ oA rA u_1.2, b_c cB cC cI cJ cZ oA rA u_1.2, b_t cB cC cI cJ cZ oA rA u_1.2, b_d cB cC cI cJ cZ oA rA u_1.2] [1]) (bx_ix [b_m cB cC cI cJ cZ oA rA u_1.2, b_w cB cC cI cJ cZ oA rA u_1.2, b_s cB cC cI cJ cZ oA rA u_1.2, b_c cB cC cI cJ cZ oA rA u_1.2, b_t cB cC cI cJ cZ oA rA u_1.2, b_d cB cC cI cJ cZ oA rA u_1.2] [0, 2, 3, 4, 5]) (bx_C (bs := [b_m cB cC cI cJ cZ oA rA u_1.2, b_w cB cC cI cJ cZ oA rA u_1.2, b_s cB cC cI cJ cZ oA rA u_1.2, b_c cB cC cI cJ cZ oA rA u_1.2, b_t cB cC cI cJ cZ oA rA u_1.2, b_d cB cC cI cJ cZ oA rA u_1.2]) (bs' := [b_w cB cC cI cJ cZ oA rA u_1.2]) (is := [1]) fl_6 fl_1 rfl) (bx_C (bs := [b_m cB cC cI cJ cZ oA rA u_1.2, b_w cB cC cI cJ cZ oA rA u_1.2, b_s cB cC cI cJ cZ oA rA u_1.2, b_c cB cC cI cJ cZ oA rA u_1.2, b_t cB cC cI cJ cZ oA rA u_1.2, b_d cB cC cI cJ cZ oA rA u_1.2]) (bs' := [b_m cB cC cI cJ cZ oA rA u_1.2, b_s cB cC cI cJ cZ oA rA u_1.2, b_c cB cC cI cJ cZ oA rA u_1.2, b_t cB cC cI cJ cZ oA rA u_1.2, b_d cB cC cI cJ cZ oA rA u_1.2]) (is := [0, 2, 3, 4, 5]) fl_6 fl_5 rfl) (bx_n (by decide +kernel)) (bx_d (by decide +kernel)) (va_runV (As := [.int p0]) (rest := []) ⟨hx, hb, hml, hown, hts⟩ (k_X10_kindOf l dC dI cB cC cI cJ cZ cP oA rA H.size  p0 u_1.2 _ hu_3) (cwV 1 hts (g_gV wq_714 wq_543 wq_544 wq_2 wq_545) rfl rfl rfl (by decide +kernel) ⟨Nat.le_of_ble_eq_true rfl, Nat.le_of_ble_eq_true rfl⟩) (g_preV g_bl0 hK hPc hDc hS hE hFc g_to0 (q0 := 0) (ci := 10) rfl rfl) rfl rfl hl.1 rfl (lv_room (Nat.le_of_ble_eq_true rfl)) dX4_inPart_11 ⟨Nat.le_of_ble_eq_true rfl, Nat.le_of_ble_eq_true rfl⟩) (fun r9 u9 H locs hw9 hP' hD' hS => ?_)
  clear hPc hDc hFc
  subst hw9
  obtain ⟨σ_5, eσ_5, hF_6⟩ := bnd_e hF_4
  clear hF_4
  have hP : va_P (dC, dI) vwCl (b_m cB cC cI cJ cZ oA rA σ_5 ++ b_w cB cC cI cJ cZ oA rA σ_5 ++ b_s cB cC cI cJ cZ oA rA σ_5 ++ b_c cB cC cI cJ cZ oA rA σ_5 ++ b_t cB cC cI cJ cZ oA rA σ_5 ++ b_d cB cC cI cJ cZ oA rA σ_5) H := by rw [eσ_5]; exact bx_P (bs := [b_m cB cC cI cJ cZ oA rA u_1.2, b_s cB cC cI cJ cZ oA rA u_1.2, b_c cB cC cI cJ cZ oA rA u_1.2, b_t cB cC cI cJ cZ oA rA u_1.2, b_d cB cC cI cJ cZ oA rA u_1.2] ++ [b_w cB cC cI cJ cZ oA rA u_3.2]) (bs' := [b_m cB cC cI cJ cZ oA rA (mrg (fun j => j == 1) u_1.2 u_3.2), b_w cB cC cI cJ cZ oA rA (mrg (fun j => j == 1) u_1.2 u_3.2), b_s cB cC cI cJ cZ oA rA (mrg (fun j => j == 1) u_1.2 u_3.2), b_c cB cC cI cJ cZ oA rA (mrg (fun j => j == 1) u_1.2 u_3.2), b_t cB cC cI cJ cZ oA rA (mrg (fun j => j == 1) u_1.2 u_3.2), b_d cB cC cI cJ cZ oA rA (mrg (fun j => j == 1) u_1.2 u_3.2)]) hP' (fl_a fl_5 fl_1) fl_6 [0, 5, 1, 2, 3, 4] rfl
  clear hP' hD'
  refine lv_sipush (v := 228) hx hb dX4_inPart_14 (by decide +kernel) ?_
  obtain ⟨j_9, ej_9, hF_10⟩ := bnd_e hF_6
  clear hF_6
  have Jj_9 : ∀ (t_7 : Int32) (σ_8 : HS), j_9 t_7 σ_8 = some res → ∀ (H : Heap) (locs : List Loc), va_P (dC, dI) vwCl (b_m cB cC cI cJ cZ oA rA σ_8 ++ b_w cB cC cI cJ cZ oA rA σ_8 ++ b_s cB cC cI cJ cZ oA rA σ_8 ++ b_c cB cC cI cJ cZ oA rA σ_8 ++ b_t cB cC cI cJ cZ oA rA σ_8 ++ b_d cB cC cI cJ cZ oA rA σ_8) H → va_S A s.heap H locs → ∀ ls : Array Slot, lv_has ls 4 [(0, .ref (oA 3)), (1, .int p0), (2, .int u_1.1)] → W p l e (headSpec (g_ws yX4_inPart cX4_inPart 4 none) { frames := 5, cells := 0, slots := 0, locals := 124 }).room s m ([.ref (oA 3), .int p0] : List Value).toArray below meth c H locs 0 0 (MQ below (va_Qv (fun (_ : Unit) => True) (g_Bo (dC, dI) A (fun (_ : Unit) => (b_m cB cC cI cJ cZ oA rA res.2 ++ b_w cB cC cI cJ cZ oA rA res.2 ++ b_s cB cC cI cJ cZ oA rA res.2 ++ b_c cB cC cI cJ cZ oA rA res.2 ++ b_t cB cC cI cJ cZ oA rA res.2 ++ b_d cB cC cI cJ cZ oA rA res.2))) A) ([.ref (oA 3), .int p0] : List Value).toArray s 0 0 A) (F0 m 25 ls [.int t_7]) := by
    intro t_7 σ_8 hF0 H locs hP hS ls hl
    subst ej_9
    have hF_11 := hF0
    clear hF0
    refine lv_istore_n (lv' := [(3, .int t_7), (0, .ref (oA 3)), (1, .int p0), (2, .int u_1.1)]) hx hb dX4_inPart_25 rfl hl (by decide) rfl (fun ls hl => ?_)
    refine lv_iload_n hx hb dX4_inPart_26 rfl (lv_at hl 0 rfl) ?_
    obtain ⟨j_13, ej_13, hF_14⟩ := bnd_e hF_11
    clear hF_11
    have Jj_13 : ∀  (σ_12 : HS), j_13  σ_12 = some res → ∀ (H : Heap) (locs : List Loc), va_P (dC, dI) vwCl (b_m cB cC cI cJ cZ oA rA σ_12 ++ b_w cB cC cI cJ cZ oA rA σ_12 ++ b_s cB cC cI cJ cZ oA rA σ_12 ++ b_c cB cC cI cJ cZ oA rA σ_12 ++ b_t cB cC cI cJ cZ oA rA σ_12 ++ b_d cB cC cI cJ cZ oA rA σ_12) H → va_S A s.heap H locs → ∀ ls : Array Slot, lv_has ls 4 [(0, .ref (oA 3)), (1, .int p0), (3, .int t_7)] → W p l e (headSpec (g_ws yX4_inPart cX4_inPart 4 none) { frames := 5, cells := 0, slots := 0, locals := 124 }).room s m ([.ref (oA 3), .int p0] : List Value).toArray below meth c H locs 0 0 (MQ below (va_Qv (fun (_ : Unit) => True) (g_Bo (dC, dI) A (fun (_ : Unit) => (b_m cB cC cI cJ cZ oA rA res.2 ++ b_w cB cC cI cJ cZ oA rA res.2 ++ b_s cB cC cI cJ cZ oA rA res.2 ++ b_c cB cC cI cJ cZ oA rA res.2 ++ b_t cB cC cI cJ cZ oA rA res.2 ++ b_d cB cC cI cJ cZ oA rA res.2))) A) ([.ref (oA 3), .int p0] : List Value).toArray s 0 0 A) (F0 m 46 ls []) := by
      intro  σ_12 hF0 H locs hP hS ls hl
      subst ej_13
      have hF_15 := hF0
      clear hF0
      refine lv_aload_n hx hb dX4_inPart_46 rfl (lv_at hl 0 rfl) ?_
      refine va_get (D := (dC, dI)) (ci := 4) (v := .ref (oA 4)) (C := RX4) (T := TX4) (N := 18) hx hb hts ii_X4 hown hK hP 0 rfl rfl 1 (by decide) (hts (.fieldLink RX4 36 "StoryHouse$Meanings" "story" "LStoryHouse$Story;") wq_87) (fun _ h9 => h9) rfl dX4_inPart_47 ?_
      refine va_get (D := (dC, dI)) (ci := 7) (v := .ref (rA 4 4)) (C := RX7) (T := TX7) (N := 19) hx hb hts ii_X7 hown hK hP 16 rfl rfl 4 (by decide) (hts (.fieldLink RX4 227 "StoryHouse$Story" "starts" "[I") wq_164) (fun _ h9 => h9) rfl dX4_inPart_50 ?_
      refine lv_aload_n hx hb dX4_inPart_53 rfl (lv_at hl 0 rfl) ?_
      refine va_get (D := (dC, dI)) (ci := 4) (v := .int ((σ_12 3).1 13)) (C := RX4) (T := TX4) (N := 18) hx hb hts ii_X4 hown hK hP 0 rfl rfl 13 (by decide) (hts (.fieldLink RX4 190 "StoryHouse$Meanings" "object" "I") wq_99) (fun _ h9 => h9) rfl dX4_inPart_54 ?_
      refine lv_iload_n hx hb dX4_inPart_57 rfl (lv_at hl 2 rfl) ?_
      obtain ⟨j_18, ej_18, hF_19⟩ := bnd_e hF_15
      clear hF_15
      have Jj_18 : ∀ (t_16 : Int32) (σ_17 : HS), j_18 t_16 σ_17 = some res → ∀ (H : Heap) (locs : List Loc), va_P (dC, dI) vwCl (b_m cB cC cI cJ cZ oA rA σ_17 ++ b_w cB cC cI cJ cZ oA rA σ_17 ++ b_s cB cC cI cJ cZ oA rA σ_17 ++ b_c cB cC cI cJ cZ oA rA σ_17 ++ b_t cB cC cI cJ cZ oA rA σ_17 ++ b_d cB cC cI cJ cZ oA rA σ_17) H → va_S A s.heap H locs → ∀ ls : Array Slot, lv_has ls 4 [] → W p l e (headSpec (g_ws yX4_inPart cX4_inPart 4 none) { frames := 5, cells := 0, slots := 0, locals := 124 }).room s m ([.ref (oA 3), .int p0] : List Value).toArray below meth c H locs 0 0 (MQ below (va_Qv (fun (_ : Unit) => True) (g_Bo (dC, dI) A (fun (_ : Unit) => (b_m cB cC cI cJ cZ oA rA res.2 ++ b_w cB cC cI cJ cZ oA rA res.2 ++ b_s cB cC cI cJ cZ oA rA res.2 ++ b_c cB cC cI cJ cZ oA rA res.2 ++ b_t cB cC cI cJ cZ oA rA res.2 ++ b_d cB cC cI cJ cZ oA rA res.2))) A) ([.ref (oA 3), .int p0] : List Value).toArray s 0 0 A) (F0 m 70 ls [.int t_16, .int ((σ_12 3).1 13), .ref (rA 4 4)]) := by
        intro t_16 σ_17 hF0 H locs hP hS ls hl
        subst ej_18
        have hF_20 := hF0
        clear hF0
        have hq9 : ((b_m cB cC cI cJ cZ oA rA σ_17 ++ b_w cB cC cI cJ cZ oA rA σ_17 ++ b_s cB cC cI cJ cZ oA rA σ_17 ++ b_c cB cC cI cJ cZ oA rA σ_17 ++ b_t cB cC cI cJ cZ oA rA σ_17 ++ b_d cB cC cI cJ cZ oA rA σ_17))[21]? = some (rA 4 4, .inl (cI, 121, .inl ((σ_17 4).2.1 4))) := rfl
        have hPc := hP.sub (ws' := [(rA 4 4, .inl (cI, 121, .inl ((σ_17 4).2.1 4)))]) [21] (pk_fm (er_C hq9))
        have hDc := (hDD σ_17).sub (ws' := [(rA 4 4, .inl (cI, 121, .inl ((σ_17 4).2.1 4)))]) [21] (by decide +kernel) (er_C hq9)
        have hFc := va_free (wc := [(rA 4 4, .inl (cI, 121, .inl ((σ_17 4).2.1 4)))]) (hDD σ_17) hS hA [21] (er_C hq9)
        refine g_ofv (wc := [(rA 4 4, .inl (cI, 121, .inl ((σ_17 4).2.1 4)))]) (wr := (((b_m cB cC cI cJ cZ oA rA σ_17 ++ b_w cB cC cI cJ cZ oA rA σ_17 ++ b_s cB cC cI cJ cZ oA rA σ_17 ++ b_c cB cC cI cJ cZ oA rA σ_17 ++ b_t cB cC cI cJ cZ oA rA σ_17 ++ b_d cB cC cI cJ cZ oA rA σ_17)).eraseIdx 21)) hP (hDD σ_17) hS hFc [21] ((List.range ((b_m cB cC cI cJ cZ oA rA σ_17 ++ b_w cB cC cI cJ cZ oA rA σ_17 ++ b_s cB cC cI cJ cZ oA rA σ_17 ++ b_c cB cC cI cJ cZ oA rA σ_17 ++ b_t cB cC cI cJ cZ oA rA σ_17 ++ b_d cB cC cI cJ cZ oA rA σ_17)).length).eraseIdx 21) (er_C hq9) er_R er_n er_d (va_runSN (As := [.ref (rA 4 4), .int ((σ_12 3).1 13), .int t_16]) (rest := []) ⟨hx, hb, hml, hown, hts⟩ (c_X11_put l dC dI cB cC cI cJ cZ cP H.size (rA 4 4) ((σ_12 3).1 13) t_16 121 ((σ_17 4).2.1 4) (by decide)) ⟨va_cnB 3 hts (g_gA wq_412) rfl rfl rfl (nw_23 hN) (hts (.initialized RX11) wq_1) (by decide +kernel) ⟨Nat.le_of_ble_eq_true rfl, Nat.le_of_ble_eq_true rfl⟩, (hts (.static yX11_put) wq_411), trivial⟩ (g_preS g_bl0 hK hPc hDc hS hE hFc g_to0) rfl rfl hl.1 rfl (lv_room (Nat.le_of_ble_eq_true rfl)) dX4_inPart_70 ⟨Nat.le_of_ble_eq_true rfl, Nat.le_of_ble_eq_true rfl⟩) (fun g9 H locs hw9 hP' hD' hS => ?_)
        clear hPc hDc hFc hD'
        obtain ⟨σ_21, eσ_21, hF_22⟩ := bnd_e hF_20
        clear hF_20
        subst hw9
        have hP : va_P (dC, dI) vwCl (b_m cB cC cI cJ cZ oA rA σ_21 ++ b_w cB cC cI cJ cZ oA rA σ_21 ++ b_s cB cC cI cJ cZ oA rA σ_21 ++ b_c cB cC cI cJ cZ oA rA σ_21 ++ b_t cB cC cI cJ cZ oA rA σ_21 ++ b_d cB cC cI cJ cZ oA rA σ_21) H := by rw [eσ_21]; exact cs_mwsctd_s_4 ▸ er_P hP' (er_lt hq9)
        clear hP' hq9
        have h9 := Option.some.inj hF_22
        subst h9
        exact W.vret hx hb hr (fun t ht hW => ⟨⟨(), rfl, trivial, m_end ht hP, hDD _⟩, hS.F ht⟩) hS.2.2 dX4_inPart_73
      refine lv_if_eq (tgt := 65) hx hb dX4_inPart_58 (by decide) (fun c_23 => ?_) (fun c_23 => ?_)
      · have hF_24 := ipos c_23 hF_19
        clear hF_19
        refine lv_aload_n hx hb dX4_inPart_65 rfl (lv_at hl 0 rfl) ?_
        refine lv_iload_n hx hb dX4_inPart_66 rfl (lv_at hl 1 rfl) ?_
        obtain ⟨u_25, hu_25, hF_26⟩ := Option.bind_eq_some_iff.mp hF_24
        clear hF_24
        have hPc := bx_P (bs := [b_m cB cC cI cJ cZ oA rA σ_12, b_w cB cC cI cJ cZ oA rA σ_12, b_s cB cC cI cJ cZ oA rA σ_12, b_c cB cC cI cJ cZ oA rA σ_12, b_t cB cC cI cJ cZ oA rA σ_12, b_d cB cC cI cJ cZ oA rA σ_12]) (bs' := [b_m cB cC cI cJ cZ oA rA σ_12, b_w cB cC cI cJ cZ oA rA σ_12, b_s cB cC cI cJ cZ oA rA σ_12, b_c cB cC cI cJ cZ oA rA σ_12, b_t cB cC cI cJ cZ oA rA σ_12, b_d cB cC cI cJ cZ oA rA σ_12]) (ws' := (b_m cB cC cI cJ cZ oA rA σ_12 ++ b_w cB cC cI cJ cZ oA rA σ_12 ++ b_s cB cC cI cJ cZ oA rA σ_12 ++ b_c cB cC cI cJ cZ oA rA σ_12 ++ b_t cB cC cI cJ cZ oA rA σ_12 ++ b_d cB cC cI cJ cZ oA rA σ_12)) hP fl_6 fl_6 [0, 1, 2, 3, 4, 5] rfl
        have hDc := bx_D (bs := [b_m cB cC cI cJ cZ oA rA σ_12, b_w cB cC cI cJ cZ oA rA σ_12, b_s cB cC cI cJ cZ oA rA σ_12, b_c cB cC cI cJ cZ oA rA σ_12, b_t cB cC cI cJ cZ oA rA σ_12, b_d cB cC cI cJ cZ oA rA σ_12]) (bs' := [b_m cB cC cI cJ cZ oA rA σ_12, b_w cB cC cI cJ cZ oA rA σ_12, b_s cB cC cI cJ cZ oA rA σ_12, b_c cB cC cI cJ cZ oA rA σ_12, b_t cB cC cI cJ cZ oA rA σ_12, b_d cB cC cI cJ cZ oA rA σ_12]) (ws' := (b_m cB cC cI cJ cZ oA rA σ_12 ++ b_w cB cC cI cJ cZ oA rA σ_12 ++ b_s cB cC cI cJ cZ oA rA σ_12 ++ b_c cB cC cI cJ cZ oA rA σ_12 ++ b_t cB cC cI cJ cZ oA rA σ_12 ++ b_d cB cC cI cJ cZ oA rA σ_12)) (hDD σ_12) fl_6 fl_6 [0, 1, 2, 3, 4, 5] (by decide +kernel) rfl
        have hFc := bx_F (bs := [b_m cB cC cI cJ cZ oA rA σ_12, b_w cB cC cI cJ cZ oA rA σ_12, b_s cB cC cI cJ cZ oA rA σ_12, b_c cB cC cI cJ cZ oA rA σ_12, b_t cB cC cI cJ cZ oA rA σ_12, b_d cB cC cI cJ cZ oA rA σ_12]) (bs' := [b_m cB cC cI cJ cZ oA rA σ_12, b_w cB cC cI cJ cZ oA rA σ_12, b_s cB cC cI cJ cZ oA rA σ_12, b_c cB cC cI cJ cZ oA rA σ_12, b_t cB cC cI cJ cZ oA rA σ_12, b_d cB cC cI cJ cZ oA rA σ_12]) (wc := (b_m cB cC cI cJ cZ oA rA σ_12 ++ b_w cB cC cI cJ cZ oA rA σ_12 ++ b_s cB cC cI cJ cZ oA rA σ_12 ++ b_c cB cC cI cJ cZ oA rA σ_12 ++ b_t cB cC cI cJ cZ oA rA σ_12 ++ b_d cB cC cI cJ cZ oA rA σ_12)) (hDD σ_12) hS hA fl_6 fl_6 [0, 1, 2, 3, 4, 5] rfl
        refine g_ofi (wc := (b_m cB cC cI cJ cZ oA rA σ_12 ++ b_w cB cC cI cJ cZ oA rA σ_12 ++ b_s cB cC cI cJ cZ oA rA σ_12 ++ b_c cB cC cI cJ cZ oA rA σ_12 ++ b_t cB cC cI cJ cZ oA rA σ_12 ++ b_d cB cC cI cJ cZ oA rA σ_12)) (wr := ([] : va_W)) hP (hDD σ_12) hS hFc (bx_ix [b_m cB cC cI cJ cZ oA rA σ_12, b_w cB cC cI cJ cZ oA rA σ_12, b_s cB cC cI cJ cZ oA rA σ_12, b_c cB cC cI cJ cZ oA rA σ_12, b_t cB cC cI cJ cZ oA rA σ_12, b_d cB cC cI cJ cZ oA rA σ_12] [0, 1, 2, 3, 4, 5]) (bx_ix [b_m cB cC cI cJ cZ oA rA σ_12, b_w cB cC cI cJ cZ oA rA σ_12, b_s cB cC cI cJ cZ oA rA σ_12, b_c cB cC cI cJ cZ oA rA σ_12, b_t cB cC cI cJ cZ oA rA σ_12, b_d cB cC cI cJ cZ oA rA σ_12] []) (bx_C (bs := [b_m cB cC cI cJ cZ oA rA σ_12, b_w cB cC cI cJ cZ oA rA σ_12, b_s cB cC cI cJ cZ oA rA σ_12, b_c cB cC cI cJ cZ oA rA σ_12, b_t cB cC cI cJ cZ oA rA σ_12, b_d cB cC cI cJ cZ oA rA σ_12]) (bs' := [b_m cB cC cI cJ cZ oA rA σ_12, b_w cB cC cI cJ cZ oA rA σ_12, b_s cB cC cI cJ cZ oA rA σ_12, b_c cB cC cI cJ cZ oA rA σ_12, b_t cB cC cI cJ cZ oA rA σ_12, b_d cB cC cI cJ cZ oA rA σ_12]) (is := [0, 1, 2, 3, 4, 5]) fl_6 fl_6 rfl) (bx_C (bs := [b_m cB cC cI cJ cZ oA rA σ_12, b_w cB cC cI cJ cZ oA rA σ_12, b_s cB cC cI cJ cZ oA rA σ_12, b_c cB cC cI cJ cZ oA rA σ_12, b_t cB cC cI cJ cZ oA rA σ_12, b_d cB cC cI cJ cZ oA rA σ_12]) (bs' := []) (is := []) fl_6 fl_0 rfl) (bx_n (by decide +kernel)) (bx_d (by decide +kernel)) (va_runV (As := [.int p0]) (rest := [.int ((σ_12 3).1 13), .ref (rA 4 4)]) ⟨hx, hb, hml, hown, hts⟩ (k_X4_numberOf l dC dI cB cC cI cJ cZ cP oA rA H.size  p0 σ_12 _ hu_25) (cwV 1 hts (g_gV wq_769 wq_770 wq_2051 wq_4 wq_771) rfl rfl rfl (by decide +kernel) ⟨Nat.le_of_ble_eq_true rfl, Nat.le_of_ble_eq_true rfl⟩) (g_preV g_bl0 hK hPc hDc hS hE hFc g_to0 (q0 := 0) (ci := 4) rfl rfl) rfl rfl hl.1 rfl (lv_room (Nat.le_of_ble_eq_true rfl)) dX4_inPart_67 ⟨Nat.le_of_ble_eq_true rfl, Nat.le_of_ble_eq_true rfl⟩) (fun r9 u9 H locs hw9 hP' hD' hS => ?_)
        clear hPc hDc hFc
        subst hw9
        have hP : va_P (dC, dI) vwCl (b_m cB cC cI cJ cZ oA rA u_25.2 ++ b_w cB cC cI cJ cZ oA rA u_25.2 ++ b_s cB cC cI cJ cZ oA rA u_25.2 ++ b_c cB cC cI cJ cZ oA rA u_25.2 ++ b_t cB cC cI cJ cZ oA rA u_25.2 ++ b_d cB cC cI cJ cZ oA rA u_25.2) H := hP'
        clear hP' hD'
        exact Jj_18 u_25.1 u_25.2 hF_26 _ _ hP hS ls (lv_sub hl [] rfl)
      · have hF_27 := ineg c_23 hF_19
        clear hF_19
        refine lv_iconst (v := 1) hx hb dX4_inPart_61 (by decide +kernel) ?_
        refine lv_goto (tgt := 70) hx hb dX4_inPart_62 (by decide) ?_
        exact Jj_18 1 σ_12 hF_27 _ _ hP hS ls (lv_sub hl [] rfl)
    refine lv_if_ne (tgt := 46) hx hb dX4_inPart_27 (by decide) (fun c_28 => ?_) (fun c_28 => ?_)
    · have hF_38 := ineg c_28 hF_14
      clear hF_14
      exact Jj_13  σ_8 hF_38 _ _ hP hS ls (lv_sub hl [1, 2, 0] rfl)
    · have hF_29 := ipos c_28 hF_14
      clear hF_14
      refine lv_iload_n hx hb dX4_inPart_30 rfl (lv_at hl 3 rfl) ?_
      refine lv_iconst (v := 1) hx hb dX4_inPart_31 (by decide +kernel) ?_
      refine lv_icmp_eq (tgt := 46) hx hb dX4_inPart_32 (by decide) (fun c_30 => ?_) (fun c_30 => ?_)
      · have hF_31 := ipos c_30 hF_29
        clear hF_29
        exact Jj_13  σ_8 hF_31 _ _ hP hS ls (lv_sub hl [1, 2, 0] rfl)
      · have hF_32 := ineg c_30 hF_29
        clear hF_29
        refine lv_iload_n hx hb dX4_inPart_35 rfl (lv_at hl 3 rfl) ?_
        refine lv_iconst (v := 2) hx hb dX4_inPart_36 (by decide +kernel) ?_
        refine lv_icmp_eq (tgt := 46) hx hb dX4_inPart_37 (by decide) (fun c_33 => ?_) (fun c_33 => ?_)
        · have hF_34 := ipos c_33 hF_32
          clear hF_32
          exact Jj_13  σ_8 hF_34 _ _ hP hS ls (lv_sub hl [1, 2, 0] rfl)
        · have hF_35 := ineg c_33 hF_32
          clear hF_32
          refine lv_aload_n hx hb dX4_inPart_40 rfl (lv_at hl 1 rfl) ?_
          refine lv_iconst (v := 3) hx hb dX4_inPart_41 (by decide +kernel) ?_
          refine lv_iload_n hx hb dX4_inPart_42 rfl (lv_at hl 2 rfl) ?_
          obtain ⟨u_36, hu_36, hF_37⟩ := Option.bind_eq_some_iff.mp hF_35
          clear hF_35
          have hPc := bx_P (bs := [b_m cB cC cI cJ cZ oA rA σ_8, b_w cB cC cI cJ cZ oA rA σ_8, b_s cB cC cI cJ cZ oA rA σ_8, b_c cB cC cI cJ cZ oA rA σ_8, b_t cB cC cI cJ cZ oA rA σ_8, b_d cB cC cI cJ cZ oA rA σ_8]) (bs' := [b_m cB cC cI cJ cZ oA rA σ_8, b_w cB cC cI cJ cZ oA rA σ_8, b_s cB cC cI cJ cZ oA rA σ_8, b_c cB cC cI cJ cZ oA rA σ_8, b_t cB cC cI cJ cZ oA rA σ_8, b_d cB cC cI cJ cZ oA rA σ_8]) (ws' := (b_m cB cC cI cJ cZ oA rA σ_8 ++ b_w cB cC cI cJ cZ oA rA σ_8 ++ b_s cB cC cI cJ cZ oA rA σ_8 ++ b_c cB cC cI cJ cZ oA rA σ_8 ++ b_t cB cC cI cJ cZ oA rA σ_8 ++ b_d cB cC cI cJ cZ oA rA σ_8)) hP fl_6 fl_6 [0, 1, 2, 3, 4, 5] rfl
          have hDc := bx_D (bs := [b_m cB cC cI cJ cZ oA rA σ_8, b_w cB cC cI cJ cZ oA rA σ_8, b_s cB cC cI cJ cZ oA rA σ_8, b_c cB cC cI cJ cZ oA rA σ_8, b_t cB cC cI cJ cZ oA rA σ_8, b_d cB cC cI cJ cZ oA rA σ_8]) (bs' := [b_m cB cC cI cJ cZ oA rA σ_8, b_w cB cC cI cJ cZ oA rA σ_8, b_s cB cC cI cJ cZ oA rA σ_8, b_c cB cC cI cJ cZ oA rA σ_8, b_t cB cC cI cJ cZ oA rA σ_8, b_d cB cC cI cJ cZ oA rA σ_8]) (ws' := (b_m cB cC cI cJ cZ oA rA σ_8 ++ b_w cB cC cI cJ cZ oA rA σ_8 ++ b_s cB cC cI cJ cZ oA rA σ_8 ++ b_c cB cC cI cJ cZ oA rA σ_8 ++ b_t cB cC cI cJ cZ oA rA σ_8 ++ b_d cB cC cI cJ cZ oA rA σ_8)) (hDD σ_8) fl_6 fl_6 [0, 1, 2, 3, 4, 5] (by decide +kernel) rfl
          have hFc := bx_F (bs := [b_m cB cC cI cJ cZ oA rA σ_8, b_w cB cC cI cJ cZ oA rA σ_8, b_s cB cC cI cJ cZ oA rA σ_8, b_c cB cC cI cJ cZ oA rA σ_8, b_t cB cC cI cJ cZ oA rA σ_8, b_d cB cC cI cJ cZ oA rA σ_8]) (bs' := [b_m cB cC cI cJ cZ oA rA σ_8, b_w cB cC cI cJ cZ oA rA σ_8, b_s cB cC cI cJ cZ oA rA σ_8, b_c cB cC cI cJ cZ oA rA σ_8, b_t cB cC cI cJ cZ oA rA σ_8, b_d cB cC cI cJ cZ oA rA σ_8]) (wc := (b_m cB cC cI cJ cZ oA rA σ_8 ++ b_w cB cC cI cJ cZ oA rA σ_8 ++ b_s cB cC cI cJ cZ oA rA σ_8 ++ b_c cB cC cI cJ cZ oA rA σ_8 ++ b_t cB cC cI cJ cZ oA rA σ_8 ++ b_d cB cC cI cJ cZ oA rA σ_8)) (hDD σ_8) hS hA fl_6 fl_6 [0, 1, 2, 3, 4, 5] rfl
          refine g_ofv (wc := (b_m cB cC cI cJ cZ oA rA σ_8 ++ b_w cB cC cI cJ cZ oA rA σ_8 ++ b_s cB cC cI cJ cZ oA rA σ_8 ++ b_c cB cC cI cJ cZ oA rA σ_8 ++ b_t cB cC cI cJ cZ oA rA σ_8 ++ b_d cB cC cI cJ cZ oA rA σ_8)) (wr := ([] : va_W)) hP (hDD σ_8) hS hFc (bx_ix [b_m cB cC cI cJ cZ oA rA σ_8, b_w cB cC cI cJ cZ oA rA σ_8, b_s cB cC cI cJ cZ oA rA σ_8, b_c cB cC cI cJ cZ oA rA σ_8, b_t cB cC cI cJ cZ oA rA σ_8, b_d cB cC cI cJ cZ oA rA σ_8] [0, 1, 2, 3, 4, 5]) (bx_ix [b_m cB cC cI cJ cZ oA rA σ_8, b_w cB cC cI cJ cZ oA rA σ_8, b_s cB cC cI cJ cZ oA rA σ_8, b_c cB cC cI cJ cZ oA rA σ_8, b_t cB cC cI cJ cZ oA rA σ_8, b_d cB cC cI cJ cZ oA rA σ_8] []) (bx_C (bs := [b_m cB cC cI cJ cZ oA rA σ_8, b_w cB cC cI cJ cZ oA rA σ_8, b_s cB cC cI cJ cZ oA rA σ_8, b_c cB cC cI cJ cZ oA rA σ_8, b_t cB cC cI cJ cZ oA rA σ_8, b_d cB cC cI cJ cZ oA rA σ_8]) (bs' := [b_m cB cC cI cJ cZ oA rA σ_8, b_w cB cC cI cJ cZ oA rA σ_8, b_s cB cC cI cJ cZ oA rA σ_8, b_c cB cC cI cJ cZ oA rA σ_8, b_t cB cC cI cJ cZ oA rA σ_8, b_d cB cC cI cJ cZ oA rA σ_8]) (is := [0, 1, 2, 3, 4, 5]) fl_6 fl_6 rfl) (bx_C (bs := [b_m cB cC cI cJ cZ oA rA σ_8, b_w cB cC cI cJ cZ oA rA σ_8, b_s cB cC cI cJ cZ oA rA σ_8, b_c cB cC cI cJ cZ oA rA σ_8, b_t cB cC cI cJ cZ oA rA σ_8, b_d cB cC cI cJ cZ oA rA σ_8]) (bs' := []) (is := []) fl_6 fl_0 rfl) (bx_n (by decide +kernel)) (bx_d (by decide +kernel)) (va_runV (As := [.int 3, .int p0]) (rest := []) ⟨hx, hb, hml, hown, hts⟩ (k_X4_fail l dC dI cB cC cI cJ cZ cP oA rA H.size  3 p0 σ_8 _ hu_36) (cwV 2 hts (g_gV wq_725 wq_726 wq_2037 wq_4 wq_727) rfl rfl rfl (by decide +kernel) ⟨Nat.le_of_ble_eq_true rfl, Nat.le_of_ble_eq_true rfl⟩) (g_preV g_bl0 hK hPc hDc hS hE hFc g_to0 (q0 := 0) (ci := 4) rfl rfl) rfl rfl hl.1 rfl (lv_room (Nat.le_of_ble_eq_true rfl)) dX4_inPart_43 ⟨Nat.le_of_ble_eq_true rfl, Nat.le_of_ble_eq_true rfl⟩) (fun u9 H locs hw9 hP' hD' hS => ?_)
          clear hPc hDc hFc
          have hP : va_P (dC, dI) vwCl (b_m cB cC cI cJ cZ oA rA u_36.2 ++ b_w cB cC cI cJ cZ oA rA u_36.2 ++ b_s cB cC cI cJ cZ oA rA u_36.2 ++ b_c cB cC cI cJ cZ oA rA u_36.2 ++ b_t cB cC cI cJ cZ oA rA u_36.2 ++ b_d cB cC cI cJ cZ oA rA u_36.2) H := hP'
          clear hP' hD'
          exact Jj_13  u_36.2 hF_37 _ _ hP hS ls (lv_sub hl [1, 2, 0] rfl)
  refine lv_icmp_ne (tgt := 24) hx hb dX4_inPart_17 (by decide) (fun c_39 => ?_) (fun c_39 => ?_)
  · have hF_41 := ineg c_39 hF_10
    clear hF_10
    refine lv_iconst (v := 0) hx hb dX4_inPart_24 (by decide +kernel) ?_
    exact Jj_9 0 σ_5 hF_41 _ _ hP hS ls (lv_sub hl [1, 2, 0] rfl)
  · have hF_40 := ipos c_39 hF_10
    clear hF_10
    refine lv_iconst (v := 1) hx hb dX4_inPart_20 (by decide +kernel) ?_
    refine lv_goto (tgt := 25) hx hb dX4_inPart_21 (by decide) ?_
    exact Jj_9 1 σ_5 hF_40 _ _ hP hS ls (lv_sub hl [1, 2, 0] rfl)
