/-! methods of the class: what each does is its function -/
theorem dX8_act_0 : decode cX8_act 0 = .ok (.aload_n 0, 1) := by decide +kernel
theorem dX8_act_1 : decode cX8_act 1 = .ok (.getfield 30, 3) := by decide +kernel
theorem dX8_act_4 : decode cX8_act 4 = .ok (.invokevirtual 213, 3) := by decide +kernel
theorem dX8_act_7 : decode cX8_act 7 = .ok (.aload_n 0, 1) := by decide +kernel
theorem dX8_act_8 : decode cX8_act 8 = .ok (.getfield 9, 3) := by decide +kernel
theorem dX8_act_11 : decode cX8_act 11 = .ok (.iconst 0, 1) := by decide +kernel
theorem dX8_act_12 : decode cX8_act 12 = .ok (.aload_n 0, 1) := by decide +kernel
theorem dX8_act_13 : decode cX8_act 13 = .ok (.getfield 22, 3) := by decide +kernel
theorem dX8_act_16 : decode cX8_act 16 = .ok (.getfield 64, 3) := by decide +kernel
theorem dX8_act_19 : decode cX8_act 19 = .ok (.iconst 0, 1) := by decide +kernel
theorem dX8_act_20 : decode cX8_act 20 = .ok (.aload_n 0, 1) := by decide +kernel
theorem dX8_act_21 : decode cX8_act 21 = .ok (.getfield 9, 3) := by decide +kernel
theorem dX8_act_24 : decode cX8_act 24 = .ok (.arraylength, 1) := by decide +kernel
theorem dX8_act_25 : decode cX8_act 25 = .ok (.invokestatic 218, 3) := by decide +kernel
theorem dX8_act_28 : decode cX8_act 28 = .ok (.aload_n 0, 1) := by decide +kernel
theorem dX8_act_29 : decode cX8_act 29 = .ok (.getfield 22, 3) := by decide +kernel
theorem dX8_act_32 : decode cX8_act 32 = .ok (.aload_n 0, 1) := by decide +kernel
theorem dX8_act_33 : decode cX8_act 33 = .ok (.getfield 80, 3) := by decide +kernel
theorem dX8_act_36 : decode cX8_act 36 = .ok (.putfield 59, 3) := by decide +kernel
theorem dX8_act_39 : decode cX8_act 39 = .ok (.iconst 1, 1) := by decide +kernel
theorem dX8_act_40 : decode cX8_act 40 = .ok (.istore_n 1, 1) := by decide +kernel
theorem dX8_act_41 : decode cX8_act 41 = .ok (.aload_n 0, 1) := by decide +kernel
theorem dX8_act_42 : decode cX8_act 42 = .ok (.getfield 120, 3) := by decide +kernel
theorem dX8_act_45 : decode cX8_act 45 = .ok (.ifCond .eq 84, 3) := by decide +kernel
theorem dX8_act_48 : decode cX8_act 48 = .ok (.iconst 0, 1) := by decide +kernel
theorem dX8_act_49 : decode cX8_act 49 = .ok (.istore_n 2, 1) := by decide +kernel
theorem dX8_act_50 : decode cX8_act 50 = .ok (.iload_n 2, 1) := by decide +kernel
theorem dX8_act_51 : decode cX8_act 51 = .ok (.aload_n 0, 1) := by decide +kernel
theorem dX8_act_52 : decode cX8_act 52 = .ok (.getfield 192, 3) := by decide +kernel
theorem dX8_act_55 : decode cX8_act 55 = .ok (.if_icmp .ge 71, 3) := by decide +kernel
theorem dX8_act_58 : decode cX8_act 58 = .ok (.iload_n 1, 1) := by decide +kernel
theorem dX8_act_59 : decode cX8_act 59 = .ok (.ifCond .eq 67, 3) := by decide +kernel
theorem dX8_act_62 : decode cX8_act 62 = .ok (.aload_n 0, 1) := by decide +kernel
theorem dX8_act_63 : decode cX8_act 63 = .ok (.aload_n 0, 1) := by decide +kernel
theorem dX8_act_64 : decode cX8_act 64 = .ok (.getfield 19, 3) := by decide +kernel
theorem dX8_act_67 : decode cX8_act 67 = .ok (.iload_n 2, 1) := by decide +kernel
theorem dX8_act_68 : decode cX8_act 68 = .ok (.invokestatic 70, 3) := by decide +kernel
theorem dX8_act_71 : decode cX8_act 71 = .ok (.putfield 114, 3) := by decide +kernel
theorem dX8_act_74 : decode cX8_act 74 = .ok (.aload_n 0, 1) := by decide +kernel
theorem dX8_act_75 : decode cX8_act 75 = .ok (.getfield 22, 3) := by decide +kernel
theorem dX8_act_78 : decode cX8_act 78 = .ok (.getfield 224, 3) := by decide +kernel
theorem dX8_act_81 : decode cX8_act 81 = .ok (.aload_n 0, 1) := by decide +kernel
theorem dX8_act_82 : decode cX8_act 82 = .ok (.getfield 114, 3) := by decide +kernel
theorem dX8_act_85 : decode cX8_act 85 = .ok (.invokestatic 70, 3) := by decide +kernel
theorem dX8_act_88 : decode cX8_act 88 = .ok (.aload_n 0, 1) := by decide +kernel
theorem dX8_act_89 : decode cX8_act 89 = .ok (.getfield 199, 3) := by decide +kernel
theorem dX8_act_92 : decode cX8_act 92 = .ok (.if_icmp .ne 28, 3) := by decide +kernel
theorem dX8_act_95 : decode cX8_act 95 = .ok (.aload_n 0, 1) := by decide +kernel
theorem dX8_act_96 : decode cX8_act 96 = .ok (.getfield 30, 3) := by decide +kernel
theorem dX8_act_99 : decode cX8_act 99 = .ok (.aload_n 0, 1) := by decide +kernel
theorem dX8_act_100 : decode cX8_act 100 = .ok (.getfield 114, 3) := by decide +kernel
theorem dX8_act_103 : decode cX8_act 103 = .ok (.invokevirtual 227, 3) := by decide +kernel
theorem dX8_act_106 : decode cX8_act 106 = .ok (.aload_n 0, 1) := by decide +kernel
theorem dX8_act_107 : decode cX8_act 107 = .ok (.getfield 26, 3) := by decide +kernel
theorem dX8_act_110 : decode cX8_act 110 = .ok (.ldc 231, 2) := by decide +kernel
theorem dX8_act_112 : decode cX8_act 112 = .ok (.invokevirtual 233, 3) := by decide +kernel
theorem dX8_act_115 : decode cX8_act 115 = .ok (.aload_n 0, 1) := by decide +kernel
theorem dX8_act_116 : decode cX8_act 116 = .ok (.invokevirtual 236, 3) := by decide +kernel
theorem dX8_act_119 : decode cX8_act 119 = .ok (.istore_n 1, 1) := by decide +kernel
theorem dX8_act_120 : decode cX8_act 120 = .ok (.iinc 2 1, 3) := by decide +kernel
theorem dX8_act_123 : decode cX8_act 123 = .ok (.goto (-73), 3) := by decide +kernel
theorem dX8_act_126 : decode cX8_act 126 = .ok (.goto 8, 3) := by decide +kernel
theorem dX8_act_129 : decode cX8_act 129 = .ok (.aload_n 0, 1) := by decide +kernel
theorem dX8_act_130 : decode cX8_act 130 = .ok (.invokevirtual 236, 3) := by decide +kernel
theorem dX8_act_133 : decode cX8_act 133 = .ok (.istore_n 1, 1) := by decide +kernel
theorem dX8_act_134 : decode cX8_act 134 = .ok (.iload_n 1, 1) := by decide +kernel
theorem dX8_act_135 : decode cX8_act 135 = .ok (.ifCond .eq 7, 3) := by decide +kernel
theorem dX8_act_138 : decode cX8_act 138 = .ok (.aload_n 0, 1) := by decide +kernel
theorem dX8_act_139 : decode cX8_act 139 = .ok (.invokevirtual 239, 3) := by decide +kernel
theorem dX8_act_142 : decode cX8_act 142 = .ok (.return_, 1) := by decide +kernel
def F_X8_act  (Γ : HS) : HR :=
  (F_X3_ready Γ).bind fun u_1 =>
  bnd (mrg (fun j => j == 10 || j == 9 || j == 8 || j == 4 || j == 5 || j == 6 || j == 7) Γ u_1.2) fun σ_3 =>
  if 0 < 0 ∨ 0 < 0 ∨ 120 < 0 ∨ 120 < (0 : Int32).toNatClampNeg + (120 : Int32).toNatClampNeg ∨ 120 < (0 : Int32).toNatClampNeg + (120 : Int32).toNatClampNeg then none else
  bnd (cA' σ_3 9 6 (va_cpy ((σ_3 11).2.1 4) ((σ_3 9).2.1 6) (0 : Int32).toNatClampNeg (0 : Int32).toNatClampNeg (120 : Int32).toNatClampNeg)) fun σ_7 =>
  bnd (cI' σ_7 9 7 ((σ_7 11).1 5)) fun σ_9 =>
  bnd (fun (v1_11 : Int32) (σ_12 : HS) => (
    if v1_11 = 0 then (
      some (0, σ_12)
    ) else (
      (F_X8_passTime σ_12).bind fun u_19 =>
      some (0, u_19.2)
    )
  ) : Int32 → HS → HR) fun j_13 =>
  if ((σ_9 11).1 12) = 0 then (
    (F_X8_perform σ_9).bind fun u_23 =>
    j_13 u_23.1 u_23.2
  ) else (
    loopF (fun (again_27 : (Int32 × Int32 × HS) → HR) (s_26 : Int32 × Int32 × HS) => (
      bnd (fun  (σ_30 : HS) => (
        j_13 s_26.1 σ_30
      ) : HS → HR) fun j_31 =>
      if ((s_26.2.2 11).1 15) ≤ s_26.2.1 then (
        j_31  s_26.2.2
      ) else (
        if s_26.1 = 0 then (
          j_31  s_26.2.2
        ) else (
          bnd ((g_at 120 ((s_26.2.2 11).2.1 14) s_26.2.1)) fun (x_40 : Int32) =>
          bnd (cI' s_26.2.2 11 10 x_40) fun σ_42 =>
          bnd (((σ_42 11).1 10)) fun (x_44 : Int32) =>
          bnd ((g_at 121 ((σ_42 9).2.1 0) x_44)) fun (x_46 : Int32) =>
          bnd (fun (v1_48 : Int32) (σ_49 : HS) => (
            bnd (s_26.2.1 + 1) fun (x_53 : Int32) =>
            again_27 (v1_48, x_53, σ_49)
          ) : Int32 → HS → HR) fun j_50 =>
          if x_46 = ((σ_42 11).1 13) then (
            (F_X3_sayName ((σ_42 11).1 10) σ_42).bind fun u_57 =>
            bnd (mrg (fun j => j == 10 || j == 9 || j == 8 || j == 4 || j == 5 || j == 6 || j == 7) σ_42 u_57.2) fun σ_59 =>
            (F_X5_text ([58, 32] : List Int32) σ_59).bind fun u_62 =>
            bnd (mrg (fun j => j == 8) σ_59 u_62.2) fun σ_64 =>
            (F_X8_perform σ_64).bind fun u_66 =>
            j_50 u_66.1 u_66.2
          ) else (
            j_50 s_26.1 σ_42
          )
        )
      )
    )) FU (1, 0, σ_9)
  )
set_option maxHeartbeats 4000000 in
set_option maxRecDepth 100000 in
theorem k_X8_act (l : Launch) (dC : Nat → ClassId) (dI : Nat → Nat → Nat) (cB cC cI cJ cZ cP : ClassId) (oA : Nat → Nat) (rA : Nat → Nat → Nat) (sz : Nat)   (Γ : HS) (res : Int32 × HS) (hF : F_X8_act  Γ = some res) : Met l yX8_act (g_ws yX8_act cX8_act 3 none) ({ frames := 11, cells := 0, slots := 0, locals := 269 }) (va_Pc [.ref (oA 11)] (g_B (dC, dI) [(cB, .byte), (cC, .char), (cI, .int), (cJ, .long), (cZ, .boolean), (cP, .object "StoryHouse$Play")] sz (b_e cB cC cI cJ cZ oA rA Γ ++ b_k cB cC cI cJ cZ oA rA Γ ++ b_p cB cC cI cJ cZ oA rA Γ ++ b_o cB cC cI cJ cZ oA rA Γ ++ b_s cB cC cI cJ cZ oA rA Γ ++ b_c cB cC cI cJ cZ oA rA Γ ++ b_t cB cC cI cJ cZ oA rA Γ ++ b_d cB cC cI cJ cZ oA rA Γ) g_0)) (va_Qv (fun (_ : Unit) => True) (g_Bo (dC, dI) (va_A (b_e cB cC cI cJ cZ oA rA Γ ++ b_k cB cC cI cJ cZ oA rA Γ ++ b_p cB cC cI cJ cZ oA rA Γ ++ b_o cB cC cI cJ cZ oA rA Γ ++ b_s cB cC cI cJ cZ oA rA Γ ++ b_c cB cC cI cJ cZ oA rA Γ ++ b_t cB cC cI cJ cZ oA rA Γ ++ b_d cB cC cI cJ cZ oA rA Γ) sz) (fun (_ : Unit) => (b_e cB cC cI cJ cZ oA rA res.2 ++ b_k cB cC cI cJ cZ oA rA res.2 ++ b_p cB cC cI cJ cZ oA rA res.2 ++ b_o cB cC cI cJ cZ oA rA res.2 ++ b_s cB cC cI cJ cZ oA rA res.2 ++ b_c cB cC cI cJ cZ oA rA res.2 ++ b_t cB cC cI cJ cZ oA rA res.2 ++ b_d cB cC cI cJ cZ oA rA res.2))) (va_A (b_e cB cC cI cJ cZ oA rA Γ ++ b_k cB cC cI cJ cZ oA rA Γ ++ b_p cB cC cI cJ cZ oA rA Γ ++ b_o cB cC cI cJ cZ oA rA Γ ++ b_s cB cC cI cJ cZ oA rA Γ ++ b_c cB cC cI cJ cZ oA rA Γ ++ b_t cB cC cI cJ cZ oA rA Γ ++ b_d cB cC cI cJ cZ oA rA Γ) sz)) 0 0 (va_A (b_e cB cC cI cJ cZ oA rA Γ ++ b_k cB cC cI cJ cZ oA rA Γ ++ b_p cB cC cI cJ cZ oA rA Γ ++ b_o cB cC cI cJ cZ oA rA Γ ++ b_s cB cC cI cJ cZ oA rA Γ ++ b_c cB cC cI cJ cZ oA rA Γ ++ b_t cB cC cI cJ cZ oA rA Γ ++ b_d cB cC cI cJ cZ oA rA Γ) sz) := by
  refine Met.ofW (cc := cX8_act) (maxL := 3) (ret := none) (by decide) rfl ?_
  intro p e s m args below meth c s₁ B hml hv
  obtain ⟨rfl, hsz, hP, hK, hD0, hE, hX⟩ := hv
  have hx := B.exec
  have hb := B.bytes
  have hr := B.returns
  have hts0 := atoms_spec (ws := g_ws yX8_act cX8_act 3 none) B.pre
  have hts : ∀ w ∈ lw_good, w.before ([.ref (oA 11)] : List Value).toArray s = true := fun w z => hts0 w (List.mem_cons_of_mem _ z)
  have hown : s.vm.findClass RX8 = some m.cls := findClass_of_methodNamed B.named
  have hlocks := B.notSynchronized
  subst hsz
  have hD1 := hD0.self (sz := s.heap.size)
  generalize hAe : va_A (b_e cB cC cI cJ cZ oA rA Γ ++ b_k cB cC cI cJ cZ oA rA Γ ++ b_p cB cC cI cJ cZ oA rA Γ ++ b_o cB cC cI cJ cZ oA rA Γ ++ b_s cB cC cI cJ cZ oA rA Γ ++ b_c cB cC cI cJ cZ oA rA Γ ++ b_t cB cC cI cJ cZ oA rA Γ ++ b_d cB cC cI cJ cZ oA rA Γ) s.heap.size = A at hD1 hE hX ⊢
  have hA : ∀ q : Nat, s.heap.size ≤ q → A q := fun q z => by rw [← hAe]; exact Or.inr z
  have hDD : ∀ Γ : HS, va_D A (b_e cB cC cI cJ cZ oA rA Γ ++ b_k cB cC cI cJ cZ oA rA Γ ++ b_p cB cC cI cJ cZ oA rA Γ ++ b_o cB cC cI cJ cZ oA rA Γ ++ b_s cB cC cI cJ cZ oA rA Γ ++ b_c cB cC cI cJ cZ oA rA Γ ++ b_t cB cC cI cJ cZ oA rA Γ ++ b_d cB cC cI cJ cZ oA rA Γ) := fun Γ9 => va_D_fst (ws := (b_e cB cC cI cJ cZ oA rA Γ ++ b_k cB cC cI cJ cZ oA rA Γ ++ b_p cB cC cI cJ cZ oA rA Γ ++ b_o cB cC cI cJ cZ oA rA Γ ++ b_s cB cC cI cJ cZ oA rA Γ ++ b_c cB cC cI cJ cZ oA rA Γ ++ b_t cB cC cI cJ cZ oA rA Γ ++ b_d cB cC cI cJ cZ oA rA Γ)) (ws' := (b_e cB cC cI cJ cZ oA rA Γ9 ++ b_k cB cC cI cJ cZ oA rA Γ9 ++ b_p cB cC cI cJ cZ oA rA Γ9 ++ b_o cB cC cI cJ cZ oA rA Γ9 ++ b_s cB cC cI cJ cZ oA rA Γ9 ++ b_c cB cC cI cJ cZ oA rA Γ9 ++ b_t cB cC cI cJ cZ oA rA Γ9 ++ b_d cB cC cI cJ cZ oA rA Γ9)) rfl hD1
  have hN := hE.1
  have hS : va_S A s.heap s.heap [] := va_S.rf
  have hl := lv_entry ([.ref (oA 11)]) (n := 3) (Nat.le_of_ble_eq_true rfl)
  rw [lg_entry_eq]
  generalize (lg_sl ([.ref (oA 11)]) ++ List.replicate (3 - (lg_sl ([.ref (oA 11)])).length) Slot.unset).toArray = ls at hl ⊢
  have hl : lv_has ls 3 [(0, .ref (oA 11))] := hl
  unfold F_X8_act at hF
  refine lv_aload_n hx hb dX8_act_0 rfl (lv_at hl 0 rfl) ?_
  refine va_get (D := (dC, dI)) (ci := 8) (v := .ref (oA 10)) (C := RX8) (T := TX8) (N := 16) hx hb hts ii_X8 hown hK hP 0 rfl rfl 2 (by decide) (hts (.fieldLink RX8 30 "StoryHouse$Teller" "machine" "LStoryHouse$Machine;") wq_288) (fun _ h9 => h9) rfl dX8_act_1 ?_
  obtain ⟨u_1, hu_1, hF_2⟩ := Option.bind_eq_some_iff.mp hF
  clear hF
  have hPc := hP.sub (ws' := (b_k cB cC cI cJ cZ oA rA Γ ++ b_p cB cC cI cJ cZ oA rA Γ ++ b_o cB cC cI cJ cZ oA rA Γ ++ b_s cB cC cI cJ cZ oA rA Γ ++ b_c cB cC cI cJ cZ oA rA Γ ++ b_t cB cC cI cJ cZ oA rA Γ ++ b_d cB cC cI cJ cZ oA rA Γ)) [4, 5, 6, 7, 8, 9, 10, 11, 12, 13, 14, 15, 16, 17, 18, 19, 20, 21, 22, 23, 24, 25, 26, 27, 28, 29, 30, 31, 32, 33, 34, 35, 36, 37, 38, 39, 40, 41, 42, 43, 44, 45, 46, 47, 48, 49] rfl
  have hDc := (hDD Γ).sub (ws' := (b_k cB cC cI cJ cZ oA rA Γ ++ b_p cB cC cI cJ cZ oA rA Γ ++ b_o cB cC cI cJ cZ oA rA Γ ++ b_s cB cC cI cJ cZ oA rA Γ ++ b_c cB cC cI cJ cZ oA rA Γ ++ b_t cB cC cI cJ cZ oA rA Γ ++ b_d cB cC cI cJ cZ oA rA Γ)) [4, 5, 6, 7, 8, 9, 10, 11, 12, 13, 14, 15, 16, 17, 18, 19, 20, 21, 22, 23, 24, 25, 26, 27, 28, 29, 30, 31, 32, 33, 34, 35, 36, 37, 38, 39, 40, 41, 42, 43, 44, 45, 46, 47, 48, 49] (by decide +kernel) rfl
  have hFc := va_free (wc := (b_k cB cC cI cJ cZ oA rA Γ ++ b_p cB cC cI cJ cZ oA rA Γ ++ b_o cB cC cI cJ cZ oA rA Γ ++ b_s cB cC cI cJ cZ oA rA Γ ++ b_c cB cC cI cJ cZ oA rA Γ ++ b_t cB cC cI cJ cZ oA rA Γ ++ b_d cB cC cI cJ cZ oA rA Γ)) (hDD Γ) hS hA [4, 5, 6, 7, 8, 9, 10, 11, 12, 13, 14, 15, 16, 17, 18, 19, 20, 21, 22, 23, 24, 25, 26, 27, 28, 29, 30, 31, 32, 33, 34, 35, 36, 37, 38, 39, 40, 41, 42, 43, 44, 45, 46, 47, 48, 49] rfl
  refine g_ofv (wc := (b_k cB cC cI cJ cZ oA rA Γ ++ b_p cB cC cI cJ cZ oA rA Γ ++ b_o cB cC cI cJ cZ oA rA Γ ++ b_s cB cC cI cJ cZ oA rA Γ ++ b_c cB cC cI cJ cZ oA rA Γ ++ b_t cB cC cI cJ cZ oA rA Γ ++ b_d cB cC cI cJ cZ oA rA Γ)) (wr := (b_e cB cC cI cJ cZ oA rA Γ)) hP (hDD Γ) hS hFc [4, 5, 6, 7, 8, 9, 10, 11, 12, 13, 14, 15, 16, 17, 18, 19, 20, 21, 22, 23, 24, 25, 26, 27, 28, 29, 30, 31, 32, 33, 34, 35, 36, 37, 38, 39, 40, 41, 42, 43, 44, 45, 46, 47, 48, 49] [0, 1, 2, 3] rfl rfl (by decide +kernel) (by decide +kernel) (va_runV (As := []) (rest := []) ⟨hx, hb, hml, hown, hts⟩ (k_X3_ready l dC dI cB cC cI cJ cZ cP oA rA s.heap.size  Γ _ hu_1) (cwV 0 hts (g_gV wq_1113 wq_1114 wq_1115 wq_11 wq_1116) rfl rfl rfl (by decide +kernel) ⟨Nat.le_of_ble_eq_true rfl, Nat.le_of_ble_eq_true rfl⟩) (g_preV g_bl0 hK hPc hDc hS hE hFc g_to0 (q0 := 0) (ci := 3) rfl rfl) rfl rfl hl.1 rfl (lv_room (Nat.le_of_ble_eq_true rfl)) dX8_act_4 ⟨Nat.le_of_ble_eq_true rfl, Nat.le_of_ble_eq_true rfl⟩) (fun u9 H locs hw9 hP' hD' hS => ?_)
  clear hPc hDc hFc
  obtain ⟨σ_3, eσ_3, hF_4⟩ := bnd_e hF_2
  clear hF_2
  have hP : va_P (dC, dI) vwCl (b_e cB cC cI cJ cZ oA rA σ_3 ++ b_k cB cC cI cJ cZ oA rA σ_3 ++ b_p cB cC cI cJ cZ oA rA σ_3 ++ b_o cB cC cI cJ cZ oA rA σ_3 ++ b_s cB cC cI cJ cZ oA rA σ_3 ++ b_c cB cC cI cJ cZ oA rA σ_3 ++ b_t cB cC cI cJ cZ oA rA σ_3 ++ b_d cB cC cI cJ cZ oA rA σ_3) H := by rw [eσ_3]; exact hP'.sub [0, 1, 2, 3, 4, 5, 6, 7, 8, 9, 10, 11, 12, 13, 14, 15, 16, 17, 18, 19, 20, 21, 22, 23, 24, 25, 26, 27, 28, 29, 30, 31, 32, 33, 34, 35, 36, 37, 38, 39, 40, 41, 42, 43, 44, 45, 46, 47, 48, 49] rfl
  clear hP' hD'
  refine lv_aload_n hx hb dX8_act_7 rfl (lv_at hl 0 rfl) ?_
  refine va_get (D := (dC, dI)) (ci := 8) (v := .ref (rA 11 4)) (C := RX8) (T := TX8) (N := 16) hx hb hts ii_X8 hown hK hP 0 rfl rfl 4 (by decide) (hts (.fieldLink RX8 9 "StoryHouse$Teller" "line" "[B") wq_291) (fun _ h9 => h9) rfl dX8_act_8 ?_
  refine lv_iconst (v := 0) hx hb dX8_act_11 (by decide +kernel) ?_
  refine lv_aload_n hx hb dX8_act_12 rfl (lv_at hl 0 rfl) ?_
  refine va_get (D := (dC, dI)) (ci := 8) (v := .ref (oA 9)) (C := RX8) (T := TX8) (N := 16) hx hb hts ii_X8 hown hK hP 0 rfl rfl 0 (by decide) (hts (.fieldLink RX8 22 "StoryHouse$Teller" "play" "LStoryHouse$Play;") wq_286) (fun _ h9 => h9) rfl dX8_act_13 ?_
  refine va_get (D := (dC, dI)) (ci := 6) (v := .ref (rA 9 6)) (C := RX6) (T := TX6) (N := 12) hx hb hts ii_X6 hown hK hP 9 rfl rfl 6 (by decide) (hts (.fieldLink RX8 64 "StoryHouse$Play" "line" "[B") wq_237) (fun _ h9 => h9) rfl dX8_act_16 ?_
  refine lv_iconst (v := 0) hx hb dX8_act_19 (by decide +kernel) ?_
  refine lv_aload_n hx hb dX8_act_20 rfl (lv_at hl 0 rfl) ?_
  refine va_get (D := (dC, dI)) (ci := 8) (v := .ref (rA 11 4)) (C := RX8) (T := TX8) (N := 16) hx hb hts ii_X8 hown hK hP 0 rfl rfl 4 (by decide) (hts (.fieldLink RX8 9 "StoryHouse$Teller" "line" "[B") wq_291) (fun _ h9 => h9) rfl dX8_act_21 ?_
  refine va_alen (v := 120) hx hb hK hP 1 0 rfl rfl (by first | rfl | decide +kernel) dX8_act_24 ?_
  obtain ⟨g_5, hF_6⟩ := nif_e hF_4
  clear hF_4
  obtain ⟨σ_7, eσ_7, hF_8⟩ := bnd_e hF_6
  clear hF_6
  refine va_copyi (f := (nrB ((σ_3 11).2.1 4))) (g := (nrB ((σ_3 9).2.1 6))) hx hb (hml.trans hl.1.symm) hown (hts (.methodLink RX8 218 arraycopyName) wq_1117) (hts (.native arraycopyName) wq_338) (hts (.static arraycopyName) wq_337) (hts (.initialized RJ10) wq_20) hK hP (hDD _) hS 1 16 0 0 rfl rfl rfl rfl rfl (fun z => g_5 (Or.inl z)) (fun z => g_5 (Or.inr (Or.inl z))) (fun z => g_5 (Or.inr (Or.inr (Or.inl z)))) (Nat.not_lt.mp (fun z => g_5 (Or.inr (Or.inr (Or.inr (Or.inl z)))))) (Nat.not_lt.mp (fun z => g_5 (Or.inr (Or.inr (Or.inr (Or.inr z)))))) (fun i _ => nrB_fit _ _) (by decide +kernel) (by decide +kernel) dX8_act_25 (fun H locs hP' _ hS => ?_)
  rw [nrB_cpy] at hP'
  have hP : va_P (dC, dI) vwCl (b_e cB cC cI cJ cZ oA rA σ_7 ++ b_k cB cC cI cJ cZ oA rA σ_7 ++ b_p cB cC cI cJ cZ oA rA σ_7 ++ b_o cB cC cI cJ cZ oA rA σ_7 ++ b_s cB cC cI cJ cZ oA rA σ_7 ++ b_c cB cC cI cJ cZ oA rA σ_7 ++ b_t cB cC cI cJ cZ oA rA σ_7 ++ b_d cB cC cI cJ cZ oA rA σ_7) H := by rw [eσ_7]; exact cs_ekposctd_p_6 ▸ hP'
  clear hP'
  refine lv_aload_n hx hb dX8_act_28 rfl (lv_at hl 0 rfl) ?_
  refine va_get (D := (dC, dI)) (ci := 8) (v := .ref (oA 9)) (C := RX8) (T := TX8) (N := 16) hx hb hts ii_X8 hown hK hP 0 rfl rfl 0 (by decide) (hts (.fieldLink RX8 22 "StoryHouse$Teller" "play" "LStoryHouse$Play;") wq_286) (fun _ h9 => h9) rfl dX8_act_29 ?_
  refine lv_aload_n hx hb dX8_act_32 rfl (lv_at hl 0 rfl) ?_
  refine va_get (D := (dC, dI)) (ci := 8) (v := .int ((σ_7 11).1 5)) (C := RX8) (T := TX8) (N := 16) hx hb hts ii_X8 hown hK hP 0 rfl rfl 5 (by decide) (hts (.fieldLink RX8 80 "StoryHouse$Teller" "lineLength" "I") wq_292) (fun _ h9 => h9) rfl dX8_act_33 ?_
  obtain ⟨σ_9, eσ_9, hF_10⟩ := bnd_e hF_8
  clear hF_8
  refine va_put (D := (dC, dI)) (ci := 6) (v := .int ((σ_7 11).1 5)) (ty := .int) (C := RX6) (T := TX6) (N := 12) hx hb hts ii_X6 tyX6 tyX6_ok nmX6 hown hK hP (hDD _) hS 9 rfl rfl 7 (by decide) (hts (.fieldLink RX8 59 "StoryHouse$Play" "lineLength" "I") wq_238) (fun _ h9 => h9) rfl (by decide +kernel) rfl rfl (Nat.le_of_ble_eq_true rfl) dX8_act_36 (fun H locs hP' _ hS => ?_)
  have hP : va_P (dC, dI) vwCl (b_e cB cC cI cJ cZ oA rA σ_9 ++ b_k cB cC cI cJ cZ oA rA σ_9 ++ b_p cB cC cI cJ cZ oA rA σ_9 ++ b_o cB cC cI cJ cZ oA rA σ_9 ++ b_s cB cC cI cJ cZ oA rA σ_9 ++ b_c cB cC cI cJ cZ oA rA σ_9 ++ b_t cB cC cI cJ cZ oA rA σ_9 ++ b_d cB cC cI cJ cZ oA rA σ_9) H := by rw [eσ_9]; exact cs_ekposctd_p_7 ▸ hP'
  clear hP'
  refine lv_iconst (v := 1) hx hb dX8_act_39 (by decide +kernel) ?_
  refine lv_istore_n (lv' := [(1, .int 1), (0, .ref (oA 11))]) hx hb dX8_act_40 rfl hl (by decide) rfl (fun ls hl => ?_)
  refine lv_aload_n hx hb dX8_act_41 rfl (lv_at hl 1 rfl) ?_
  refine va_get (D := (dC, dI)) (ci := 8) (v := .int ((σ_9 11).1 12)) (C := RX8) (T := TX8) (N := 16) hx hb hts ii_X8 hown hK hP 0 rfl rfl 12 (by decide) (hts (.fieldLink RX8 120 "StoryHouse$Teller" "all" "Z") wq_299) (fun _ h9 => h9) rfl dX8_act_42 ?_
  obtain ⟨j_13, ej_13, hF_14⟩ := bnd_e hF_10
  clear hF_10
  have Jj_13 : ∀ (v1_11 : Int32) (σ_12 : HS), j_13 v1_11 σ_12 = some res → ∀ (H : Heap) (locs : List Loc), va_P (dC, dI) vwCl (b_e cB cC cI cJ cZ oA rA σ_12 ++ b_k cB cC cI cJ cZ oA rA σ_12 ++ b_p cB cC cI cJ cZ oA rA σ_12 ++ b_o cB cC cI cJ cZ oA rA σ_12 ++ b_s cB cC cI cJ cZ oA rA σ_12 ++ b_c cB cC cI cJ cZ oA rA σ_12 ++ b_t cB cC cI cJ cZ oA rA σ_12 ++ b_d cB cC cI cJ cZ oA rA σ_12) H → va_S A s.heap H locs → ∀ ls : Array Slot, lv_has ls 3 [(0, .ref (oA 11)), (1, .int v1_11)] → W p l e (headSpec (g_ws yX8_act cX8_act 3 none) { frames := 11, cells := 0, slots := 0, locals := 269 }).room s m ([.ref (oA 11)] : List Value).toArray below meth c H locs 0 0 (MQ below (va_Qv (fun (_ : Unit) => True) (g_Bo (dC, dI) A (fun (_ : Unit) => (b_e cB cC cI cJ cZ oA rA res.2 ++ b_k cB cC cI cJ cZ oA rA res.2 ++ b_p cB cC cI cJ cZ oA rA res.2 ++ b_o cB cC cI cJ cZ oA rA res.2 ++ b_s cB cC cI cJ cZ oA rA res.2 ++ b_c cB cC cI cJ cZ oA rA res.2 ++ b_t cB cC cI cJ cZ oA rA res.2 ++ b_d cB cC cI cJ cZ oA rA res.2))) A) ([.ref (oA 11)] : List Value).toArray s 0 0 A) (F0 m 134 ls []) := by
    intro v1_11 σ_12 hF0 H locs hP hS ls hl
    subst ej_13
    have hF_15 := hF0
    clear hF0
    refine lv_iload_n hx hb dX8_act_134 rfl (lv_at hl 1 rfl) ?_
    refine lv_if_eq (tgt := 142) hx hb dX8_act_135 (by decide) (fun c_16 => ?_) (fun c_16 => ?_)
    · have hF_17 := ipos c_16 hF_15
      clear hF_15
      have h9 := Option.some.inj hF_17
      subst h9
      exact W.vret hx hb hr (fun t ht hW => ⟨⟨(), rfl, trivial, m_end ht hP, hDD _⟩, hS.F ht⟩) hS.2.2 dX8_act_142
    · have hF_18 := ineg c_16 hF_15
      clear hF_15
      refine lv_aload_n hx hb dX8_act_138 rfl (lv_at hl 0 rfl) ?_
      obtain ⟨u_19, hu_19, hF_20⟩ := Option.bind_eq_some_iff.mp hF_18
      clear hF_18
      have hPc := hP.sub (ws' := (b_e cB cC cI cJ cZ oA rA σ_12 ++ b_k cB cC cI cJ cZ oA rA σ_12 ++ b_p cB cC cI cJ cZ oA rA σ_12 ++ b_o cB cC cI cJ cZ oA rA σ_12 ++ b_s cB cC cI cJ cZ oA rA σ_12 ++ b_c cB cC cI cJ cZ oA rA σ_12 ++ b_t cB cC cI cJ cZ oA rA σ_12 ++ b_d cB cC cI cJ cZ oA rA σ_12)) [0, 1, 2, 3, 4, 5, 6, 7, 8, 9, 10, 11, 12, 13, 14, 15, 16, 17, 18, 19, 20, 21, 22, 23, 24, 25, 26, 27, 28, 29, 30, 31, 32, 33, 34, 35, 36, 37, 38, 39, 40, 41, 42, 43, 44, 45, 46, 47, 48, 49] rfl
      have hDc := (hDD σ_12).sub (ws' := (b_e cB cC cI cJ cZ oA rA σ_12 ++ b_k cB cC cI cJ cZ oA rA σ_12 ++ b_p cB cC cI cJ cZ oA rA σ_12 ++ b_o cB cC cI cJ cZ oA rA σ_12 ++ b_s cB cC cI cJ cZ oA rA σ_12 ++ b_c cB cC cI cJ cZ oA rA σ_12 ++ b_t cB cC cI cJ cZ oA rA σ_12 ++ b_d cB cC cI cJ cZ oA rA σ_12)) [0, 1, 2, 3, 4, 5, 6, 7, 8, 9, 10, 11, 12, 13, 14, 15, 16, 17, 18, 19, 20, 21, 22, 23, 24, 25, 26, 27, 28, 29, 30, 31, 32, 33, 34, 35, 36, 37, 38, 39, 40, 41, 42, 43, 44, 45, 46, 47, 48, 49] (by decide +kernel) rfl
      have hFc := va_free (wc := (b_e cB cC cI cJ cZ oA rA σ_12 ++ b_k cB cC cI cJ cZ oA rA σ_12 ++ b_p cB cC cI cJ cZ oA rA σ_12 ++ b_o cB cC cI cJ cZ oA rA σ_12 ++ b_s cB cC cI cJ cZ oA rA σ_12 ++ b_c cB cC cI cJ cZ oA rA σ_12 ++ b_t cB cC cI cJ cZ oA rA σ_12 ++ b_d cB cC cI cJ cZ oA rA σ_12)) (hDD σ_12) hS hA [0, 1, 2, 3, 4, 5, 6, 7, 8, 9, 10, 11, 12, 13, 14, 15, 16, 17, 18, 19, 20, 21, 22, 23, 24, 25, 26, 27, 28, 29, 30, 31, 32, 33, 34, 35, 36, 37, 38, 39, 40, 41, 42, 43, 44, 45, 46, 47, 48, 49] rfl
      refine g_ofv (wc := (b_e cB cC cI cJ cZ oA rA σ_12 ++ b_k cB cC cI cJ cZ oA rA σ_12 ++ b_p cB cC cI cJ cZ oA rA σ_12 ++ b_o cB cC cI cJ cZ oA rA σ_12 ++ b_s cB cC cI cJ cZ oA rA σ_12 ++ b_c cB cC cI cJ cZ oA rA σ_12 ++ b_t cB cC cI cJ cZ oA rA σ_12 ++ b_d cB cC cI cJ cZ oA rA σ_12)) (wr := ([] : va_W)) hP (hDD σ_12) hS hFc [0, 1, 2, 3, 4, 5, 6, 7, 8, 9, 10, 11, 12, 13, 14, 15, 16, 17, 18, 19, 20, 21, 22, 23, 24, 25, 26, 27, 28, 29, 30, 31, 32, 33, 34, 35, 36, 37, 38, 39, 40, 41, 42, 43, 44, 45, 46, 47, 48, 49] [] rfl rfl (by decide +kernel) (by decide +kernel) (va_runV (As := []) (rest := []) ⟨hx, hb, hml, hown, hts⟩ (k_X8_passTime l dC dI cB cC cI cJ cZ cP oA rA H.size  σ_12 _ hu_19) (cwV 0 hts (g_gV wq_1255 wq_1256 wq_2110 wq_12 wq_1257) rfl rfl rfl (by decide +kernel) ⟨Nat.le_of_ble_eq_true rfl, Nat.le_of_ble_eq_true rfl⟩) (g_preV g_bl0 hK hPc hDc hS hE hFc g_to0 (q0 := 0) (ci := 8) rfl rfl) rfl rfl hl.1 rfl (lv_room (Nat.le_of_ble_eq_true rfl)) dX8_act_139 ⟨Nat.le_of_ble_eq_true rfl, Nat.le_of_ble_eq_true rfl⟩) (fun u9 H locs hw9 hP' hD' hS => ?_)
      clear hPc hDc hFc
      have hP : va_P (dC, dI) vwCl (b_e cB cC cI cJ cZ oA rA u_19.2 ++ b_k cB cC cI cJ cZ oA rA u_19.2 ++ b_p cB cC cI cJ cZ oA rA u_19.2 ++ b_o cB cC cI cJ cZ oA rA u_19.2 ++ b_s cB cC cI cJ cZ oA rA u_19.2 ++ b_c cB cC cI cJ cZ oA rA u_19.2 ++ b_t cB cC cI cJ cZ oA rA u_19.2 ++ b_d cB cC cI cJ cZ oA rA u_19.2) H := hP'
      clear hP' hD'
      have h9 := Option.some.inj hF_20
      subst h9
      exact W.vret hx hb hr (fun t ht hW => ⟨⟨(), rfl, trivial, m_end ht hP, hDD _⟩, hS.F ht⟩) hS.2.2 dX8_act_142
  refine lv_if_eq (tgt := 129) hx hb dX8_act_45 (by decide) (fun c_21 => ?_) (fun c_21 => ?_)
  · have hF_22 := ipos c_21 hF_14
    clear hF_14
    refine lv_aload_n hx hb dX8_act_129 rfl (lv_at hl 1 rfl) ?_
    obtain ⟨u_23, hu_23, hF_24⟩ := Option.bind_eq_some_iff.mp hF_22
    clear hF_22
    have hPc := hP.sub (ws' := (b_e cB cC cI cJ cZ oA rA σ_9 ++ b_k cB cC cI cJ cZ oA rA σ_9 ++ b_p cB cC cI cJ cZ oA rA σ_9 ++ b_o cB cC cI cJ cZ oA rA σ_9 ++ b_s cB cC cI cJ cZ oA rA σ_9 ++ b_c cB cC cI cJ cZ oA rA σ_9 ++ b_t cB cC cI cJ cZ oA rA σ_9 ++ b_d cB cC cI cJ cZ oA rA σ_9)) [0, 1, 2, 3, 4, 5, 6, 7, 8, 9, 10, 11, 12, 13, 14, 15, 16, 17, 18, 19, 20, 21, 22, 23, 24, 25, 26, 27, 28, 29, 30, 31, 32, 33, 34, 35, 36, 37, 38, 39, 40, 41, 42, 43, 44, 45, 46, 47, 48, 49] rfl
    have hDc := (hDD σ_9).sub (ws' := (b_e cB cC cI cJ cZ oA rA σ_9 ++ b_k cB cC cI cJ cZ oA rA σ_9 ++ b_p cB cC cI cJ cZ oA rA σ_9 ++ b_o cB cC cI cJ cZ oA rA σ_9 ++ b_s cB cC cI cJ cZ oA rA σ_9 ++ b_c cB cC cI cJ cZ oA rA σ_9 ++ b_t cB cC cI cJ cZ oA rA σ_9 ++ b_d cB cC cI cJ cZ oA rA σ_9)) [0, 1, 2, 3, 4, 5, 6, 7, 8, 9, 10, 11, 12, 13, 14, 15, 16, 17, 18, 19, 20, 21, 22, 23, 24, 25, 26, 27, 28, 29, 30, 31, 32, 33, 34, 35, 36, 37, 38, 39, 40, 41, 42, 43, 44, 45, 46, 47, 48, 49] (by decide +kernel) rfl
    have hFc := va_free (wc := (b_e cB cC cI cJ cZ oA rA σ_9 ++ b_k cB cC cI cJ cZ oA rA σ_9 ++ b_p cB cC cI cJ cZ oA rA σ_9 ++ b_o cB cC cI cJ cZ oA rA σ_9 ++ b_s cB cC cI cJ cZ oA rA σ_9 ++ b_c cB cC cI cJ cZ oA rA σ_9 ++ b_t cB cC cI cJ cZ oA rA σ_9 ++ b_d cB cC cI cJ cZ oA rA σ_9)) (hDD σ_9) hS hA [0, 1, 2, 3, 4, 5, 6, 7, 8, 9, 10, 11, 12, 13, 14, 15, 16, 17, 18, 19, 20, 21, 22, 23, 24, 25, 26, 27, 28, 29, 30, 31, 32, 33, 34, 35, 36, 37, 38, 39, 40, 41, 42, 43, 44, 45, 46, 47, 48, 49] rfl
    refine g_ofi (wc := (b_e cB cC cI cJ cZ oA rA σ_9 ++ b_k cB cC cI cJ cZ oA rA σ_9 ++ b_p cB cC cI cJ cZ oA rA σ_9 ++ b_o cB cC cI cJ cZ oA rA σ_9 ++ b_s cB cC cI cJ cZ oA rA σ_9 ++ b_c cB cC cI cJ cZ oA rA σ_9 ++ b_t cB cC cI cJ cZ oA rA σ_9 ++ b_d cB cC cI cJ cZ oA rA σ_9)) (wr := ([] : va_W)) hP (hDD σ_9) hS hFc [0, 1, 2, 3, 4, 5, 6, 7, 8, 9, 10, 11, 12, 13, 14, 15, 16, 17, 18, 19, 20, 21, 22, 23, 24, 25, 26, 27, 28, 29, 30, 31, 32, 33, 34, 35, 36, 37, 38, 39, 40, 41, 42, 43, 44, 45, 46, 47, 48, 49] [] rfl rfl (by decide +kernel) (by decide +kernel) (va_runV (As := []) (rest := []) ⟨hx, hb, hml, hown, hts⟩ (k_X8_perform l dC dI cB cC cI cJ cZ cP oA rA H.size  σ_9 _ hu_23) (cwV 0 hts (g_gV wq_1118 wq_1119 wq_2082 wq_12 wq_1120) rfl rfl rfl (by decide +kernel) ⟨Nat.le_of_ble_eq_true rfl, Nat.le_of_ble_eq_true rfl⟩) (g_preV g_bl0 hK hPc hDc hS hE hFc g_to0 (q0 := 0) (ci := 8) rfl rfl) rfl rfl hl.1 rfl (lv_room (Nat.le_of_ble_eq_true rfl)) dX8_act_130 ⟨Nat.le_of_ble_eq_true rfl, Nat.le_of_ble_eq_true rfl⟩) (fun r9 u9 H locs hw9 hP' hD' hS => ?_)
    clear hPc hDc hFc
    subst hw9
    have hP : va_P (dC, dI) vwCl (b_e cB cC cI cJ cZ oA rA u_23.2 ++ b_k cB cC cI cJ cZ oA rA u_23.2 ++ b_p cB cC cI cJ cZ oA rA u_23.2 ++ b_o cB cC cI cJ cZ oA rA u_23.2 ++ b_s cB cC cI cJ cZ oA rA u_23.2 ++ b_c cB cC cI cJ cZ oA rA u_23.2 ++ b_t cB cC cI cJ cZ oA rA u_23.2 ++ b_d cB cC cI cJ cZ oA rA u_23.2) H := hP'
    clear hP' hD'
    refine lv_istore_n (lv' := [(1, .int u_23.1), (0, .ref (oA 11))]) hx hb dX8_act_133 rfl hl (by decide) rfl (fun ls hl => ?_)
    exact Jj_13 u_23.1 u_23.2 hF_24 _ _ hP hS ls (lv_sub hl [1, 0] rfl)
  · have hF_25 := ineg c_21 hF_14
    clear hF_14
    refine lv_iconst (v := 0) hx hb dX8_act_48 (by decide +kernel) ?_
    refine lv_istore_n (lv' := [(2, .int 0), (1, .int 1), (0, .ref (oA 11))]) hx hb dX8_act_49 rfl hl (by decide) rfl (fun ls hl => ?_)
    refine loopF_ind (P := fun (s_26 : Int32 × Int32 × HS) => ∀ (H : Heap) (locs : List Loc), va_P (dC, dI) vwCl (b_e cB cC cI cJ cZ oA rA s_26.2.2 ++ b_k cB cC cI cJ cZ oA rA s_26.2.2 ++ b_p cB cC cI cJ cZ oA rA s_26.2.2 ++ b_o cB cC cI cJ cZ oA rA s_26.2.2 ++ b_s cB cC cI cJ cZ oA rA s_26.2.2 ++ b_c cB cC cI cJ cZ oA rA s_26.2.2 ++ b_t cB cC cI cJ cZ oA rA s_26.2.2 ++ b_d cB cC cI cJ cZ oA rA s_26.2.2) H → va_S A s.heap H locs → ∀ ls : Array Slot, lv_has ls 3 [(0, .ref (oA 11)), (1, .int s_26.1), (2, .int s_26.2.1)] → W p l e (headSpec (g_ws yX8_act cX8_act 3 none) { frames := 11, cells := 0, slots := 0, locals := 269 }).room s m ([.ref (oA 11)] : List Value).toArray below meth c H locs 0 0 (MQ below (va_Qv (fun (_ : Unit) => True) (g_Bo (dC, dI) A (fun (_ : Unit) => (b_e cB cC cI cJ cZ oA rA res.2 ++ b_k cB cC cI cJ cZ oA rA res.2 ++ b_p cB cC cI cJ cZ oA rA res.2 ++ b_o cB cC cI cJ cZ oA rA res.2 ++ b_s cB cC cI cJ cZ oA rA res.2 ++ b_c cB cC cI cJ cZ oA rA res.2 ++ b_t cB cC cI cJ cZ oA rA res.2 ++ b_d cB cC cI cJ cZ oA rA res.2))) A) ([.ref (oA 11)] : List Value).toArray s 0 0 A) (F0 m 50 ls [])) ?_ _ _ hF_25 _ _ hP hS ls (lv_sub hl [2, 1, 0] rfl)
    intro again_27 s_26 ih_28 hF_29
    intro H locs hP hS ls hl
    refine lv_iload_n hx hb dX8_act_50 rfl (lv_at hl 2 rfl) ?_
    refine lv_aload_n hx hb dX8_act_51 rfl (lv_at hl 0 rfl) ?_
    refine va_get (D := (dC, dI)) (ci := 8) (v := .int ((s_26.2.2 11).1 15)) (C := RX8) (T := TX8) (N := 16) hx hb hts ii_X8 hown hK hP 0 rfl rfl 15 (by decide) (hts (.fieldLink RX8 192 "StoryHouse$Teller" "chosenCount" "I") wq_302) (fun _ h9 => h9) rfl dX8_act_52 ?_
    obtain ⟨j_31, ej_31, hF_32⟩ := bnd_e hF_29
    clear hF_29
    have Jj_31 : ∀  (σ_30 : HS), j_31  σ_30 = some res → ∀ (H : Heap) (locs : List Loc), va_P (dC, dI) vwCl (b_e cB cC cI cJ cZ oA rA σ_30 ++ b_k cB cC cI cJ cZ oA rA σ_30 ++ b_p cB cC cI cJ cZ oA rA σ_30 ++ b_o cB cC cI cJ cZ oA rA σ_30 ++ b_s cB cC cI cJ cZ oA rA σ_30 ++ b_c cB cC cI cJ cZ oA rA σ_30 ++ b_t cB cC cI cJ cZ oA rA σ_30 ++ b_d cB cC cI cJ cZ oA rA σ_30) H → va_S A s.heap H locs → ∀ ls : Array Slot, lv_has ls 3 [(0, .ref (oA 11)), (1, .int s_26.1)] → W p l e (headSpec (g_ws yX8_act cX8_act 3 none) { frames := 11, cells := 0, slots := 0, locals := 269 }).room s m ([.ref (oA 11)] : List Value).toArray below meth c H locs 0 0 (MQ below (va_Qv (fun (_ : Unit) => True) (g_Bo (dC, dI) A (fun (_ : Unit) => (b_e cB cC cI cJ cZ oA rA res.2 ++ b_k cB cC cI cJ cZ oA rA res.2 ++ b_p cB cC cI cJ cZ oA rA res.2 ++ b_o cB cC cI cJ cZ oA rA res.2 ++ b_s cB cC cI cJ cZ oA rA res.2 ++ b_c cB cC cI cJ cZ oA rA res.2 ++ b_t cB cC cI cJ cZ oA rA res.2 ++ b_d cB cC cI cJ cZ oA rA res.2))) A) ([.ref (oA 11)] : List Value).toArray s 0 0 A) (F0 m 126 ls []) := by
      intro  σ_30 hF0 H locs hP hS ls hl
      subst ej_31
      have hF_33 := hF0
      clear hF0
      refine lv_goto (tgt := 134) hx hb dX8_act_126 (by decide) ?_
      exact Jj_13 s_26.1 σ_30 hF_33 _ _ hP hS ls (lv_sub hl [0, 1] rfl)
    refine lv_icmp_ge (tgt := 126) hx hb dX8_act_55 (by decide) (fun c_34 => ?_) (fun c_34 => ?_)
    · have hF_35 := ipos c_34 hF_32
      clear hF_32
      exact Jj_31  s_26.2.2 hF_35 _ _ hP hS ls (lv_sub hl [0, 1] rfl)
    · have hF_36 := ineg c_34 hF_32
      clear hF_32
      refine lv_iload_n hx hb dX8_act_58 rfl (lv_at hl 1 rfl) ?_
      refine lv_if_eq (tgt := 126) hx hb dX8_act_59 (by decide) (fun c_37 => ?_) (fun c_37 => ?_)
      · have hF_38 := ipos c_37 hF_36
        clear hF_36
        exact Jj_31  s_26.2.2 hF_38 _ _ hP hS ls (lv_sub hl [0, 1] rfl)
      · have hF_39 := ineg c_37 hF_36
        clear hF_36
        refine lv_aload_n hx hb dX8_act_62 rfl (lv_at hl 0 rfl) ?_
        refine lv_aload_n hx hb dX8_act_63 rfl (lv_at hl 0 rfl) ?_
        refine va_get (D := (dC, dI)) (ci := 8) (v := .ref (rA 11 14)) (C := RX8) (T := TX8) (N := 16) hx hb hts ii_X8 hown hK hP 0 rfl rfl 14 (by decide) (hts (.fieldLink RX8 19 "StoryHouse$Teller" "chosen" "[I") wq_301) (fun _ h9 => h9) rfl dX8_act_64 ?_
        refine lv_iload_n hx hb dX8_act_67 rfl (lv_at hl 2 rfl) ?_
        have hPc := hP.sub (ws' := [(rA 11 14, .inl (cI, 120, .inl ((s_26.2.2 11).2.1 14)))]) [3] rfl
        have hDc := (hDD s_26.2.2).sub (ws' := [(rA 11 14, .inl (cI, 120, .inl ((s_26.2.2 11).2.1 14)))]) [3] (by decide +kernel) rfl
        have hFc := va_free (wc := [(rA 11 14, .inl (cI, 120, .inl ((s_26.2.2 11).2.1 14)))]) (hDD s_26.2.2) hS hA [3] rfl
        refine g_ofi (wc := [(rA 11 14, .inl (cI, 120, .inl ((s_26.2.2 11).2.1 14)))]) (wr := (((b_e cB cC cI cJ cZ oA rA s_26.2.2 ++ b_k cB cC cI cJ cZ oA rA s_26.2.2 ++ b_p cB cC cI cJ cZ oA rA s_26.2.2 ++ b_o cB cC cI cJ cZ oA rA s_26.2.2 ++ b_s cB cC cI cJ cZ oA rA s_26.2.2 ++ b_c cB cC cI cJ cZ oA rA s_26.2.2 ++ b_t cB cC cI cJ cZ oA rA s_26.2.2 ++ b_d cB cC cI cJ cZ oA rA s_26.2.2)).eraseIdx 3)) hP (hDD s_26.2.2) hS hFc [3] [0, 1, 2, 4, 5, 6, 7, 8, 9, 10, 11, 12, 13, 14, 15, 16, 17, 18, 19, 20, 21, 22, 23, 24, 25, 26, 27, 28, 29, 30, 31, 32, 33, 34, 35, 36, 37, 38, 39, 40, 41, 42, 43, 44, 45, 46, 47, 48, 49] rfl rfl (by decide +kernel) (by decide +kernel) (va_runSN (As := [.ref (rA 11 14), .int s_26.2.1]) (rest := [.ref (oA 11)]) ⟨hx, hb, hml, hown, hts⟩ (c_X11_at l dC dI cB cC cI cJ cZ cP H.size (rA 11 14) s_26.2.1 120 ((s_26.2.2 11).2.1 14) (by decide)) ⟨va_cnB 2 hts (g_gA wq_407) rfl rfl rfl (hN.at 31 rfl) (hts (.initialized RX11) wq_1) (by decide +kernel) ⟨Nat.le_of_ble_eq_true rfl, Nat.le_of_ble_eq_true rfl⟩, (hts (.static yX11_at) wq_406), trivial⟩ (g_preS g_bl0 hK hPc hDc hS hE hFc g_to0) rfl rfl hl.1 rfl (lv_room (Nat.le_of_ble_eq_true rfl)) dX8_act_68 ⟨Nat.le_of_ble_eq_true rfl, Nat.le_of_ble_eq_true rfl⟩) (fun r9 u9 H locs hw9 hP' hD' hS => ?_)
        clear hPc hDc hFc hD'
        have hP : va_P (dC, dI) vwCl (b_e cB cC cI cJ cZ oA rA s_26.2.2 ++ b_k cB cC cI cJ cZ oA rA s_26.2.2 ++ b_p cB cC cI cJ cZ oA rA s_26.2.2 ++ b_o cB cC cI cJ cZ oA rA s_26.2.2 ++ b_s cB cC cI cJ cZ oA rA s_26.2.2 ++ b_c cB cC cI cJ cZ oA rA s_26.2.2 ++ b_t cB cC cI cJ cZ oA rA s_26.2.2 ++ b_d cB cC cI cJ cZ oA rA s_26.2.2) H := hP'.sub [0, 1, 2, 49, 3, 4, 5, 6, 7, 8, 9, 10, 11, 12, 13, 14, 15, 16, 17, 18, 19, 20, 21, 22, 23, 24, 25, 26, 27, 28, 29, 30, 31, 32, 33, 34, 35, 36, 37, 38, 39, 40, 41, 42, 43, 44, 45, 46, 47, 48] rfl
        clear hP'
        subst hw9
        obtain ⟨x_40, ex_40, hF_41⟩ := bnd_e hF_39
        clear hF_39
        refine m_top ex_40 ?_
        obtain ⟨σ_42, eσ_42, hF_43⟩ := bnd_e hF_41
        clear hF_41
        refine va_put (D := (dC, dI)) (ci := 8) (v := .int x_40) (ty := .int) (C := RX8) (T := TX8) (N := 16) hx hb hts ii_X8 tyX8 tyX8_ok nmX8 hown hK hP (hDD _) hS 0 rfl rfl 10 (by decide) (hts (.fieldLink RX8 114 "StoryHouse$Teller" "noun" "I") wq_297) (fun _ h9 => h9) rfl (by decide +kernel) rfl rfl (Nat.le_of_ble_eq_true rfl) dX8_act_71 (fun H locs hP' _ hS => ?_)
        have hP : va_P (dC, dI) vwCl (b_e cB cC cI cJ cZ oA rA σ_42 ++ b_k cB cC cI cJ cZ oA rA σ_42 ++ b_p cB cC cI cJ cZ oA rA σ_42 ++ b_o cB cC cI cJ cZ oA rA σ_42 ++ b_s cB cC cI cJ cZ oA rA σ_42 ++ b_c cB cC cI cJ cZ oA rA σ_42 ++ b_t cB cC cI cJ cZ oA rA σ_42 ++ b_d cB cC cI cJ cZ oA rA σ_42) H := by rw [eσ_42]; exact cs_ekposctd_e_10 ▸ hP'
        clear hP'
        refine lv_aload_n hx hb dX8_act_74 rfl (lv_at hl 0 rfl) ?_
        refine va_get (D := (dC, dI)) (ci := 8) (v := .ref (oA 9)) (C := RX8) (T := TX8) (N := 16) hx hb hts ii_X8 hown hK hP 0 rfl rfl 0 (by decide) (hts (.fieldLink RX8 22 "StoryHouse$Teller" "play" "LStoryHouse$Play;") wq_286) (fun _ h9 => h9) rfl dX8_act_75 ?_
        refine va_get (D := (dC, dI)) (ci := 6) (v := .ref (rA 9 0)) (C := RX6) (T := TX6) (N := 12) hx hb hts ii_X6 hown hK hP 9 rfl rfl 0 (by decide) (hts (.fieldLink RX8 224 "StoryHouse$Play" "parents" "[I") wq_219) (fun _ h9 => h9) rfl dX8_act_78 ?_
        refine lv_aload_n hx hb dX8_act_81 rfl (lv_at hl 0 rfl) ?_
        refine va_get (D := (dC, dI)) (ci := 8) (v := .int ((σ_42 11).1 10)) (C := RX8) (T := TX8) (N := 16) hx hb hts ii_X8 hown hK hP 0 rfl rfl 10 (by decide) (hts (.fieldLink RX8 114 "StoryHouse$Teller" "noun" "I") wq_297) (fun _ h9 => h9) rfl dX8_act_82 ?_
        obtain ⟨x_44, ex_44, hF_45⟩ := bnd_e hF_43
        clear hF_43
        refine m_top ex_44 ?_
        have hPc := hP.sub (ws' := [(rA 9 0, .inl (cI, 121, .inl ((σ_42 9).2.1 0)))]) [10] rfl
        have hDc := (hDD σ_42).sub (ws' := [(rA 9 0, .inl (cI, 121, .inl ((σ_42 9).2.1 0)))]) [10] (by decide +kernel) rfl
        have hFc := va_free (wc := [(rA 9 0, .inl (cI, 121, .inl ((σ_42 9).2.1 0)))]) (hDD σ_42) hS hA [10] rfl
        refine g_ofi (wc := [(rA 9 0, .inl (cI, 121, .inl ((σ_42 9).2.1 0)))]) (wr := (((b_e cB cC cI cJ cZ oA rA σ_42 ++ b_k cB cC cI cJ cZ oA rA σ_42 ++ b_p cB cC cI cJ cZ oA rA σ_42 ++ b_o cB cC cI cJ cZ oA rA σ_42 ++ b_s cB cC cI cJ cZ oA rA σ_42 ++ b_c cB cC cI cJ cZ oA rA σ_42 ++ b_t cB cC cI cJ cZ oA rA σ_42 ++ b_d cB cC cI cJ cZ oA rA σ_42)).eraseIdx 10)) hP (hDD σ_42) hS hFc [10] [0, 1, 2, 3, 4, 5, 6, 7, 8, 9, 11, 12, 13, 14, 15, 16, 17, 18, 19, 20, 21, 22, 23, 24, 25, 26, 27, 28, 29, 30, 31, 32, 33, 34, 35, 36, 37, 38, 39, 40, 41, 42, 43, 44, 45, 46, 47, 48, 49] rfl rfl (by decide +kernel) (by decide +kernel) (va_runSN (As := [.ref (rA 9 0), .int x_44]) (rest := []) ⟨hx, hb, hml, hown, hts⟩ (c_X11_at l dC dI cB cC cI cJ cZ cP H.size (rA 9 0) x_44 121 ((σ_42 9).2.1 0) (by decide)) ⟨va_cnB 2 hts (g_gA wq_407) rfl rfl rfl (hN.at 31 rfl) (hts (.initialized RX11) wq_1) (by decide +kernel) ⟨Nat.le_of_ble_eq_true rfl, Nat.le_of_ble_eq_true rfl⟩, (hts (.static yX11_at) wq_406), trivial⟩ (g_preS g_bl0 hK hPc hDc hS hE hFc g_to0) rfl rfl hl.1 rfl (lv_room (Nat.le_of_ble_eq_true rfl)) dX8_act_85 ⟨Nat.le_of_ble_eq_true rfl, Nat.le_of_ble_eq_true rfl⟩) (fun r9 u9 H locs hw9 hP' hD' hS => ?_)
        clear hPc hDc hFc hD'
        have hP : va_P (dC, dI) vwCl (b_e cB cC cI cJ cZ oA rA σ_42 ++ b_k cB cC cI cJ cZ oA rA σ_42 ++ b_p cB cC cI cJ cZ oA rA σ_42 ++ b_o cB cC cI cJ cZ oA rA σ_42 ++ b_s cB cC cI cJ cZ oA rA σ_42 ++ b_c cB cC cI cJ cZ oA rA σ_42 ++ b_t cB cC cI cJ cZ oA rA σ_42 ++ b_d cB cC cI cJ cZ oA rA σ_42) H := hP'.sub [0, 1, 2, 3, 4, 5, 6, 7, 8, 9, 49, 10, 11, 12, 13, 14, 15, 16, 17, 18, 19, 20, 21, 22, 23, 24, 25, 26, 27, 28, 29, 30, 31, 32, 33, 34, 35, 36, 37, 38, 39, 40, 41, 42, 43, 44, 45, 46, 47, 48] rfl
        clear hP'
        subst hw9
        obtain ⟨x_46, ex_46, hF_47⟩ := bnd_e hF_45
        clear hF_45
        refine m_top ex_46 ?_
        refine lv_aload_n hx hb dX8_act_88 rfl (lv_at hl 0 rfl) ?_
        refine va_get (D := (dC, dI)) (ci := 8) (v := .int ((σ_42 11).1 13)) (C := RX8) (T := TX8) (N := 16) hx hb hts ii_X8 hown hK hP 0 rfl rfl 13 (by decide) (hts (.fieldLink RX8 199 "StoryHouse$Teller" "source" "I") wq_300) (fun _ h9 => h9) rfl dX8_act_89 ?_
        obtain ⟨j_50, ej_50, hF_51⟩ := bnd_e hF_47
        clear hF_47
        have Jj_50 : ∀ (v1_48 : Int32) (σ_49 : HS), j_50 v1_48 σ_49 = some res → ∀ (H : Heap) (locs : List Loc), va_P (dC, dI) vwCl (b_e cB cC cI cJ cZ oA rA σ_49 ++ b_k cB cC cI cJ cZ oA rA σ_49 ++ b_p cB cC cI cJ cZ oA rA σ_49 ++ b_o cB cC cI cJ cZ oA rA σ_49 ++ b_s cB cC cI cJ cZ oA rA σ_49 ++ b_c cB cC cI cJ cZ oA rA σ_49 ++ b_t cB cC cI cJ cZ oA rA σ_49 ++ b_d cB cC cI cJ cZ oA rA σ_49) H → va_S A s.heap H locs → ∀ ls : Array Slot, lv_has ls 3 [(0, .ref (oA 11)), (1, .int v1_48), (2, .int s_26.2.1)] → W p l e (headSpec (g_ws yX8_act cX8_act 3 none) { frames := 11, cells := 0, slots := 0, locals := 269 }).room s m ([.ref (oA 11)] : List Value).toArray below meth c H locs 0 0 (MQ below (va_Qv (fun (_ : Unit) => True) (g_Bo (dC, dI) A (fun (_ : Unit) => (b_e cB cC cI cJ cZ oA rA res.2 ++ b_k cB cC cI cJ cZ oA rA res.2 ++ b_p cB cC cI cJ cZ oA rA res.2 ++ b_o cB cC cI cJ cZ oA rA res.2 ++ b_s cB cC cI cJ cZ oA rA res.2 ++ b_c cB cC cI cJ cZ oA rA res.2 ++ b_t cB cC cI cJ cZ oA rA res.2 ++ b_d cB cC cI cJ cZ oA rA res.2))) A) ([.ref (oA 11)] : List Value).toArray s 0 0 A) (F0 m 120 ls []) := by
          intro v1_48 σ_49 hF0 H locs hP hS ls hl
          subst ej_50
          have hF_52 := hF0
          clear hF0
          obtain ⟨x_53, ex_53, hF_54⟩ := bnd_e hF_52
          clear hF_52
          refine lv_iinc (v := x_53) (lv' := [(2, .int x_53), (0, .ref (oA 11)), (1, .int v1_48)]) hx hb dX8_act_120 hl (k := 2) rfl (by rw [ex_53]; rfl) (by decide) rfl (fun ls hl => ?_)
          refine lv_goto (tgt := 50) hx hb dX8_act_123 (by decide) ?_
          exact ih_28 (v1_48, x_53, σ_49) hF_54 _ _ hP hS ls (lv_sub hl [1, 2, 0] rfl)
        refine lv_icmp_ne (tgt := 120) hx hb dX8_act_92 (by decide) (fun c_55 => ?_) (fun c_55 => ?_)
        · have hF_68 := ineg c_55 hF_51
          clear hF_51
          exact Jj_50 s_26.1 σ_42 hF_68 _ _ hP hS ls (lv_sub hl [0, 1, 2] rfl)
        · have hF_56 := ipos c_55 hF_51
          clear hF_51
          refine lv_aload_n hx hb dX8_act_95 rfl (lv_at hl 0 rfl) ?_
          refine va_get (D := (dC, dI)) (ci := 8) (v := .ref (oA 10)) (C := RX8) (T := TX8) (N := 16) hx hb hts ii_X8 hown hK hP 0 rfl rfl 2 (by decide) (hts (.fieldLink RX8 30 "StoryHouse$Teller" "machine" "LStoryHouse$Machine;") wq_288) (fun _ h9 => h9) rfl dX8_act_96 ?_
          refine lv_aload_n hx hb dX8_act_99 rfl (lv_at hl 0 rfl) ?_
          refine va_get (D := (dC, dI)) (ci := 8) (v := .int ((σ_42 11).1 10)) (C := RX8) (T := TX8) (N := 16) hx hb hts ii_X8 hown hK hP 0 rfl rfl 10 (by decide) (hts (.fieldLink RX8 114 "StoryHouse$Teller" "noun" "I") wq_297) (fun _ h9 => h9) rfl dX8_act_100 ?_
          obtain ⟨u_57, hu_57, hF_58⟩ := Option.bind_eq_some_iff.mp hF_56
          clear hF_56
          have hPc := hP.sub (ws' := (b_k cB cC cI cJ cZ oA rA σ_42 ++ b_p cB cC cI cJ cZ oA rA σ_42 ++ b_o cB cC cI cJ cZ oA rA σ_42 ++ b_s cB cC cI cJ cZ oA rA σ_42 ++ b_c cB cC cI cJ cZ oA rA σ_42 ++ b_t cB cC cI cJ cZ oA rA σ_42 ++ b_d cB cC cI cJ cZ oA rA σ_42)) [4, 5, 6, 7, 8, 9, 10, 11, 12, 13, 14, 15, 16, 17, 18, 19, 20, 21, 22, 23, 24, 25, 26, 27, 28, 29, 30, 31, 32, 33, 34, 35, 36, 37, 38, 39, 40, 41, 42, 43, 44, 45, 46, 47, 48, 49] rfl
          have hDc := (hDD σ_42).sub (ws' := (b_k cB cC cI cJ cZ oA rA σ_42 ++ b_p cB cC cI cJ cZ oA rA σ_42 ++ b_o cB cC cI cJ cZ oA rA σ_42 ++ b_s cB cC cI cJ cZ oA rA σ_42 ++ b_c cB cC cI cJ cZ oA rA σ_42 ++ b_t cB cC cI cJ cZ oA rA σ_42 ++ b_d cB cC cI cJ cZ oA rA σ_42)) [4, 5, 6, 7, 8, 9, 10, 11, 12, 13, 14, 15, 16, 17, 18, 19, 20, 21, 22, 23, 24, 25, 26, 27, 28, 29, 30, 31, 32, 33, 34, 35, 36, 37, 38, 39, 40, 41, 42, 43, 44, 45, 46, 47, 48, 49] (by decide +kernel) rfl
          have hFc := va_free (wc := (b_k cB cC cI cJ cZ oA rA σ_42 ++ b_p cB cC cI cJ cZ oA rA σ_42 ++ b_o cB cC cI cJ cZ oA rA σ_42 ++ b_s cB cC cI cJ cZ oA rA σ_42 ++ b_c cB cC cI cJ cZ oA rA σ_42 ++ b_t cB cC cI cJ cZ oA rA σ_42 ++ b_d cB cC cI cJ cZ oA rA σ_42)) (hDD σ_42) hS hA [4, 5, 6, 7, 8, 9, 10, 11, 12, 13, 14, 15, 16, 17, 18, 19, 20, 21, 22, 23, 24, 25, 26, 27, 28, 29, 30, 31, 32, 33, 34, 35, 36, 37, 38, 39, 40, 41, 42, 43, 44, 45, 46, 47, 48, 49] rfl
          refine g_ofv (wc := (b_k cB cC cI cJ cZ oA rA σ_42 ++ b_p cB cC cI cJ cZ oA rA σ_42 ++ b_o cB cC cI cJ cZ oA rA σ_42 ++ b_s cB cC cI cJ cZ oA rA σ_42 ++ b_c cB cC cI cJ cZ oA rA σ_42 ++ b_t cB cC cI cJ cZ oA rA σ_42 ++ b_d cB cC cI cJ cZ oA rA σ_42)) (wr := (b_e cB cC cI cJ cZ oA rA σ_42)) hP (hDD σ_42) hS hFc [4, 5, 6, 7, 8, 9, 10, 11, 12, 13, 14, 15, 16, 17, 18, 19, 20, 21, 22, 23, 24, 25, 26, 27, 28, 29, 30, 31, 32, 33, 34, 35, 36, 37, 38, 39, 40, 41, 42, 43, 44, 45, 46, 47, 48, 49] [0, 1, 2, 3] rfl rfl (by decide +kernel) (by decide +kernel) (va_runV (As := [.int ((σ_42 11).1 10)]) (rest := []) ⟨hx, hb, hml, hown, hts⟩ (k_X3_sayName l dC dI cB cC cI cJ cZ cP oA rA H.size  ((σ_42 11).1 10) σ_42 _ hu_57) (cwV 1 hts (g_gV wq_1013 wq_1014 wq_1015 wq_11 wq_1016) rfl rfl rfl (by decide +kernel) ⟨Nat.le_of_ble_eq_true rfl, Nat.le_of_ble_eq_true rfl⟩) (g_preV g_bl0 hK hPc hDc hS hE hFc g_to0 (q0 := 0) (ci := 3) rfl rfl) rfl rfl hl.1 rfl (lv_room (Nat.le_of_ble_eq_true rfl)) dX8_act_103 ⟨Nat.le_of_ble_eq_true rfl, Nat.le_of_ble_eq_true rfl⟩) (fun u9 H locs hw9 hP' hD' hS => ?_)
          clear hPc hDc hFc
          obtain ⟨σ_59, eσ_59, hF_60⟩ := bnd_e hF_58
          clear hF_58
          have hP : va_P (dC, dI) vwCl (b_e cB cC cI cJ cZ oA rA σ_59 ++ b_k cB cC cI cJ cZ oA rA σ_59 ++ b_p cB cC cI cJ cZ oA rA σ_59 ++ b_o cB cC cI cJ cZ oA rA σ_59 ++ b_s cB cC cI cJ cZ oA rA σ_59 ++ b_c cB cC cI cJ cZ oA rA σ_59 ++ b_t cB cC cI cJ cZ oA rA σ_59 ++ b_d cB cC cI cJ cZ oA rA σ_59) H := by rw [eσ_59]; exact hP'.sub [0, 1, 2, 3, 4, 5, 6, 7, 8, 9, 10, 11, 12, 13, 14, 15, 16, 17, 18, 19, 20, 21, 22, 23, 24, 25, 26, 27, 28, 29, 30, 31, 32, 33, 34, 35, 36, 37, 38, 39, 40, 41, 42, 43, 44, 45, 46, 47, 48, 49] rfl
          clear hP' hD'
          refine lv_aload_n hx hb dX8_act_106 rfl (lv_at hl 0 rfl) ?_
          refine va_get (D := (dC, dI)) (ci := 8) (v := .ref (oA 8)) (C := RX8) (T := TX8) (N := 16) hx hb hts ii_X8 hown hK hP 0 rfl rfl 1 (by decide) (hts (.fieldLink RX8 26 "StoryHouse$Teller" "told" "LStoryHouse$Out;") wq_287) (fun _ h9 => h9) rfl dX8_act_107 ?_
          obtain ⟨q_61, vq_61, hRq_61, hSq_61⟩ := hE.2.2.2.2 _ (List.mem_of_getElem? (i := 45) rfl)
          refine va_ldcS (own := RX8) (tx := ": ") hx hb hown hRq_61 dX8_act_110 ?_
          obtain ⟨u_62, hu_62, hF_63⟩ := Option.bind_eq_some_iff.mp hF_60
          clear hF_60
          have hPc := hP.sub (ws' := (b_o cB cC cI cJ cZ oA rA σ_59)) [17, 18] rfl
          have hDc := (hDD σ_59).sub (ws' := (b_o cB cC cI cJ cZ oA rA σ_59)) [17, 18] (by decide +kernel) rfl
          have hFc := va_free (wc := (b_o cB cC cI cJ cZ oA rA σ_59)) (hDD σ_59) hS hA [17, 18] rfl
          refine g_ofv (wc := (b_o cB cC cI cJ cZ oA rA σ_59)) (wr := (b_e cB cC cI cJ cZ oA rA σ_59 ++ b_k cB cC cI cJ cZ oA rA σ_59 ++ b_p cB cC cI cJ cZ oA rA σ_59 ++ b_s cB cC cI cJ cZ oA rA σ_59 ++ b_c cB cC cI cJ cZ oA rA σ_59 ++ b_t cB cC cI cJ cZ oA rA σ_59 ++ b_d cB cC cI cJ cZ oA rA σ_59)) hP (hDD σ_59) hS hFc [17, 18] [0, 1, 2, 3, 4, 5, 6, 7, 8, 9, 10, 11, 12, 13, 14, 15, 16, 19, 20, 21, 22, 23, 24, 25, 26, 27, 28, 29, 30, 31, 32, 33, 34, 35, 36, 37, 38, 39, 40, 41, 42, 43, 44, 45, 46, 47, 48, 49] rfl rfl (by decide +kernel) (by decide +kernel) (va_runV (As := [.ref q_61]) (rest := []) ⟨hx, hb, hml, hown, hts⟩ (k_X5_text l dC dI cB cC cI cJ cZ cP oA rA H.size q_61 _ ([58, 32] : List Int32) σ_59 _ hu_62) (cwV 1 hts (g_gV wq_1031 wq_1003 wq_1004 wq_9 wq_1005) rfl rfl rfl (by decide +kernel) ⟨Nat.le_of_ble_eq_true rfl, Nat.le_of_ble_eq_true rfl⟩) (g_preV g_blS hK hPc hDc hS hE hFc (g_toS hSq_61 hS hFc) (q0 := 0) (ci := 5) rfl rfl) rfl rfl hl.1 rfl (lv_room (Nat.le_of_ble_eq_true rfl)) dX8_act_112 ⟨Nat.le_of_ble_eq_true rfl, Nat.le_of_ble_eq_true rfl⟩) (fun u9 H locs hw9 hP' hD' hS => ?_)
          clear hPc hDc hFc
          obtain ⟨σ_64, eσ_64, hF_65⟩ := bnd_e hF_63
          clear hF_63
          have hP : va_P (dC, dI) vwCl (b_e cB cC cI cJ cZ oA rA σ_64 ++ b_k cB cC cI cJ cZ oA rA σ_64 ++ b_p cB cC cI cJ cZ oA rA σ_64 ++ b_o cB cC cI cJ cZ oA rA σ_64 ++ b_s cB cC cI cJ cZ oA rA σ_64 ++ b_c cB cC cI cJ cZ oA rA σ_64 ++ b_t cB cC cI cJ cZ oA rA σ_64 ++ b_d cB cC cI cJ cZ oA rA σ_64) H := by rw [eσ_64]; exact hP'.sub [0, 1, 2, 3, 4, 5, 6, 7, 8, 9, 10, 11, 12, 13, 14, 15, 16, 48, 49, 17, 18, 19, 20, 21, 22, 23, 24, 25, 26, 27, 28, 29, 30, 31, 32, 33, 34, 35, 36, 37, 38, 39, 40, 41, 42, 43, 44, 45, 46, 47] rfl
          clear hP' hD'
          refine lv_aload_n hx hb dX8_act_115 rfl (lv_at hl 0 rfl) ?_
          obtain ⟨u_66, hu_66, hF_67⟩ := Option.bind_eq_some_iff.mp hF_65
          clear hF_65
          have hPc := hP.sub (ws' := (b_e cB cC cI cJ cZ oA rA σ_64 ++ b_k cB cC cI cJ cZ oA rA σ_64 ++ b_p cB cC cI cJ cZ oA rA σ_64 ++ b_o cB cC cI cJ cZ oA rA σ_64 ++ b_s cB cC cI cJ cZ oA rA σ_64 ++ b_c cB cC cI cJ cZ oA rA σ_64 ++ b_t cB cC cI cJ cZ oA rA σ_64 ++ b_d cB cC cI cJ cZ oA rA σ_64)) [0, 1, 2, 3, 4, 5, 6, 7, 8, 9, 10, 11, 12, 13, 14, 15, 16, 17, 18, 19, 20, 21, 22, 23, 24, 25, 26, 27, 28, 29, 30, 31, 32, 33, 34, 35, 36, 37, 38, 39, 40, 41, 42, 43, 44, 45, 46, 47, 48, 49] rfl
          have hDc := (hDD σ_64).sub (ws' := (b_e cB cC cI cJ cZ oA rA σ_64 ++ b_k cB cC cI cJ cZ oA rA σ_64 ++ b_p cB cC cI cJ cZ oA rA σ_64 ++ b_o cB cC cI cJ cZ oA rA σ_64 ++ b_s cB cC cI cJ cZ oA rA σ_64 ++ b_c cB cC cI cJ cZ oA rA σ_64 ++ b_t cB cC cI cJ cZ oA rA σ_64 ++ b_d cB cC cI cJ cZ oA rA σ_64)) [0, 1, 2, 3, 4, 5, 6, 7, 8, 9, 10, 11, 12, 13, 14, 15, 16, 17, 18, 19, 20, 21, 22, 23, 24, 25, 26, 27, 28, 29, 30, 31, 32, 33, 34, 35, 36, 37, 38, 39, 40, 41, 42, 43, 44, 45, 46, 47, 48, 49] (by decide +kernel) rfl
          have hFc := va_free (wc := (b_e cB cC cI cJ cZ oA rA σ_64 ++ b_k cB cC cI cJ cZ oA rA σ_64 ++ b_p cB cC cI cJ cZ oA rA σ_64 ++ b_o cB cC cI cJ cZ oA rA σ_64 ++ b_s cB cC cI cJ cZ oA rA σ_64 ++ b_c cB cC cI cJ cZ oA rA σ_64 ++ b_t cB cC cI cJ cZ oA rA σ_64 ++ b_d cB cC cI cJ cZ oA rA σ_64)) (hDD σ_64) hS hA [0, 1, 2, 3, 4, 5, 6, 7, 8, 9, 10, 11, 12, 13, 14, 15, 16, 17, 18, 19, 20, 21, 22, 23, 24, 25, 26, 27, 28, 29, 30, 31, 32, 33, 34, 35, 36, 37, 38, 39, 40, 41, 42, 43, 44, 45, 46, 47, 48, 49] rfl
          refine g_ofi (wc := (b_e cB cC cI cJ cZ oA rA σ_64 ++ b_k cB cC cI cJ cZ oA rA σ_64 ++ b_p cB cC cI cJ cZ oA rA σ_64 ++ b_o cB cC cI cJ cZ oA rA σ_64 ++ b_s cB cC cI cJ cZ oA rA σ_64 ++ b_c cB cC cI cJ cZ oA rA σ_64 ++ b_t cB cC cI cJ cZ oA rA σ_64 ++ b_d cB cC cI cJ cZ oA rA σ_64)) (wr := ([] : va_W)) hP (hDD σ_64) hS hFc [0, 1, 2, 3, 4, 5, 6, 7, 8, 9, 10, 11, 12, 13, 14, 15, 16, 17, 18, 19, 20, 21, 22, 23, 24, 25, 26, 27, 28, 29, 30, 31, 32, 33, 34, 35, 36, 37, 38, 39, 40, 41, 42, 43, 44, 45, 46, 47, 48, 49] [] rfl rfl (by decide +kernel) (by decide +kernel) (va_runV (As := []) (rest := []) ⟨hx, hb, hml, hown, hts⟩ (k_X8_perform l dC dI cB cC cI cJ cZ cP oA rA H.size  σ_64 _ hu_66) (cwV 0 hts (g_gV wq_1118 wq_1119 wq_2082 wq_12 wq_1120) rfl rfl rfl (by decide +kernel) ⟨Nat.le_of_ble_eq_true rfl, Nat.le_of_ble_eq_true rfl⟩) (g_preV g_bl0 hK hPc hDc hS hE hFc g_to0 (q0 := 0) (ci := 8) rfl rfl) rfl rfl hl.1 rfl (lv_room (Nat.le_of_ble_eq_true rfl)) dX8_act_116 ⟨Nat.le_of_ble_eq_true rfl, Nat.le_of_ble_eq_true rfl⟩) (fun r9 u9 H locs hw9 hP' hD' hS => ?_)
          clear hPc hDc hFc
          subst hw9
          have hP : va_P (dC, dI) vwCl (b_e cB cC cI cJ cZ oA rA u_66.2 ++ b_k cB cC cI cJ cZ oA rA u_66.2 ++ b_p cB cC cI cJ cZ oA rA u_66.2 ++ b_o cB cC cI cJ cZ oA rA u_66.2 ++ b_s cB cC cI cJ cZ oA rA u_66.2 ++ b_c cB cC cI cJ cZ oA rA u_66.2 ++ b_t cB cC cI cJ cZ oA rA u_66.2 ++ b_d cB cC cI cJ cZ oA rA u_66.2) H := hP'
          clear hP' hD'
          refine lv_istore_n (lv' := [(1, .int u_66.1), (0, .ref (oA 11)), (2, .int s_26.2.1)]) hx hb dX8_act_119 rfl hl (by decide) rfl (fun ls hl => ?_)
          exact Jj_50 u_66.1 u_66.2 hF_67 _ _ hP hS ls (lv_sub hl [1, 0, 2] rfl)
theorem dX8_tellBreak_0 : decode cX8_tellBreak 0 = .ok (.aload_n 0, 1) := by decide +kernel
theorem dX8_tellBreak_1 : decode cX8_tellBreak 1 = .ok (.getfield 26, 3) := by decide +kernel
theorem dX8_tellBreak_4 : decode cX8_tellBreak 4 = .ok (.invokevirtual 242, 3) := by decide +kernel
theorem dX8_tellBreak_7 : decode cX8_tellBreak 7 = .ok (.aload_n 0, 1) := by decide +kernel
theorem dX8_tellBreak_8 : decode cX8_tellBreak 8 = .ok (.getfield 26, 3) := by decide +kernel
theorem dX8_tellBreak_11 : decode cX8_tellBreak 11 = .ok (.ldc 245, 2) := by decide +kernel
theorem dX8_tellBreak_13 : decode cX8_tellBreak 13 = .ok (.invokevirtual 233, 3) := by decide +kernel
theorem dX8_tellBreak_16 : decode cX8_tellBreak 16 = .ok (.aload_n 0, 1) := by decide +kernel
theorem dX8_tellBreak_17 : decode cX8_tellBreak 17 = .ok (.getfield 26, 3) := by decide +kernel
theorem dX8_tellBreak_20 : decode cX8_tellBreak 20 = .ok (.aload_n 0, 1) := by decide +kernel
theorem dX8_tellBreak_21 : decode cX8_tellBreak 21 = .ok (.getfield 30, 3) := by decide +kernel
theorem dX8_tellBreak_24 : decode cX8_tellBreak 24 = .ok (.getfield 247, 3) := by decide +kernel
theorem dX8_tellBreak_27 : decode cX8_tellBreak 27 = .ok (.invokevirtual 250, 3) := by decide +kernel
theorem dX8_tellBreak_30 : decode cX8_tellBreak 30 = .ok (.aload_n 0, 1) := by decide +kernel
theorem dX8_tellBreak_31 : decode cX8_tellBreak 31 = .ok (.getfield 26, 3) := by decide +kernel
theorem dX8_tellBreak_34 : decode cX8_tellBreak 34 = .ok (.ldc 253, 2) := by decide +kernel
theorem dX8_tellBreak_36 : decode cX8_tellBreak 36 = .ok (.invokevirtual 65, 3) := by decide +kernel
theorem dX8_tellBreak_39 : decode cX8_tellBreak 39 = .ok (.return_, 1) := by decide +kernel
def F_X8_tellBreak  (Γ : HS) : HR :=
  (F_X5_wipe Γ).bind fun u_1 =>
  bnd (mrg (fun j => j == 8) Γ u_1.2) fun σ_3 =>
  (F_X5_text ([91, 98, 114, 101, 97, 107, 32] : List Int32) σ_3).bind fun u_6 =>
  bnd (mrg (fun j => j == 8) σ_3 u_6.2) fun σ_8 =>
  (F_X5_number ((σ_8 10).1 5) σ_8).bind fun u_10 =>
  bnd (mrg (fun j => j == 8) σ_8 u_10.2) fun σ_12 =>
  (F_X5_line ([93] : List Int32) σ_12).bind fun u_15 =>
  bnd (mrg (fun j => j == 8) σ_12 u_15.2) fun σ_17 =>
  some (0, σ_17)
set_option maxHeartbeats 4000000 in
set_option maxRecDepth 100000 in
theorem k_X8_tellBreak (l : Launch) (dC : Nat → ClassId) (dI : Nat → Nat → Nat) (cB cC cI cJ cZ cP : ClassId) (oA : Nat → Nat) (rA : Nat → Nat → Nat) (sz : Nat)   (Γ : HS) (res : Int32 × HS) (hF : F_X8_tellBreak  Γ = some res) : Met l yX8_tellBreak (g_ws yX8_tellBreak cX8_tellBreak 1 none) ({ frames := 7, cells := 0, slots := 0, locals := 168 }) (va_Pc [.ref (oA 11)] (g_B (dC, dI) [(cB, .byte), (cC, .char), (cI, .int), (cJ, .long), (cZ, .boolean), (cP, .object "StoryHouse$Play")] sz (b_e cB cC cI cJ cZ oA rA Γ ++ b_k cB cC cI cJ cZ oA rA Γ ++ b_p cB cC cI cJ cZ oA rA Γ ++ b_o cB cC cI cJ cZ oA rA Γ ++ b_s cB cC cI cJ cZ oA rA Γ ++ b_c cB cC cI cJ cZ oA rA Γ ++ b_t cB cC cI cJ cZ oA rA Γ ++ b_d cB cC cI cJ cZ oA rA Γ) g_0)) (va_Qv (fun (_ : Unit) => True) (g_Bo (dC, dI) (va_A (b_e cB cC cI cJ cZ oA rA Γ ++ b_k cB cC cI cJ cZ oA rA Γ ++ b_p cB cC cI cJ cZ oA rA Γ ++ b_o cB cC cI cJ cZ oA rA Γ ++ b_s cB cC cI cJ cZ oA rA Γ ++ b_c cB cC cI cJ cZ oA rA Γ ++ b_t cB cC cI cJ cZ oA rA Γ ++ b_d cB cC cI cJ cZ oA rA Γ) sz) (fun (_ : Unit) => (b_e cB cC cI cJ cZ oA rA res.2 ++ b_k cB cC cI cJ cZ oA rA res.2 ++ b_p cB cC cI cJ cZ oA rA res.2 ++ b_o cB cC cI cJ cZ oA rA res.2 ++ b_s cB cC cI cJ cZ oA rA res.2 ++ b_c cB cC cI cJ cZ oA rA res.2 ++ b_t cB cC cI cJ cZ oA rA res.2 ++ b_d cB cC cI cJ cZ oA rA res.2))) (va_A (b_e cB cC cI cJ cZ oA rA Γ ++ b_k cB cC cI cJ cZ oA rA Γ ++ b_p cB cC cI cJ cZ oA rA Γ ++ b_o cB cC cI cJ cZ oA rA Γ ++ b_s cB cC cI cJ cZ oA rA Γ ++ b_c cB cC cI cJ cZ oA rA Γ ++ b_t cB cC cI cJ cZ oA rA Γ ++ b_d cB cC cI cJ cZ oA rA Γ) sz)) 0 0 (va_A (b_e cB cC cI cJ cZ oA rA Γ ++ b_k cB cC cI cJ cZ oA rA Γ ++ b_p cB cC cI cJ cZ oA rA Γ ++ b_o cB cC cI cJ cZ oA rA Γ ++ b_s cB cC cI cJ cZ oA rA Γ ++ b_c cB cC cI cJ cZ oA rA Γ ++ b_t cB cC cI cJ cZ oA rA Γ ++ b_d cB cC cI cJ cZ oA rA Γ) sz) := by
  refine Met.ofW (cc := cX8_tellBreak) (maxL := 1) (ret := none) (by decide) rfl ?_
  intro p e s m args below meth c s₁ B hml hv
  obtain ⟨rfl, hsz, hP, hK, hD0, hE, hX⟩ := hv
  have hx := B.exec
  have hb := B.bytes
  have hr := B.returns
  have hts0 := atoms_spec (ws := g_ws yX8_tellBreak cX8_tellBreak 1 none) B.pre
  have hts : ∀ w ∈ lw_good, w.before ([.ref (oA 11)] : List Value).toArray s = true := fun w z => hts0 w (List.mem_cons_of_mem _ z)
  have hown : s.vm.findClass RX8 = some m.cls := findClass_of_methodNamed B.named
  have hlocks := B.notSynchronized
  subst hsz
  have hD1 := hD0.self (sz := s.heap.size)
  generalize hAe : va_A (b_e cB cC cI cJ cZ oA rA Γ ++ b_k cB cC cI cJ cZ oA rA Γ ++ b_p cB cC cI cJ cZ oA rA Γ ++ b_o cB cC cI cJ cZ oA rA Γ ++ b_s cB cC cI cJ cZ oA rA Γ ++ b_c cB cC cI cJ cZ oA rA Γ ++ b_t cB cC cI cJ cZ oA rA Γ ++ b_d cB cC cI cJ cZ oA rA Γ) s.heap.size = A at hD1 hE hX ⊢
  have hA : ∀ q : Nat, s.heap.size ≤ q → A q := fun q z => by rw [← hAe]; exact Or.inr z
  have hDD : ∀ Γ : HS, va_D A (b_e cB cC cI cJ cZ oA rA Γ ++ b_k cB cC cI cJ cZ oA rA Γ ++ b_p cB cC cI cJ cZ oA rA Γ ++ b_o cB cC cI cJ cZ oA rA Γ ++ b_s cB cC cI cJ cZ oA rA Γ ++ b_c cB cC cI cJ cZ oA rA Γ ++ b_t cB cC cI cJ cZ oA rA Γ ++ b_d cB cC cI cJ cZ oA rA Γ) := fun Γ9 => va_D_fst (ws := (b_e cB cC cI cJ cZ oA rA Γ ++ b_k cB cC cI cJ cZ oA rA Γ ++ b_p cB cC cI cJ cZ oA rA Γ ++ b_o cB cC cI cJ cZ oA rA Γ ++ b_s cB cC cI cJ cZ oA rA Γ ++ b_c cB cC cI cJ cZ oA rA Γ ++ b_t cB cC cI cJ cZ oA rA Γ ++ b_d cB cC cI cJ cZ oA rA Γ)) (ws' := (b_e cB cC cI cJ cZ oA rA Γ9 ++ b_k cB cC cI cJ cZ oA rA Γ9 ++ b_p cB cC cI cJ cZ oA rA Γ9 ++ b_o cB cC cI cJ cZ oA rA Γ9 ++ b_s cB cC cI cJ cZ oA rA Γ9 ++ b_c cB cC cI cJ cZ oA rA Γ9 ++ b_t cB cC cI cJ cZ oA rA Γ9 ++ b_d cB cC cI cJ cZ oA rA Γ9)) rfl hD1
  have hN := hE.1
  have hS : va_S A s.heap s.heap [] := va_S.rf
  have hl := lv_entry ([.ref (oA 11)]) (n := 1) (Nat.le_of_ble_eq_true rfl)
  rw [lg_entry_eq]
  generalize (lg_sl ([.ref (oA 11)]) ++ List.replicate (1 - (lg_sl ([.ref (oA 11)])).length) Slot.unset).toArray = ls at hl ⊢
  have hl : lv_has ls 1 [(0, .ref (oA 11))] := hl
  unfold F_X8_tellBreak at hF
  refine lv_aload_n hx hb dX8_tellBreak_0 rfl (lv_at hl 0 rfl) ?_
  refine va_get (D := (dC, dI)) (ci := 8) (v := .ref (oA 8)) (C := RX8) (T := TX8) (N := 16) hx hb hts ii_X8 hown hK hP 0 rfl rfl 1 (by decide) (hts (.fieldLink RX8 26 "StoryHouse$Teller" "told" "LStoryHouse$Out;") wq_287) (fun _ h9 => h9) rfl dX8_tellBreak_1 ?_
  obtain ⟨u_1, hu_1, hF_2⟩ := Option.bind_eq_some_iff.mp hF
  clear hF
  have hPc := hP.sub (ws' := (b_o cB cC cI cJ cZ oA rA Γ)) [17, 18] rfl
  have hDc := (hDD Γ).sub (ws' := (b_o cB cC cI cJ cZ oA rA Γ)) [17, 18] (by decide +kernel) rfl
  have hFc := va_free (wc := (b_o cB cC cI cJ cZ oA rA Γ)) (hDD Γ) hS hA [17, 18] rfl
  refine g_ofv (wc := (b_o cB cC cI cJ cZ oA rA Γ)) (wr := (b_e cB cC cI cJ cZ oA rA Γ ++ b_k cB cC cI cJ cZ oA rA Γ ++ b_p cB cC cI cJ cZ oA rA Γ ++ b_s cB cC cI cJ cZ oA rA Γ ++ b_c cB cC cI cJ cZ oA rA Γ ++ b_t cB cC cI cJ cZ oA rA Γ ++ b_d cB cC cI cJ cZ oA rA Γ)) hP (hDD Γ) hS hFc [17, 18] [0, 1, 2, 3, 4, 5, 6, 7, 8, 9, 10, 11, 12, 13, 14, 15, 16, 19, 20, 21, 22, 23, 24, 25, 26, 27, 28, 29, 30, 31, 32, 33, 34, 35, 36, 37, 38, 39, 40, 41, 42, 43, 44, 45, 46, 47, 48, 49] rfl rfl (by decide +kernel) (by decide +kernel) (va_runV (As := []) (rest := []) ⟨hx, hb, hml, hown, hts⟩ (k_X5_wipe l dC dI cB cC cI cJ cZ cP oA rA s.heap.size  Γ _ hu_1) (cwV 0 hts (g_gV wq_1262 wq_952 wq_953 wq_9 wq_954) rfl rfl rfl (by decide +kernel) ⟨Nat.le_of_ble_eq_true rfl, Nat.le_of_ble_eq_true rfl⟩) (g_preV g_bl0 hK hPc hDc hS hE hFc g_to0 (q0 := 0) (ci := 5) rfl rfl) rfl rfl hl.1 rfl (lv_room (Nat.le_of_ble_eq_true rfl)) dX8_tellBreak_4 ⟨Nat.le_of_ble_eq_true rfl, Nat.le_of_ble_eq_true rfl⟩) (fun u9 H locs hw9 hP' hD' hS => ?_)
  clear hPc hDc hFc
  obtain ⟨σ_3, eσ_3, hF_4⟩ := bnd_e hF_2
  clear hF_2
  have hP : va_P (dC, dI) vwCl (b_e cB cC cI cJ cZ oA rA σ_3 ++ b_k cB cC cI cJ cZ oA rA σ_3 ++ b_p cB cC cI cJ cZ oA rA σ_3 ++ b_o cB cC cI cJ cZ oA rA σ_3 ++ b_s cB cC cI cJ cZ oA rA σ_3 ++ b_c cB cC cI cJ cZ oA rA σ_3 ++ b_t cB cC cI cJ cZ oA rA σ_3 ++ b_d cB cC cI cJ cZ oA rA σ_3) H := by rw [eσ_3]; exact hP'.sub [0, 1, 2, 3, 4, 5, 6, 7, 8, 9, 10, 11, 12, 13, 14, 15, 16, 48, 49, 17, 18, 19, 20, 21, 22, 23, 24, 25, 26, 27, 28, 29, 30, 31, 32, 33, 34, 35, 36, 37, 38, 39, 40, 41, 42, 43, 44, 45, 46, 47] rfl
  clear hP' hD'
  refine lv_aload_n hx hb dX8_tellBreak_7 rfl (lv_at hl 0 rfl) ?_
  refine va_get (D := (dC, dI)) (ci := 8) (v := .ref (oA 8)) (C := RX8) (T := TX8) (N := 16) hx hb hts ii_X8 hown hK hP 0 rfl rfl 1 (by decide) (hts (.fieldLink RX8 26 "StoryHouse$Teller" "told" "LStoryHouse$Out;") wq_287) (fun _ h9 => h9) rfl dX8_tellBreak_8 ?_
  obtain ⟨q_5, vq_5, hRq_5, hSq_5⟩ := hE.2.2.2.2 _ (List.mem_of_getElem? (i := 68) rfl)
  refine va_ldcS (own := RX8) (tx := "[break ") hx hb hown hRq_5 dX8_tellBreak_11 ?_
  obtain ⟨u_6, hu_6, hF_7⟩ := Option.bind_eq_some_iff.mp hF_4
  clear hF_4
  have hPc := hP.sub (ws' := (b_o cB cC cI cJ cZ oA rA σ_3)) [17, 18] rfl
  have hDc := (hDD σ_3).sub (ws' := (b_o cB cC cI cJ cZ oA rA σ_3)) [17, 18] (by decide +kernel) rfl
  have hFc := va_free (wc := (b_o cB cC cI cJ cZ oA rA σ_3)) (hDD σ_3) hS hA [17, 18] rfl
  refine g_ofv (wc := (b_o cB cC cI cJ cZ oA rA σ_3)) (wr := (b_e cB cC cI cJ cZ oA rA σ_3 ++ b_k cB cC cI cJ cZ oA rA σ_3 ++ b_p cB cC cI cJ cZ oA rA σ_3 ++ b_s cB cC cI cJ cZ oA rA σ_3 ++ b_c cB cC cI cJ cZ oA rA σ_3 ++ b_t cB cC cI cJ cZ oA rA σ_3 ++ b_d cB cC cI cJ cZ oA rA σ_3)) hP (hDD σ_3) hS hFc [17, 18] [0, 1, 2, 3, 4, 5, 6, 7, 8, 9, 10, 11, 12, 13, 14, 15, 16, 19, 20, 21, 22, 23, 24, 25, 26, 27, 28, 29, 30, 31, 32, 33, 34, 35, 36, 37, 38, 39, 40, 41, 42, 43, 44, 45, 46, 47, 48, 49] rfl rfl (by decide +kernel) (by decide +kernel) (va_runV (As := [.ref q_5]) (rest := []) ⟨hx, hb, hml, hown, hts⟩ (k_X5_text l dC dI cB cC cI cJ cZ cP oA rA H.size q_5 _ ([91, 98, 114, 101, 97, 107, 32] : List Int32) σ_3 _ hu_6) (cwV 1 hts (g_gV wq_1031 wq_1003 wq_1004 wq_9 wq_1005) rfl rfl rfl (by decide +kernel) ⟨Nat.le_of_ble_eq_true rfl, Nat.le_of_ble_eq_true rfl⟩) (g_preV g_blS hK hPc hDc hS hE hFc (g_toS hSq_5 hS hFc) (q0 := 0) (ci := 5) rfl rfl) rfl rfl hl.1 rfl (lv_room (Nat.le_of_ble_eq_true rfl)) dX8_tellBreak_13 ⟨Nat.le_of_ble_eq_true rfl, Nat.le_of_ble_eq_true rfl⟩) (fun u9 H locs hw9 hP' hD' hS => ?_)
  clear hPc hDc hFc
  obtain ⟨σ_8, eσ_8, hF_9⟩ := bnd_e hF_7
  clear hF_7
  have hP : va_P (dC, dI) vwCl (b_e cB cC cI cJ cZ oA rA σ_8 ++ b_k cB cC cI cJ cZ oA rA σ_8 ++ b_p cB cC cI cJ cZ oA rA σ_8 ++ b_o cB cC cI cJ cZ oA rA σ_8 ++ b_s cB cC cI cJ cZ oA rA σ_8 ++ b_c cB cC cI cJ cZ oA rA σ_8 ++ b_t cB cC cI cJ cZ oA rA σ_8 ++ b_d cB cC cI cJ cZ oA rA σ_8) H := by rw [eσ_8]; exact hP'.sub [0, 1, 2, 3, 4, 5, 6, 7, 8, 9, 10, 11, 12, 13, 14, 15, 16, 48, 49, 17, 18, 19, 20, 21, 22, 23, 24, 25, 26, 27, 28, 29, 30, 31, 32, 33, 34, 35, 36, 37, 38, 39, 40, 41, 42, 43, 44, 45, 46, 47] rfl
  clear hP' hD'
  refine lv_aload_n hx hb dX8_tellBreak_16 rfl (lv_at hl 0 rfl) ?_
  refine va_get (D := (dC, dI)) (ci := 8) (v := .ref (oA 8)) (C := RX8) (T := TX8) (N := 16) hx hb hts ii_X8 hown hK hP 0 rfl rfl 1 (by decide) (hts (.fieldLink RX8 26 "StoryHouse$Teller" "told" "LStoryHouse$Out;") wq_287) (fun _ h9 => h9) rfl dX8_tellBreak_17 ?_
  refine lv_aload_n hx hb dX8_tellBreak_20 rfl (lv_at hl 0 rfl) ?_
  refine va_get (D := (dC, dI)) (ci := 8) (v := .ref (oA 10)) (C := RX8) (T := TX8) (N := 16) hx hb hts ii_X8 hown hK hP 0 rfl rfl 2 (by decide) (hts (.fieldLink RX8 30 "StoryHouse$Teller" "machine" "LStoryHouse$Machine;") wq_288) (fun _ h9 => h9) rfl dX8_tellBreak_21 ?_
  refine va_get (D := (dC, dI)) (ci := 3) (v := .int ((σ_8 10).1 5)) (C := RX3) (T := TX3) (N := 16) hx hb hts ii_X3 hown hK hP 4 rfl rfl 5 (by decide) (hts (.fieldLink RX8 247 "StoryHouse$Machine" "broke" "I") wq_269) (fun _ h9 => h9) rfl dX8_tellBreak_24 ?_
  obtain ⟨u_10, hu_10, hF_11⟩ := Option.bind_eq_some_iff.mp hF_9
  clear hF_9
  have hPc := hP.sub (ws' := (b_o cB cC cI cJ cZ oA rA σ_8)) [17, 18] rfl
  have hDc := (hDD σ_8).sub (ws' := (b_o cB cC cI cJ cZ oA rA σ_8)) [17, 18] (by decide +kernel) rfl
  have hFc := va_free (wc := (b_o cB cC cI cJ cZ oA rA σ_8)) (hDD σ_8) hS hA [17, 18] rfl
  refine g_ofv (wc := (b_o cB cC cI cJ cZ oA rA σ_8)) (wr := (b_e cB cC cI cJ cZ oA rA σ_8 ++ b_k cB cC cI cJ cZ oA rA σ_8 ++ b_p cB cC cI cJ cZ oA rA σ_8 ++ b_s cB cC cI cJ cZ oA rA σ_8 ++ b_c cB cC cI cJ cZ oA rA σ_8 ++ b_t cB cC cI cJ cZ oA rA σ_8 ++ b_d cB cC cI cJ cZ oA rA σ_8)) hP (hDD σ_8) hS hFc [17, 18] [0, 1, 2, 3, 4, 5, 6, 7, 8, 9, 10, 11, 12, 13, 14, 15, 16, 19, 20, 21, 22, 23, 24, 25, 26, 27, 28, 29, 30, 31, 32, 33, 34, 35, 36, 37, 38, 39, 40, 41, 42, 43, 44, 45, 46, 47, 48, 49] rfl rfl (by decide +kernel) (by decide +kernel) (va_runV (As := [.int ((σ_8 10).1 5)]) (rest := []) ⟨hx, hb, hml, hown, hts⟩ (k_X5_number l dC dI cB cC cI cJ cZ cP oA rA H.size  ((σ_8 10).1 5) σ_8 _ hu_10) (cwV 1 hts (g_gV wq_1263 wq_1193 wq_1194 wq_9 wq_1195) rfl rfl rfl (by decide +kernel) ⟨Nat.le_of_ble_eq_true rfl, Nat.le_of_ble_eq_true rfl⟩) (g_preV g_bl0 hK hPc hDc hS hE hFc g_to0 (q0 := 0) (ci := 5) rfl rfl) rfl rfl hl.1 rfl (lv_room (Nat.le_of_ble_eq_true rfl)) dX8_tellBreak_27 ⟨Nat.le_of_ble_eq_true rfl, Nat.le_of_ble_eq_true rfl⟩) (fun u9 H locs hw9 hP' hD' hS => ?_)
  clear hPc hDc hFc
  obtain ⟨σ_12, eσ_12, hF_13⟩ := bnd_e hF_11
  clear hF_11
  have hP : va_P (dC, dI) vwCl (b_e cB cC cI cJ cZ oA rA σ_12 ++ b_k cB cC cI cJ cZ oA rA σ_12 ++ b_p cB cC cI cJ cZ oA rA σ_12 ++ b_o cB cC cI cJ cZ oA rA σ_12 ++ b_s cB cC cI cJ cZ oA rA σ_12 ++ b_c cB cC cI cJ cZ oA rA σ_12 ++ b_t cB cC cI cJ cZ oA rA σ_12 ++ b_d cB cC cI cJ cZ oA rA σ_12) H := by rw [eσ_12]; exact hP'.sub [0, 1, 2, 3, 4, 5, 6, 7, 8, 9, 10, 11, 12, 13, 14, 15, 16, 48, 49, 17, 18, 19, 20, 21, 22, 23, 24, 25, 26, 27, 28, 29, 30, 31, 32, 33, 34, 35, 36, 37, 38, 39, 40, 41, 42, 43, 44, 45, 46, 47] rfl
  clear hP' hD'
  refine lv_aload_n hx hb dX8_tellBreak_30 rfl (lv_at hl 0 rfl) ?_
  refine va_get (D := (dC, dI)) (ci := 8) (v := .ref (oA 8)) (C := RX8) (T := TX8) (N := 16) hx hb hts ii_X8 hown hK hP 0 rfl rfl 1 (by decide) (hts (.fieldLink RX8 26 "StoryHouse$Teller" "told" "LStoryHouse$Out;") wq_287) (fun _ h9 => h9) rfl dX8_tellBreak_31 ?_
  obtain ⟨q_14, vq_14, hRq_14, hSq_14⟩ := hE.2.2.2.2 _ (List.mem_of_getElem? (i := 69) rfl)
  refine va_ldcS (own := RX8) (tx := "]") hx hb hown hRq_14 dX8_tellBreak_34 ?_
  obtain ⟨u_15, hu_15, hF_16⟩ := Option.bind_eq_some_iff.mp hF_13
  clear hF_13
  have hPc := hP.sub (ws' := (b_o cB cC cI cJ cZ oA rA σ_12)) [17, 18] rfl
  have hDc := (hDD σ_12).sub (ws' := (b_o cB cC cI cJ cZ oA rA σ_12)) [17, 18] (by decide +kernel) rfl
  have hFc := va_free (wc := (b_o cB cC cI cJ cZ oA rA σ_12)) (hDD σ_12) hS hA [17, 18] rfl
  refine g_ofv (wc := (b_o cB cC cI cJ cZ oA rA σ_12)) (wr := (b_e cB cC cI cJ cZ oA rA σ_12 ++ b_k cB cC cI cJ cZ oA rA σ_12 ++ b_p cB cC cI cJ cZ oA rA σ_12 ++ b_s cB cC cI cJ cZ oA rA σ_12 ++ b_c cB cC cI cJ cZ oA rA σ_12 ++ b_t cB cC cI cJ cZ oA rA σ_12 ++ b_d cB cC cI cJ cZ oA rA σ_12)) hP (hDD σ_12) hS hFc [17, 18] [0, 1, 2, 3, 4, 5, 6, 7, 8, 9, 10, 11, 12, 13, 14, 15, 16, 19, 20, 21, 22, 23, 24, 25, 26, 27, 28, 29, 30, 31, 32, 33, 34, 35, 36, 37, 38, 39, 40, 41, 42, 43, 44, 45, 46, 47, 48, 49] rfl rfl (by decide +kernel) (by decide +kernel) (va_runV (As := [.ref q_14]) (rest := []) ⟨hx, hb, hml, hown, hts⟩ (k_X5_line l dC dI cB cC cI cJ cZ cP oA rA H.size q_14 _ ([93] : List Int32) σ_12 _ hu_15) (cwV 1 hts (g_gV wq_998 wq_999 wq_1000 wq_9 wq_1001) rfl rfl rfl (by decide +kernel) ⟨Nat.le_of_ble_eq_true rfl, Nat.le_of_ble_eq_true rfl⟩) (g_preV g_blS hK hPc hDc hS hE hFc (g_toS hSq_14 hS hFc) (q0 := 0) (ci := 5) rfl rfl) rfl rfl hl.1 rfl (lv_room (Nat.le_of_ble_eq_true rfl)) dX8_tellBreak_36 ⟨Nat.le_of_ble_eq_true rfl, Nat.le_of_ble_eq_true rfl⟩) (fun u9 H locs hw9 hP' hD' hS => ?_)
  clear hPc hDc hFc
  obtain ⟨σ_17, eσ_17, hF_18⟩ := bnd_e hF_16
  clear hF_16
  have hP : va_P (dC, dI) vwCl (b_e cB cC cI cJ cZ oA rA σ_17 ++ b_k cB cC cI cJ cZ oA rA σ_17 ++ b_p cB cC cI cJ cZ oA rA σ_17 ++ b_o cB cC cI cJ cZ oA rA σ_17 ++ b_s cB cC cI cJ cZ oA rA σ_17 ++ b_c cB cC cI cJ cZ oA rA σ_17 ++ b_t cB cC cI cJ cZ oA rA σ_17 ++ b_d cB cC cI cJ cZ oA rA σ_17) H := by rw [eσ_17]; exact hP'.sub [0, 1, 2, 3, 4, 5, 6, 7, 8, 9, 10, 11, 12, 13, 14, 15, 16, 48, 49, 17, 18, 19, 20, 21, 22, 23, 24, 25, 26, 27, 28, 29, 30, 31, 32, 33, 34, 35, 36, 37, 38, 39, 40, 41, 42, 43, 44, 45, 46, 47] rfl
  clear hP' hD'
  have h9 := Option.some.inj hF_18
  subst h9
  exact W.vret hx hb hr (fun t ht hW => ⟨⟨(), rfl, trivial, m_end ht hP, hDD _⟩, hS.F ht⟩) hS.2.2 dX8_tellBreak_39
theorem dX9_putUnit_0 : decode cX9_putUnit 0 = .ok (.aload_n 0, 1) := by decide +kernel
theorem dX9_putUnit_1 : decode cX9_putUnit 1 = .ok (.getfield 29, 3) := by decide +kernel
theorem dX9_putUnit_4 : decode cX9_putUnit 4 = .ok (.ifCond .lt 36, 3) := by decide +kernel
theorem dX9_putUnit_7 : decode cX9_putUnit 7 = .ok (.aload_n 0, 1) := by decide +kernel
theorem dX9_putUnit_8 : decode cX9_putUnit 8 = .ok (.getfield 29, 3) := by decide +kernel
theorem dX9_putUnit_11 : decode cX9_putUnit 11 = .ok (.aload_n 0, 1) := by decide +kernel
theorem dX9_putUnit_12 : decode cX9_putUnit 12 = .ok (.getfield 11, 3) := by decide +kernel
theorem dX9_putUnit_15 : decode cX9_putUnit 15 = .ok (.arraylength, 1) := by decide +kernel
theorem dX9_putUnit_16 : decode cX9_putUnit 16 = .ok (.if_icmp .ge 24, 3) := by decide +kernel
theorem dX9_putUnit_19 : decode cX9_putUnit 19 = .ok (.aload_n 0, 1) := by decide +kernel
theorem dX9_putUnit_20 : decode cX9_putUnit 20 = .ok (.getfield 11, 3) := by decide +kernel
theorem dX9_putUnit_23 : decode cX9_putUnit 23 = .ok (.aload_n 0, 1) := by decide +kernel
theorem dX9_putUnit_24 : decode cX9_putUnit 24 = .ok (.getfield 29, 3) := by decide +kernel
theorem dX9_putUnit_27 : decode cX9_putUnit 27 = .ok (.iload_n 1, 1) := by decide +kernel
theorem dX9_putUnit_28 : decode cX9_putUnit 28 = .ok (.i2c, 1) := by decide +kernel
theorem dX9_putUnit_29 : decode cX9_putUnit 29 = .ok (.castore, 1) := by decide +kernel
theorem dX9_putUnit_30 : decode cX9_putUnit 30 = .ok (.aload_n 0, 1) := by decide +kernel
theorem dX9_putUnit_31 : decode cX9_putUnit 31 = .ok (.dup, 1) := by decide +kernel
theorem dX9_putUnit_32 : decode cX9_putUnit 32 = .ok (.getfield 29, 3) := by decide +kernel
theorem dX9_putUnit_35 : decode cX9_putUnit 35 = .ok (.iconst 1, 1) := by decide +kernel
theorem dX9_putUnit_36 : decode cX9_putUnit 36 = .ok (.iadd, 1) := by decide +kernel
theorem dX9_putUnit_37 : decode cX9_putUnit 37 = .ok (.putfield 29, 3) := by decide +kernel
theorem dX9_putUnit_40 : decode cX9_putUnit 40 = .ok (.return_, 1) := by decide +kernel
def F_X9_putUnit (p0 : Int32) (Γ : HS) : HR :=
  if ((Γ 6).1 1) < 0 then (
    some (0, Γ)
  ) else (
    if 16000 ≤ ((Γ 6).1 1) then (
      some (0, Γ)
    ) else (
      bnd ((p0.toUInt32 % 65536).toInt32) fun (x_7 : Int32) =>
      if ((Γ 6).1 1) < 0 ∨ 16000 ≤ ((Γ 6).1 1).toNatClampNeg then none else
      bnd (cA' Γ 6 0 (upd ((Γ 6).2.1 0) ((Γ 6).1 1).toNatClampNeg (vp_nar .char x_7))) fun σ_11 =>
      bnd (cI' σ_11 6 1 (((σ_11 6).1 1) + 1)) fun σ_13 =>
      some (0, σ_13)
    )
  )
set_option maxHeartbeats 4000000 in
set_option maxRecDepth 100000 in
theorem k_X9_putUnit (l : Launch) (dC : Nat → ClassId) (dI : Nat → Nat → Nat) (cB cC cI cJ cZ cP : ClassId) (oA : Nat → Nat) (rA : Nat → Nat → Nat) (sz : Nat)  (p0 : Int32) (Γ : HS) (res : Int32 × HS) (hF : F_X9_putUnit p0 Γ = some res) : Met l yX9_putUnit (g_ws yX9_putUnit cX9_putUnit 2 none) ({ frames := 1, cells := 0, slots := 0, locals := 40 }) (va_Pc [.ref (oA 6), .int p0] (g_B (dC, dI) [(cB, .byte), (cC, .char), (cI, .int), (cJ, .long), (cZ, .boolean), (cP, .object "StoryHouse$Play")] sz (b_t cB cC cI cJ cZ oA rA Γ) g_0)) (va_Qv (fun (_ : Unit) => True) (g_Bo (dC, dI) (va_A (b_t cB cC cI cJ cZ oA rA Γ) sz) (fun (_ : Unit) => (b_t cB cC cI cJ cZ oA rA res.2))) (va_A (b_t cB cC cI cJ cZ oA rA Γ) sz)) 0 0 (va_A (b_t cB cC cI cJ cZ oA rA Γ) sz) := by
  refine Met.ofW (cc := cX9_putUnit) (maxL := 2) (ret := none) (by decide) rfl ?_
  intro p e s m args below meth c s₁ B hml hv
  obtain ⟨rfl, hsz, hP, hK, hD0, hE, hX⟩ := hv
  have hx := B.exec
  have hb := B.bytes
  have hr := B.returns
  have hts0 := atoms_spec (ws := g_ws yX9_putUnit cX9_putUnit 2 none) B.pre
  have hts : ∀ w ∈ lw_good, w.before ([.ref (oA 6), .int p0] : List Value).toArray s = true := fun w z => hts0 w (List.mem_cons_of_mem _ z)
  have hown : s.vm.findClass RX9 = some m.cls := findClass_of_methodNamed B.named
  have hlocks := B.notSynchronized
  subst hsz
  have hD1 := hD0.self (sz := s.heap.size)
  generalize hAe : va_A (b_t cB cC cI cJ cZ oA rA Γ) s.heap.size = A at hD1 hE hX ⊢
  have hA : ∀ q : Nat, s.heap.size ≤ q → A q := fun q z => by rw [← hAe]; exact Or.inr z
  have hDD : ∀ Γ : HS, va_D A (b_t cB cC cI cJ cZ oA rA Γ) := fun Γ9 => va_D_fst (ws := (b_t cB cC cI cJ cZ oA rA Γ)) (ws' := (b_t cB cC cI cJ cZ oA rA Γ9)) rfl hD1
  have hN := hE.1
  have hS : va_S A s.heap s.heap [] := va_S.rf
  have hl := lv_entry ([.ref (oA 6), .int p0]) (n := 2) (Nat.le_of_ble_eq_true rfl)
  rw [lg_entry_eq]
  generalize (lg_sl ([.ref (oA 6), .int p0]) ++ List.replicate (2 - (lg_sl ([.ref (oA 6), .int p0])).length) Slot.unset).toArray = ls at hl ⊢
  have hl : lv_has ls 2 [(0, .ref (oA 6)), (1, .int p0)] := hl
  unfold F_X9_putUnit at hF
  refine lv_aload_n hx hb dX9_putUnit_0 rfl (lv_at hl 0 rfl) ?_
  refine va_get (D := (dC, dI)) (ci := 9) (v := .int ((Γ 6).1 1)) (C := RX9) (T := TX9) (N := 9) hx hb hts ii_X9 hown hK hP 0 rfl rfl 1 (by decide) (hts (.fieldLink RX9 29 "StoryHouse$Texts" "unitCount" "I") wq_135) (fun _ h9 => h9) rfl dX9_putUnit_1 ?_
  refine lv_if_lt (tgt := 40) hx hb dX9_putUnit_4 (by decide) (fun c_1 => ?_) (fun c_1 => ?_)
  · have hF_2 := ipos c_1 hF
    clear hF
    have h9 := Option.some.inj hF_2
    subst h9
    exact W.vret hx hb hr (fun t ht hW => ⟨⟨(), rfl, trivial, m_end ht hP, hDD _⟩, hS.F ht⟩) hS.2.2 dX9_putUnit_40
  · have hF_3 := ineg c_1 hF
    clear hF
    refine lv_aload_n hx hb dX9_putUnit_7 rfl (lv_at hl 0 rfl) ?_
    refine va_get (D := (dC, dI)) (ci := 9) (v := .int ((Γ 6).1 1)) (C := RX9) (T := TX9) (N := 9) hx hb hts ii_X9 hown hK hP 0 rfl rfl 1 (by decide) (hts (.fieldLink RX9 29 "StoryHouse$Texts" "unitCount" "I") wq_135) (fun _ h9 => h9) rfl dX9_putUnit_8 ?_
    refine lv_aload_n hx hb dX9_putUnit_11 rfl (lv_at hl 0 rfl) ?_
    refine va_get (D := (dC, dI)) (ci := 9) (v := .ref (rA 6 0)) (C := RX9) (T := TX9) (N := 9) hx hb hts ii_X9 hown hK hP 0 rfl rfl 0 (by decide) (hts (.fieldLink RX9 11 "StoryHouse$Texts" "units" "[C") wq_134) (fun _ h9 => h9) rfl dX9_putUnit_12 ?_
    refine va_alen (v := 16000) hx hb hK hP 1 1 rfl rfl (by first | rfl | decide +kernel) dX9_putUnit_15 ?_
    refine lv_icmp_ge (tgt := 40) hx hb dX9_putUnit_16 (by decide) (fun c_4 => ?_) (fun c_4 => ?_)
    · have hF_5 := ipos c_4 hF_3
      clear hF_3
      have h9 := Option.some.inj hF_5
      subst h9
      exact W.vret hx hb hr (fun t ht hW => ⟨⟨(), rfl, trivial, m_end ht hP, hDD _⟩, hS.F ht⟩) hS.2.2 dX9_putUnit_40
    · have hF_6 := ineg c_4 hF_3
      clear hF_3
      refine lv_aload_n hx hb dX9_putUnit_19 rfl (lv_at hl 0 rfl) ?_
      refine va_get (D := (dC, dI)) (ci := 9) (v := .ref (rA 6 0)) (C := RX9) (T := TX9) (N := 9) hx hb hts ii_X9 hown hK hP 0 rfl rfl 0 (by decide) (hts (.fieldLink RX9 11 "StoryHouse$Texts" "units" "[C") wq_134) (fun _ h9 => h9) rfl dX9_putUnit_20 ?_
      refine lv_aload_n hx hb dX9_putUnit_23 rfl (lv_at hl 0 rfl) ?_
      refine va_get (D := (dC, dI)) (ci := 9) (v := .int ((Γ 6).1 1)) (C := RX9) (T := TX9) (N := 9) hx hb hts ii_X9 hown hK hP 0 rfl rfl 1 (by decide) (hts (.fieldLink RX9 29 "StoryHouse$Texts" "unitCount" "I") wq_135) (fun _ h9 => h9) rfl dX9_putUnit_24 ?_
      refine lv_iload_n hx hb dX9_putUnit_27 rfl (lv_at hl 1 rfl) ?_
      refine lv_i2c hx hb dX9_putUnit_28 rfl ?_
      obtain ⟨x_7, ex_7, hF_8⟩ := bnd_e hF_6
      clear hF_6
      refine m_top ex_7 ?_
      obtain ⟨g_9, hF_10⟩ := nif_e hF_8
      clear hF_8
      obtain ⟨σ_11, eσ_11, hF_12⟩ := bnd_e hF_10
      clear hF_10
      refine va_cast (f := (Γ 6).2.1 0) hx hb hK hP (hDD _) hS 1 1 rfl rfl g_9 dX9_putUnit_29 (fun H locs hP' _ hS => ?_)
      have hP : va_P (dC, dI) vwCl (b_t cB cC cI cJ cZ oA rA σ_11) H := by rw [eσ_11]; exact cs_t_t_0 ▸ hP'
      clear hP'
      refine lv_aload_n hx hb dX9_putUnit_30 rfl (lv_at hl 0 rfl) ?_
      refine lv_dup hx hb dX9_putUnit_31 rfl ?_
      refine va_get (D := (dC, dI)) (ci := 9) (v := .int ((σ_11 6).1 1)) (C := RX9) (T := TX9) (N := 9) hx hb hts ii_X9 hown hK hP 0 rfl rfl 1 (by decide) (hts (.fieldLink RX9 29 "StoryHouse$Texts" "unitCount" "I") wq_135) (fun _ h9 => h9) rfl dX9_putUnit_32 ?_
      refine lv_iconst (v := 1) hx hb dX9_putUnit_35 (by decide +kernel) ?_
      refine lv_iadd hx hb dX9_putUnit_36 ?_
      obtain ⟨σ_13, eσ_13, hF_14⟩ := bnd_e hF_12
      clear hF_12
      refine va_put (D := (dC, dI)) (ci := 9) (v := .int (((σ_11 6).1 1) + 1)) (ty := .int) (C := RX9) (T := TX9) (N := 9) hx hb hts ii_X9 tyX9 tyX9_ok nmX9 hown hK hP (hDD _) hS 0 rfl rfl 1 (by decide) (hts (.fieldLink RX9 29 "StoryHouse$Texts" "unitCount" "I") wq_135) (fun _ h9 => h9) rfl (by decide +kernel) rfl rfl (Nat.le_of_ble_eq_true rfl) dX9_putUnit_37 (fun H locs hP' _ hS => ?_)
      have hP : va_P (dC, dI) vwCl (b_t cB cC cI cJ cZ oA rA σ_13) H := by rw [eσ_13]; exact cs_t_t_1 ▸ hP'
      clear hP'
      have h9 := Option.some.inj hF_14
      subst h9
      exact W.vret hx hb hr (fun t ht hW => ⟨⟨(), rfl, trivial, m_end ht hP, hDD _⟩, hS.F ht⟩) hS.2.2 dX9_putUnit_40
theorem dX9_gather_0 : decode cX9_gather 0 = .ok (.aload_n 0, 1) := by decide +kernel
theorem dX9_gather_1 : decode cX9_gather 1 = .ok (.getfield 73, 3) := by decide +kernel
theorem dX9_gather_4 : decode cX9_gather 4 = .ok (.iconst 3, 1) := by decide +kernel
theorem dX9_gather_5 : decode cX9_gather 5 = .ok (.if_icmp .ne 21, 3) := by decide +kernel
theorem dX9_gather_8 : decode cX9_gather 8 = .ok (.aload_n 0, 1) := by decide +kernel
theorem dX9_gather_9 : decode cX9_gather 9 = .ok (.aload_n 0, 1) := by decide +kernel
theorem dX9_gather_10 : decode cX9_gather 10 = .ok (.getfield 70, 3) := by decide +kernel
theorem dX9_gather_13 : decode cX9_gather 13 = .ok (.invokevirtual 92, 3) := by decide +kernel
theorem dX9_gather_16 : decode cX9_gather 16 = .ok (.aload_n 0, 1) := by decide +kernel
theorem dX9_gather_17 : decode cX9_gather 17 = .ok (.iconst 0, 1) := by decide +kernel
theorem dX9_gather_18 : decode cX9_gather 18 = .ok (.putfield 70, 3) := by decide +kernel
theorem dX9_gather_21 : decode cX9_gather 21 = .ok (.aload_n 0, 1) := by decide +kernel
theorem dX9_gather_22 : decode cX9_gather 22 = .ok (.iconst 0, 1) := by decide +kernel
theorem dX9_gather_23 : decode cX9_gather 23 = .ok (.putfield 73, 3) := by decide +kernel
theorem dX9_gather_26 : decode cX9_gather 26 = .ok (.aload_n 0, 1) := by decide +kernel
theorem dX9_gather_27 : decode cX9_gather 27 = .ok (.aload_n 0, 1) := by decide +kernel
theorem dX9_gather_28 : decode cX9_gather 28 = .ok (.getfield 70, 3) := by decide +kernel
theorem dX9_gather_31 : decode cX9_gather 31 = .ok (.iconst 5, 1) := by decide +kernel
theorem dX9_gather_32 : decode cX9_gather 32 = .ok (.ishl, 1) := by decide +kernel
theorem dX9_gather_33 : decode cX9_gather 33 = .ok (.iload_n 1, 1) := by decide +kernel
theorem dX9_gather_34 : decode cX9_gather 34 = .ok (.ior, 1) := by decide +kernel
theorem dX9_gather_35 : decode cX9_gather 35 = .ok (.putfield 70, 3) := by decide +kernel
theorem dX9_gather_38 : decode cX9_gather 38 = .ok (.aload_n 0, 1) := by decide +kernel
theorem dX9_gather_39 : decode cX9_gather 39 = .ok (.dup, 1) := by decide +kernel
theorem dX9_gather_40 : decode cX9_gather 40 = .ok (.getfield 73, 3) := by decide +kernel
theorem dX9_gather_43 : decode cX9_gather 43 = .ok (.iconst 1, 1) := by decide +kernel
theorem dX9_gather_44 : decode cX9_gather 44 = .ok (.iadd, 1) := by decide +kernel
theorem dX9_gather_45 : decode cX9_gather 45 = .ok (.putfield 73, 3) := by decide +kernel
theorem dX9_gather_48 : decode cX9_gather 48 = .ok (.return_, 1) := by decide +kernel
def F_X9_gather (p0 : Int32) (Γ : HS) : HR :=
  bnd (fun  (σ_1 : HS) => (
    bnd (((((σ_1 6).1 2) <<< (5 &&& 31)) ||| p0)) fun (x_5 : Int32) =>
    bnd (cI' σ_1 6 2 x_5) fun σ_7 =>
    bnd (cI' σ_7 6 3 (((σ_7 6).1 3) + 1)) fun σ_9 =>
    some (0, σ_9)
  ) : HS → HR) fun j_2 =>
  if ((Γ 6).1 3) = 3 then (
    (F_X9_putUnit ((Γ 6).1 2) Γ).bind fun u_13 =>
    bnd (cI' u_13.2 6 2 0) fun σ_15 =>
    bnd (cI' σ_15 6 3 0) fun σ_17 =>
    j_2  σ_17
  ) else (
    j_2  Γ
  )
set_option maxHeartbeats 4000000 in
set_option maxRecDepth 100000 in
theorem k_X9_gather (l : Launch) (dC : Nat → ClassId) (dI : Nat → Nat → Nat) (cB cC cI cJ cZ cP : ClassId) (oA : Nat → Nat) (rA : Nat → Nat → Nat) (sz : Nat)  (p0 : Int32) (Γ : HS) (res : Int32 × HS) (hF : F_X9_gather p0 Γ = some res) : Met l yX9_gather (g_ws yX9_gather cX9_gather 2 none) ({ frames := 2, cells := 0, slots := 0, locals := 61 }) (va_Pc [.ref (oA 6), .int p0] (g_B (dC, dI) [(cB, .byte), (cC, .char), (cI, .int), (cJ, .long), (cZ, .boolean), (cP, .object "StoryHouse$Play")] sz (b_t cB cC cI cJ cZ oA rA Γ) g_0)) (va_Qv (fun (_ : Unit) => True) (g_Bo (dC, dI) (va_A (b_t cB cC cI cJ cZ oA rA Γ) sz) (fun (_ : Unit) => (b_t cB cC cI cJ cZ oA rA res.2))) (va_A (b_t cB cC cI cJ cZ oA rA Γ) sz)) 0 0 (va_A (b_t cB cC cI cJ cZ oA rA Γ) sz) := by
  refine Met.ofW (cc := cX9_gather) (maxL := 2) (ret := none) (by decide) rfl ?_
  intro p e s m args below meth c s₁ B hml hv
  obtain ⟨rfl, hsz, hP, hK, hD0, hE, hX⟩ := hv
  have hx := B.exec
  have hb := B.bytes
  have hr := B.returns
  have hts0 := atoms_spec (ws := g_ws yX9_gather cX9_gather 2 none) B.pre
  have hts : ∀ w ∈ lw_good, w.before ([.ref (oA 6), .int p0] : List Value).toArray s = true := fun w z => hts0 w (List.mem_cons_of_mem _ z)
  have hown : s.vm.findClass RX9 = some m.cls := findClass_of_methodNamed B.named
  have hlocks := B.notSynchronized
  subst hsz
  have hD1 := hD0.self (sz := s.heap.size)
  generalize hAe : va_A (b_t cB cC cI cJ cZ oA rA Γ) s.heap.size = A at hD1 hE hX ⊢
  have hA : ∀ q : Nat, s.heap.size ≤ q → A q := fun q z => by rw [← hAe]; exact Or.inr z
  have hDD : ∀ Γ : HS, va_D A (b_t cB cC cI cJ cZ oA rA Γ) := fun Γ9 => va_D_fst (ws := (b_t cB cC cI cJ cZ oA rA Γ)) (ws' := (b_t cB cC cI cJ cZ oA rA Γ9)) rfl hD1
  have hN := hE.1
  have hS : va_S A s.heap s.heap [] := va_S.rf
  have hl := lv_entry ([.ref (oA 6), .int p0]) (n := 2) (Nat.le_of_ble_eq_true rfl)
  rw [lg_entry_eq]
  generalize (lg_sl ([.ref (oA 6), .int p0]) ++ List.replicate (2 - (lg_sl ([.ref (oA 6), .int p0])).length) Slot.unset).toArray = ls at hl ⊢
  have hl : lv_has ls 2 [(0, .ref (oA 6)), (1, .int p0)] := hl
  unfold F_X9_gather at hF
  refine lv_aload_n hx hb dX9_gather_0 rfl (lv_at hl 0 rfl) ?_
  refine va_get (D := (dC, dI)) (ci := 9) (v := .int ((Γ 6).1 3)) (C := RX9) (T := TX9) (N := 9) hx hb hts ii_X9 hown hK hP 0 rfl rfl 3 (by decide) (hts (.fieldLink RX9 73 "StoryHouse$Texts" "gatheredCodes" "I") wq_137) (fun _ h9 => h9) rfl dX9_gather_1 ?_
  refine lv_iconst (v := 3) hx hb dX9_gather_4 (by decide +kernel) ?_
  obtain ⟨j_2, ej_2, hF_3⟩ := bnd_e hF
  clear hF
  have Jj_2 : ∀  (σ_1 : HS), j_2  σ_1 = some res → ∀ (H : Heap) (locs : List Loc), va_P (dC, dI) vwCl (b_t cB cC cI cJ cZ oA rA σ_1) H → va_S A s.heap H locs → ∀ ls : Array Slot, lv_has ls 2 [(0, .ref (oA 6)), (1, .int p0)] → W p l e (headSpec (g_ws yX9_gather cX9_gather 2 none) { frames := 2, cells := 0, slots := 0, locals := 61 }).room s m ([.ref (oA 6), .int p0] : List Value).toArray below meth c H locs 0 0 (MQ below (va_Qv (fun (_ : Unit) => True) (g_Bo (dC, dI) A (fun (_ : Unit) => (b_t cB cC cI cJ cZ oA rA res.2))) A) ([.ref (oA 6), .int p0] : List Value).toArray s 0 0 A) (F0 m 26 ls []) := by
    intro  σ_1 hF0 H locs hP hS ls hl
    subst ej_2
    have hF_4 := hF0
    clear hF0
    refine lv_aload_n hx hb dX9_gather_26 rfl (lv_at hl 0 rfl) ?_
    refine lv_aload_n hx hb dX9_gather_27 rfl (lv_at hl 0 rfl) ?_
    refine va_get (D := (dC, dI)) (ci := 9) (v := .int ((σ_1 6).1 2)) (C := RX9) (T := TX9) (N := 9) hx hb hts ii_X9 hown hK hP 0 rfl rfl 2 (by decide) (hts (.fieldLink RX9 70 "StoryHouse$Texts" "gathered" "I") wq_136) (fun _ h9 => h9) rfl dX9_gather_28 ?_
    refine lv_iconst (v := 5) hx hb dX9_gather_31 (by decide +kernel) ?_
    refine lv_ishl hx hb dX9_gather_32 ?_
    refine lv_iload_n hx hb dX9_gather_33 rfl (lv_at hl 1 rfl) ?_
    refine lv_ior hx hb dX9_gather_34 ?_
    obtain ⟨x_5, ex_5, hF_6⟩ := bnd_e hF_4
    clear hF_4
    refine m_top ex_5 ?_
    obtain ⟨σ_7, eσ_7, hF_8⟩ := bnd_e hF_6
    clear hF_6
    refine va_put (D := (dC, dI)) (ci := 9) (v := .int x_5) (ty := .int) (C := RX9) (T := TX9) (N := 9) hx hb hts ii_X9 tyX9 tyX9_ok nmX9 hown hK hP (hDD _) hS 0 rfl rfl 2 (by decide) (hts (.fieldLink RX9 70 "StoryHouse$Texts" "gathered" "I") wq_136) (fun _ h9 => h9) rfl (by decide +kernel) rfl rfl (Nat.le_of_ble_eq_true rfl) dX9_gather_35 (fun H locs hP' _ hS => ?_)
    have hP : va_P (dC, dI) vwCl (b_t cB cC cI cJ cZ oA rA σ_7) H := by rw [eσ_7]; exact cs_t_t_2 ▸ hP'
    clear hP'
    refine lv_aload_n hx hb dX9_gather_38 rfl (lv_at hl 0 rfl) ?_
    refine lv_dup hx hb dX9_gather_39 rfl ?_
    refine va_get (D := (dC, dI)) (ci := 9) (v := .int ((σ_7 6).1 3)) (C := RX9) (T := TX9) (N := 9) hx hb hts ii_X9 hown hK hP 0 rfl rfl 3 (by decide) (hts (.fieldLink RX9 73 "StoryHouse$Texts" "gatheredCodes" "I") wq_137) (fun _ h9 => h9) rfl dX9_gather_40 ?_
    refine lv_iconst (v := 1) hx hb dX9_gather_43 (by decide +kernel) ?_
    refine lv_iadd hx hb dX9_gather_44 ?_
    obtain ⟨σ_9, eσ_9, hF_10⟩ := bnd_e hF_8
    clear hF_8
    refine va_put (D := (dC, dI)) (ci := 9) (v := .int (((σ_7 6).1 3) + 1)) (ty := .int) (C := RX9) (T := TX9) (N := 9) hx hb hts ii_X9 tyX9 tyX9_ok nmX9 hown hK hP (hDD _) hS 0 rfl rfl 3 (by decide) (hts (.fieldLink RX9 73 "StoryHouse$Texts" "gatheredCodes" "I") wq_137) (fun _ h9 => h9) rfl (by decide +kernel) rfl rfl (Nat.le_of_ble_eq_true rfl) dX9_gather_45 (fun H locs hP' _ hS => ?_)
    have hP : va_P (dC, dI) vwCl (b_t cB cC cI cJ cZ oA rA σ_9) H := by rw [eσ_9]; exact cs_t_t_3 ▸ hP'
    clear hP'
    have h9 := Option.some.inj hF_10
    subst h9
    exact W.vret hx hb hr (fun t ht hW => ⟨⟨(), rfl, trivial, m_end ht hP, hDD _⟩, hS.F ht⟩) hS.2.2 dX9_gather_48
  refine lv_icmp_ne (tgt := 26) hx hb dX9_gather_5 (by decide) (fun c_11 => ?_) (fun c_11 => ?_)
  · have hF_19 := ineg c_11 hF_3
    clear hF_3
    exact Jj_2  Γ hF_19 _ _ hP hS ls (lv_sub hl [0, 1] rfl)
  · have hF_12 := ipos c_11 hF_3
    clear hF_3
    refine lv_aload_n hx hb dX9_gather_8 rfl (lv_at hl 0 rfl) ?_
    refine lv_aload_n hx hb dX9_gather_9 rfl (lv_at hl 0 rfl) ?_
    refine va_get (D := (dC, dI)) (ci := 9) (v := .int ((Γ 6).1 2)) (C := RX9) (T := TX9) (N := 9) hx hb hts ii_X9 hown hK hP 0 rfl rfl 2 (by decide) (hts (.fieldLink RX9 70 "StoryHouse$Texts" "gathered" "I") wq_136) (fun _ h9 => h9) rfl dX9_gather_10 ?_
    obtain ⟨u_13, hu_13, hF_14⟩ := Option.bind_eq_some_iff.mp hF_12
    clear hF_12
    have hPc := hP.sub (ws' := (b_t cB cC cI cJ cZ oA rA Γ)) [0, 1, 2, 3, 4, 5] rfl
    have hDc := (hDD Γ).sub (ws' := (b_t cB cC cI cJ cZ oA rA Γ)) [0, 1, 2, 3, 4, 5] (by decide +kernel) rfl
    have hFc := va_free (wc := (b_t cB cC cI cJ cZ oA rA Γ)) (hDD Γ) hS hA [0, 1, 2, 3, 4, 5] rfl
    refine g_ofv (wc := (b_t cB cC cI cJ cZ oA rA Γ)) (wr := ([] : va_W)) hP (hDD Γ) hS hFc [0, 1, 2, 3, 4, 5] [] rfl rfl (by decide +kernel) (by decide +kernel) (va_runV (As := [.int ((Γ 6).1 2)]) (rest := []) ⟨hx, hb, hml, hown, hts⟩ (k_X9_putUnit l dC dI cB cC cI cJ cZ cP oA rA s.heap.size  ((Γ 6).1 2) Γ _ hu_13) (cwV 1 hts (g_gV wq_862 wq_863 wq_2064 wq_7 wq_864) rfl rfl rfl (by decide +kernel) ⟨Nat.le_of_ble_eq_true rfl, Nat.le_of_ble_eq_true rfl⟩) (g_preV g_bl0 hK hPc hDc hS hE hFc g_to0 (q0 := 0) (ci := 9) rfl rfl) rfl rfl hl.1 rfl (lv_room (Nat.le_of_ble_eq_true rfl)) dX9_gather_13 ⟨Nat.le_of_ble_eq_true rfl, Nat.le_of_ble_eq_true rfl⟩) (fun u9 H locs hw9 hP' hD' hS => ?_)
    clear hPc hDc hFc
    have hP : va_P (dC, dI) vwCl (b_t cB cC cI cJ cZ oA rA u_13.2) H := hP'
    clear hP' hD'
    refine lv_aload_n hx hb dX9_gather_16 rfl (lv_at hl 0 rfl) ?_
    refine lv_iconst (v := 0) hx hb dX9_gather_17 (by decide +kernel) ?_
    obtain ⟨σ_15, eσ_15, hF_16⟩ := bnd_e hF_14
    clear hF_14
    refine va_put (D := (dC, dI)) (ci := 9) (v := .int 0) (ty := .int) (C := RX9) (T := TX9) (N := 9) hx hb hts ii_X9 tyX9 tyX9_ok nmX9 hown hK hP (hDD _) hS 0 rfl rfl 2 (by decide) (hts (.fieldLink RX9 70 "StoryHouse$Texts" "gathered" "I") wq_136) (fun _ h9 => h9) rfl (by decide +kernel) rfl rfl (Nat.le_of_ble_eq_true rfl) dX9_gather_18 (fun H locs hP' _ hS => ?_)
    have hP : va_P (dC, dI) vwCl (b_t cB cC cI cJ cZ oA rA σ_15) H := by rw [eσ_15]; exact cs_t_t_2 ▸ hP'
    clear hP'
    refine lv_aload_n hx hb dX9_gather_21 rfl (lv_at hl 0 rfl) ?_
    refine lv_iconst (v := 0) hx hb dX9_gather_22 (by decide +kernel) ?_
    obtain ⟨σ_17, eσ_17, hF_18⟩ := bnd_e hF_16
    clear hF_16
    refine va_put (D := (dC, dI)) (ci := 9) (v := .int 0) (ty := .int) (C := RX9) (T := TX9) (N := 9) hx hb hts ii_X9 tyX9 tyX9_ok nmX9 hown hK hP (hDD _) hS 0 rfl rfl 3 (by decide) (hts (.fieldLink RX9 73 "StoryHouse$Texts" "gatheredCodes" "I") wq_137) (fun _ h9 => h9) rfl (by decide +kernel) rfl rfl (Nat.le_of_ble_eq_true rfl) dX9_gather_23 (fun H locs hP' _ hS => ?_)
    have hP : va_P (dC, dI) vwCl (b_t cB cC cI cJ cZ oA rA σ_17) H := by rw [eσ_17]; exact cs_t_t_3 ▸ hP'
    clear hP'
    exact Jj_2  σ_17 hF_18 _ _ hP hS ls (lv_sub hl [0, 1] rfl)
theorem dX9_shutText_0 : decode cX9_shutText 0 = .ok (.aload_n 0, 1) := by decide +kernel
theorem dX9_shutText_1 : decode cX9_shutText 1 = .ok (.getfield 73, 3) := by decide +kernel
theorem dX9_shutText_4 : decode cX9_shutText 4 = .ok (.istore_n 1, 1) := by decide +kernel
theorem dX9_shutText_5 : decode cX9_shutText 5 = .ok (.iload_n 1, 1) := by decide +kernel
theorem dX9_shutText_6 : decode cX9_shutText 6 = .ok (.iconst 3, 1) := by decide +kernel
theorem dX9_shutText_7 : decode cX9_shutText 7 = .ok (.if_icmp .ge 22, 3) := by decide +kernel
theorem dX9_shutText_10 : decode cX9_shutText 10 = .ok (.aload_n 0, 1) := by decide +kernel
theorem dX9_shutText_11 : decode cX9_shutText 11 = .ok (.aload_n 0, 1) := by decide +kernel
theorem dX9_shutText_12 : decode cX9_shutText 12 = .ok (.getfield 70, 3) := by decide +kernel
theorem dX9_shutText_15 : decode cX9_shutText 15 = .ok (.iconst 5, 1) := by decide +kernel
theorem dX9_shutText_16 : decode cX9_shutText 16 = .ok (.ishl, 1) := by decide +kernel
theorem dX9_shutText_17 : decode cX9_shutText 17 = .ok (.bipush 31, 2) := by decide +kernel
theorem dX9_shutText_19 : decode cX9_shutText 19 = .ok (.ior, 1) := by decide +kernel
theorem dX9_shutText_20 : decode cX9_shutText 20 = .ok (.putfield 70, 3) := by decide +kernel
theorem dX9_shutText_23 : decode cX9_shutText 23 = .ok (.iinc 1 1, 3) := by decide +kernel
theorem dX9_shutText_26 : decode cX9_shutText 26 = .ok (.goto (-21), 3) := by decide +kernel
theorem dX9_shutText_29 : decode cX9_shutText 29 = .ok (.aload_n 0, 1) := by decide +kernel
theorem dX9_shutText_30 : decode cX9_shutText 30 = .ok (.aload_n 0, 1) := by decide +kernel
theorem dX9_shutText_31 : decode cX9_shutText 31 = .ok (.getfield 70, 3) := by decide +kernel
theorem dX9_shutText_34 : decode cX9_shutText 34 = .ok (.ldc 95, 2) := by decide +kernel
theorem dX9_shutText_36 : decode cX9_shutText 36 = .ok (.ior, 1) := by decide +kernel
theorem dX9_shutText_37 : decode cX9_shutText 37 = .ok (.invokevirtual 92, 3) := by decide +kernel
theorem dX9_shutText_40 : decode cX9_shutText 40 = .ok (.return_, 1) := by decide +kernel
def F_X9_shutText  (Γ : HS) : HR :=
  bnd (((Γ 6).1 3)) fun (x_1 : Int32) =>
  loopF (fun (again_4 : (Int32 × HS) → HR) (s_3 : Int32 × HS) => (
    if 3 ≤ s_3.1 then (
      (F_X9_putUnit (((s_3.2 6).1 2) ||| 32768) s_3.2).bind fun u_9 =>
      some (0, u_9.2)
    ) else (
      bnd (((((s_3.2 6).1 2) <<< (5 &&& 31)) ||| 31)) fun (x_12 : Int32) =>
      bnd (cI' s_3.2 6 2 x_12) fun σ_14 =>
      bnd (s_3.1 + 1) fun (x_16 : Int32) =>
      again_4 (x_16, σ_14)
    )
  )) FU (x_1, Γ)
set_option maxHeartbeats 4000000 in
set_option maxRecDepth 100000 in
theorem k_X9_shutText (l : Launch) (dC : Nat → ClassId) (dI : Nat → Nat → Nat) (cB cC cI cJ cZ cP : ClassId) (oA : Nat → Nat) (rA : Nat → Nat → Nat) (sz : Nat)   (Γ : HS) (res : Int32 × HS) (hF : F_X9_shutText  Γ = some res) : Met l yX9_shutText (g_ws yX9_shutText cX9_shutText 2 none) ({ frames := 2, cells := 0, slots := 0, locals := 61 }) (va_Pc [.ref (oA 6)] (g_B (dC, dI) [(cB, .byte), (cC, .char), (cI, .int), (cJ, .long), (cZ, .boolean), (cP, .object "StoryHouse$Play")] sz (b_t cB cC cI cJ cZ oA rA Γ) g_0)) (va_Qv (fun (_ : Unit) => True) (g_Bo (dC, dI) (va_A (b_t cB cC cI cJ cZ oA rA Γ) sz) (fun (_ : Unit) => (b_t cB cC cI cJ cZ oA rA res.2))) (va_A (b_t cB cC cI cJ cZ oA rA Γ) sz)) 0 0 (va_A (b_t cB cC cI cJ cZ oA rA Γ) sz) := by
  refine Met.ofW (cc := cX9_shutText) (maxL := 2) (ret := none) (by decide) rfl ?_
  intro p e s m args below meth c s₁ B hml hv
  obtain ⟨rfl, hsz, hP, hK, hD0, hE, hX⟩ := hv
  have hx := B.exec
  have hb := B.bytes
  have hr := B.returns
  have hts0 := atoms_spec (ws := g_ws yX9_shutText cX9_shutText 2 none) B.pre
  have hts : ∀ w ∈ lw_good, w.before ([.ref (oA 6)] : List Value).toArray s = true := fun w z => hts0 w (List.mem_cons_of_mem _ z)
  have hown : s.vm.findClass RX9 = some m.cls := findClass_of_methodNamed B.named
  have hlocks := B.notSynchronized
  subst hsz
  have hD1 := hD0.self (sz := s.heap.size)
  generalize hAe : va_A (b_t cB cC cI cJ cZ oA rA Γ) s.heap.size = A at hD1 hE hX ⊢
  have hA : ∀ q : Nat, s.heap.size ≤ q → A q := fun q z => by rw [← hAe]; exact Or.inr z
  have hDD : ∀ Γ : HS, va_D A (b_t cB cC cI cJ cZ oA rA Γ) := fun Γ9 => va_D_fst (ws := (b_t cB cC cI cJ cZ oA rA Γ)) (ws' := (b_t cB cC cI cJ cZ oA rA Γ9)) rfl hD1
  have hN := hE.1
  have hS : va_S A s.heap s.heap [] := va_S.rf
  have hl := lv_entry ([.ref (oA 6)]) (n := 2) (Nat.le_of_ble_eq_true rfl)
  rw [lg_entry_eq]
  generalize (lg_sl ([.ref (oA 6)]) ++ List.replicate (2 - (lg_sl ([.ref (oA 6)])).length) Slot.unset).toArray = ls at hl ⊢
  have hl : lv_has ls 2 [(0, .ref (oA 6))] := hl
  unfold F_X9_shutText at hF
  refine lv_aload_n hx hb dX9_shutText_0 rfl (lv_at hl 0 rfl) ?_
  refine va_get (D := (dC, dI)) (ci := 9) (v := .int ((Γ 6).1 3)) (C := RX9) (T := TX9) (N := 9) hx hb hts ii_X9 hown hK hP 0 rfl rfl 3 (by decide) (hts (.fieldLink RX9 73 "StoryHouse$Texts" "gatheredCodes" "I") wq_137) (fun _ h9 => h9) rfl dX9_shutText_1 ?_
  obtain ⟨x_1, ex_1, hF_2⟩ := bnd_e hF
  clear hF
  refine m_top ex_1 ?_
  refine lv_istore_n (lv' := [(1, .int x_1), (0, .ref (oA 6))]) hx hb dX9_shutText_4 rfl hl (by decide) rfl (fun ls hl => ?_)
  refine loopF_ind (P := fun (s_3 : Int32 × HS) => ∀ (H : Heap) (locs : List Loc), va_P (dC, dI) vwCl (b_t cB cC cI cJ cZ oA rA s_3.2) H → va_S A s.heap H locs → ∀ ls : Array Slot, lv_has ls 2 [(0, .ref (oA 6)), (1, .int s_3.1)] → W p l e (headSpec (g_ws yX9_shutText cX9_shutText 2 none) { frames := 2, cells := 0, slots := 0, locals := 61 }).room s m ([.ref (oA 6)] : List Value).toArray below meth c H locs 0 0 (MQ below (va_Qv (fun (_ : Unit) => True) (g_Bo (dC, dI) A (fun (_ : Unit) => (b_t cB cC cI cJ cZ oA rA res.2))) A) ([.ref (oA 6)] : List Value).toArray s 0 0 A) (F0 m 5 ls [])) ?_ _ _ hF_2 _ _ hP hS ls (lv_sub hl [1, 0] rfl)
  intro again_4 s_3 ih_5 hF_6
  intro H locs hP hS ls hl
  refine lv_iload_n hx hb dX9_shutText_5 rfl (lv_at hl 1 rfl) ?_
  refine lv_iconst (v := 3) hx hb dX9_shutText_6 (by decide +kernel) ?_
  refine lv_icmp_ge (tgt := 29) hx hb dX9_shutText_7 (by decide) (fun c_7 => ?_) (fun c_7 => ?_)
  · have hF_8 := ipos c_7 hF_6
    clear hF_6
    refine lv_aload_n hx hb dX9_shutText_29 rfl (lv_at hl 0 rfl) ?_
    refine lv_aload_n hx hb dX9_shutText_30 rfl (lv_at hl 0 rfl) ?_
    refine va_get (D := (dC, dI)) (ci := 9) (v := .int ((s_3.2 6).1 2)) (C := RX9) (T := TX9) (N := 9) hx hb hts ii_X9 hown hK hP 0 rfl rfl 2 (by decide) (hts (.fieldLink RX9 70 "StoryHouse$Texts" "gathered" "I") wq_136) (fun _ h9 => h9) rfl dX9_shutText_31 ?_
    refine lv_ldc (v := 32768) hx hb hown (hts (.constant RX9 95 (32768)) wq_868) dX9_shutText_34 ?_
    refine lv_ior hx hb dX9_shutText_36 ?_
    obtain ⟨u_9, hu_9, hF_10⟩ := Option.bind_eq_some_iff.mp hF_8
    clear hF_8
    have hPc := hP.sub (ws' := (b_t cB cC cI cJ cZ oA rA s_3.2)) [0, 1, 2, 3, 4, 5] rfl
    have hDc := (hDD s_3.2).sub (ws' := (b_t cB cC cI cJ cZ oA rA s_3.2)) [0, 1, 2, 3, 4, 5] (by decide +kernel) rfl
    have hFc := va_free (wc := (b_t cB cC cI cJ cZ oA rA s_3.2)) (hDD s_3.2) hS hA [0, 1, 2, 3, 4, 5] rfl
    refine g_ofv (wc := (b_t cB cC cI cJ cZ oA rA s_3.2)) (wr := ([] : va_W)) hP (hDD s_3.2) hS hFc [0, 1, 2, 3, 4, 5] [] rfl rfl (by decide +kernel) (by decide +kernel) (va_runV (As := [.int (((s_3.2 6).1 2) ||| 32768)]) (rest := []) ⟨hx, hb, hml, hown, hts⟩ (k_X9_putUnit l dC dI cB cC cI cJ cZ cP oA rA H.size  (((s_3.2 6).1 2) ||| 32768) s_3.2 _ hu_9) (cwV 1 hts (g_gV wq_862 wq_863 wq_2064 wq_7 wq_864) rfl rfl rfl (by decide +kernel) ⟨Nat.le_of_ble_eq_true rfl, Nat.le_of_ble_eq_true rfl⟩) (g_preV g_bl0 hK hPc hDc hS hE hFc g_to0 (q0 := 0) (ci := 9) rfl rfl) rfl rfl hl.1 rfl (lv_room (Nat.le_of_ble_eq_true rfl)) dX9_shutText_37 ⟨Nat.le_of_ble_eq_true rfl, Nat.le_of_ble_eq_true rfl⟩) (fun u9 H locs hw9 hP' hD' hS => ?_)
    clear hPc hDc hFc
    have hP : va_P (dC, dI) vwCl (b_t cB cC cI cJ cZ oA rA u_9.2) H := hP'
    clear hP' hD'
    have h9 := Option.some.inj hF_10
    subst h9
    exact W.vret hx hb hr (fun t ht hW => ⟨⟨(), rfl, trivial, m_end ht hP, hDD _⟩, hS.F ht⟩) hS.2.2 dX9_shutText_40
  · have hF_11 := ineg c_7 hF_6
    clear hF_6
    refine lv_aload_n hx hb dX9_shutText_10 rfl (lv_at hl 0 rfl) ?_
    refine lv_aload_n hx hb dX9_shutText_11 rfl (lv_at hl 0 rfl) ?_
    refine va_get (D := (dC, dI)) (ci := 9) (v := .int ((s_3.2 6).1 2)) (C := RX9) (T := TX9) (N := 9) hx hb hts ii_X9 hown hK hP 0 rfl rfl 2 (by decide) (hts (.fieldLink RX9 70 "StoryHouse$Texts" "gathered" "I") wq_136) (fun _ h9 => h9) rfl dX9_shutText_12 ?_
    refine lv_iconst (v := 5) hx hb dX9_shutText_15 (by decide +kernel) ?_
    refine lv_ishl hx hb dX9_shutText_16 ?_
    refine lv_bipush (v := 31) hx hb dX9_shutText_17 (by decide +kernel) ?_
    refine lv_ior hx hb dX9_shutText_19 ?_
    obtain ⟨x_12, ex_12, hF_13⟩ := bnd_e hF_11
    clear hF_11
    refine m_top ex_12 ?_
    obtain ⟨σ_14, eσ_14, hF_15⟩ := bnd_e hF_13
    clear hF_13
    refine va_put (D := (dC, dI)) (ci := 9) (v := .int x_12) (ty := .int) (C := RX9) (T := TX9) (N := 9) hx hb hts ii_X9 tyX9 tyX9_ok nmX9 hown hK hP (hDD _) hS 0 rfl rfl 2 (by decide) (hts (.fieldLink RX9 70 "StoryHouse$Texts" "gathered" "I") wq_136) (fun _ h9 => h9) rfl (by decide +kernel) rfl rfl (Nat.le_of_ble_eq_true rfl) dX9_shutText_20 (fun H locs hP' _ hS => ?_)
    have hP : va_P (dC, dI) vwCl (b_t cB cC cI cJ cZ oA rA σ_14) H := by rw [eσ_14]; exact cs_t_t_2 ▸ hP'
    clear hP'
    obtain ⟨x_16, ex_16, hF_17⟩ := bnd_e hF_15
    clear hF_15
    refine lv_iinc (v := x_16) (lv' := [(1, .int x_16), (0, .ref (oA 6))]) hx hb dX9_shutText_23 hl (k := 1) rfl (by rw [ex_16]; rfl) (by decide) rfl (fun ls hl => ?_)
    refine lv_goto (tgt := 5) hx hb dX9_shutText_26 (by decide) ?_
    exact ih_5 (x_16, σ_14) hF_17 _ _ hP hS ls (lv_sub hl [1, 0] rfl)
theorem dX9_signOf_0 : decode cX9_signOf 0 = .ok (.iload_n 1, 1) := by decide +kernel
theorem dX9_signOf_1 : decode cX9_signOf 1 = .ok (.ifCond .lt 21, 3) := by decide +kernel
theorem dX9_signOf_4 : decode cX9_signOf 4 = .ok (.iload_n 1, 1) := by decide +kernel
theorem dX9_signOf_5 : decode cX9_signOf 5 = .ok (.aload_n 0, 1) := by decide +kernel
theorem dX9_signOf_6 : decode cX9_signOf 6 = .ok (.getfield 22, 3) := by decide +kernel
theorem dX9_signOf_9 : decode cX9_signOf 9 = .ok (.arraylength, 1) := by decide +kernel
theorem dX9_signOf_10 : decode cX9_signOf 10 = .ok (.if_icmp .ge 12, 3) := by decide +kernel
theorem dX9_signOf_13 : decode cX9_signOf 13 = .ok (.aload_n 0, 1) := by decide +kernel
theorem dX9_signOf_14 : decode cX9_signOf 14 = .ok (.getfield 22, 3) := by decide +kernel
theorem dX9_signOf_17 : decode cX9_signOf 17 = .ok (.iload_n 1, 1) := by decide +kernel
theorem dX9_signOf_18 : decode cX9_signOf 18 = .ok (.baload, 1) := by decide +kernel
theorem dX9_signOf_19 : decode cX9_signOf 19 = .ok (.goto 4, 3) := by decide +kernel
theorem dX9_signOf_22 : decode cX9_signOf 22 = .ok (.iconst 0, 1) := by decide +kernel
theorem dX9_signOf_23 : decode cX9_signOf 23 = .ok (.istore_n 2, 1) := by decide +kernel
theorem dX9_signOf_24 : decode cX9_signOf 24 = .ok (.iload_n 2, 1) := by decide +kernel
theorem dX9_signOf_25 : decode cX9_signOf 25 = .ok (.bipush 94, 2) := by decide +kernel
theorem dX9_signOf_27 : decode cX9_signOf 27 = .ok (.if_icmp .ne 8, 3) := by decide +kernel
theorem dX9_signOf_30 : decode cX9_signOf 30 = .ok (.bipush 10, 2) := by decide +kernel
theorem dX9_signOf_32 : decode cX9_signOf 32 = .ok (.goto 4, 3) := by decide +kernel
theorem dX9_signOf_35 : decode cX9_signOf 35 = .ok (.iload_n 2, 1) := by decide +kernel
theorem dX9_signOf_36 : decode cX9_signOf 36 = .ok (.ireturn, 1) := by decide +kernel
def F_X9_signOf (p0 : Int32) (Γ : HS) : HR :=
  bnd (fun (t_1 : Int32) (σ_2 : HS) => (
    if t_1 = 94 then (
      some (10, σ_2)
    ) else (
      some (t_1, σ_2)
    )
  ) : Int32 → HS → HR) fun j_3 =>
  bnd (fun  (σ_9 : HS) => (
    j_3 0 σ_9
  ) : HS → HR) fun j_10 =>
  if p0 < 0 then (
    j_10  Γ
  ) else (
    if 16000 ≤ p0 then (
      j_10  Γ
    ) else (
      if p0 < 0 ∨ 16000 ≤ p0.toNatClampNeg then none else
      j_3 ((Γ 6).2.1 7 p0.toNatClampNeg) Γ
    )
  )
set_option maxHeartbeats 4000000 in
set_option maxRecDepth 100000 in
theorem k_X9_signOf (l : Launch) (dC : Nat → ClassId) (dI : Nat → Nat → Nat) (cB cC cI cJ cZ cP : ClassId) (oA : Nat → Nat) (rA : Nat → Nat → Nat) (sz : Nat)  (p0 : Int32) (Γ : HS) (res : Int32 × HS) (hF : F_X9_signOf p0 Γ = some res) : Met l yX9_signOf (g_ws yX9_signOf cX9_signOf 3 (some .int)) ({ frames := 1, cells := 0, slots := 0, locals := 40 }) (va_Pc [.ref (oA 6), .int p0] (g_B (dC, dI) [(cB, .byte), (cC, .char), (cI, .int), (cJ, .long), (cZ, .boolean), (cP, .object "StoryHouse$Play")] sz (b_t cB cC cI cJ cZ oA rA Γ) g_0)) (va_Qi (fun r (_ : Unit) => r = res.1) (g_Bo (dC, dI) (va_A (b_t cB cC cI cJ cZ oA rA Γ) sz) (fun (_ : Unit) => (b_t cB cC cI cJ cZ oA rA res.2))) (va_A (b_t cB cC cI cJ cZ oA rA Γ) sz)) 0 0 (va_A (b_t cB cC cI cJ cZ oA rA Γ) sz) := by
  refine Met.ofW (cc := cX9_signOf) (maxL := 3) (ret := (some .int)) (by decide) rfl ?_
  intro p e s m args below meth c s₁ B hml hv
  obtain ⟨rfl, hsz, hP, hK, hD0, hE, hX⟩ := hv
  have hx := B.exec
  have hb := B.bytes
  have hr := B.returns
  have hts0 := atoms_spec (ws := g_ws yX9_signOf cX9_signOf 3 (some .int)) B.pre
  have hts : ∀ w ∈ lw_good, w.before ([.ref (oA 6), .int p0] : List Value).toArray s = true := fun w z => hts0 w (List.mem_cons_of_mem _ z)
  have hown : s.vm.findClass RX9 = some m.cls := findClass_of_methodNamed B.named
  have hlocks := B.notSynchronized
  subst hsz
  have hD1 := hD0.self (sz := s.heap.size)
  generalize hAe : va_A (b_t cB cC cI cJ cZ oA rA Γ) s.heap.size = A at hD1 hE hX ⊢
  have hA : ∀ q : Nat, s.heap.size ≤ q → A q := fun q z => by rw [← hAe]; exact Or.inr z
  have hDD : ∀ Γ : HS, va_D A (b_t cB cC cI cJ cZ oA rA Γ) := fun Γ9 => va_D_fst (ws := (b_t cB cC cI cJ cZ oA rA Γ)) (ws' := (b_t cB cC cI cJ cZ oA rA Γ9)) rfl hD1
  have hN := hE.1
  have hS : va_S A s.heap s.heap [] := va_S.rf
  have hl := lv_entry ([.ref (oA 6), .int p0]) (n := 3) (Nat.le_of_ble_eq_true rfl)
  rw [lg_entry_eq]
  generalize (lg_sl ([.ref (oA 6), .int p0]) ++ List.replicate (3 - (lg_sl ([.ref (oA 6), .int p0])).length) Slot.unset).toArray = ls at hl ⊢
  have hl : lv_has ls 3 [(0, .ref (oA 6)), (1, .int p0)] := hl
  unfold F_X9_signOf at hF
  refine lv_iload_n hx hb dX9_signOf_0 rfl (lv_at hl 1 rfl) ?_
  obtain ⟨j_3, ej_3, hF_4⟩ := bnd_e hF
  clear hF
  have Jj_3 : ∀ (t_1 : Int32) (σ_2 : HS), j_3 t_1 σ_2 = some res → ∀ (H : Heap) (locs : List Loc), va_P (dC, dI) vwCl (b_t cB cC cI cJ cZ oA rA σ_2) H → va_S A s.heap H locs → ∀ ls : Array Slot, lv_has ls 3 [] → W p l e (headSpec (g_ws yX9_signOf cX9_signOf 3 (some .int)) { frames := 1, cells := 0, slots := 0, locals := 40 }).room s m ([.ref (oA 6), .int p0] : List Value).toArray below meth c H locs 0 0 (MQ below (va_Qi (fun r (_ : Unit) => r = res.1) (g_Bo (dC, dI) A (fun (_ : Unit) => (b_t cB cC cI cJ cZ oA rA res.2))) A) ([.ref (oA 6), .int p0] : List Value).toArray s 0 0 A) (F0 m 23 ls [.int t_1]) := by
    intro t_1 σ_2 hF0 H locs hP hS ls hl
    subst ej_3
    have hF_5 := hF0
    clear hF0
    refine lv_istore_n (lv' := [(2, .int t_1)]) hx hb dX9_signOf_23 rfl hl (by decide) rfl (fun ls hl => ?_)
    refine lv_iload_n hx hb dX9_signOf_24 rfl (lv_at hl 0 rfl) ?_
    refine lv_bipush (v := 94) hx hb dX9_signOf_25 (by decide +kernel) ?_
    refine lv_icmp_ne (tgt := 35) hx hb dX9_signOf_27 (by decide) (fun c_6 => ?_) (fun c_6 => ?_)
    · have hF_8 := ineg c_6 hF_5
      clear hF_5
      refine lv_iload_n hx hb dX9_signOf_35 rfl (lv_at hl 0 rfl) ?_
      have h9 := Option.some.inj hF_8
      subst h9
      exact W.iret (v := t_1) hx hb hr (fun t ht hW => ⟨⟨t_1, (), rfl, rfl, m_end ht hP, hDD _⟩, hS.F ht⟩) hS.2.2 dX9_signOf_36
    · have hF_7 := ipos c_6 hF_5
      clear hF_5
      refine lv_bipush (v := 10) hx hb dX9_signOf_30 (by decide +kernel) ?_
      refine lv_goto (tgt := 36) hx hb dX9_signOf_32 (by decide) ?_
      have h9 := Option.some.inj hF_7
      subst h9
      exact W.iret (v := 10) hx hb hr (fun t ht hW => ⟨⟨10, (), rfl, rfl, m_end ht hP, hDD _⟩, hS.F ht⟩) hS.2.2 dX9_signOf_36
  obtain ⟨j_10, ej_10, hF_11⟩ := bnd_e hF_4
  clear hF_4
  have Jj_10 : ∀  (σ_9 : HS), j_10  σ_9 = some res → ∀ (H : Heap) (locs : List Loc), va_P (dC, dI) vwCl (b_t cB cC cI cJ cZ oA rA σ_9) H → va_S A s.heap H locs → ∀ ls : Array Slot, lv_has ls 3 [] → W p l e (headSpec (g_ws yX9_signOf cX9_signOf 3 (some .int)) { frames := 1, cells := 0, slots := 0, locals := 40 }).room s m ([.ref (oA 6), .int p0] : List Value).toArray below meth c H locs 0 0 (MQ below (va_Qi (fun r (_ : Unit) => r = res.1) (g_Bo (dC, dI) A (fun (_ : Unit) => (b_t cB cC cI cJ cZ oA rA res.2))) A) ([.ref (oA 6), .int p0] : List Value).toArray s 0 0 A) (F0 m 22 ls []) := by
    intro  σ_9 hF0 H locs hP hS ls hl
    subst ej_10
    have hF_12 := hF0
    clear hF0
    refine lv_iconst (v := 0) hx hb dX9_signOf_22 (by decide +kernel) ?_
    exact Jj_3 0 σ_9 hF_12 _ _ hP hS ls (lv_sub hl [] rfl)
  refine lv_if_lt (tgt := 22) hx hb dX9_signOf_1 (by decide) (fun c_13 => ?_) (fun c_13 => ?_)
  · have hF_14 := ipos c_13 hF_11
    clear hF_11
    exact Jj_10  Γ hF_14 _ _ hP hS ls (lv_sub hl [] rfl)
  · have hF_15 := ineg c_13 hF_11
    clear hF_11
    refine lv_iload_n hx hb dX9_signOf_4 rfl (lv_at hl 1 rfl) ?_
    refine lv_aload_n hx hb dX9_signOf_5 rfl (lv_at hl 0 rfl) ?_
    refine va_get (D := (dC, dI)) (ci := 9) (v := .ref (rA 6 7)) (C := RX9) (T := TX9) (N := 9) hx hb hts ii_X9 hown hK hP 0 rfl rfl 7 (by decide) (hts (.fieldLink RX9 22 "StoryHouse$Texts" "source" "[B") wq_141) (fun _ h9 => h9) rfl dX9_signOf_6 ?_
    refine va_alen (v := 16000) hx hb hK hP 4 0 rfl rfl (by first | rfl | decide +kernel) dX9_signOf_9 ?_
    refine lv_icmp_ge (tgt := 22) hx hb dX9_signOf_10 (by decide) (fun c_16 => ?_) (fun c_16 => ?_)
    · have hF_17 := ipos c_16 hF_15
      clear hF_15
      exact Jj_10  Γ hF_17 _ _ hP hS ls (lv_sub hl [] rfl)
    · have hF_18 := ineg c_16 hF_15
      clear hF_15
      refine lv_aload_n hx hb dX9_signOf_13 rfl (lv_at hl 0 rfl) ?_
      refine va_get (D := (dC, dI)) (ci := 9) (v := .ref (rA 6 7)) (C := RX9) (T := TX9) (N := 9) hx hb hts ii_X9 hown hK hP 0 rfl rfl 7 (by decide) (hts (.fieldLink RX9 22 "StoryHouse$Texts" "source" "[B") wq_141) (fun _ h9 => h9) rfl dX9_signOf_14 ?_
      refine lv_iload_n hx hb dX9_signOf_17 rfl (lv_at hl 1 rfl) ?_
      obtain ⟨g_19, hF_20⟩ := nif_e hF_18
      clear hF_18
      refine va_bald (f := (Γ 6).2.1 7) hx hb hK hP 4 0 rfl rfl g_19 dX9_signOf_18 ?_
      refine lv_goto (tgt := 23) hx hb dX9_signOf_19 (by decide) ?_
      exact Jj_3 ((Γ 6).2.1 7 p0.toNatClampNeg) Γ hF_20 _ _ hP hS ls (lv_sub hl [] rfl)
