/-! methods of the class: what each does is its function -/
theorem dX4_tellDef_0 : decode cX4_tellDef 0 = .ok (.aload_n 0, 1) := by decide +kernel
theorem dX4_tellDef_1 : decode cX4_tellDef 1 = .ok (.iload_n 1, 1) := by decide +kernel
theorem dX4_tellDef_2 : decode cX4_tellDef 2 = .ok (.iconst 1, 1) := by decide +kernel
theorem dX4_tellDef_3 : decode cX4_tellDef 3 = .ok (.iadd, 1) := by decide +kernel
theorem dX4_tellDef_4 : decode cX4_tellDef 4 = .ok (.bipush 6, 2) := by decide +kernel
theorem dX4_tellDef_6 : decode cX4_tellDef 6 = .ok (.iconst 4, 1) := by decide +kernel
theorem dX4_tellDef_7 : decode cX4_tellDef 7 = .ok (.bipush 100, 2) := by decide +kernel
theorem dX4_tellDef_9 : decode cX4_tellDef 9 = .ok (.invokevirtual 138, 3) := by decide +kernel
theorem dX4_tellDef_12 : decode cX4_tellDef 12 = .ok (.aload_n 0, 1) := by decide +kernel
theorem dX4_tellDef_13 : decode cX4_tellDef 13 = .ok (.iload_n 1, 1) := by decide +kernel
theorem dX4_tellDef_14 : decode cX4_tellDef 14 = .ok (.invokevirtual 174, 3) := by decide +kernel
theorem dX4_tellDef_17 : decode cX4_tellDef 17 = .ok (.ifCond .eq 11, 3) := by decide +kernel
theorem dX4_tellDef_20 : decode cX4_tellDef 20 = .ok (.aload_n 0, 1) := by decide +kernel
theorem dX4_tellDef_21 : decode cX4_tellDef 21 = .ok (.iconst 5, 1) := by decide +kernel
theorem dX4_tellDef_22 : decode cX4_tellDef 22 = .ok (.iload_n 1, 1) := by decide +kernel
theorem dX4_tellDef_23 : decode cX4_tellDef 23 = .ok (.iconst 1, 1) := by decide +kernel
theorem dX4_tellDef_24 : decode cX4_tellDef 24 = .ok (.iadd, 1) := by decide +kernel
theorem dX4_tellDef_25 : decode cX4_tellDef 25 = .ok (.invokevirtual 84, 3) := by decide +kernel
theorem dX4_tellDef_28 : decode cX4_tellDef 28 = .ok (.aload_n 0, 1) := by decide +kernel
theorem dX4_tellDef_29 : decode cX4_tellDef 29 = .ok (.iconst 0, 1) := by decide +kernel
theorem dX4_tellDef_30 : decode cX4_tellDef 30 = .ok (.putfield 129, 3) := by decide +kernel
theorem dX4_tellDef_33 : decode cX4_tellDef 33 = .ok (.iload_n 1, 1) := by decide +kernel
theorem dX4_tellDef_34 : decode cX4_tellDef 34 = .ok (.iconst 3, 1) := by decide +kernel
theorem dX4_tellDef_35 : decode cX4_tellDef 35 = .ok (.iadd, 1) := by decide +kernel
theorem dX4_tellDef_36 : decode cX4_tellDef 36 = .ok (.istore_n 2, 1) := by decide +kernel
theorem dX4_tellDef_37 : decode cX4_tellDef 37 = .ok (.iload_n 2, 1) := by decide +kernel
theorem dX4_tellDef_38 : decode cX4_tellDef 38 = .ok (.aload_n 0, 1) := by decide +kernel
theorem dX4_tellDef_39 : decode cX4_tellDef 39 = .ok (.getfield 32, 3) := by decide +kernel
theorem dX4_tellDef_42 : decode cX4_tellDef 42 = .ok (.getfield 53, 3) := by decide +kernel
theorem dX4_tellDef_45 : decode cX4_tellDef 45 = .ok (.if_icmp .ge 52, 3) := by decide +kernel
theorem dX4_tellDef_48 : decode cX4_tellDef 48 = .ok (.aload_n 0, 1) := by decide +kernel
theorem dX4_tellDef_49 : decode cX4_tellDef 49 = .ok (.getfield 32, 3) := by decide +kernel
theorem dX4_tellDef_52 : decode cX4_tellDef 52 = .ok (.iload_n 2, 1) := by decide +kernel
theorem dX4_tellDef_53 : decode cX4_tellDef 53 = .ok (.invokevirtual 116, 3) := by decide +kernel
theorem dX4_tellDef_56 : decode cX4_tellDef 56 = .ok (.iconst 2, 1) := by decide +kernel
theorem dX4_tellDef_57 : decode cX4_tellDef 57 = .ok (.if_icmp .ne 40, 3) := by decide +kernel
theorem dX4_tellDef_60 : decode cX4_tellDef 60 = .ok (.aload_n 0, 1) := by decide +kernel
theorem dX4_tellDef_61 : decode cX4_tellDef 61 = .ok (.iload_n 2, 1) := by decide +kernel
theorem dX4_tellDef_62 : decode cX4_tellDef 62 = .ok (.aload_n 0, 1) := by decide +kernel
theorem dX4_tellDef_63 : decode cX4_tellDef 63 = .ok (.getfield 129, 3) := by decide +kernel
theorem dX4_tellDef_66 : decode cX4_tellDef 66 = .ok (.bipush 6, 2) := by decide +kernel
theorem dX4_tellDef_68 : decode cX4_tellDef 68 = .ok (.if_icmp .ge 7, 3) := by decide +kernel
theorem dX4_tellDef_71 : decode cX4_tellDef 71 = .ok (.iconst 1, 1) := by decide +kernel
theorem dX4_tellDef_72 : decode cX4_tellDef 72 = .ok (.goto 4, 3) := by decide +kernel
theorem dX4_tellDef_75 : decode cX4_tellDef 75 = .ok (.iconst 0, 1) := by decide +kernel
theorem dX4_tellDef_76 : decode cX4_tellDef 76 = .ok (.invokevirtual 161, 3) := by decide +kernel
theorem dX4_tellDef_79 : decode cX4_tellDef 79 = .ok (.aload_n 0, 1) := by decide +kernel
theorem dX4_tellDef_80 : decode cX4_tellDef 80 = .ok (.aload_n 0, 1) := by decide +kernel
theorem dX4_tellDef_81 : decode cX4_tellDef 81 = .ok (.getfield 32, 3) := by decide +kernel
theorem dX4_tellDef_84 : decode cX4_tellDef 84 = .ok (.iload_n 2, 1) := by decide +kernel
theorem dX4_tellDef_85 : decode cX4_tellDef 85 = .ok (.invokevirtual 119, 3) := by decide +kernel
theorem dX4_tellDef_88 : decode cX4_tellDef 88 = .ok (.invokevirtual 178, 3) := by decide +kernel
theorem dX4_tellDef_91 : decode cX4_tellDef 91 = .ok (.iinc 2 2, 3) := by decide +kernel
theorem dX4_tellDef_94 : decode cX4_tellDef 94 = .ok (.goto (-57), 3) := by decide +kernel
theorem dX4_tellDef_97 : decode cX4_tellDef 97 = .ok (.return_, 1) := by decide +kernel
def F_X4_tellDef (p0 : Int32) (Γ : HS) : HR :=
  (F_X4_tellItem (p0 + 1) 6 4 100 Γ).bind fun u_1 =>
  (F_X4_isTooLong p0 u_1.2).bind fun u_3 =>
  bnd (fun  (σ_5 : HS) => (
    bnd (cI' σ_5 3 8 0) fun σ_9 =>
    loopF (fun (again_12 : (Int32 × HS) → HR) (s_11 : Int32 × HS) => (
      if ((s_11.2 1).1 2) ≤ s_11.1 then (
        some (0, s_11.2)
      ) else (
        (F_X10_kindOf s_11.1 s_11.2).bind fun u_18 =>
        bnd (mrg (fun j => j == 1) s_11.2 u_18.2) fun σ_20 =>
        if u_18.1 = 2 then (
          bnd (fun (t_24 : Int32) (σ_25 : HS) => (
            (F_X4_tellLocal s_11.1 t_24 σ_25).bind fun u_29 =>
            (F_X10_worthOf s_11.1 u_29.2).bind fun u_31 =>
            bnd (mrg (fun j => j == 1) u_29.2 u_31.2) fun σ_33 =>
            (F_X4_see u_31.1 σ_33).bind fun u_35 =>
            bnd (s_11.1 + 2) fun (x_37 : Int32) =>
            again_12 (x_37, u_35.2)
          ) : Int32 → HS → HR) fun j_26 =>
          if 6 ≤ ((σ_20 3).1 8) then (
            j_26 0 σ_20
          ) else (
            j_26 1 σ_20
          )
        ) else (
          some (0, σ_20)
        )
      )
    )) FU ((p0 + 3), σ_9)
  ) : HS → HR) fun j_6 =>
  if u_3.1 = 0 then (
    j_6  u_3.2
  ) else (
    (F_X4_fail 5 (p0 + 1) u_3.2).bind fun u_46 =>
    j_6  u_46.2
  )
set_option maxHeartbeats 4000000 in
set_option maxRecDepth 100000 in
theorem k_X4_tellDef (l : Launch) (dC : Nat → ClassId) (dI : Nat → Nat → Nat) (cB cC cI cJ cZ cP : ClassId) (oA : Nat → Nat) (rA : Nat → Nat → Nat) (sz : Nat)  (p0 : Int32) (Γ : HS) (res : Int32 × HS) (hF : F_X4_tellDef p0 Γ = some res) : Met l yX4_tellDef (g_ws yX4_tellDef cX4_tellDef 3 none) ({ frames := 6, cells := 0, slots := 0, locals := 149 }) (va_Pc [.ref (oA 3), .int p0] (g_B (dC, dI) [(cB, .byte), (cC, .char), (cI, .int), (cJ, .long), (cZ, .boolean), (cP, .object "StoryHouse$Play")] sz (b_m cB cC cI cJ cZ oA rA Γ ++ b_w cB cC cI cJ cZ oA rA Γ ++ b_s cB cC cI cJ cZ oA rA Γ ++ b_c cB cC cI cJ cZ oA rA Γ ++ b_t cB cC cI cJ cZ oA rA Γ ++ b_d cB cC cI cJ cZ oA rA Γ) g_0)) (va_Qv (fun (_ : Unit) => True) (g_Bo (dC, dI) (va_A (b_m cB cC cI cJ cZ oA rA Γ ++ b_w cB cC cI cJ cZ oA rA Γ ++ b_s cB cC cI cJ cZ oA rA Γ ++ b_c cB cC cI cJ cZ oA rA Γ ++ b_t cB cC cI cJ cZ oA rA Γ ++ b_d cB cC cI cJ cZ oA rA Γ) sz) (fun (_ : Unit) => (b_m cB cC cI cJ cZ oA rA res.2 ++ b_w cB cC cI cJ cZ oA rA res.2 ++ b_s cB cC cI cJ cZ oA rA res.2 ++ b_c cB cC cI cJ cZ oA rA res.2 ++ b_t cB cC cI cJ cZ oA rA res.2 ++ b_d cB cC cI cJ cZ oA rA res.2))) (va_A (b_m cB cC cI cJ cZ oA rA Γ ++ b_w cB cC cI cJ cZ oA rA Γ ++ b_s cB cC cI cJ cZ oA rA Γ ++ b_c cB cC cI cJ cZ oA rA Γ ++ b_t cB cC cI cJ cZ oA rA Γ ++ b_d cB cC cI cJ cZ oA rA Γ) sz)) 0 0 (va_A (b_m cB cC cI cJ cZ oA rA Γ ++ b_w cB cC cI cJ cZ oA rA Γ ++ b_s cB cC cI cJ cZ oA rA Γ ++ b_c cB cC cI cJ cZ oA rA Γ ++ b_t cB cC cI cJ cZ oA rA Γ ++ b_d cB cC cI cJ cZ oA rA Γ) sz) := by
  refine Met.ofW (cc := cX4_tellDef) (maxL := 3) (ret := none) (by decide) rfl ?_
  intro p e s m args below meth c s₁ B hml hv
  obtain ⟨rfl, hsz, hP, hK, hD0, hE, hX⟩ := hv
  have hx := B.exec
  have hb := B.bytes
  have hr := B.returns
  have hts0 := atoms_spec (ws := g_ws yX4_tellDef cX4_tellDef 3 none) B.pre
  have hts : ∀ w ∈ lw_good, w.before ([.ref (oA 3), .int p0] : List Value).toArray s = true := fun w z => hts0 w (List.mem_cons_of_mem _ z)
  have hown : s.vm.findClass RX4 = some m.cls := findClass_of_methodNamed B.named
  have hlocks := B.notSynchronized
  subst hsz
  have hD1 := hD0.self (sz := s.heap.size)
  generalize hAe : va_A (b_m cB cC cI cJ cZ oA rA Γ ++ b_w cB cC cI cJ cZ oA rA Γ ++ b_s cB cC cI cJ cZ oA rA Γ ++ b_c cB cC cI cJ cZ oA rA Γ ++ b_t cB cC cI cJ cZ oA rA Γ ++ b_d cB cC cI cJ cZ oA rA Γ) s.heap.size = A at hD1 hE hX ⊢
  have hA : ∀ q : Nat, s.heap.size ≤ q → A q := fun q z => by rw [← hAe]; exact Or.inr z
  have hDD : ∀ Γ : HS, va_D A (b_m cB cC cI cJ cZ oA rA Γ ++ b_w cB cC cI cJ cZ oA rA Γ ++ b_s cB cC cI cJ cZ oA rA Γ ++ b_c cB cC cI cJ cZ oA rA Γ ++ b_t cB cC cI cJ cZ oA rA Γ ++ b_d cB cC cI cJ cZ oA rA Γ) := fun Γ9 => va_D_fst (ws := (b_m cB cC cI cJ cZ oA rA Γ ++ b_w cB cC cI cJ cZ oA rA Γ ++ b_s cB cC cI cJ cZ oA rA Γ ++ b_c cB cC cI cJ cZ oA rA Γ ++ b_t cB cC cI cJ cZ oA rA Γ ++ b_d cB cC cI cJ cZ oA rA Γ)) (ws' := (b_m cB cC cI cJ cZ oA rA Γ9 ++ b_w cB cC cI cJ cZ oA rA Γ9 ++ b_s cB cC cI cJ cZ oA rA Γ9 ++ b_c cB cC cI cJ cZ oA rA Γ9 ++ b_t cB cC cI cJ cZ oA rA Γ9 ++ b_d cB cC cI cJ cZ oA rA Γ9)) rfl hD1
  have hN := hE.1
  have hS : va_S A s.heap s.heap [] := va_S.rf
  have hl := lv_entry ([.ref (oA 3), .int p0]) (n := 3) (Nat.le_of_ble_eq_true rfl)
  rw [lg_entry_eq]
  generalize (lg_sl ([.ref (oA 3), .int p0]) ++ List.replicate (3 - (lg_sl ([.ref (oA 3), .int p0])).length) Slot.unset).toArray = ls at hl ⊢
  have hl : lv_has ls 3 [(0, .ref (oA 3)), (1, .int p0)] := hl
  unfold F_X4_tellDef at hF
  refine lv_aload_n hx hb dX4_tellDef_0 rfl (lv_at hl 0 rfl) ?_
  refine lv_iload_n hx hb dX4_tellDef_1 rfl (lv_at hl 1 rfl) ?_
  refine lv_iconst (v := 1) hx hb dX4_tellDef_2 (by decide +kernel) ?_
  refine lv_iadd hx hb dX4_tellDef_3 ?_
  refine lv_bipush (v := 6) hx hb dX4_tellDef_4 (by decide +kernel) ?_
  refine lv_iconst (v := 4) hx hb dX4_tellDef_6 (by decide +kernel) ?_
  refine lv_bipush (v := 100) hx hb dX4_tellDef_7 (by decide +kernel) ?_
  obtain ⟨u_1, hu_1, hF_2⟩ := Option.bind_eq_some_iff.mp hF
  clear hF
  have hPc := hP.sub (ws' := (b_m cB cC cI cJ cZ oA rA Γ ++ b_w cB cC cI cJ cZ oA rA Γ ++ b_s cB cC cI cJ cZ oA rA Γ ++ b_c cB cC cI cJ cZ oA rA Γ ++ b_t cB cC cI cJ cZ oA rA Γ ++ b_d cB cC cI cJ cZ oA rA Γ)) [0, 1, 2, 3, 4, 5, 6, 7, 8, 9, 10, 11, 12, 13, 14, 15, 16, 17, 18, 19, 20, 21, 22, 23, 24, 25, 26, 27, 28, 29, 30, 31, 32, 33, 34, 35, 36, 37, 38, 39, 40, 41, 42, 43, 44, 45, 46] rfl
  have hDc := (hDD Γ).sub (ws' := (b_m cB cC cI cJ cZ oA rA Γ ++ b_w cB cC cI cJ cZ oA rA Γ ++ b_s cB cC cI cJ cZ oA rA Γ ++ b_c cB cC cI cJ cZ oA rA Γ ++ b_t cB cC cI cJ cZ oA rA Γ ++ b_d cB cC cI cJ cZ oA rA Γ)) [0, 1, 2, 3, 4, 5, 6, 7, 8, 9, 10, 11, 12, 13, 14, 15, 16, 17, 18, 19, 20, 21, 22, 23, 24, 25, 26, 27, 28, 29, 30, 31, 32, 33, 34, 35, 36, 37, 38, 39, 40, 41, 42, 43, 44, 45, 46] (by decide +kernel) rfl
  have hFc := va_free (wc := (b_m cB cC cI cJ cZ oA rA Γ ++ b_w cB cC cI cJ cZ oA rA Γ ++ b_s cB cC cI cJ cZ oA rA Γ ++ b_c cB cC cI cJ cZ oA rA Γ ++ b_t cB cC cI cJ cZ oA rA Γ ++ b_d cB cC cI cJ cZ oA rA Γ)) (hDD Γ) hS hA [0, 1, 2, 3, 4, 5, 6, 7, 8, 9, 10, 11, 12, 13, 14, 15, 16, 17, 18, 19, 20, 21, 22, 23, 24, 25, 26, 27, 28, 29, 30, 31, 32, 33, 34, 35, 36, 37, 38, 39, 40, 41, 42, 43, 44, 45, 46] rfl
  refine g_ofv (wc := (b_m cB cC cI cJ cZ oA rA Γ ++ b_w cB cC cI cJ cZ oA rA Γ ++ b_s cB cC cI cJ cZ oA rA Γ ++ b_c cB cC cI cJ cZ oA rA Γ ++ b_t cB cC cI cJ cZ oA rA Γ ++ b_d cB cC cI cJ cZ oA rA Γ)) (wr := ([] : va_W)) hP (hDD Γ) hS hFc [0, 1, 2, 3, 4, 5, 6, 7, 8, 9, 10, 11, 12, 13, 14, 15, 16, 17, 18, 19, 20, 21, 22, 23, 24, 25, 26, 27, 28, 29, 30, 31, 32, 33, 34, 35, 36, 37, 38, 39, 40, 41, 42, 43, 44, 45, 46] [] rfl rfl (by decide +kernel) (by decide +kernel) (va_runV (As := [.int (p0 + 1), .int 6, .int 4, .int 100]) (rest := []) ⟨hx, hb, hml, hown, hts⟩ (k_X4_tellItem l dC dI cB cC cI cJ cZ cP oA rA s.heap.size  (p0 + 1) 6 4 100 Γ _ hu_1) (cwV 4 hts (g_gV wq_722 wq_723 wq_2036 wq_4 wq_724) rfl rfl rfl (by decide +kernel) ⟨Nat.le_of_ble_eq_true rfl, Nat.le_of_ble_eq_true rfl⟩) (g_preV g_bl0 hK hPc hDc hS hE hFc g_to0 (q0 := 0) (ci := 4) rfl rfl) rfl rfl hl.1 rfl (lv_room (Nat.le_of_ble_eq_true rfl)) dX4_tellDef_9 ⟨Nat.le_of_ble_eq_true rfl, Nat.le_of_ble_eq_true rfl⟩) (fun u9 H locs hw9 hP' hD' hS => ?_)
  clear hPc hDc hFc
  have hP : va_P (dC, dI) vwCl (b_m cB cC cI cJ cZ oA rA u_1.2 ++ b_w cB cC cI cJ cZ oA rA u_1.2 ++ b_s cB cC cI cJ cZ oA rA u_1.2 ++ b_c cB cC cI cJ cZ oA rA u_1.2 ++ b_t cB cC cI cJ cZ oA rA u_1.2 ++ b_d cB cC cI cJ cZ oA rA u_1.2) H := hP'
  clear hP' hD'
  refine lv_aload_n hx hb dX4_tellDef_12 rfl (lv_at hl 0 rfl) ?_
  refine lv_iload_n hx hb dX4_tellDef_13 rfl (lv_at hl 1 rfl) ?_
  obtain ⟨u_3, hu_3, hF_4⟩ := Option.bind_eq_some_iff.mp hF_2
  clear hF_2
  have hPc := hP.sub (ws' := (b_m cB cC cI cJ cZ oA rA u_1.2 ++ b_w cB cC cI cJ cZ oA rA u_1.2 ++ b_s cB cC cI cJ cZ oA rA u_1.2 ++ b_c cB cC cI cJ cZ oA rA u_1.2 ++ b_t cB cC cI cJ cZ oA rA u_1.2 ++ b_d cB cC cI cJ cZ oA rA u_1.2)) [0, 1, 2, 3, 4, 5, 6, 7, 8, 9, 10, 11, 12, 13, 14, 15, 16, 17, 18, 19, 20, 21, 22, 23, 24, 25, 26, 27, 28, 29, 30, 31, 32, 33, 34, 35, 36, 37, 38, 39, 40, 41, 42, 43, 44, 45, 46] rfl
  have hDc := (hDD u_1.2).sub (ws' := (b_m cB cC cI cJ cZ oA rA u_1.2 ++ b_w cB cC cI cJ cZ oA rA u_1.2 ++ b_s cB cC cI cJ cZ oA rA u_1.2 ++ b_c cB cC cI cJ cZ oA rA u_1.2 ++ b_t cB cC cI cJ cZ oA rA u_1.2 ++ b_d cB cC cI cJ cZ oA rA u_1.2)) [0, 1, 2, 3, 4, 5, 6, 7, 8, 9, 10, 11, 12, 13, 14, 15, 16, 17, 18, 19, 20, 21, 22, 23, 24, 25, 26, 27, 28, 29, 30, 31, 32, 33, 34, 35, 36, 37, 38, 39, 40, 41, 42, 43, 44, 45, 46] (by decide +kernel) rfl
  have hFc := va_free (wc := (b_m cB cC cI cJ cZ oA rA u_1.2 ++ b_w cB cC cI cJ cZ oA rA u_1.2 ++ b_s cB cC cI cJ cZ oA rA u_1.2 ++ b_c cB cC cI cJ cZ oA rA u_1.2 ++ b_t cB cC cI cJ cZ oA rA u_1.2 ++ b_d cB cC cI cJ cZ oA rA u_1.2)) (hDD u_1.2) hS hA [0, 1, 2, 3, 4, 5, 6, 7, 8, 9, 10, 11, 12, 13, 14, 15, 16, 17, 18, 19, 20, 21, 22, 23, 24, 25, 26, 27, 28, 29, 30, 31, 32, 33, 34, 35, 36, 37, 38, 39, 40, 41, 42, 43, 44, 45, 46] rfl
  refine g_ofi (wc := (b_m cB cC cI cJ cZ oA rA u_1.2 ++ b_w cB cC cI cJ cZ oA rA u_1.2 ++ b_s cB cC cI cJ cZ oA rA u_1.2 ++ b_c cB cC cI cJ cZ oA rA u_1.2 ++ b_t cB cC cI cJ cZ oA rA u_1.2 ++ b_d cB cC cI cJ cZ oA rA u_1.2)) (wr := ([] : va_W)) hP (hDD u_1.2) hS hFc [0, 1, 2, 3, 4, 5, 6, 7, 8, 9, 10, 11, 12, 13, 14, 15, 16, 17, 18, 19, 20, 21, 22, 23, 24, 25, 26, 27, 28, 29, 30, 31, 32, 33, 34, 35, 36, 37, 38, 39, 40, 41, 42, 43, 44, 45, 46] [] rfl rfl (by decide +kernel) (by decide +kernel) (va_runV (As := [.int p0]) (rest := []) ⟨hx, hb, hml, hown, hts⟩ (k_X4_isTooLong l dC dI cB cC cI cJ cZ cP oA rA H.size  p0 u_1.2 _ hu_3) (cwV 1 hts (g_gV wq_741 wq_742 wq_2042 wq_4 wq_743) rfl rfl rfl (by decide +kernel) ⟨Nat.le_of_ble_eq_true rfl, Nat.le_of_ble_eq_true rfl⟩) (g_preV g_bl0 hK hPc hDc hS hE hFc g_to0 (q0 := 0) (ci := 4) rfl rfl) rfl rfl hl.1 rfl (lv_room (Nat.le_of_ble_eq_true rfl)) dX4_tellDef_14 ⟨Nat.le_of_ble_eq_true rfl, Nat.le_of_ble_eq_true rfl⟩) (fun r9 u9 H locs hw9 hP' hD' hS => ?_)
  clear hPc hDc hFc
  subst hw9
  have hP : va_P (dC, dI) vwCl (b_m cB cC cI cJ cZ oA rA u_3.2 ++ b_w cB cC cI cJ cZ oA rA u_3.2 ++ b_s cB cC cI cJ cZ oA rA u_3.2 ++ b_c cB cC cI cJ cZ oA rA u_3.2 ++ b_t cB cC cI cJ cZ oA rA u_3.2 ++ b_d cB cC cI cJ cZ oA rA u_3.2) H := hP'
  clear hP' hD'
  obtain ⟨j_6, ej_6, hF_7⟩ := bnd_e hF_4
  clear hF_4
  have Jj_6 : ∀  (σ_5 : HS), j_6  σ_5 = some res → ∀ (H : Heap) (locs : List Loc), va_P (dC, dI) vwCl (b_m cB cC cI cJ cZ oA rA σ_5 ++ b_w cB cC cI cJ cZ oA rA σ_5 ++ b_s cB cC cI cJ cZ oA rA σ_5 ++ b_c cB cC cI cJ cZ oA rA σ_5 ++ b_t cB cC cI cJ cZ oA rA σ_5 ++ b_d cB cC cI cJ cZ oA rA σ_5) H → va_S A s.heap H locs → ∀ ls : Array Slot, lv_has ls 3 [(0, .ref (oA 3)), (1, .int p0)] → W p l e (headSpec (g_ws yX4_tellDef cX4_tellDef 3 none) { frames := 6, cells := 0, slots := 0, locals := 149 }).room s m ([.ref (oA 3), .int p0] : List Value).toArray below meth c H locs 0 0 (MQ below (va_Qv (fun (_ : Unit) => True) (g_Bo (dC, dI) A (fun (_ : Unit) => (b_m cB cC cI cJ cZ oA rA res.2 ++ b_w cB cC cI cJ cZ oA rA res.2 ++ b_s cB cC cI cJ cZ oA rA res.2 ++ b_c cB cC cI cJ cZ oA rA res.2 ++ b_t cB cC cI cJ cZ oA rA res.2 ++ b_d cB cC cI cJ cZ oA rA res.2))) A) ([.ref (oA 3), .int p0] : List Value).toArray s 0 0 A) (F0 m 28 ls []) := by
    intro  σ_5 hF0 H locs hP hS ls hl
    subst ej_6
    have hF_8 := hF0
    clear hF0
    refine lv_aload_n hx hb dX4_tellDef_28 rfl (lv_at hl 0 rfl) ?_
    refine lv_iconst (v := 0) hx hb dX4_tellDef_29 (by decide +kernel) ?_
    obtain ⟨σ_9, eσ_9, hF_10⟩ := bnd_e hF_8
    clear hF_8
    refine va_put (D := (dC, dI)) (ci := 4) (v := .int 0) (ty := .int) (C := RX4) (T := TX4) (N := 18) hx hb hts ii_X4 tyX4 tyX4_ok nmX4 hown hK hP (hDD _) hS 0 rfl rfl 8 (by decide) (hts (.fieldLink RX4 129 "StoryHouse$Meanings" "slots" "I") wq_94) (fun _ h9 => h9) rfl (by decide +kernel) rfl rfl (Nat.le_of_ble_eq_true rfl) dX4_tellDef_30 (fun H locs hP' _ hS => ?_)
    have hP : va_P (dC, dI) vwCl (b_m cB cC cI cJ cZ oA rA σ_9 ++ b_w cB cC cI cJ cZ oA rA σ_9 ++ b_s cB cC cI cJ cZ oA rA σ_9 ++ b_c cB cC cI cJ cZ oA rA σ_9 ++ b_t cB cC cI cJ cZ oA rA σ_9 ++ b_d cB cC cI cJ cZ oA rA σ_9) H := by rw [eσ_9]; exact cs_mwsctd_m_8 ▸ hP'
    clear hP'
    refine lv_iload_n hx hb dX4_tellDef_33 rfl (lv_at hl 1 rfl) ?_
    refine lv_iconst (v := 3) hx hb dX4_tellDef_34 (by decide +kernel) ?_
    refine lv_iadd hx hb dX4_tellDef_35 ?_
    refine lv_istore_n (lv' := [(2, .int (p0 + 3)), (0, .ref (oA 3)), (1, .int p0)]) hx hb dX4_tellDef_36 rfl hl (by decide) rfl (fun ls hl => ?_)
    refine loopF_ind (P := fun (s_11 : Int32 × HS) => ∀ (H : Heap) (locs : List Loc), va_P (dC, dI) vwCl (b_m cB cC cI cJ cZ oA rA s_11.2 ++ b_w cB cC cI cJ cZ oA rA s_11.2 ++ b_s cB cC cI cJ cZ oA rA s_11.2 ++ b_c cB cC cI cJ cZ oA rA s_11.2 ++ b_t cB cC cI cJ cZ oA rA s_11.2 ++ b_d cB cC cI cJ cZ oA rA s_11.2) H → va_S A s.heap H locs → ∀ ls : Array Slot, lv_has ls 3 [(0, .ref (oA 3)), (2, .int s_11.1)] → W p l e (headSpec (g_ws yX4_tellDef cX4_tellDef 3 none) { frames := 6, cells := 0, slots := 0, locals := 149 }).room s m ([.ref (oA 3), .int p0] : List Value).toArray below meth c H locs 0 0 (MQ below (va_Qv (fun (_ : Unit) => True) (g_Bo (dC, dI) A (fun (_ : Unit) => (b_m cB cC cI cJ cZ oA rA res.2 ++ b_w cB cC cI cJ cZ oA rA res.2 ++ b_s cB cC cI cJ cZ oA rA res.2 ++ b_c cB cC cI cJ cZ oA rA res.2 ++ b_t cB cC cI cJ cZ oA rA res.2 ++ b_d cB cC cI cJ cZ oA rA res.2))) A) ([.ref (oA 3), .int p0] : List Value).toArray s 0 0 A) (F0 m 37 ls [])) ?_ _ _ hF_10 _ _ hP hS ls (lv_sub hl [1, 0] rfl)
    intro again_12 s_11 ih_13 hF_14
    intro H locs hP hS ls hl
    refine lv_iload_n hx hb dX4_tellDef_37 rfl (lv_at hl 1 rfl) ?_
    refine lv_aload_n hx hb dX4_tellDef_38 rfl (lv_at hl 0 rfl) ?_
    refine va_get (D := (dC, dI)) (ci := 4) (v := .ref (oA 1)) (C := RX4) (T := TX4) (N := 18) hx hb hts ii_X4 hown hK hP 0 rfl rfl 0 (by decide) (hts (.fieldLink RX4 32 "StoryHouse$Meanings" "words" "LStoryHouse$Words;") wq_86) (fun _ h9 => h9) rfl dX4_tellDef_39 ?_
    refine va_get (D := (dC, dI)) (ci := 10) (v := .int ((s_11.2 1).1 2)) (C := RX10) (T := TX10) (N := 12) hx hb hts ii_X10 hown hK hP 7 rfl rfl 2 (by decide) (hts (.fieldLink RX4 53 "StoryHouse$Words" "count" "I") wq_45) (fun _ h9 => h9) rfl dX4_tellDef_42 ?_
    refine lv_icmp_ge (tgt := 97) hx hb dX4_tellDef_45 (by decide) (fun c_15 => ?_) (fun c_15 => ?_)
    · have hF_16 := ipos c_15 hF_14
      clear hF_14
      have h9 := Option.some.inj hF_16
      subst h9
      exact W.vret hx hb hr (fun t ht hW => ⟨⟨(), rfl, trivial, m_end ht hP, hDD _⟩, hS.F ht⟩) hS.2.2 dX4_tellDef_97
    · have hF_17 := ineg c_15 hF_14
      clear hF_14
      refine lv_aload_n hx hb dX4_tellDef_48 rfl (lv_at hl 0 rfl) ?_
      refine va_get (D := (dC, dI)) (ci := 4) (v := .ref (oA 1)) (C := RX4) (T := TX4) (N := 18) hx hb hts ii_X4 hown hK hP 0 rfl rfl 0 (by decide) (hts (.fieldLink RX4 32 "StoryHouse$Meanings" "words" "LStoryHouse$Words;") wq_86) (fun _ h9 => h9) rfl dX4_tellDef_49 ?_
      refine lv_iload_n hx hb dX4_tellDef_52 rfl (lv_at hl 1 rfl) ?_
      obtain ⟨u_18, hu_18, hF_19⟩ := Option.bind_eq_some_iff.mp hF_17
      clear hF_17
      have hPc := hP.sub (ws' := (b_w cB cC cI cJ cZ oA rA s_11.2)) [7, 8, 9, 10, 11, 12, 13, 14, 15] rfl
      have hDc := (hDD s_11.2).sub (ws' := (b_w cB cC cI cJ cZ oA rA s_11.2)) [7, 8, 9, 10, 11, 12, 13, 14, 15] (by decide +kernel) rfl
      have hFc := va_free (wc := (b_w cB cC cI cJ cZ oA rA s_11.2)) (hDD s_11.2) hS hA [7, 8, 9, 10, 11, 12, 13, 14, 15] rfl
      refine g_ofi (wc := (b_w cB cC cI cJ cZ oA rA s_11.2)) (wr := (b_m cB cC cI cJ cZ oA rA s_11.2 ++ b_s cB cC cI cJ cZ oA rA s_11.2 ++ b_c cB cC cI cJ cZ oA rA s_11.2 ++ b_t cB cC cI cJ cZ oA rA s_11.2 ++ b_d cB cC cI cJ cZ oA rA s_11.2)) hP (hDD s_11.2) hS hFc [7, 8, 9, 10, 11, 12, 13, 14, 15] [0, 1, 2, 3, 4, 5, 6, 16, 17, 18, 19, 20, 21, 22, 23, 24, 25, 26, 27, 28, 29, 30, 31, 32, 33, 34, 35, 36, 37, 38, 39, 40, 41, 42, 43, 44, 45, 46] rfl rfl (by decide +kernel) (by decide +kernel) (va_runV (As := [.int s_11.1]) (rest := []) ⟨hx, hb, hml, hown, hts⟩ (k_X10_kindOf l dC dI cB cC cI cJ cZ cP oA rA H.size  s_11.1 s_11.2 _ hu_18) (cwV 1 hts (g_gV wq_714 wq_543 wq_544 wq_2 wq_545) rfl rfl rfl (by decide +kernel) ⟨Nat.le_of_ble_eq_true rfl, Nat.le_of_ble_eq_true rfl⟩) (g_preV g_bl0 hK hPc hDc hS hE hFc g_to0 (q0 := 0) (ci := 10) rfl rfl) rfl rfl hl.1 rfl (lv_room (Nat.le_of_ble_eq_true rfl)) dX4_tellDef_53 ⟨Nat.le_of_ble_eq_true rfl, Nat.le_of_ble_eq_true rfl⟩) (fun r9 u9 H locs hw9 hP' hD' hS => ?_)
      clear hPc hDc hFc
      subst hw9
      obtain ⟨σ_20, eσ_20, hF_21⟩ := bnd_e hF_19
      clear hF_19
      have hP : va_P (dC, dI) vwCl (b_m cB cC cI cJ cZ oA rA σ_20 ++ b_w cB cC cI cJ cZ oA rA σ_20 ++ b_s cB cC cI cJ cZ oA rA σ_20 ++ b_c cB cC cI cJ cZ oA rA σ_20 ++ b_t cB cC cI cJ cZ oA rA σ_20 ++ b_d cB cC cI cJ cZ oA rA σ_20) H := by rw [eσ_20]; exact hP'.sub [0, 1, 2, 3, 4, 5, 6, 38, 39, 40, 41, 42, 43, 44, 45, 46, 7, 8, 9, 10, 11, 12, 13, 14, 15, 16, 17, 18, 19, 20, 21, 22, 23, 24, 25, 26, 27, 28, 29, 30, 31, 32, 33, 34, 35, 36, 37] rfl
      clear hP' hD'
      refine lv_iconst (v := 2) hx hb dX4_tellDef_56 (by decide +kernel) ?_
      refine lv_icmp_ne (tgt := 97) hx hb dX4_tellDef_57 (by decide) (fun c_22 => ?_) (fun c_22 => ?_)
      · have hF_42 := ineg c_22 hF_21
        clear hF_21
        have h9 := Option.some.inj hF_42
        subst h9
        exact W.vret hx hb hr (fun t ht hW => ⟨⟨(), rfl, trivial, m_end ht hP, hDD _⟩, hS.F ht⟩) hS.2.2 dX4_tellDef_97
      · have hF_23 := ipos c_22 hF_21
        clear hF_21
        refine lv_aload_n hx hb dX4_tellDef_60 rfl (lv_at hl 0 rfl) ?_
        refine lv_iload_n hx hb dX4_tellDef_61 rfl (lv_at hl 1 rfl) ?_
        refine lv_aload_n hx hb dX4_tellDef_62 rfl (lv_at hl 0 rfl) ?_
        refine va_get (D := (dC, dI)) (ci := 4) (v := .int ((σ_20 3).1 8)) (C := RX4) (T := TX4) (N := 18) hx hb hts ii_X4 hown hK hP 0 rfl rfl 8 (by decide) (hts (.fieldLink RX4 129 "StoryHouse$Meanings" "slots" "I") wq_94) (fun _ h9 => h9) rfl dX4_tellDef_63 ?_
        refine lv_bipush (v := 6) hx hb dX4_tellDef_66 (by decide +kernel) ?_
        obtain ⟨j_26, ej_26, hF_27⟩ := bnd_e hF_23
        clear hF_23
        have Jj_26 : ∀ (t_24 : Int32) (σ_25 : HS), j_26 t_24 σ_25 = some res → ∀ (H : Heap) (locs : List Loc), va_P (dC, dI) vwCl (b_m cB cC cI cJ cZ oA rA σ_25 ++ b_w cB cC cI cJ cZ oA rA σ_25 ++ b_s cB cC cI cJ cZ oA rA σ_25 ++ b_c cB cC cI cJ cZ oA rA σ_25 ++ b_t cB cC cI cJ cZ oA rA σ_25 ++ b_d cB cC cI cJ cZ oA rA σ_25) H → va_S A s.heap H locs → ∀ ls : Array Slot, lv_has ls 3 [(0, .ref (oA 3)), (2, .int s_11.1)] → W p l e (headSpec (g_ws yX4_tellDef cX4_tellDef 3 none) { frames := 6, cells := 0, slots := 0, locals := 149 }).room s m ([.ref (oA 3), .int p0] : List Value).toArray below meth c H locs 0 0 (MQ below (va_Qv (fun (_ : Unit) => True) (g_Bo (dC, dI) A (fun (_ : Unit) => (b_m cB cC cI cJ cZ oA rA res.2 ++ b_w cB cC cI cJ cZ oA rA res.2 ++ b_s cB cC cI cJ cZ oA rA res.2 ++ b_c cB cC cI cJ cZ oA rA res.2 ++ b_t cB cC cI cJ cZ oA rA res.2 ++ b_d cB cC cI cJ cZ oA rA res.2))) A) ([.ref (oA 3), .int p0] : List Value).toArray s 0 0 A) (F0 m 76 ls [.int t_24, .int s_11.1, .ref (oA 3)]) := by
          intro t_24 σ_25 hF0 H locs hP hS ls hl
          subst ej_26
          have hF_28 := hF0
          clear hF0
          obtain ⟨u_29, hu_29, hF_30⟩ := Option.bind_eq_some_iff.mp hF_28
          clear hF_28
          have hPc := hP.sub (ws' := (b_m cB cC cI cJ cZ oA rA σ_25 ++ b_w cB cC cI cJ cZ oA rA σ_25 ++ b_s cB cC cI cJ cZ oA rA σ_25 ++ b_c cB cC cI cJ cZ oA rA σ_25 ++ b_t cB cC cI cJ cZ oA rA σ_25 ++ b_d cB cC cI cJ cZ oA rA σ_25)) [0, 1, 2, 3, 4, 5, 6, 7, 8, 9, 10, 11, 12, 13, 14, 15, 16, 17, 18, 19, 20, 21, 22, 23, 24, 25, 26, 27, 28, 29, 30, 31, 32, 33, 34, 35, 36, 37, 38, 39, 40, 41, 42, 43, 44, 45, 46] rfl
          have hDc := (hDD σ_25).sub (ws' := (b_m cB cC cI cJ cZ oA rA σ_25 ++ b_w cB cC cI cJ cZ oA rA σ_25 ++ b_s cB cC cI cJ cZ oA rA σ_25 ++ b_c cB cC cI cJ cZ oA rA σ_25 ++ b_t cB cC cI cJ cZ oA rA σ_25 ++ b_d cB cC cI cJ cZ oA rA σ_25)) [0, 1, 2, 3, 4, 5, 6, 7, 8, 9, 10, 11, 12, 13, 14, 15, 16, 17, 18, 19, 20, 21, 22, 23, 24, 25, 26, 27, 28, 29, 30, 31, 32, 33, 34, 35, 36, 37, 38, 39, 40, 41, 42, 43, 44, 45, 46] (by decide +kernel) rfl
          have hFc := va_free (wc := (b_m cB cC cI cJ cZ oA rA σ_25 ++ b_w cB cC cI cJ cZ oA rA σ_25 ++ b_s cB cC cI cJ cZ oA rA σ_25 ++ b_c cB cC cI cJ cZ oA rA σ_25 ++ b_t cB cC cI cJ cZ oA rA σ_25 ++ b_d cB cC cI cJ cZ oA rA σ_25)) (hDD σ_25) hS hA [0, 1, 2, 3, 4, 5, 6, 7, 8, 9, 10, 11, 12, 13, 14, 15, 16, 17, 18, 19, 20, 21, 22, 23, 24, 25, 26, 27, 28, 29, 30, 31, 32, 33, 34, 35, 36, 37, 38, 39, 40, 41, 42, 43, 44, 45, 46] rfl
          refine g_ofv (wc := (b_m cB cC cI cJ cZ oA rA σ_25 ++ b_w cB cC cI cJ cZ oA rA σ_25 ++ b_s cB cC cI cJ cZ oA rA σ_25 ++ b_c cB cC cI cJ cZ oA rA σ_25 ++ b_t cB cC cI cJ cZ oA rA σ_25 ++ b_d cB cC cI cJ cZ oA rA σ_25)) (wr := ([] : va_W)) hP (hDD σ_25) hS hFc [0, 1, 2, 3, 4, 5, 6, 7, 8, 9, 10, 11, 12, 13, 14, 15, 16, 17, 18, 19, 20, 21, 22, 23, 24, 25, 26, 27, 28, 29, 30, 31, 32, 33, 34, 35, 36, 37, 38, 39, 40, 41, 42, 43, 44, 45, 46] [] rfl rfl (by decide +kernel) (by decide +kernel) (va_runV (As := [.int s_11.1, .int t_24]) (rest := []) ⟨hx, hb, hml, hown, hts⟩ (k_X4_tellLocal l dC dI cB cC cI cJ cZ cP oA rA H.size  s_11.1 t_24 σ_25 _ hu_29) (cwV 2 hts (g_gV wq_744 wq_745 wq_2043 wq_4 wq_746) rfl rfl rfl (by decide +kernel) ⟨Nat.le_of_ble_eq_true rfl, Nat.le_of_ble_eq_true rfl⟩) (g_preV g_bl0 hK hPc hDc hS hE hFc g_to0 (q0 := 0) (ci := 4) rfl rfl) rfl rfl hl.1 rfl (lv_room (Nat.le_of_ble_eq_true rfl)) dX4_tellDef_76 ⟨Nat.le_of_ble_eq_true rfl, Nat.le_of_ble_eq_true rfl⟩) (fun u9 H locs hw9 hP' hD' hS => ?_)
          clear hPc hDc hFc
          have hP : va_P (dC, dI) vwCl (b_m cB cC cI cJ cZ oA rA u_29.2 ++ b_w cB cC cI cJ cZ oA rA u_29.2 ++ b_s cB cC cI cJ cZ oA rA u_29.2 ++ b_c cB cC cI cJ cZ oA rA u_29.2 ++ b_t cB cC cI cJ cZ oA rA u_29.2 ++ b_d cB cC cI cJ cZ oA rA u_29.2) H := hP'
          clear hP' hD'
          refine lv_aload_n hx hb dX4_tellDef_79 rfl (lv_at hl 0 rfl) ?_
          refine lv_aload_n hx hb dX4_tellDef_80 rfl (lv_at hl 0 rfl) ?_
          refine va_get (D := (dC, dI)) (ci := 4) (v := .ref (oA 1)) (C := RX4) (T := TX4) (N := 18) hx hb hts ii_X4 hown hK hP 0 rfl rfl 0 (by decide) (hts (.fieldLink RX4 32 "StoryHouse$Meanings" "words" "LStoryHouse$Words;") wq_86) (fun _ h9 => h9) rfl dX4_tellDef_81 ?_
          refine lv_iload_n hx hb dX4_tellDef_84 rfl (lv_at hl 1 rfl) ?_
          obtain ⟨u_31, hu_31, hF_32⟩ := Option.bind_eq_some_iff.mp hF_30
          clear hF_30
          have hPc := hP.sub (ws' := (b_w cB cC cI cJ cZ oA rA u_29.2)) [7, 8, 9, 10, 11, 12, 13, 14, 15] rfl
          have hDc := (hDD u_29.2).sub (ws' := (b_w cB cC cI cJ cZ oA rA u_29.2)) [7, 8, 9, 10, 11, 12, 13, 14, 15] (by decide +kernel) rfl
          have hFc := va_free (wc := (b_w cB cC cI cJ cZ oA rA u_29.2)) (hDD u_29.2) hS hA [7, 8, 9, 10, 11, 12, 13, 14, 15] rfl
          refine g_ofi (wc := (b_w cB cC cI cJ cZ oA rA u_29.2)) (wr := (b_m cB cC cI cJ cZ oA rA u_29.2 ++ b_s cB cC cI cJ cZ oA rA u_29.2 ++ b_c cB cC cI cJ cZ oA rA u_29.2 ++ b_t cB cC cI cJ cZ oA rA u_29.2 ++ b_d cB cC cI cJ cZ oA rA u_29.2)) hP (hDD u_29.2) hS hFc [7, 8, 9, 10, 11, 12, 13, 14, 15] [0, 1, 2, 3, 4, 5, 6, 16, 17, 18, 19, 20, 21, 22, 23, 24, 25, 26, 27, 28, 29, 30, 31, 32, 33, 34, 35, 36, 37, 38, 39, 40, 41, 42, 43, 44, 45, 46] rfl rfl (by decide +kernel) (by decide +kernel) (va_runV (As := [.int s_11.1]) (rest := [.ref (oA 3)]) ⟨hx, hb, hml, hown, hts⟩ (k_X10_worthOf l dC dI cB cC cI cJ cZ cP oA rA H.size  s_11.1 u_29.2 _ hu_31) (cwV 1 hts (g_gV wq_715 wq_653 wq_654 wq_2 wq_655) rfl rfl rfl (by decide +kernel) ⟨Nat.le_of_ble_eq_true rfl, Nat.le_of_ble_eq_true rfl⟩) (g_preV g_bl0 hK hPc hDc hS hE hFc g_to0 (q0 := 0) (ci := 10) rfl rfl) rfl rfl hl.1 rfl (lv_room (Nat.le_of_ble_eq_true rfl)) dX4_tellDef_85 ⟨Nat.le_of_ble_eq_true rfl, Nat.le_of_ble_eq_true rfl⟩) (fun r9 u9 H locs hw9 hP' hD' hS => ?_)
          clear hPc hDc hFc
          subst hw9
          obtain ⟨σ_33, eσ_33, hF_34⟩ := bnd_e hF_32
          clear hF_32
          have hP : va_P (dC, dI) vwCl (b_m cB cC cI cJ cZ oA rA σ_33 ++ b_w cB cC cI cJ cZ oA rA σ_33 ++ b_s cB cC cI cJ cZ oA rA σ_33 ++ b_c cB cC cI cJ cZ oA rA σ_33 ++ b_t cB cC cI cJ cZ oA rA σ_33 ++ b_d cB cC cI cJ cZ oA rA σ_33) H := by rw [eσ_33]; exact hP'.sub [0, 1, 2, 3, 4, 5, 6, 38, 39, 40, 41, 42, 43, 44, 45, 46, 7, 8, 9, 10, 11, 12, 13, 14, 15, 16, 17, 18, 19, 20, 21, 22, 23, 24, 25, 26, 27, 28, 29, 30, 31, 32, 33, 34, 35, 36, 37] rfl
          clear hP' hD'
          obtain ⟨u_35, hu_35, hF_36⟩ := Option.bind_eq_some_iff.mp hF_34
          clear hF_34
          have hPc := hP.sub (ws' := (b_m cB cC cI cJ cZ oA rA σ_33 ++ b_w cB cC cI cJ cZ oA rA σ_33 ++ b_s cB cC cI cJ cZ oA rA σ_33 ++ b_c cB cC cI cJ cZ oA rA σ_33 ++ b_t cB cC cI cJ cZ oA rA σ_33 ++ b_d cB cC cI cJ cZ oA rA σ_33)) [0, 1, 2, 3, 4, 5, 6, 7, 8, 9, 10, 11, 12, 13, 14, 15, 16, 17, 18, 19, 20, 21, 22, 23, 24, 25, 26, 27, 28, 29, 30, 31, 32, 33, 34, 35, 36, 37, 38, 39, 40, 41, 42, 43, 44, 45, 46] rfl
          have hDc := (hDD σ_33).sub (ws' := (b_m cB cC cI cJ cZ oA rA σ_33 ++ b_w cB cC cI cJ cZ oA rA σ_33 ++ b_s cB cC cI cJ cZ oA rA σ_33 ++ b_c cB cC cI cJ cZ oA rA σ_33 ++ b_t cB cC cI cJ cZ oA rA σ_33 ++ b_d cB cC cI cJ cZ oA rA σ_33)) [0, 1, 2, 3, 4, 5, 6, 7, 8, 9, 10, 11, 12, 13, 14, 15, 16, 17, 18, 19, 20, 21, 22, 23, 24, 25, 26, 27, 28, 29, 30, 31, 32, 33, 34, 35, 36, 37, 38, 39, 40, 41, 42, 43, 44, 45, 46] (by decide +kernel) rfl
          have hFc := va_free (wc := (b_m cB cC cI cJ cZ oA rA σ_33 ++ b_w cB cC cI cJ cZ oA rA σ_33 ++ b_s cB cC cI cJ cZ oA rA σ_33 ++ b_c cB cC cI cJ cZ oA rA σ_33 ++ b_t cB cC cI cJ cZ oA rA σ_33 ++ b_d cB cC cI cJ cZ oA rA σ_33)) (hDD σ_33) hS hA [0, 1, 2, 3, 4, 5, 6, 7, 8, 9, 10, 11, 12, 13, 14, 15, 16, 17, 18, 19, 20, 21, 22, 23, 24, 25, 26, 27, 28, 29, 30, 31, 32, 33, 34, 35, 36, 37, 38, 39, 40, 41, 42, 43, 44, 45, 46] rfl
          refine g_ofv (wc := (b_m cB cC cI cJ cZ oA rA σ_33 ++ b_w cB cC cI cJ cZ oA rA σ_33 ++ b_s cB cC cI cJ cZ oA rA σ_33 ++ b_c cB cC cI cJ cZ oA rA σ_33 ++ b_t cB cC cI cJ cZ oA rA σ_33 ++ b_d cB cC cI cJ cZ oA rA σ_33)) (wr := ([] : va_W)) hP (hDD σ_33) hS hFc [0, 1, 2, 3, 4, 5, 6, 7, 8, 9, 10, 11, 12, 13, 14, 15, 16, 17, 18, 19, 20, 21, 22, 23, 24, 25, 26, 27, 28, 29, 30, 31, 32, 33, 34, 35, 36, 37, 38, 39, 40, 41, 42, 43, 44, 45, 46] [] rfl rfl (by decide +kernel) (by decide +kernel) (va_runV (As := [.int u_31.1]) (rest := []) ⟨hx, hb, hml, hown, hts⟩ (k_X4_see l dC dI cB cC cI cJ cZ cP oA rA H.size  u_31.1 σ_33 _ hu_35) (cwV 1 hts (g_gV wq_747 wq_748 wq_2044 wq_4 wq_749) rfl rfl rfl (by decide +kernel) ⟨Nat.le_of_ble_eq_true rfl, Nat.le_of_ble_eq_true rfl⟩) (g_preV g_bl0 hK hPc hDc hS hE hFc g_to0 (q0 := 0) (ci := 4) rfl rfl) rfl rfl hl.1 rfl (lv_room (Nat.le_of_ble_eq_true rfl)) dX4_tellDef_88 ⟨Nat.le_of_ble_eq_true rfl, Nat.le_of_ble_eq_true rfl⟩) (fun u9 H locs hw9 hP' hD' hS => ?_)
          clear hPc hDc hFc
          have hP : va_P (dC, dI) vwCl (b_m cB cC cI cJ cZ oA rA u_35.2 ++ b_w cB cC cI cJ cZ oA rA u_35.2 ++ b_s cB cC cI cJ cZ oA rA u_35.2 ++ b_c cB cC cI cJ cZ oA rA u_35.2 ++ b_t cB cC cI cJ cZ oA rA u_35.2 ++ b_d cB cC cI cJ cZ oA rA u_35.2) H := hP'
          clear hP' hD'
          obtain ⟨x_37, ex_37, hF_38⟩ := bnd_e hF_36
          clear hF_36
          refine lv_iinc (v := x_37) (lv' := [(2, .int x_37), (0, .ref (oA 3))]) hx hb dX4_tellDef_91 hl (k := 1) rfl (by rw [ex_37]; rfl) (by decide) rfl (fun ls hl => ?_)
          refine lv_goto (tgt := 37) hx hb dX4_tellDef_94 (by decide) ?_
          exact ih_13 (x_37, u_35.2) hF_38 _ _ hP hS ls (lv_sub hl [1, 0] rfl)
        refine lv_icmp_ge (tgt := 75) hx hb dX4_tellDef_68 (by decide) (fun c_39 => ?_) (fun c_39 => ?_)
        · have hF_40 := ipos c_39 hF_27
          clear hF_27
          refine lv_iconst (v := 0) hx hb dX4_tellDef_75 (by decide +kernel) ?_
          exact Jj_26 0 σ_20 hF_40 _ _ hP hS ls (lv_sub hl [0, 1] rfl)
        · have hF_41 := ineg c_39 hF_27
          clear hF_27
          refine lv_iconst (v := 1) hx hb dX4_tellDef_71 (by decide +kernel) ?_
          refine lv_goto (tgt := 76) hx hb dX4_tellDef_72 (by decide) ?_
          exact Jj_26 1 σ_20 hF_41 _ _ hP hS ls (lv_sub hl [0, 1] rfl)
  refine lv_if_eq (tgt := 28) hx hb dX4_tellDef_17 (by decide) (fun c_43 => ?_) (fun c_43 => ?_)
  · have hF_44 := ipos c_43 hF_7
    clear hF_7
    exact Jj_6  u_3.2 hF_44 _ _ hP hS ls (lv_sub hl [0, 1] rfl)
  · have hF_45 := ineg c_43 hF_7
    clear hF_7
    refine lv_aload_n hx hb dX4_tellDef_20 rfl (lv_at hl 0 rfl) ?_
    refine lv_iconst (v := 5) hx hb dX4_tellDef_21 (by decide +kernel) ?_
    refine lv_iload_n hx hb dX4_tellDef_22 rfl (lv_at hl 1 rfl) ?_
    refine lv_iconst (v := 1) hx hb dX4_tellDef_23 (by decide +kernel) ?_
    refine lv_iadd hx hb dX4_tellDef_24 ?_
    obtain ⟨u_46, hu_46, hF_47⟩ := Option.bind_eq_some_iff.mp hF_45
    clear hF_45
    have hPc := hP.sub (ws' := (b_m cB cC cI cJ cZ oA rA u_3.2 ++ b_w cB cC cI cJ cZ oA rA u_3.2 ++ b_s cB cC cI cJ cZ oA rA u_3.2 ++ b_c cB cC cI cJ cZ oA rA u_3.2 ++ b_t cB cC cI cJ cZ oA rA u_3.2 ++ b_d cB cC cI cJ cZ oA rA u_3.2)) [0, 1, 2, 3, 4, 5, 6, 7, 8, 9, 10, 11, 12, 13, 14, 15, 16, 17, 18, 19, 20, 21, 22, 23, 24, 25, 26, 27, 28, 29, 30, 31, 32, 33, 34, 35, 36, 37, 38, 39, 40, 41, 42, 43, 44, 45, 46] rfl
    have hDc := (hDD u_3.2).sub (ws' := (b_m cB cC cI cJ cZ oA rA u_3.2 ++ b_w cB cC cI cJ cZ oA rA u_3.2 ++ b_s cB cC cI cJ cZ oA rA u_3.2 ++ b_c cB cC cI cJ cZ oA rA u_3.2 ++ b_t cB cC cI cJ cZ oA rA u_3.2 ++ b_d cB cC cI cJ cZ oA rA u_3.2)) [0, 1, 2, 3, 4, 5, 6, 7, 8, 9, 10, 11, 12, 13, 14, 15, 16, 17, 18, 19, 20, 21, 22, 23, 24, 25, 26, 27, 28, 29, 30, 31, 32, 33, 34, 35, 36, 37, 38, 39, 40, 41, 42, 43, 44, 45, 46] (by decide +kernel) rfl
    have hFc := va_free (wc := (b_m cB cC cI cJ cZ oA rA u_3.2 ++ b_w cB cC cI cJ cZ oA rA u_3.2 ++ b_s cB cC cI cJ cZ oA rA u_3.2 ++ b_c cB cC cI cJ cZ oA rA u_3.2 ++ b_t cB cC cI cJ cZ oA rA u_3.2 ++ b_d cB cC cI cJ cZ oA rA u_3.2)) (hDD u_3.2) hS hA [0, 1, 2, 3, 4, 5, 6, 7, 8, 9, 10, 11, 12, 13, 14, 15, 16, 17, 18, 19, 20, 21, 22, 23, 24, 25, 26, 27, 28, 29, 30, 31, 32, 33, 34, 35, 36, 37, 38, 39, 40, 41, 42, 43, 44, 45, 46] rfl
    refine g_ofv (wc := (b_m cB cC cI cJ cZ oA rA u_3.2 ++ b_w cB cC cI cJ cZ oA rA u_3.2 ++ b_s cB cC cI cJ cZ oA rA u_3.2 ++ b_c cB cC cI cJ cZ oA rA u_3.2 ++ b_t cB cC cI cJ cZ oA rA u_3.2 ++ b_d cB cC cI cJ cZ oA rA u_3.2)) (wr := ([] : va_W)) hP (hDD u_3.2) hS hFc [0, 1, 2, 3, 4, 5, 6, 7, 8, 9, 10, 11, 12, 13, 14, 15, 16, 17, 18, 19, 20, 21, 22, 23, 24, 25, 26, 27, 28, 29, 30, 31, 32, 33, 34, 35, 36, 37, 38, 39, 40, 41, 42, 43, 44, 45, 46] [] rfl rfl (by decide +kernel) (by decide +kernel) (va_runV (As := [.int 5, .int (p0 + 1)]) (rest := []) ⟨hx, hb, hml, hown, hts⟩ (k_X4_fail l dC dI cB cC cI cJ cZ cP oA rA H.size  5 (p0 + 1) u_3.2 _ hu_46) (cwV 2 hts (g_gV wq_725 wq_726 wq_2037 wq_4 wq_727) rfl rfl rfl (by decide +kernel) ⟨Nat.le_of_ble_eq_true rfl, Nat.le_of_ble_eq_true rfl⟩) (g_preV g_bl0 hK hPc hDc hS hE hFc g_to0 (q0 := 0) (ci := 4) rfl rfl) rfl rfl hl.1 rfl (lv_room (Nat.le_of_ble_eq_true rfl)) dX4_tellDef_25 ⟨Nat.le_of_ble_eq_true rfl, Nat.le_of_ble_eq_true rfl⟩) (fun u9 H locs hw9 hP' hD' hS => ?_)
    clear hPc hDc hFc
    have hP : va_P (dC, dI) vwCl (b_m cB cC cI cJ cZ oA rA u_46.2 ++ b_w cB cC cI cJ cZ oA rA u_46.2 ++ b_s cB cC cI cJ cZ oA rA u_46.2 ++ b_c cB cC cI cJ cZ oA rA u_46.2 ++ b_t cB cC cI cJ cZ oA rA u_46.2 ++ b_d cB cC cI cJ cZ oA rA u_46.2) H := hP'
    clear hP' hD'
    exact Jj_6  u_46.2 hF_47 _ _ hP hS ls (lv_sub hl [0, 1] rfl)
theorem dX4_tellRule_0 : decode cX4_tellRule 0 = .ok (.aload_n 0, 1) := by decide +kernel
theorem dX4_tellRule_1 : decode cX4_tellRule 1 = .ok (.getfield 36, 3) := by decide +kernel
theorem dX4_tellRule_4 : decode cX4_tellRule 4 = .ok (.getfield 165, 3) := by decide +kernel
theorem dX4_tellRule_7 : decode cX4_tellRule 7 = .ok (.iload_n 2, 1) := by decide +kernel
theorem dX4_tellRule_8 : decode cX4_tellRule 8 = .ok (.invokestatic 122, 3) := by decide +kernel
theorem dX4_tellRule_11 : decode cX4_tellRule 11 = .ok (.iload_n 3, 1) := by decide +kernel
theorem dX4_tellRule_12 : decode cX4_tellRule 12 = .ok (.if_icmp .ge 11, 3) := by decide +kernel
theorem dX4_tellRule_15 : decode cX4_tellRule 15 = .ok (.aload_n 0, 1) := by decide +kernel
theorem dX4_tellRule_16 : decode cX4_tellRule 16 = .ok (.iload_n 1, 1) := by decide +kernel
theorem dX4_tellRule_17 : decode cX4_tellRule 17 = .ok (.invokevirtual 174, 3) := by decide +kernel
theorem dX4_tellRule_20 : decode cX4_tellRule 20 = .ok (.ifCond .eq 9, 3) := by decide +kernel
theorem dX4_tellRule_23 : decode cX4_tellRule 23 = .ok (.aload_n 0, 1) := by decide +kernel
theorem dX4_tellRule_24 : decode cX4_tellRule 24 = .ok (.iconst 5, 1) := by decide +kernel
theorem dX4_tellRule_25 : decode cX4_tellRule 25 = .ok (.iload_n 1, 1) := by decide +kernel
theorem dX4_tellRule_26 : decode cX4_tellRule 26 = .ok (.invokevirtual 84, 3) := by decide +kernel
theorem dX4_tellRule_29 : decode cX4_tellRule 29 = .ok (.aload_n 0, 1) := by decide +kernel
theorem dX4_tellRule_30 : decode cX4_tellRule 30 = .ok (.getfield 36, 3) := by decide +kernel
theorem dX4_tellRule_33 : decode cX4_tellRule 33 = .ok (.getfield 165, 3) := by decide +kernel
theorem dX4_tellRule_36 : decode cX4_tellRule 36 = .ok (.iload_n 2, 1) := by decide +kernel
theorem dX4_tellRule_37 : decode cX4_tellRule 37 = .ok (.aload_n 0, 1) := by decide +kernel
theorem dX4_tellRule_38 : decode cX4_tellRule 38 = .ok (.getfield 36, 3) := by decide +kernel
theorem dX4_tellRule_41 : decode cX4_tellRule 41 = .ok (.getfield 165, 3) := by decide +kernel
theorem dX4_tellRule_44 : decode cX4_tellRule 44 = .ok (.iload_n 2, 1) := by decide +kernel
theorem dX4_tellRule_45 : decode cX4_tellRule 45 = .ok (.invokestatic 122, 3) := by decide +kernel
theorem dX4_tellRule_48 : decode cX4_tellRule 48 = .ok (.iconst 1, 1) := by decide +kernel
theorem dX4_tellRule_49 : decode cX4_tellRule 49 = .ok (.iadd, 1) := by decide +kernel
theorem dX4_tellRule_50 : decode cX4_tellRule 50 = .ok (.invokestatic 112, 3) := by decide +kernel
theorem dX4_tellRule_53 : decode cX4_tellRule 53 = .ok (.return_, 1) := by decide +kernel
def F_X4_tellRule (p0 : Int32) (p1 : Int32) (p2 : Int32) (Γ : HS) : HR :=
  bnd ((g_at 7 ((Γ 4).2.1 0) p1)) fun (x_1 : Int32) =>
  bnd (fun  (σ_3 : HS) => (
    bnd ((g_at 7 ((σ_3 4).2.1 0) p1)) fun (x_7 : Int32) =>
    bnd ((x_7 + 1)) fun (x_9 : Int32) =>
    bnd (cA' σ_3 4 0 (g_put 7 ((σ_3 4).2.1 0) p1 x_9)) fun σ_11 =>
    some (0, σ_11)
  ) : HS → HR) fun j_4 =>
  bnd (fun  (σ_13 : HS) => (
    (F_X4_fail 5 p0 σ_13).bind fun u_17 =>
    j_4  u_17.2
  ) : HS → HR) fun j_14 =>
  if p2 ≤ x_1 then (
    j_14  Γ
  ) else (
    (F_X4_isTooLong p0 Γ).bind fun u_22 =>
    if u_22.1 = 0 then (
      j_4  u_22.2
    ) else (
      j_14  u_22.2
    )
  )
set_option maxHeartbeats 4000000 in
set_option maxRecDepth 100000 in
theorem k_X4_tellRule (l : Launch) (dC : Nat → ClassId) (dI : Nat → Nat → Nat) (cB cC cI cJ cZ cP : ClassId) (oA : Nat → Nat) (rA : Nat → Nat → Nat) (sz : Nat)  (p0 : Int32) (p1 : Int32) (p2 : Int32) (Γ : HS) (res : Int32 × HS) (hF : F_X4_tellRule p0 p1 p2 Γ = some res) : Met l yX4_tellRule (g_ws yX4_tellRule cX4_tellRule 4 none) ({ frames := 5, cells := 0, slots := 0, locals := 124 }) (va_Pc [.ref (oA 3), .int p0, .int p1, .int p2] (g_B (dC, dI) [(cB, .byte), (cC, .char), (cI, .int), (cJ, .long), (cZ, .boolean), (cP, .object "StoryHouse$Play")] sz (b_m cB cC cI cJ cZ oA rA Γ ++ b_w cB cC cI cJ cZ oA rA Γ ++ b_s cB cC cI cJ cZ oA rA Γ ++ b_c cB cC cI cJ cZ oA rA Γ ++ b_t cB cC cI cJ cZ oA rA Γ ++ b_d cB cC cI cJ cZ oA rA Γ) g_0)) (va_Qv (fun (_ : Unit) => True) (g_Bo (dC, dI) (va_A (b_m cB cC cI cJ cZ oA rA Γ ++ b_w cB cC cI cJ cZ oA rA Γ ++ b_s cB cC cI cJ cZ oA rA Γ ++ b_c cB cC cI cJ cZ oA rA Γ ++ b_t cB cC cI cJ cZ oA rA Γ ++ b_d cB cC cI cJ cZ oA rA Γ) sz) (fun (_ : Unit) => (b_m cB cC cI cJ cZ oA rA res.2 ++ b_w cB cC cI cJ cZ oA rA res.2 ++ b_s cB cC cI cJ cZ oA rA res.2 ++ b_c cB cC cI cJ cZ oA rA res.2 ++ b_t cB cC cI cJ cZ oA rA res.2 ++ b_d cB cC cI cJ cZ oA rA res.2))) (va_A (b_m cB cC cI cJ cZ oA rA Γ ++ b_w cB cC cI cJ cZ oA rA Γ ++ b_s cB cC cI cJ cZ oA rA Γ ++ b_c cB cC cI cJ cZ oA rA Γ ++ b_t cB cC cI cJ cZ oA rA Γ ++ b_d cB cC cI cJ cZ oA rA Γ) sz)) 0 0 (va_A (b_m cB cC cI cJ cZ oA rA Γ ++ b_w cB cC cI cJ cZ oA rA Γ ++ b_s cB cC cI cJ cZ oA rA Γ ++ b_c cB cC cI cJ cZ oA rA Γ ++ b_t cB cC cI cJ cZ oA rA Γ ++ b_d cB cC cI cJ cZ oA rA Γ) sz) := by
  refine Met.ofW (cc := cX4_tellRule) (maxL := 4) (ret := none) (by decide) rfl ?_
  intro p e s m args below meth c s₁ B hml hv
  obtain ⟨rfl, hsz, hP, hK, hD0, hE, hX⟩ := hv
  have hx := B.exec
  have hb := B.bytes
  have hr := B.returns
  have hts0 := atoms_spec (ws := g_ws yX4_tellRule cX4_tellRule 4 none) B.pre
  have hts : ∀ w ∈ lw_good, w.before ([.ref (oA 3), .int p0, .int p1, .int p2] : List Value).toArray s = true := fun w z => hts0 w (List.mem_cons_of_mem _ z)
  have hown : s.vm.findClass RX4 = some m.cls := findClass_of_methodNamed B.named
  have hlocks := B.notSynchronized
  subst hsz
  have hD1 := hD0.self (sz := s.heap.size)
  generalize hAe : va_A (b_m cB cC cI cJ cZ oA rA Γ ++ b_w cB cC cI cJ cZ oA rA Γ ++ b_s cB cC cI cJ cZ oA rA Γ ++ b_c cB cC cI cJ cZ oA rA Γ ++ b_t cB cC cI cJ cZ oA rA Γ ++ b_d cB cC cI cJ cZ oA rA Γ) s.heap.size = A at hD1 hE hX ⊢
  have hA : ∀ q : Nat, s.heap.size ≤ q → A q := fun q z => by rw [← hAe]; exact Or.inr z
  have hDD : ∀ Γ : HS, va_D A (b_m cB cC cI cJ cZ oA rA Γ ++ b_w cB cC cI cJ cZ oA rA Γ ++ b_s cB cC cI cJ cZ oA rA Γ ++ b_c cB cC cI cJ cZ oA rA Γ ++ b_t cB cC cI cJ cZ oA rA Γ ++ b_d cB cC cI cJ cZ oA rA Γ) := fun Γ9 => va_D_fst (ws := (b_m cB cC cI cJ cZ oA rA Γ ++ b_w cB cC cI cJ cZ oA rA Γ ++ b_s cB cC cI cJ cZ oA rA Γ ++ b_c cB cC cI cJ cZ oA rA Γ ++ b_t cB cC cI cJ cZ oA rA Γ ++ b_d cB cC cI cJ cZ oA rA Γ)) (ws' := (b_m cB cC cI cJ cZ oA rA Γ9 ++ b_w cB cC cI cJ cZ oA rA Γ9 ++ b_s cB cC cI cJ cZ oA rA Γ9 ++ b_c cB cC cI cJ cZ oA rA Γ9 ++ b_t cB cC cI cJ cZ oA rA Γ9 ++ b_d cB cC cI cJ cZ oA rA Γ9)) rfl hD1
  have hN := hE.1
  have hS : va_S A s.heap s.heap [] := va_S.rf
  have hl := lv_entry ([.ref (oA 3), .int p0, .int p1, .int p2]) (n := 4) (Nat.le_of_ble_eq_true rfl)
  rw [lg_entry_eq]
  generalize (lg_sl ([.ref (oA 3), .int p0, .int p1, .int p2]) ++ List.replicate (4 - (lg_sl ([.ref (oA 3), .int p0, .int p1, .int p2])).length) Slot.unset).toArray = ls at hl ⊢
  have hl : lv_has ls 4 [(0, .ref (oA 3)), (1, .int p0), (2, .int p1), (3, .int p2)] := hl
  unfold F_X4_tellRule at hF
  refine lv_aload_n hx hb dX4_tellRule_0 rfl (lv_at hl 0 rfl) ?_
  refine va_get (D := (dC, dI)) (ci := 4) (v := .ref (oA 4)) (C := RX4) (T := TX4) (N := 18) hx hb hts ii_X4 hown hK hP 0 rfl rfl 1 (by decide) (hts (.fieldLink RX4 36 "StoryHouse$Meanings" "story" "LStoryHouse$Story;") wq_87) (fun _ h9 => h9) rfl dX4_tellRule_1 ?_
  refine va_get (D := (dC, dI)) (ci := 7) (v := .ref (rA 4 0)) (C := RX7) (T := TX7) (N := 19) hx hb hts ii_X7 hown hK hP 16 rfl rfl 0 (by decide) (hts (.fieldLink RX4 165 "StoryHouse$Story" "counts" "[I") wq_154) (fun _ h9 => h9) rfl dX4_tellRule_4 ?_
  refine lv_iload_n hx hb dX4_tellRule_7 rfl (lv_at hl 2 rfl) ?_
  have hPc := hP.sub (ws' := [(rA 4 0, .inl (cI, 7, .inl ((Γ 4).2.1 0)))]) [17] rfl
  have hDc := (hDD Γ).sub (ws' := [(rA 4 0, .inl (cI, 7, .inl ((Γ 4).2.1 0)))]) [17] (by decide +kernel) rfl
  have hFc := va_free (wc := [(rA 4 0, .inl (cI, 7, .inl ((Γ 4).2.1 0)))]) (hDD Γ) hS hA [17] rfl
  refine g_ofi (wc := [(rA 4 0, .inl (cI, 7, .inl ((Γ 4).2.1 0)))]) (wr := (((b_m cB cC cI cJ cZ oA rA Γ ++ b_w cB cC cI cJ cZ oA rA Γ ++ b_s cB cC cI cJ cZ oA rA Γ ++ b_c cB cC cI cJ cZ oA rA Γ ++ b_t cB cC cI cJ cZ oA rA Γ ++ b_d cB cC cI cJ cZ oA rA Γ)).eraseIdx 17)) hP (hDD Γ) hS hFc [17] [0, 1, 2, 3, 4, 5, 6, 7, 8, 9, 10, 11, 12, 13, 14, 15, 16, 18, 19, 20, 21, 22, 23, 24, 25, 26, 27, 28, 29, 30, 31, 32, 33, 34, 35, 36, 37, 38, 39, 40, 41, 42, 43, 44, 45, 46] rfl rfl (by decide +kernel) (by decide +kernel) (va_runSN (As := [.ref (rA 4 0), .int p1]) (rest := []) ⟨hx, hb, hml, hown, hts⟩ (c_X11_at l dC dI cB cC cI cJ cZ cP s.heap.size (rA 4 0) p1 7 ((Γ 4).2.1 0) (by decide)) ⟨va_cnB 2 hts (g_gA wq_407) rfl rfl rfl (hN.at 24 rfl) (hts (.initialized RX11) wq_1) (by decide +kernel) ⟨Nat.le_of_ble_eq_true rfl, Nat.le_of_ble_eq_true rfl⟩, (hts (.static yX11_at) wq_406), trivial⟩ (g_preS g_bl0 hK hPc hDc hS hE hFc g_to0) rfl rfl hl.1 rfl (lv_room (Nat.le_of_ble_eq_true rfl)) dX4_tellRule_8 ⟨Nat.le_of_ble_eq_true rfl, Nat.le_of_ble_eq_true rfl⟩) (fun r9 u9 H locs hw9 hP' hD' hS => ?_)
  clear hPc hDc hFc hD'
  have hP : va_P (dC, dI) vwCl (b_m cB cC cI cJ cZ oA rA Γ ++ b_w cB cC cI cJ cZ oA rA Γ ++ b_s cB cC cI cJ cZ oA rA Γ ++ b_c cB cC cI cJ cZ oA rA Γ ++ b_t cB cC cI cJ cZ oA rA Γ ++ b_d cB cC cI cJ cZ oA rA Γ) H := hP'.sub [0, 1, 2, 3, 4, 5, 6, 7, 8, 9, 10, 11, 12, 13, 14, 15, 16, 46, 17, 18, 19, 20, 21, 22, 23, 24, 25, 26, 27, 28, 29, 30, 31, 32, 33, 34, 35, 36, 37, 38, 39, 40, 41, 42, 43, 44, 45] rfl
  clear hP'
  subst hw9
  obtain ⟨x_1, ex_1, hF_2⟩ := bnd_e hF
  clear hF
  refine m_top ex_1 ?_
  refine lv_iload_n hx hb dX4_tellRule_11 rfl (lv_at hl 3 rfl) ?_
  obtain ⟨j_4, ej_4, hF_5⟩ := bnd_e hF_2
  clear hF_2
  have Jj_4 : ∀  (σ_3 : HS), j_4  σ_3 = some res → ∀ (H : Heap) (locs : List Loc), va_P (dC, dI) vwCl (b_m cB cC cI cJ cZ oA rA σ_3 ++ b_w cB cC cI cJ cZ oA rA σ_3 ++ b_s cB cC cI cJ cZ oA rA σ_3 ++ b_c cB cC cI cJ cZ oA rA σ_3 ++ b_t cB cC cI cJ cZ oA rA σ_3 ++ b_d cB cC cI cJ cZ oA rA σ_3) H → va_S A s.heap H locs → ∀ ls : Array Slot, lv_has ls 4 [(0, .ref (oA 3)), (2, .int p1)] → W p l e (headSpec (g_ws yX4_tellRule cX4_tellRule 4 none) { frames := 5, cells := 0, slots := 0, locals := 124 }).room s m ([.ref (oA 3), .int p0, .int p1, .int p2] : List Value).toArray below meth c H locs 0 0 (MQ below (va_Qv (fun (_ : Unit) => True) (g_Bo (dC, dI) A (fun (_ : Unit) => (b_m cB cC cI cJ cZ oA rA res.2 ++ b_w cB cC cI cJ cZ oA rA res.2 ++ b_s cB cC cI cJ cZ oA rA res.2 ++ b_c cB cC cI cJ cZ oA rA res.2 ++ b_t cB cC cI cJ cZ oA rA res.2 ++ b_d cB cC cI cJ cZ oA rA res.2))) A) ([.ref (oA 3), .int p0, .int p1, .int p2] : List Value).toArray s 0 0 A) (F0 m 29 ls []) := by
    intro  σ_3 hF0 H locs hP hS ls hl
    subst ej_4
    have hF_6 := hF0
    clear hF0
    refine lv_aload_n hx hb dX4_tellRule_29 rfl (lv_at hl 0 rfl) ?_
    refine va_get (D := (dC, dI)) (ci := 4) (v := .ref (oA 4)) (C := RX4) (T := TX4) (N := 18) hx hb hts ii_X4 hown hK hP 0 rfl rfl 1 (by decide) (hts (.fieldLink RX4 36 "StoryHouse$Meanings" "story" "LStoryHouse$Story;") wq_87) (fun _ h9 => h9) rfl dX4_tellRule_30 ?_
    refine va_get (D := (dC, dI)) (ci := 7) (v := .ref (rA 4 0)) (C := RX7) (T := TX7) (N := 19) hx hb hts ii_X7 hown hK hP 16 rfl rfl 0 (by decide) (hts (.fieldLink RX4 165 "StoryHouse$Story" "counts" "[I") wq_154) (fun _ h9 => h9) rfl dX4_tellRule_33 ?_
    refine lv_iload_n hx hb dX4_tellRule_36 rfl (lv_at hl 1 rfl) ?_
    refine lv_aload_n hx hb dX4_tellRule_37 rfl (lv_at hl 0 rfl) ?_
    refine va_get (D := (dC, dI)) (ci := 4) (v := .ref (oA 4)) (C := RX4) (T := TX4) (N := 18) hx hb hts ii_X4 hown hK hP 0 rfl rfl 1 (by decide) (hts (.fieldLink RX4 36 "StoryHouse$Meanings" "story" "LStoryHouse$Story;") wq_87) (fun _ h9 => h9) rfl dX4_tellRule_38 ?_
    refine va_get (D := (dC, dI)) (ci := 7) (v := .ref (rA 4 0)) (C := RX7) (T := TX7) (N := 19) hx hb hts ii_X7 hown hK hP 16 rfl rfl 0 (by decide) (hts (.fieldLink RX4 165 "StoryHouse$Story" "counts" "[I") wq_154) (fun _ h9 => h9) rfl dX4_tellRule_41 ?_
    refine lv_iload_n hx hb dX4_tellRule_44 rfl (lv_at hl 1 rfl) ?_
    have hPc := hP.sub (ws' := [(rA 4 0, .inl (cI, 7, .inl ((σ_3 4).2.1 0)))]) [17] rfl
    have hDc := (hDD σ_3).sub (ws' := [(rA 4 0, .inl (cI, 7, .inl ((σ_3 4).2.1 0)))]) [17] (by decide +kernel) rfl
    have hFc := va_free (wc := [(rA 4 0, .inl (cI, 7, .inl ((σ_3 4).2.1 0)))]) (hDD σ_3) hS hA [17] rfl
    refine g_ofi (wc := [(rA 4 0, .inl (cI, 7, .inl ((σ_3 4).2.1 0)))]) (wr := (((b_m cB cC cI cJ cZ oA rA σ_3 ++ b_w cB cC cI cJ cZ oA rA σ_3 ++ b_s cB cC cI cJ cZ oA rA σ_3 ++ b_c cB cC cI cJ cZ oA rA σ_3 ++ b_t cB cC cI cJ cZ oA rA σ_3 ++ b_d cB cC cI cJ cZ oA rA σ_3)).eraseIdx 17)) hP (hDD σ_3) hS hFc [17] [0, 1, 2, 3, 4, 5, 6, 7, 8, 9, 10, 11, 12, 13, 14, 15, 16, 18, 19, 20, 21, 22, 23, 24, 25, 26, 27, 28, 29, 30, 31, 32, 33, 34, 35, 36, 37, 38, 39, 40, 41, 42, 43, 44, 45, 46] rfl rfl (by decide +kernel) (by decide +kernel) (va_runSN (As := [.ref (rA 4 0), .int p1]) (rest := [.int p1, .ref (rA 4 0)]) ⟨hx, hb, hml, hown, hts⟩ (c_X11_at l dC dI cB cC cI cJ cZ cP H.size (rA 4 0) p1 7 ((σ_3 4).2.1 0) (by decide)) ⟨va_cnB 2 hts (g_gA wq_407) rfl rfl rfl (hN.at 24 rfl) (hts (.initialized RX11) wq_1) (by decide +kernel) ⟨Nat.le_of_ble_eq_true rfl, Nat.le_of_ble_eq_true rfl⟩, (hts (.static yX11_at) wq_406), trivial⟩ (g_preS g_bl0 hK hPc hDc hS hE hFc g_to0) rfl rfl hl.1 rfl (lv_room (Nat.le_of_ble_eq_true rfl)) dX4_tellRule_45 ⟨Nat.le_of_ble_eq_true rfl, Nat.le_of_ble_eq_true rfl⟩) (fun r9 u9 H locs hw9 hP' hD' hS => ?_)
    clear hPc hDc hFc hD'
    have hP : va_P (dC, dI) vwCl (b_m cB cC cI cJ cZ oA rA σ_3 ++ b_w cB cC cI cJ cZ oA rA σ_3 ++ b_s cB cC cI cJ cZ oA rA σ_3 ++ b_c cB cC cI cJ cZ oA rA σ_3 ++ b_t cB cC cI cJ cZ oA rA σ_3 ++ b_d cB cC cI cJ cZ oA rA σ_3) H := hP'.sub [0, 1, 2, 3, 4, 5, 6, 7, 8, 9, 10, 11, 12, 13, 14, 15, 16, 46, 17, 18, 19, 20, 21, 22, 23, 24, 25, 26, 27, 28, 29, 30, 31, 32, 33, 34, 35, 36, 37, 38, 39, 40, 41, 42, 43, 44, 45] rfl
    clear hP'
    subst hw9
    obtain ⟨x_7, ex_7, hF_8⟩ := bnd_e hF_6
    clear hF_6
    refine m_top ex_7 ?_
    refine lv_iconst (v := 1) hx hb dX4_tellRule_48 (by decide +kernel) ?_
    refine lv_iadd hx hb dX4_tellRule_49 ?_
    obtain ⟨x_9, ex_9, hF_10⟩ := bnd_e hF_8
    clear hF_8
    refine m_top ex_9 ?_
    have hPc := hP.sub (ws' := [(rA 4 0, .inl (cI, 7, .inl ((σ_3 4).2.1 0)))]) [17] rfl
    have hDc := (hDD σ_3).sub (ws' := [(rA 4 0, .inl (cI, 7, .inl ((σ_3 4).2.1 0)))]) [17] (by decide +kernel) rfl
    have hFc := va_free (wc := [(rA 4 0, .inl (cI, 7, .inl ((σ_3 4).2.1 0)))]) (hDD σ_3) hS hA [17] rfl
    refine g_ofv (wc := [(rA 4 0, .inl (cI, 7, .inl ((σ_3 4).2.1 0)))]) (wr := (((b_m cB cC cI cJ cZ oA rA σ_3 ++ b_w cB cC cI cJ cZ oA rA σ_3 ++ b_s cB cC cI cJ cZ oA rA σ_3 ++ b_c cB cC cI cJ cZ oA rA σ_3 ++ b_t cB cC cI cJ cZ oA rA σ_3 ++ b_d cB cC cI cJ cZ oA rA σ_3)).eraseIdx 17)) hP (hDD σ_3) hS hFc [17] [0, 1, 2, 3, 4, 5, 6, 7, 8, 9, 10, 11, 12, 13, 14, 15, 16, 18, 19, 20, 21, 22, 23, 24, 25, 26, 27, 28, 29, 30, 31, 32, 33, 34, 35, 36, 37, 38, 39, 40, 41, 42, 43, 44, 45, 46] rfl rfl (by decide +kernel) (by decide +kernel) (va_runSN (As := [.ref (rA 4 0), .int p1, .int x_9]) (rest := []) ⟨hx, hb, hml, hown, hts⟩ (c_X11_put l dC dI cB cC cI cJ cZ cP H.size (rA 4 0) p1 x_9 7 ((σ_3 4).2.1 0) (by decide)) ⟨va_cnB 3 hts (g_gA wq_412) rfl rfl rfl (hN.at 23 rfl) (hts (.initialized RX11) wq_1) (by decide +kernel) ⟨Nat.le_of_ble_eq_true rfl, Nat.le_of_ble_eq_true rfl⟩, (hts (.static yX11_put) wq_411), trivial⟩ (g_preS g_bl0 hK hPc hDc hS hE hFc g_to0) rfl rfl hl.1 rfl (lv_room (Nat.le_of_ble_eq_true rfl)) dX4_tellRule_50 ⟨Nat.le_of_ble_eq_true rfl, Nat.le_of_ble_eq_true rfl⟩) (fun g9 H locs hw9 hP' hD' hS => ?_)
    clear hPc hDc hFc hD'
    obtain ⟨σ_11, eσ_11, hF_12⟩ := bnd_e hF_10
    clear hF_10
    subst hw9
    have hP : va_P (dC, dI) vwCl (b_m cB cC cI cJ cZ oA rA σ_11 ++ b_w cB cC cI cJ cZ oA rA σ_11 ++ b_s cB cC cI cJ cZ oA rA σ_11 ++ b_c cB cC cI cJ cZ oA rA σ_11 ++ b_t cB cC cI cJ cZ oA rA σ_11 ++ b_d cB cC cI cJ cZ oA rA σ_11) H := by rw [eσ_11]; exact hP'.sub [0, 1, 2, 3, 4, 5, 6, 7, 8, 9, 10, 11, 12, 13, 14, 15, 16, 46, 17, 18, 19, 20, 21, 22, 23, 24, 25, 26, 27, 28, 29, 30, 31, 32, 33, 34, 35, 36, 37, 38, 39, 40, 41, 42, 43, 44, 45] rfl
    clear hP'
    have h9 := Option.some.inj hF_12
    subst h9
    exact W.vret hx hb hr (fun t ht hW => ⟨⟨(), rfl, trivial, m_end ht hP, hDD _⟩, hS.F ht⟩) hS.2.2 dX4_tellRule_53
  obtain ⟨j_14, ej_14, hF_15⟩ := bnd_e hF_5
  clear hF_5
  have Jj_14 : ∀  (σ_13 : HS), j_14  σ_13 = some res → ∀ (H : Heap) (locs : List Loc), va_P (dC, dI) vwCl (b_m cB cC cI cJ cZ oA rA σ_13 ++ b_w cB cC cI cJ cZ oA rA σ_13 ++ b_s cB cC cI cJ cZ oA rA σ_13 ++ b_c cB cC cI cJ cZ oA rA σ_13 ++ b_t cB cC cI cJ cZ oA rA σ_13 ++ b_d cB cC cI cJ cZ oA rA σ_13) H → va_S A s.heap H locs → ∀ ls : Array Slot, lv_has ls 4 [(0, .ref (oA 3)), (1, .int p0), (2, .int p1)] → W p l e (headSpec (g_ws yX4_tellRule cX4_tellRule 4 none) { frames := 5, cells := 0, slots := 0, locals := 124 }).room s m ([.ref (oA 3), .int p0, .int p1, .int p2] : List Value).toArray below meth c H locs 0 0 (MQ below (va_Qv (fun (_ : Unit) => True) (g_Bo (dC, dI) A (fun (_ : Unit) => (b_m cB cC cI cJ cZ oA rA res.2 ++ b_w cB cC cI cJ cZ oA rA res.2 ++ b_s cB cC cI cJ cZ oA rA res.2 ++ b_c cB cC cI cJ cZ oA rA res.2 ++ b_t cB cC cI cJ cZ oA rA res.2 ++ b_d cB cC cI cJ cZ oA rA res.2))) A) ([.ref (oA 3), .int p0, .int p1, .int p2] : List Value).toArray s 0 0 A) (F0 m 23 ls []) := by
    intro  σ_13 hF0 H locs hP hS ls hl
    subst ej_14
    have hF_16 := hF0
    clear hF0
    refine lv_aload_n hx hb dX4_tellRule_23 rfl (lv_at hl 0 rfl) ?_
    refine lv_iconst (v := 5) hx hb dX4_tellRule_24 (by decide +kernel) ?_
    refine lv_iload_n hx hb dX4_tellRule_25 rfl (lv_at hl 1 rfl) ?_
    obtain ⟨u_17, hu_17, hF_18⟩ := Option.bind_eq_some_iff.mp hF_16
    clear hF_16
    have hPc := hP.sub (ws' := (b_m cB cC cI cJ cZ oA rA σ_13 ++ b_w cB cC cI cJ cZ oA rA σ_13 ++ b_s cB cC cI cJ cZ oA rA σ_13 ++ b_c cB cC cI cJ cZ oA rA σ_13 ++ b_t cB cC cI cJ cZ oA rA σ_13 ++ b_d cB cC cI cJ cZ oA rA σ_13)) [0, 1, 2, 3, 4, 5, 6, 7, 8, 9, 10, 11, 12, 13, 14, 15, 16, 17, 18, 19, 20, 21, 22, 23, 24, 25, 26, 27, 28, 29, 30, 31, 32, 33, 34, 35, 36, 37, 38, 39, 40, 41, 42, 43, 44, 45, 46] rfl
    have hDc := (hDD σ_13).sub (ws' := (b_m cB cC cI cJ cZ oA rA σ_13 ++ b_w cB cC cI cJ cZ oA rA σ_13 ++ b_s cB cC cI cJ cZ oA rA σ_13 ++ b_c cB cC cI cJ cZ oA rA σ_13 ++ b_t cB cC cI cJ cZ oA rA σ_13 ++ b_d cB cC cI cJ cZ oA rA σ_13)) [0, 1, 2, 3, 4, 5, 6, 7, 8, 9, 10, 11, 12, 13, 14, 15, 16, 17, 18, 19, 20, 21, 22, 23, 24, 25, 26, 27, 28, 29, 30, 31, 32, 33, 34, 35, 36, 37, 38, 39, 40, 41, 42, 43, 44, 45, 46] (by decide +kernel) rfl
    have hFc := va_free (wc := (b_m cB cC cI cJ cZ oA rA σ_13 ++ b_w cB cC cI cJ cZ oA rA σ_13 ++ b_s cB cC cI cJ cZ oA rA σ_13 ++ b_c cB cC cI cJ cZ oA rA σ_13 ++ b_t cB cC cI cJ cZ oA rA σ_13 ++ b_d cB cC cI cJ cZ oA rA σ_13)) (hDD σ_13) hS hA [0, 1, 2, 3, 4, 5, 6, 7, 8, 9, 10, 11, 12, 13, 14, 15, 16, 17, 18, 19, 20, 21, 22, 23, 24, 25, 26, 27, 28, 29, 30, 31, 32, 33, 34, 35, 36, 37, 38, 39, 40, 41, 42, 43, 44, 45, 46] rfl
    refine g_ofv (wc := (b_m cB cC cI cJ cZ oA rA σ_13 ++ b_w cB cC cI cJ cZ oA rA σ_13 ++ b_s cB cC cI cJ cZ oA rA σ_13 ++ b_c cB cC cI cJ cZ oA rA σ_13 ++ b_t cB cC cI cJ cZ oA rA σ_13 ++ b_d cB cC cI cJ cZ oA rA σ_13)) (wr := ([] : va_W)) hP (hDD σ_13) hS hFc [0, 1, 2, 3, 4, 5, 6, 7, 8, 9, 10, 11, 12, 13, 14, 15, 16, 17, 18, 19, 20, 21, 22, 23, 24, 25, 26, 27, 28, 29, 30, 31, 32, 33, 34, 35, 36, 37, 38, 39, 40, 41, 42, 43, 44, 45, 46] [] rfl rfl (by decide +kernel) (by decide +kernel) (va_runV (As := [.int 5, .int p0]) (rest := []) ⟨hx, hb, hml, hown, hts⟩ (k_X4_fail l dC dI cB cC cI cJ cZ cP oA rA H.size  5 p0 σ_13 _ hu_17) (cwV 2 hts (g_gV wq_725 wq_726 wq_2037 wq_4 wq_727) rfl rfl rfl (by decide +kernel) ⟨Nat.le_of_ble_eq_true rfl, Nat.le_of_ble_eq_true rfl⟩) (g_preV g_bl0 hK hPc hDc hS hE hFc g_to0 (q0 := 0) (ci := 4) rfl rfl) rfl rfl hl.1 rfl (lv_room (Nat.le_of_ble_eq_true rfl)) dX4_tellRule_26 ⟨Nat.le_of_ble_eq_true rfl, Nat.le_of_ble_eq_true rfl⟩) (fun u9 H locs hw9 hP' hD' hS => ?_)
    clear hPc hDc hFc
    have hP : va_P (dC, dI) vwCl (b_m cB cC cI cJ cZ oA rA u_17.2 ++ b_w cB cC cI cJ cZ oA rA u_17.2 ++ b_s cB cC cI cJ cZ oA rA u_17.2 ++ b_c cB cC cI cJ cZ oA rA u_17.2 ++ b_t cB cC cI cJ cZ oA rA u_17.2 ++ b_d cB cC cI cJ cZ oA rA u_17.2) H := hP'
    clear hP' hD'
    exact Jj_4  u_17.2 hF_18 _ _ hP hS ls (lv_sub hl [0, 2] rfl)
  refine lv_icmp_ge (tgt := 23) hx hb dX4_tellRule_12 (by decide) (fun c_19 => ?_) (fun c_19 => ?_)
  · have hF_20 := ipos c_19 hF_15
    clear hF_15
    exact Jj_14  Γ hF_20 _ _ hP hS ls (lv_sub hl [0, 1, 2] rfl)
  · have hF_21 := ineg c_19 hF_15
    clear hF_15
    refine lv_aload_n hx hb dX4_tellRule_15 rfl (lv_at hl 0 rfl) ?_
    refine lv_iload_n hx hb dX4_tellRule_16 rfl (lv_at hl 1 rfl) ?_
    obtain ⟨u_22, hu_22, hF_23⟩ := Option.bind_eq_some_iff.mp hF_21
    clear hF_21
    have hPc := hP.sub (ws' := (b_m cB cC cI cJ cZ oA rA Γ ++ b_w cB cC cI cJ cZ oA rA Γ ++ b_s cB cC cI cJ cZ oA rA Γ ++ b_c cB cC cI cJ cZ oA rA Γ ++ b_t cB cC cI cJ cZ oA rA Γ ++ b_d cB cC cI cJ cZ oA rA Γ)) [0, 1, 2, 3, 4, 5, 6, 7, 8, 9, 10, 11, 12, 13, 14, 15, 16, 17, 18, 19, 20, 21, 22, 23, 24, 25, 26, 27, 28, 29, 30, 31, 32, 33, 34, 35, 36, 37, 38, 39, 40, 41, 42, 43, 44, 45, 46] rfl
    have hDc := (hDD Γ).sub (ws' := (b_m cB cC cI cJ cZ oA rA Γ ++ b_w cB cC cI cJ cZ oA rA Γ ++ b_s cB cC cI cJ cZ oA rA Γ ++ b_c cB cC cI cJ cZ oA rA Γ ++ b_t cB cC cI cJ cZ oA rA Γ ++ b_d cB cC cI cJ cZ oA rA Γ)) [0, 1, 2, 3, 4, 5, 6, 7, 8, 9, 10, 11, 12, 13, 14, 15, 16, 17, 18, 19, 20, 21, 22, 23, 24, 25, 26, 27, 28, 29, 30, 31, 32, 33, 34, 35, 36, 37, 38, 39, 40, 41, 42, 43, 44, 45, 46] (by decide +kernel) rfl
    have hFc := va_free (wc := (b_m cB cC cI cJ cZ oA rA Γ ++ b_w cB cC cI cJ cZ oA rA Γ ++ b_s cB cC cI cJ cZ oA rA Γ ++ b_c cB cC cI cJ cZ oA rA Γ ++ b_t cB cC cI cJ cZ oA rA Γ ++ b_d cB cC cI cJ cZ oA rA Γ)) (hDD Γ) hS hA [0, 1, 2, 3, 4, 5, 6, 7, 8, 9, 10, 11, 12, 13, 14, 15, 16, 17, 18, 19, 20, 21, 22, 23, 24, 25, 26, 27, 28, 29, 30, 31, 32, 33, 34, 35, 36, 37, 38, 39, 40, 41, 42, 43, 44, 45, 46] rfl
    refine g_ofi (wc := (b_m cB cC cI cJ cZ oA rA Γ ++ b_w cB cC cI cJ cZ oA rA Γ ++ b_s cB cC cI cJ cZ oA rA Γ ++ b_c cB cC cI cJ cZ oA rA Γ ++ b_t cB cC cI cJ cZ oA rA Γ ++ b_d cB cC cI cJ cZ oA rA Γ)) (wr := ([] : va_W)) hP (hDD Γ) hS hFc [0, 1, 2, 3, 4, 5, 6, 7, 8, 9, 10, 11, 12, 13, 14, 15, 16, 17, 18, 19, 20, 21, 22, 23, 24, 25, 26, 27, 28, 29, 30, 31, 32, 33, 34, 35, 36, 37, 38, 39, 40, 41, 42, 43, 44, 45, 46] [] rfl rfl (by decide +kernel) (by decide +kernel) (va_runV (As := [.int p0]) (rest := []) ⟨hx, hb, hml, hown, hts⟩ (k_X4_isTooLong l dC dI cB cC cI cJ cZ cP oA rA H.size  p0 Γ _ hu_22) (cwV 1 hts (g_gV wq_741 wq_742 wq_2042 wq_4 wq_743) rfl rfl rfl (by decide +kernel) ⟨Nat.le_of_ble_eq_true rfl, Nat.le_of_ble_eq_true rfl⟩) (g_preV g_bl0 hK hPc hDc hS hE hFc g_to0 (q0 := 0) (ci := 4) rfl rfl) rfl rfl hl.1 rfl (lv_room (Nat.le_of_ble_eq_true rfl)) dX4_tellRule_17 ⟨Nat.le_of_ble_eq_true rfl, Nat.le_of_ble_eq_true rfl⟩) (fun r9 u9 H locs hw9 hP' hD' hS => ?_)
    clear hPc hDc hFc
    subst hw9
    have hP : va_P (dC, dI) vwCl (b_m cB cC cI cJ cZ oA rA u_22.2 ++ b_w cB cC cI cJ cZ oA rA u_22.2 ++ b_s cB cC cI cJ cZ oA rA u_22.2 ++ b_c cB cC cI cJ cZ oA rA u_22.2 ++ b_t cB cC cI cJ cZ oA rA u_22.2 ++ b_d cB cC cI cJ cZ oA rA u_22.2) H := hP'
    clear hP' hD'
    refine lv_if_eq (tgt := 29) hx hb dX4_tellRule_20 (by decide) (fun c_24 => ?_) (fun c_24 => ?_)
    · have hF_25 := ipos c_24 hF_23
      clear hF_23
      exact Jj_4  u_22.2 hF_25 _ _ hP hS ls (lv_sub hl [0, 2] rfl)
    · have hF_26 := ineg c_24 hF_23
      clear hF_23
      exact Jj_14  u_22.2 hF_26 _ _ hP hS ls (lv_sub hl [0, 1, 2] rfl)
theorem dX4_tellVerb_0 : decode cX4_tellVerb 0 = .ok (.aload_n 0, 1) := by decide +kernel
theorem dX4_tellVerb_1 : decode cX4_tellVerb 1 = .ok (.iload_n 1, 1) := by decide +kernel
theorem dX4_tellVerb_2 : decode cX4_tellVerb 2 = .ok (.iconst 1, 1) := by decide +kernel
theorem dX4_tellVerb_3 : decode cX4_tellVerb 3 = .ok (.iadd, 1) := by decide +kernel
theorem dX4_tellVerb_4 : decode cX4_tellVerb 4 = .ok (.iconst 3, 1) := by decide +kernel
theorem dX4_tellVerb_5 : decode cX4_tellVerb 5 = .ok (.iconst 1, 1) := by decide +kernel
theorem dX4_tellVerb_6 : decode cX4_tellVerb 6 = .ok (.bipush 60, 2) := by decide +kernel
theorem dX4_tellVerb_8 : decode cX4_tellVerb 8 = .ok (.invokevirtual 138, 3) := by decide +kernel
theorem dX4_tellVerb_11 : decode cX4_tellVerb 11 = .ok (.aload_n 0, 1) := by decide +kernel
theorem dX4_tellVerb_12 : decode cX4_tellVerb 12 = .ok (.getfield 40, 3) := by decide +kernel
theorem dX4_tellVerb_15 : decode cX4_tellVerb 15 = .ok (.ifCond .ne 49, 3) := by decide +kernel
theorem dX4_tellVerb_18 : decode cX4_tellVerb 18 = .ok (.aload_n 0, 1) := by decide +kernel
theorem dX4_tellVerb_19 : decode cX4_tellVerb 19 = .ok (.iconst 0, 1) := by decide +kernel
theorem dX4_tellVerb_20 : decode cX4_tellVerb 20 = .ok (.putfield 142, 3) := by decide +kernel
theorem dX4_tellVerb_23 : decode cX4_tellVerb 23 = .ok (.aload_n 0, 1) := by decide +kernel
theorem dX4_tellVerb_24 : decode cX4_tellVerb 24 = .ok (.iload_n 1, 1) := by decide +kernel
theorem dX4_tellVerb_25 : decode cX4_tellVerb 25 = .ok (.iconst 2, 1) := by decide +kernel
theorem dX4_tellVerb_26 : decode cX4_tellVerb 26 = .ok (.iadd, 1) := by decide +kernel
theorem dX4_tellVerb_27 : decode cX4_tellVerb 27 = .ok (.invokevirtual 145, 3) := by decide +kernel
theorem dX4_tellVerb_30 : decode cX4_tellVerb 30 = .ok (.istore_n 2, 1) := by decide +kernel
theorem dX4_tellVerb_31 : decode cX4_tellVerb 31 = .ok (.aload_n 0, 1) := by decide +kernel
theorem dX4_tellVerb_32 : decode cX4_tellVerb 32 = .ok (.getfield 36, 3) := by decide +kernel
theorem dX4_tellVerb_35 : decode cX4_tellVerb 35 = .ok (.getfield 168, 3) := by decide +kernel
theorem dX4_tellVerb_38 : decode cX4_tellVerb 38 = .ok (.aload_n 0, 1) := by decide +kernel
theorem dX4_tellVerb_39 : decode cX4_tellVerb 39 = .ok (.getfield 36, 3) := by decide +kernel
theorem dX4_tellVerb_42 : decode cX4_tellVerb 42 = .ok (.getfield 165, 3) := by decide +kernel
theorem dX4_tellVerb_45 : decode cX4_tellVerb 45 = .ok (.iconst 1, 1) := by decide +kernel
theorem dX4_tellVerb_46 : decode cX4_tellVerb 46 = .ok (.invokestatic 122, 3) := by decide +kernel
theorem dX4_tellVerb_49 : decode cX4_tellVerb 49 = .ok (.aload_n 0, 1) := by decide +kernel
theorem dX4_tellVerb_50 : decode cX4_tellVerb 50 = .ok (.getfield 32, 3) := by decide +kernel
theorem dX4_tellVerb_53 : decode cX4_tellVerb 53 = .ok (.iload_n 2, 1) := by decide +kernel
theorem dX4_tellVerb_54 : decode cX4_tellVerb 54 = .ok (.invokevirtual 116, 3) := by decide +kernel
theorem dX4_tellVerb_57 : decode cX4_tellVerb 57 = .ok (.sipush 213, 3) := by decide +kernel
theorem dX4_tellVerb_60 : decode cX4_tellVerb 60 = .ok (.isub, 1) := by decide +kernel
theorem dX4_tellVerb_61 : decode cX4_tellVerb 61 = .ok (.invokestatic 112, 3) := by decide +kernel
theorem dX4_tellVerb_64 : decode cX4_tellVerb 64 = .ok (.return_, 1) := by decide +kernel
def F_X4_tellVerb (p0 : Int32) (Γ : HS) : HR :=
  (F_X4_tellItem (p0 + 1) 3 1 60 Γ).bind fun u_1 =>
  if ((u_1.2 3).1 16) = 0 then (
    bnd (cI' u_1.2 3 14 0) fun σ_5 =>
    (F_X4_countOwned (p0 + 2) σ_5).bind fun u_7 =>
    bnd ((g_at 7 ((u_7.2 4).2.1 0) 1)) fun (x_9 : Int32) =>
    (F_X10_kindOf u_7.1 u_7.2).bind fun u_11 =>
    bnd (mrg (fun j => j == 1) u_7.2 u_11.2) fun σ_13 =>
    bnd ((u_11.1 - 213)) fun (x_15 : Int32) =>
    bnd (cA' σ_13 4 7 (g_put 61 ((σ_13 4).2.1 7) x_9 x_15)) fun σ_17 =>
    some (0, σ_17)
  ) else (
    some (0, u_1.2)
  )
set_option maxHeartbeats 4000000 in
set_option maxRecDepth 100000 in
theorem k_X4_tellVerb (l : Launch) (dC : Nat → ClassId) (dI : Nat → Nat → Nat) (cB cC cI cJ cZ cP : ClassId) (oA : Nat → Nat) (rA : Nat → Nat → Nat) (sz : Nat)  (p0 : Int32) (Γ : HS) (res : Int32 × HS) (hF : F_X4_tellVerb p0 Γ = some res) : Met l yX4_tellVerb (g_ws yX4_tellVerb cX4_tellVerb 3 none) ({ frames := 6, cells := 0, slots := 0, locals := 149 }) (va_Pc [.ref (oA 3), .int p0] (g_B (dC, dI) [(cB, .byte), (cC, .char), (cI, .int), (cJ, .long), (cZ, .boolean), (cP, .object "StoryHouse$Play")] sz (b_m cB cC cI cJ cZ oA rA Γ ++ b_w cB cC cI cJ cZ oA rA Γ ++ b_s cB cC cI cJ cZ oA rA Γ ++ b_c cB cC cI cJ cZ oA rA Γ ++ b_t cB cC cI cJ cZ oA rA Γ ++ b_d cB cC cI cJ cZ oA rA Γ) g_0)) (va_Qv (fun (_ : Unit) => True) (g_Bo (dC, dI) (va_A (b_m cB cC cI cJ cZ oA rA Γ ++ b_w cB cC cI cJ cZ oA rA Γ ++ b_s cB cC cI cJ cZ oA rA Γ ++ b_c cB cC cI cJ cZ oA rA Γ ++ b_t cB cC cI cJ cZ oA rA Γ ++ b_d cB cC cI cJ cZ oA rA Γ) sz) (fun (_ : Unit) => (b_m cB cC cI cJ cZ oA rA res.2 ++ b_w cB cC cI cJ cZ oA rA res.2 ++ b_s cB cC cI cJ cZ oA rA res.2 ++ b_c cB cC cI cJ cZ oA rA res.2 ++ b_t cB cC cI cJ cZ oA rA res.2 ++ b_d cB cC cI cJ cZ oA rA res.2))) (va_A (b_m cB cC cI cJ cZ oA rA Γ ++ b_w cB cC cI cJ cZ oA rA Γ ++ b_s cB cC cI cJ cZ oA rA Γ ++ b_c cB cC cI cJ cZ oA rA Γ ++ b_t cB cC cI cJ cZ oA rA Γ ++ b_d cB cC cI cJ cZ oA rA Γ) sz)) 0 0 (va_A (b_m cB cC cI cJ cZ oA rA Γ ++ b_w cB cC cI cJ cZ oA rA Γ ++ b_s cB cC cI cJ cZ oA rA Γ ++ b_c cB cC cI cJ cZ oA rA Γ ++ b_t cB cC cI cJ cZ oA rA Γ ++ b_d cB cC cI cJ cZ oA rA Γ) sz) := by
  refine Met.ofW (cc := cX4_tellVerb) (maxL := 3) (ret := none) (by decide) rfl ?_
  intro p e s m args below meth c s₁ B hml hv
  obtain ⟨rfl, hsz, hP, hK, hD0, hE, hX⟩ := hv
  have hx := B.exec
  have hb := B.bytes
  have hr := B.returns
  have hts0 := atoms_spec (ws := g_ws yX4_tellVerb cX4_tellVerb 3 none) B.pre
  have hts : ∀ w ∈ lw_good, w.before ([.ref (oA 3), .int p0] : List Value).toArray s = true := fun w z => hts0 w (List.mem_cons_of_mem _ z)
  have hown : s.vm.findClass RX4 = some m.cls := findClass_of_methodNamed B.named
  have hlocks := B.notSynchronized
  subst hsz
  have hD1 := hD0.self (sz := s.heap.size)
  generalize hAe : va_A (b_m cB cC cI cJ cZ oA rA Γ ++ b_w cB cC cI cJ cZ oA rA Γ ++ b_s cB cC cI cJ cZ oA rA Γ ++ b_c cB cC cI cJ cZ oA rA Γ ++ b_t cB cC cI cJ cZ oA rA Γ ++ b_d cB cC cI cJ cZ oA rA Γ) s.heap.size = A at hD1 hE hX ⊢
  have hA : ∀ q : Nat, s.heap.size ≤ q → A q := fun q z => by rw [← hAe]; exact Or.inr z
  have hDD : ∀ Γ : HS, va_D A (b_m cB cC cI cJ cZ oA rA Γ ++ b_w cB cC cI cJ cZ oA rA Γ ++ b_s cB cC cI cJ cZ oA rA Γ ++ b_c cB cC cI cJ cZ oA rA Γ ++ b_t cB cC cI cJ cZ oA rA Γ ++ b_d cB cC cI cJ cZ oA rA Γ) := fun Γ9 => va_D_fst (ws := (b_m cB cC cI cJ cZ oA rA Γ ++ b_w cB cC cI cJ cZ oA rA Γ ++ b_s cB cC cI cJ cZ oA rA Γ ++ b_c cB cC cI cJ cZ oA rA Γ ++ b_t cB cC cI cJ cZ oA rA Γ ++ b_d cB cC cI cJ cZ oA rA Γ)) (ws' := (b_m cB cC cI cJ cZ oA rA Γ9 ++ b_w cB cC cI cJ cZ oA rA Γ9 ++ b_s cB cC cI cJ cZ oA rA Γ9 ++ b_c cB cC cI cJ cZ oA rA Γ9 ++ b_t cB cC cI cJ cZ oA rA Γ9 ++ b_d cB cC cI cJ cZ oA rA Γ9)) rfl hD1
  have hN := hE.1
  have hS : va_S A s.heap s.heap [] := va_S.rf
  have hl := lv_entry ([.ref (oA 3), .int p0]) (n := 3) (Nat.le_of_ble_eq_true rfl)
  rw [lg_entry_eq]
  generalize (lg_sl ([.ref (oA 3), .int p0]) ++ List.replicate (3 - (lg_sl ([.ref (oA 3), .int p0])).length) Slot.unset).toArray = ls at hl ⊢
  have hl : lv_has ls 3 [(0, .ref (oA 3)), (1, .int p0)] := hl
  unfold F_X4_tellVerb at hF
  refine lv_aload_n hx hb dX4_tellVerb_0 rfl (lv_at hl 0 rfl) ?_
  refine lv_iload_n hx hb dX4_tellVerb_1 rfl (lv_at hl 1 rfl) ?_
  refine lv_iconst (v := 1) hx hb dX4_tellVerb_2 (by decide +kernel) ?_
  refine lv_iadd hx hb dX4_tellVerb_3 ?_
  refine lv_iconst (v := 3) hx hb dX4_tellVerb_4 (by decide +kernel) ?_
  refine lv_iconst (v := 1) hx hb dX4_tellVerb_5 (by decide +kernel) ?_
  refine lv_bipush (v := 60) hx hb dX4_tellVerb_6 (by decide +kernel) ?_
  obtain ⟨u_1, hu_1, hF_2⟩ := Option.bind_eq_some_iff.mp hF
  clear hF
  have hPc := hP.sub (ws' := (b_m cB cC cI cJ cZ oA rA Γ ++ b_w cB cC cI cJ cZ oA rA Γ ++ b_s cB cC cI cJ cZ oA rA Γ ++ b_c cB cC cI cJ cZ oA rA Γ ++ b_t cB cC cI cJ cZ oA rA Γ ++ b_d cB cC cI cJ cZ oA rA Γ)) [0, 1, 2, 3, 4, 5, 6, 7, 8, 9, 10, 11, 12, 13, 14, 15, 16, 17, 18, 19, 20, 21, 22, 23, 24, 25, 26, 27, 28, 29, 30, 31, 32, 33, 34, 35, 36, 37, 38, 39, 40, 41, 42, 43, 44, 45, 46] rfl
  have hDc := (hDD Γ).sub (ws' := (b_m cB cC cI cJ cZ oA rA Γ ++ b_w cB cC cI cJ cZ oA rA Γ ++ b_s cB cC cI cJ cZ oA rA Γ ++ b_c cB cC cI cJ cZ oA rA Γ ++ b_t cB cC cI cJ cZ oA rA Γ ++ b_d cB cC cI cJ cZ oA rA Γ)) [0, 1, 2, 3, 4, 5, 6, 7, 8, 9, 10, 11, 12, 13, 14, 15, 16, 17, 18, 19, 20, 21, 22, 23, 24, 25, 26, 27, 28, 29, 30, 31, 32, 33, 34, 35, 36, 37, 38, 39, 40, 41, 42, 43, 44, 45, 46] (by decide +kernel) rfl
  have hFc := va_free (wc := (b_m cB cC cI cJ cZ oA rA Γ ++ b_w cB cC cI cJ cZ oA rA Γ ++ b_s cB cC cI cJ cZ oA rA Γ ++ b_c cB cC cI cJ cZ oA rA Γ ++ b_t cB cC cI cJ cZ oA rA Γ ++ b_d cB cC cI cJ cZ oA rA Γ)) (hDD Γ) hS hA [0, 1, 2, 3, 4, 5, 6, 7, 8, 9, 10, 11, 12, 13, 14, 15, 16, 17, 18, 19, 20, 21, 22, 23, 24, 25, 26, 27, 28, 29, 30, 31, 32, 33, 34, 35, 36, 37, 38, 39, 40, 41, 42, 43, 44, 45, 46] rfl
  refine g_ofv (wc := (b_m cB cC cI cJ cZ oA rA Γ ++ b_w cB cC cI cJ cZ oA rA Γ ++ b_s cB cC cI cJ cZ oA rA Γ ++ b_c cB cC cI cJ cZ oA rA Γ ++ b_t cB cC cI cJ cZ oA rA Γ ++ b_d cB cC cI cJ cZ oA rA Γ)) (wr := ([] : va_W)) hP (hDD Γ) hS hFc [0, 1, 2, 3, 4, 5, 6, 7, 8, 9, 10, 11, 12, 13, 14, 15, 16, 17, 18, 19, 20, 21, 22, 23, 24, 25, 26, 27, 28, 29, 30, 31, 32, 33, 34, 35, 36, 37, 38, 39, 40, 41, 42, 43, 44, 45, 46] [] rfl rfl (by decide +kernel) (by decide +kernel) (va_runV (As := [.int (p0 + 1), .int 3, .int 1, .int 60]) (rest := []) ⟨hx, hb, hml, hown, hts⟩ (k_X4_tellItem l dC dI cB cC cI cJ cZ cP oA rA s.heap.size  (p0 + 1) 3 1 60 Γ _ hu_1) (cwV 4 hts (g_gV wq_722 wq_723 wq_2036 wq_4 wq_724) rfl rfl rfl (by decide +kernel) ⟨Nat.le_of_ble_eq_true rfl, Nat.le_of_ble_eq_true rfl⟩) (g_preV g_bl0 hK hPc hDc hS hE hFc g_to0 (q0 := 0) (ci := 4) rfl rfl) rfl rfl hl.1 rfl (lv_room (Nat.le_of_ble_eq_true rfl)) dX4_tellVerb_8 ⟨Nat.le_of_ble_eq_true rfl, Nat.le_of_ble_eq_true rfl⟩) (fun u9 H locs hw9 hP' hD' hS => ?_)
  clear hPc hDc hFc
  have hP : va_P (dC, dI) vwCl (b_m cB cC cI cJ cZ oA rA u_1.2 ++ b_w cB cC cI cJ cZ oA rA u_1.2 ++ b_s cB cC cI cJ cZ oA rA u_1.2 ++ b_c cB cC cI cJ cZ oA rA u_1.2 ++ b_t cB cC cI cJ cZ oA rA u_1.2 ++ b_d cB cC cI cJ cZ oA rA u_1.2) H := hP'
  clear hP' hD'
  refine lv_aload_n hx hb dX4_tellVerb_11 rfl (lv_at hl 0 rfl) ?_
  refine va_get (D := (dC, dI)) (ci := 4) (v := .int ((u_1.2 3).1 16)) (C := RX4) (T := TX4) (N := 18) hx hb hts ii_X4 hown hK hP 0 rfl rfl 16 (by decide) (hts (.fieldLink RX4 40 "StoryHouse$Meanings" "fault" "I") wq_102) (fun _ h9 => h9) rfl dX4_tellVerb_12 ?_
  refine lv_if_ne (tgt := 64) hx hb dX4_tellVerb_15 (by decide) (fun c_3 => ?_) (fun c_3 => ?_)
  · have hF_19 := ineg c_3 hF_2
    clear hF_2
    have h9 := Option.some.inj hF_19
    subst h9
    exact W.vret hx hb hr (fun t ht hW => ⟨⟨(), rfl, trivial, m_end ht hP, hDD _⟩, hS.F ht⟩) hS.2.2 dX4_tellVerb_64
  · have hF_4 := ipos c_3 hF_2
    clear hF_2
    refine lv_aload_n hx hb dX4_tellVerb_18 rfl (lv_at hl 0 rfl) ?_
    refine lv_iconst (v := 0) hx hb dX4_tellVerb_19 (by decide +kernel) ?_
    obtain ⟨σ_5, eσ_5, hF_6⟩ := bnd_e hF_4
    clear hF_4
    refine va_put (D := (dC, dI)) (ci := 4) (v := .int 0) (ty := .int) (C := RX4) (T := TX4) (N := 18) hx hb hts ii_X4 tyX4 tyX4_ok nmX4 hown hK hP (hDD _) hS 0 rfl rfl 14 (by decide) (hts (.fieldLink RX4 142 "StoryHouse$Meanings" "owned" "I") wq_100) (fun _ h9 => h9) rfl (by decide +kernel) rfl rfl (Nat.le_of_ble_eq_true rfl) dX4_tellVerb_20 (fun H locs hP' _ hS => ?_)
    have hP : va_P (dC, dI) vwCl (b_m cB cC cI cJ cZ oA rA σ_5 ++ b_w cB cC cI cJ cZ oA rA σ_5 ++ b_s cB cC cI cJ cZ oA rA σ_5 ++ b_c cB cC cI cJ cZ oA rA σ_5 ++ b_t cB cC cI cJ cZ oA rA σ_5 ++ b_d cB cC cI cJ cZ oA rA σ_5) H := by rw [eσ_5]; exact cs_mwsctd_m_14 ▸ hP'
    clear hP'
    refine lv_aload_n hx hb dX4_tellVerb_23 rfl (lv_at hl 0 rfl) ?_
    refine lv_iload_n hx hb dX4_tellVerb_24 rfl (lv_at hl 1 rfl) ?_
    refine lv_iconst (v := 2) hx hb dX4_tellVerb_25 (by decide +kernel) ?_
    refine lv_iadd hx hb dX4_tellVerb_26 ?_
    obtain ⟨u_7, hu_7, hF_8⟩ := Option.bind_eq_some_iff.mp hF_6
    clear hF_6
    have hPc := hP.sub (ws' := (b_m cB cC cI cJ cZ oA rA σ_5 ++ b_w cB cC cI cJ cZ oA rA σ_5 ++ b_s cB cC cI cJ cZ oA rA σ_5 ++ b_c cB cC cI cJ cZ oA rA σ_5 ++ b_t cB cC cI cJ cZ oA rA σ_5 ++ b_d cB cC cI cJ cZ oA rA σ_5)) [0, 1, 2, 3, 4, 5, 6, 7, 8, 9, 10, 11, 12, 13, 14, 15, 16, 17, 18, 19, 20, 21, 22, 23, 24, 25, 26, 27, 28, 29, 30, 31, 32, 33, 34, 35, 36, 37, 38, 39, 40, 41, 42, 43, 44, 45, 46] rfl
    have hDc := (hDD σ_5).sub (ws' := (b_m cB cC cI cJ cZ oA rA σ_5 ++ b_w cB cC cI cJ cZ oA rA σ_5 ++ b_s cB cC cI cJ cZ oA rA σ_5 ++ b_c cB cC cI cJ cZ oA rA σ_5 ++ b_t cB cC cI cJ cZ oA rA σ_5 ++ b_d cB cC cI cJ cZ oA rA σ_5)) [0, 1, 2, 3, 4, 5, 6, 7, 8, 9, 10, 11, 12, 13, 14, 15, 16, 17, 18, 19, 20, 21, 22, 23, 24, 25, 26, 27, 28, 29, 30, 31, 32, 33, 34, 35, 36, 37, 38, 39, 40, 41, 42, 43, 44, 45, 46] (by decide +kernel) rfl
    have hFc := va_free (wc := (b_m cB cC cI cJ cZ oA rA σ_5 ++ b_w cB cC cI cJ cZ oA rA σ_5 ++ b_s cB cC cI cJ cZ oA rA σ_5 ++ b_c cB cC cI cJ cZ oA rA σ_5 ++ b_t cB cC cI cJ cZ oA rA σ_5 ++ b_d cB cC cI cJ cZ oA rA σ_5)) (hDD σ_5) hS hA [0, 1, 2, 3, 4, 5, 6, 7, 8, 9, 10, 11, 12, 13, 14, 15, 16, 17, 18, 19, 20, 21, 22, 23, 24, 25, 26, 27, 28, 29, 30, 31, 32, 33, 34, 35, 36, 37, 38, 39, 40, 41, 42, 43, 44, 45, 46] rfl
    refine g_ofi (wc := (b_m cB cC cI cJ cZ oA rA σ_5 ++ b_w cB cC cI cJ cZ oA rA σ_5 ++ b_s cB cC cI cJ cZ oA rA σ_5 ++ b_c cB cC cI cJ cZ oA rA σ_5 ++ b_t cB cC cI cJ cZ oA rA σ_5 ++ b_d cB cC cI cJ cZ oA rA σ_5)) (wr := ([] : va_W)) hP (hDD σ_5) hS hFc [0, 1, 2, 3, 4, 5, 6, 7, 8, 9, 10, 11, 12, 13, 14, 15, 16, 17, 18, 19, 20, 21, 22, 23, 24, 25, 26, 27, 28, 29, 30, 31, 32, 33, 34, 35, 36, 37, 38, 39, 40, 41, 42, 43, 44, 45, 46] [] rfl rfl (by decide +kernel) (by decide +kernel) (va_runV (As := [.int (p0 + 2)]) (rest := []) ⟨hx, hb, hml, hown, hts⟩ (k_X4_countOwned l dC dI cB cC cI cJ cZ cP oA rA H.size  (p0 + 2) σ_5 _ hu_7) (cwV 1 hts (g_gV wq_729 wq_730 wq_2038 wq_4 wq_731) rfl rfl rfl (by decide +kernel) ⟨Nat.le_of_ble_eq_true rfl, Nat.le_of_ble_eq_true rfl⟩) (g_preV g_bl0 hK hPc hDc hS hE hFc g_to0 (q0 := 0) (ci := 4) rfl rfl) rfl rfl hl.1 rfl (lv_room (Nat.le_of_ble_eq_true rfl)) dX4_tellVerb_27 ⟨Nat.le_of_ble_eq_true rfl, Nat.le_of_ble_eq_true rfl⟩) (fun r9 u9 H locs hw9 hP' hD' hS => ?_)
    clear hPc hDc hFc
    subst hw9
    have hP : va_P (dC, dI) vwCl (b_m cB cC cI cJ cZ oA rA u_7.2 ++ b_w cB cC cI cJ cZ oA rA u_7.2 ++ b_s cB cC cI cJ cZ oA rA u_7.2 ++ b_c cB cC cI cJ cZ oA rA u_7.2 ++ b_t cB cC cI cJ cZ oA rA u_7.2 ++ b_d cB cC cI cJ cZ oA rA u_7.2) H := hP'
    clear hP' hD'
    refine lv_istore_n (lv' := [(2, .int u_7.1), (0, .ref (oA 3)), (1, .int p0)]) hx hb dX4_tellVerb_30 rfl hl (by decide) rfl (fun ls hl => ?_)
    refine lv_aload_n hx hb dX4_tellVerb_31 rfl (lv_at hl 1 rfl) ?_
    refine va_get (D := (dC, dI)) (ci := 4) (v := .ref (oA 4)) (C := RX4) (T := TX4) (N := 18) hx hb hts ii_X4 hown hK hP 0 rfl rfl 1 (by decide) (hts (.fieldLink RX4 36 "StoryHouse$Meanings" "story" "LStoryHouse$Story;") wq_87) (fun _ h9 => h9) rfl dX4_tellVerb_32 ?_
    refine va_get (D := (dC, dI)) (ci := 7) (v := .ref (rA 4 7)) (C := RX7) (T := TX7) (N := 19) hx hb hts ii_X7 hown hK hP 16 rfl rfl 7 (by decide) (hts (.fieldLink RX4 168 "StoryHouse$Story" "forms" "[I") wq_171) (fun _ h9 => h9) rfl dX4_tellVerb_35 ?_
    refine lv_aload_n hx hb dX4_tellVerb_38 rfl (lv_at hl 1 rfl) ?_
    refine va_get (D := (dC, dI)) (ci := 4) (v := .ref (oA 4)) (C := RX4) (T := TX4) (N := 18) hx hb hts ii_X4 hown hK hP 0 rfl rfl 1 (by decide) (hts (.fieldLink RX4 36 "StoryHouse$Meanings" "story" "LStoryHouse$Story;") wq_87) (fun _ h9 => h9) rfl dX4_tellVerb_39 ?_
    refine va_get (D := (dC, dI)) (ci := 7) (v := .ref (rA 4 0)) (C := RX7) (T := TX7) (N := 19) hx hb hts ii_X7 hown hK hP 16 rfl rfl 0 (by decide) (hts (.fieldLink RX4 165 "StoryHouse$Story" "counts" "[I") wq_154) (fun _ h9 => h9) rfl dX4_tellVerb_42 ?_
    refine lv_iconst (v := 1) hx hb dX4_tellVerb_45 (by decide +kernel) ?_
    have hPc := hP.sub (ws' := [(rA 4 0, .inl (cI, 7, .inl ((u_7.2 4).2.1 0)))]) [17] rfl
    have hDc := (hDD u_7.2).sub (ws' := [(rA 4 0, .inl (cI, 7, .inl ((u_7.2 4).2.1 0)))]) [17] (by decide +kernel) rfl
    have hFc := va_free (wc := [(rA 4 0, .inl (cI, 7, .inl ((u_7.2 4).2.1 0)))]) (hDD u_7.2) hS hA [17] rfl
    refine g_ofi (wc := [(rA 4 0, .inl (cI, 7, .inl ((u_7.2 4).2.1 0)))]) (wr := (((b_m cB cC cI cJ cZ oA rA u_7.2 ++ b_w cB cC cI cJ cZ oA rA u_7.2 ++ b_s cB cC cI cJ cZ oA rA u_7.2 ++ b_c cB cC cI cJ cZ oA rA u_7.2 ++ b_t cB cC cI cJ cZ oA rA u_7.2 ++ b_d cB cC cI cJ cZ oA rA u_7.2)).eraseIdx 17)) hP (hDD u_7.2) hS hFc [17] [0, 1, 2, 3, 4, 5, 6, 7, 8, 9, 10, 11, 12, 13, 14, 15, 16, 18, 19, 20, 21, 22, 23, 24, 25, 26, 27, 28, 29, 30, 31, 32, 33, 34, 35, 36, 37, 38, 39, 40, 41, 42, 43, 44, 45, 46] rfl rfl (by decide +kernel) (by decide +kernel) (va_runSN (As := [.ref (rA 4 0), .int 1]) (rest := [.ref (rA 4 7)]) ⟨hx, hb, hml, hown, hts⟩ (c_X11_at l dC dI cB cC cI cJ cZ cP H.size (rA 4 0) 1 7 ((u_7.2 4).2.1 0) (by decide)) ⟨va_cnB 2 hts (g_gA wq_407) rfl rfl rfl (hN.at 24 rfl) (hts (.initialized RX11) wq_1) (by decide +kernel) ⟨Nat.le_of_ble_eq_true rfl, Nat.le_of_ble_eq_true rfl⟩, (hts (.static yX11_at) wq_406), trivial⟩ (g_preS g_bl0 hK hPc hDc hS hE hFc g_to0) rfl rfl hl.1 rfl (lv_room (Nat.le_of_ble_eq_true rfl)) dX4_tellVerb_46 ⟨Nat.le_of_ble_eq_true rfl, Nat.le_of_ble_eq_true rfl⟩) (fun r9 u9 H locs hw9 hP' hD' hS => ?_)
    clear hPc hDc hFc hD'
    have hP : va_P (dC, dI) vwCl (b_m cB cC cI cJ cZ oA rA u_7.2 ++ b_w cB cC cI cJ cZ oA rA u_7.2 ++ b_s cB cC cI cJ cZ oA rA u_7.2 ++ b_c cB cC cI cJ cZ oA rA u_7.2 ++ b_t cB cC cI cJ cZ oA rA u_7.2 ++ b_d cB cC cI cJ cZ oA rA u_7.2) H := hP'.sub [0, 1, 2, 3, 4, 5, 6, 7, 8, 9, 10, 11, 12, 13, 14, 15, 16, 46, 17, 18, 19, 20, 21, 22, 23, 24, 25, 26, 27, 28, 29, 30, 31, 32, 33, 34, 35, 36, 37, 38, 39, 40, 41, 42, 43, 44, 45] rfl
    clear hP'
    subst hw9
    obtain ⟨x_9, ex_9, hF_10⟩ := bnd_e hF_8
    clear hF_8
    refine m_top ex_9 ?_
    refine lv_aload_n hx hb dX4_tellVerb_49 rfl (lv_at hl 1 rfl) ?_
    refine va_get (D := (dC, dI)) (ci := 4) (v := .ref (oA 1)) (C := RX4) (T := TX4) (N := 18) hx hb hts ii_X4 hown hK hP 0 rfl rfl 0 (by decide) (hts (.fieldLink RX4 32 "StoryHouse$Meanings" "words" "LStoryHouse$Words;") wq_86) (fun _ h9 => h9) rfl dX4_tellVerb_50 ?_
    refine lv_iload_n hx hb dX4_tellVerb_53 rfl (lv_at hl 0 rfl) ?_
    obtain ⟨u_11, hu_11, hF_12⟩ := Option.bind_eq_some_iff.mp hF_10
    clear hF_10
    have hPc := hP.sub (ws' := (b_w cB cC cI cJ cZ oA rA u_7.2)) [7, 8, 9, 10, 11, 12, 13, 14, 15] rfl
    have hDc := (hDD u_7.2).sub (ws' := (b_w cB cC cI cJ cZ oA rA u_7.2)) [7, 8, 9, 10, 11, 12, 13, 14, 15] (by decide +kernel) rfl
    have hFc := va_free (wc := (b_w cB cC cI cJ cZ oA rA u_7.2)) (hDD u_7.2) hS hA [7, 8, 9, 10, 11, 12, 13, 14, 15] rfl
    refine g_ofi (wc := (b_w cB cC cI cJ cZ oA rA u_7.2)) (wr := (b_m cB cC cI cJ cZ oA rA u_7.2 ++ b_s cB cC cI cJ cZ oA rA u_7.2 ++ b_c cB cC cI cJ cZ oA rA u_7.2 ++ b_t cB cC cI cJ cZ oA rA u_7.2 ++ b_d cB cC cI cJ cZ oA rA u_7.2)) hP (hDD u_7.2) hS hFc [7, 8, 9, 10, 11, 12, 13, 14, 15] [0, 1, 2, 3, 4, 5, 6, 16, 17, 18, 19, 20, 21, 22, 23, 24, 25, 26, 27, 28, 29, 30, 31, 32, 33, 34, 35, 36, 37, 38, 39, 40, 41, 42, 43, 44, 45, 46] rfl rfl (by decide +kernel) (by decide +kernel) (va_runV (As := [.int u_7.1]) (rest := [.int x_9, .ref (rA 4 7)]) ⟨hx, hb, hml, hown, hts⟩ (k_X10_kindOf l dC dI cB cC cI cJ cZ cP oA rA H.size  u_7.1 u_7.2 _ hu_11) (cwV 1 hts (g_gV wq_714 wq_543 wq_544 wq_2 wq_545) rfl rfl rfl (by decide +kernel) ⟨Nat.le_of_ble_eq_true rfl, Nat.le_of_ble_eq_true rfl⟩) (g_preV g_bl0 hK hPc hDc hS hE hFc g_to0 (q0 := 0) (ci := 10) rfl rfl) rfl rfl hl.1 rfl (lv_room (Nat.le_of_ble_eq_true rfl)) dX4_tellVerb_54 ⟨Nat.le_of_ble_eq_true rfl, Nat.le_of_ble_eq_true rfl⟩) (fun r9 u9 H locs hw9 hP' hD' hS => ?_)
    clear hPc hDc hFc
    subst hw9
    obtain ⟨σ_13, eσ_13, hF_14⟩ := bnd_e hF_12
    clear hF_12
    have hP : va_P (dC, dI) vwCl (b_m cB cC cI cJ cZ oA rA σ_13 ++ b_w cB cC cI cJ cZ oA rA σ_13 ++ b_s cB cC cI cJ cZ oA rA σ_13 ++ b_c cB cC cI cJ cZ oA rA σ_13 ++ b_t cB cC cI cJ cZ oA rA σ_13 ++ b_d cB cC cI cJ cZ oA rA σ_13) H := by rw [eσ_13]; exact hP'.sub [0, 1, 2, 3, 4, 5, 6, 38, 39, 40, 41, 42, 43, 44, 45, 46, 7, 8, 9, 10, 11, 12, 13, 14, 15, 16, 17, 18, 19, 20, 21, 22, 23, 24, 25, 26, 27, 28, 29, 30, 31, 32, 33, 34, 35, 36, 37] rfl
    clear hP' hD'
    refine lv_sipush (v := 213) hx hb dX4_tellVerb_57 (by decide +kernel) ?_
    refine lv_isub hx hb dX4_tellVerb_60 ?_
    obtain ⟨x_15, ex_15, hF_16⟩ := bnd_e hF_14
    clear hF_14
    refine m_top ex_15 ?_
    have hPc := hP.sub (ws' := [(rA 4 7, .inl (cI, 61, .inl ((σ_13 4).2.1 7)))]) [24] rfl
    have hDc := (hDD σ_13).sub (ws' := [(rA 4 7, .inl (cI, 61, .inl ((σ_13 4).2.1 7)))]) [24] (by decide +kernel) rfl
    have hFc := va_free (wc := [(rA 4 7, .inl (cI, 61, .inl ((σ_13 4).2.1 7)))]) (hDD σ_13) hS hA [24] rfl
    refine g_ofv (wc := [(rA 4 7, .inl (cI, 61, .inl ((σ_13 4).2.1 7)))]) (wr := (((b_m cB cC cI cJ cZ oA rA σ_13 ++ b_w cB cC cI cJ cZ oA rA σ_13 ++ b_s cB cC cI cJ cZ oA rA σ_13 ++ b_c cB cC cI cJ cZ oA rA σ_13 ++ b_t cB cC cI cJ cZ oA rA σ_13 ++ b_d cB cC cI cJ cZ oA rA σ_13)).eraseIdx 24)) hP (hDD σ_13) hS hFc [24] [0, 1, 2, 3, 4, 5, 6, 7, 8, 9, 10, 11, 12, 13, 14, 15, 16, 17, 18, 19, 20, 21, 22, 23, 25, 26, 27, 28, 29, 30, 31, 32, 33, 34, 35, 36, 37, 38, 39, 40, 41, 42, 43, 44, 45, 46] rfl rfl (by decide +kernel) (by decide +kernel) (va_runSN (As := [.ref (rA 4 7), .int x_9, .int x_15]) (rest := []) ⟨hx, hb, hml, hown, hts⟩ (c_X11_put l dC dI cB cC cI cJ cZ cP H.size (rA 4 7) x_9 x_15 61 ((σ_13 4).2.1 7) (by decide)) ⟨va_cnB 3 hts (g_gA wq_412) rfl rfl rfl (hN.at 23 rfl) (hts (.initialized RX11) wq_1) (by decide +kernel) ⟨Nat.le_of_ble_eq_true rfl, Nat.le_of_ble_eq_true rfl⟩, (hts (.static yX11_put) wq_411), trivial⟩ (g_preS g_bl0 hK hPc hDc hS hE hFc g_to0) rfl rfl hl.1 rfl (lv_room (Nat.le_of_ble_eq_true rfl)) dX4_tellVerb_61 ⟨Nat.le_of_ble_eq_true rfl, Nat.le_of_ble_eq_true rfl⟩) (fun g9 H locs hw9 hP' hD' hS => ?_)
    clear hPc hDc hFc hD'
    obtain ⟨σ_17, eσ_17, hF_18⟩ := bnd_e hF_16
    clear hF_16
    subst hw9
    have hP : va_P (dC, dI) vwCl (b_m cB cC cI cJ cZ oA rA σ_17 ++ b_w cB cC cI cJ cZ oA rA σ_17 ++ b_s cB cC cI cJ cZ oA rA σ_17 ++ b_c cB cC cI cJ cZ oA rA σ_17 ++ b_t cB cC cI cJ cZ oA rA σ_17 ++ b_d cB cC cI cJ cZ oA rA σ_17) H := by rw [eσ_17]; exact hP'.sub [0, 1, 2, 3, 4, 5, 6, 7, 8, 9, 10, 11, 12, 13, 14, 15, 16, 17, 18, 19, 20, 21, 22, 23, 46, 24, 25, 26, 27, 28, 29, 30, 31, 32, 33, 34, 35, 36, 37, 38, 39, 40, 41, 42, 43, 44, 45] rfl
    clear hP'
    have h9 := Option.some.inj hF_18
    subst h9
    exact W.vret hx hb hr (fun t ht hW => ⟨⟨(), rfl, trivial, m_end ht hP, hDD _⟩, hS.F ht⟩) hS.2.2 dX4_tellVerb_64
