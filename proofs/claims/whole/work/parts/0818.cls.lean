/-! methods of the class: what each does is its function -/
theorem dX3_call_0 : decode cX3_call 0 = .ok (.aload_n 0, 1) := by decide +kernel
theorem dX3_call_1 : decode cX3_call 1 = .ok (.invokevirtual 119, 3) := by decide +kernel
theorem dX3_call_4 : decode cX3_call 4 = .ok (.ifCond .eq 12, 3) := by decide +kernel
theorem dX3_call_7 : decode cX3_call 7 = .ok (.aload_n 0, 1) := by decide +kernel
theorem dX3_call_8 : decode cX3_call 8 = .ok (.bipush 6, 2) := by decide +kernel
theorem dX3_call_10 : decode cX3_call 10 = .ok (.invokevirtual 106, 3) := by decide +kernel
theorem dX3_call_13 : decode cX3_call 13 = .ok (.goto 109, 3) := by decide +kernel
theorem dX3_call_16 : decode cX3_call 16 = .ok (.aload_n 0, 1) := by decide +kernel
theorem dX3_call_17 : decode cX3_call 17 = .ok (.getfield 43, 3) := by decide +kernel
theorem dX3_call_20 : decode cX3_call 20 = .ok (.bipush 30, 2) := by decide +kernel
theorem dX3_call_22 : decode cX3_call 22 = .ok (.if_icmp .lt 11, 3) := by decide +kernel
theorem dX3_call_25 : decode cX3_call 25 = .ok (.aload_n 0, 1) := by decide +kernel
theorem dX3_call_26 : decode cX3_call 26 = .ok (.iconst 5, 1) := by decide +kernel
theorem dX3_call_27 : decode cX3_call 27 = .ok (.invokevirtual 106, 3) := by decide +kernel
theorem dX3_call_30 : decode cX3_call 30 = .ok (.goto 92, 3) := by decide +kernel
theorem dX3_call_33 : decode cX3_call 33 = .ok (.aload_n 0, 1) := by decide +kernel
theorem dX3_call_34 : decode cX3_call 34 = .ok (.getfield 15, 3) := by decide +kernel
theorem dX3_call_37 : decode cX3_call 37 = .ok (.aload_n 0, 1) := by decide +kernel
theorem dX3_call_38 : decode cX3_call 38 = .ok (.getfield 43, 3) := by decide +kernel
theorem dX3_call_41 : decode cX3_call 41 = .ok (.aload_n 0, 1) := by decide +kernel
theorem dX3_call_42 : decode cX3_call 42 = .ok (.getfield 68, 3) := by decide +kernel
theorem dX3_call_45 : decode cX3_call 45 = .ok (.invokestatic 138, 3) := by decide +kernel
theorem dX3_call_48 : decode cX3_call 48 = .ok (.aload_n 0, 1) := by decide +kernel
theorem dX3_call_49 : decode cX3_call 49 = .ok (.getfield 18, 3) := by decide +kernel
theorem dX3_call_52 : decode cX3_call 52 = .ok (.aload_n 0, 1) := by decide +kernel
theorem dX3_call_53 : decode cX3_call 53 = .ok (.getfield 43, 3) := by decide +kernel
theorem dX3_call_56 : decode cX3_call 56 = .ok (.aload_n 0, 1) := by decide +kernel
theorem dX3_call_57 : decode cX3_call 57 = .ok (.getfield 46, 3) := by decide +kernel
theorem dX3_call_60 : decode cX3_call 60 = .ok (.invokestatic 138, 3) := by decide +kernel
theorem dX3_call_63 : decode cX3_call 63 = .ok (.aload_n 0, 1) := by decide +kernel
theorem dX3_call_64 : decode cX3_call 64 = .ok (.dup, 1) := by decide +kernel
theorem dX3_call_65 : decode cX3_call 65 = .ok (.getfield 43, 3) := by decide +kernel
theorem dX3_call_68 : decode cX3_call 68 = .ok (.iconst 1, 1) := by decide +kernel
theorem dX3_call_69 : decode cX3_call 69 = .ok (.iadd, 1) := by decide +kernel
theorem dX3_call_70 : decode cX3_call 70 = .ok (.putfield 43, 3) := by decide +kernel
theorem dX3_call_73 : decode cX3_call 73 = .ok (.aload_n 0, 1) := by decide +kernel
theorem dX3_call_74 : decode cX3_call 74 = .ok (.aload_n 0, 1) := by decide +kernel
theorem dX3_call_75 : decode cX3_call 75 = .ok (.getfield 49, 3) := by decide +kernel
theorem dX3_call_78 : decode cX3_call 78 = .ok (.aload_n 0, 1) := by decide +kernel
theorem dX3_call_79 : decode cX3_call 79 = .ok (.getfield 52, 3) := by decide +kernel
theorem dX3_call_82 : decode cX3_call 82 = .ok (.getfield 56, 3) := by decide +kernel
theorem dX3_call_85 : decode cX3_call 85 = .ok (.getfield 142, 3) := by decide +kernel
theorem dX3_call_88 : decode cX3_call 88 = .ok (.iload_n 1, 1) := by decide +kernel
theorem dX3_call_89 : decode cX3_call 89 = .ok (.invokestatic 98, 3) := by decide +kernel
theorem dX3_call_92 : decode cX3_call 92 = .ok (.isub, 1) := by decide +kernel
theorem dX3_call_93 : decode cX3_call 93 = .ok (.putfield 46, 3) := by decide +kernel
theorem dX3_call_96 : decode cX3_call 96 = .ok (.aload_n 0, 1) := by decide +kernel
theorem dX3_call_97 : decode cX3_call 97 = .ok (.aload_n 0, 1) := by decide +kernel
theorem dX3_call_98 : decode cX3_call 98 = .ok (.getfield 46, 3) := by decide +kernel
theorem dX3_call_101 : decode cX3_call 101 = .ok (.bipush 14, 2) := by decide +kernel
theorem dX3_call_103 : decode cX3_call 103 = .ok (.iadd, 1) := by decide +kernel
theorem dX3_call_104 : decode cX3_call 104 = .ok (.putfield 49, 3) := by decide +kernel
theorem dX3_call_107 : decode cX3_call 107 = .ok (.aload_n 0, 1) := by decide +kernel
theorem dX3_call_108 : decode cX3_call 108 = .ok (.aload_n 0, 1) := by decide +kernel
theorem dX3_call_109 : decode cX3_call 109 = .ok (.getfield 52, 3) := by decide +kernel
theorem dX3_call_112 : decode cX3_call 112 = .ok (.getfield 56, 3) := by decide +kernel
theorem dX3_call_115 : decode cX3_call 115 = .ok (.iload_n 1, 1) := by decide +kernel
theorem dX3_call_116 : decode cX3_call 116 = .ok (.invokevirtual 62, 3) := by decide +kernel
theorem dX3_call_119 : decode cX3_call 119 = .ok (.putfield 68, 3) := by decide +kernel
theorem dX3_call_122 : decode cX3_call 122 = .ok (.return_, 1) := by decide +kernel
def F_X3_call (p0 : Int32) (Γ : HS) : HR :=
  (F_X3_isTooMuch Γ).bind fun u_1 =>
  if u_1.1 = 0 then (
    if ((u_1.2 10).1 12) < 30 then (
      bnd (((u_1.2 10).1 9)) fun (x_7 : Int32) =>
      bnd (cA' u_1.2 10 10 (g_put 30 ((u_1.2 10).2.1 10) ((u_1.2 10).1 12) x_7)) fun σ_9 =>
      bnd (((σ_9 10).1 8)) fun (x_11 : Int32) =>
      bnd (cA' σ_9 10 11 (g_put 30 ((σ_9 10).2.1 11) ((σ_9 10).1 12) x_11)) fun σ_13 =>
      bnd (cI' σ_13 10 12 (((σ_13 10).1 12) + 1)) fun σ_15 =>
      bnd ((g_at 100 ((σ_15 5).2.1 4) p0)) fun (x_17 : Int32) =>
      bnd (cI' σ_15 10 8 (((σ_15 10).1 7) - x_17)) fun σ_19 =>
      bnd (cI' σ_19 10 7 (((σ_19 10).1 8) + 14)) fun σ_21 =>
      (F_X0_beginOf p0 σ_21).bind fun u_23 =>
      bnd (mrg (fun j => j == 5) σ_21 u_23.2) fun σ_25 =>
      bnd (cI' σ_25 10 9 u_23.1) fun σ_27 =>
      some (0, σ_27)
    ) else (
      (F_X3_stop 5 u_1.2).bind fun u_30 =>
      some (0, u_30.2)
    )
  ) else (
    (F_X3_stop 6 u_1.2).bind fun u_33 =>
    some (0, u_33.2)
  )
set_option maxHeartbeats 4000000 in
set_option maxRecDepth 100000 in
theorem k_X3_call (l : Launch) (dC : Nat → ClassId) (dI : Nat → Nat → Nat) (cB cC cI cJ cZ cP : ClassId) (oA : Nat → Nat) (rA : Nat → Nat → Nat) (sz : Nat)  (p0 : Int32) (Γ : HS) (res : Int32 × HS) (hF : F_X3_call p0 Γ = some res) : Met l yX3_call (g_ws yX3_call cX3_call 2 none) ({ frames := 4, cells := 0, slots := 0, locals := 102 }) (va_Pc [.ref (oA 10), .int p0] (g_B (dC, dI) [(cB, .byte), (cC, .char), (cI, .int), (cJ, .long), (cZ, .boolean), (cP, .object "StoryHouse$Play")] sz (b_k cB cC cI cJ cZ oA rA Γ ++ b_p cB cC cI cJ cZ oA rA Γ ++ b_o cB cC cI cJ cZ oA rA Γ ++ b_s cB cC cI cJ cZ oA rA Γ ++ b_c cB cC cI cJ cZ oA rA Γ ++ b_t cB cC cI cJ cZ oA rA Γ ++ b_d cB cC cI cJ cZ oA rA Γ) g_0)) (va_Qv (fun (_ : Unit) => True) (g_Bo (dC, dI) (va_A (b_k cB cC cI cJ cZ oA rA Γ ++ b_p cB cC cI cJ cZ oA rA Γ ++ b_o cB cC cI cJ cZ oA rA Γ ++ b_s cB cC cI cJ cZ oA rA Γ ++ b_c cB cC cI cJ cZ oA rA Γ ++ b_t cB cC cI cJ cZ oA rA Γ ++ b_d cB cC cI cJ cZ oA rA Γ) sz) (fun (_ : Unit) => (b_k cB cC cI cJ cZ oA rA res.2 ++ b_p cB cC cI cJ cZ oA rA res.2 ++ b_o cB cC cI cJ cZ oA rA res.2 ++ b_s cB cC cI cJ cZ oA rA res.2 ++ b_c cB cC cI cJ cZ oA rA res.2 ++ b_t cB cC cI cJ cZ oA rA res.2 ++ b_d cB cC cI cJ cZ oA rA res.2))) (va_A (b_k cB cC cI cJ cZ oA rA Γ ++ b_p cB cC cI cJ cZ oA rA Γ ++ b_o cB cC cI cJ cZ oA rA Γ ++ b_s cB cC cI cJ cZ oA rA Γ ++ b_c cB cC cI cJ cZ oA rA Γ ++ b_t cB cC cI cJ cZ oA rA Γ ++ b_d cB cC cI cJ cZ oA rA Γ) sz)) 0 0 (va_A (b_k cB cC cI cJ cZ oA rA Γ ++ b_p cB cC cI cJ cZ oA rA Γ ++ b_o cB cC cI cJ cZ oA rA Γ ++ b_s cB cC cI cJ cZ oA rA Γ ++ b_c cB cC cI cJ cZ oA rA Γ ++ b_t cB cC cI cJ cZ oA rA Γ ++ b_d cB cC cI cJ cZ oA rA Γ) sz) := by
  refine Met.ofW (cc := cX3_call) (maxL := 2) (ret := none) (by decide) rfl ?_
  intro p e s m args below meth c s₁ B hml hv
  obtain ⟨rfl, hsz, hP, hK, hD0, hE, hX⟩ := hv
  have hx := B.exec
  have hb := B.bytes
  have hr := B.returns
  have hts0 := atoms_spec (ws := g_ws yX3_call cX3_call 2 none) B.pre
  have hts : ∀ w ∈ lw_good, w.before ([.ref (oA 10), .int p0] : List Value).toArray s = true := fun w z => hts0 w (List.mem_cons_of_mem _ z)
  have hown : s.vm.findClass RX3 = some m.cls := findClass_of_methodNamed B.named
  have hlocks := B.notSynchronized
  subst hsz
  have hD1 := hD0.self (sz := s.heap.size)
  generalize hAe : va_A (b_k cB cC cI cJ cZ oA rA Γ ++ b_p cB cC cI cJ cZ oA rA Γ ++ b_o cB cC cI cJ cZ oA rA Γ ++ b_s cB cC cI cJ cZ oA rA Γ ++ b_c cB cC cI cJ cZ oA rA Γ ++ b_t cB cC cI cJ cZ oA rA Γ ++ b_d cB cC cI cJ cZ oA rA Γ) s.heap.size = A at hD1 hE hX ⊢
  have hA : ∀ q : Nat, s.heap.size ≤ q → A q := fun q z => by rw [← hAe]; exact Or.inr z
  have hDD : ∀ Γ : HS, va_D A (b_k cB cC cI cJ cZ oA rA Γ ++ b_p cB cC cI cJ cZ oA rA Γ ++ b_o cB cC cI cJ cZ oA rA Γ ++ b_s cB cC cI cJ cZ oA rA Γ ++ b_c cB cC cI cJ cZ oA rA Γ ++ b_t cB cC cI cJ cZ oA rA Γ ++ b_d cB cC cI cJ cZ oA rA Γ) := fun Γ9 => va_D_fst (ws := (b_k cB cC cI cJ cZ oA rA Γ ++ b_p cB cC cI cJ cZ oA rA Γ ++ b_o cB cC cI cJ cZ oA rA Γ ++ b_s cB cC cI cJ cZ oA rA Γ ++ b_c cB cC cI cJ cZ oA rA Γ ++ b_t cB cC cI cJ cZ oA rA Γ ++ b_d cB cC cI cJ cZ oA rA Γ)) (ws' := (b_k cB cC cI cJ cZ oA rA Γ9 ++ b_p cB cC cI cJ cZ oA rA Γ9 ++ b_o cB cC cI cJ cZ oA rA Γ9 ++ b_s cB cC cI cJ cZ oA rA Γ9 ++ b_c cB cC cI cJ cZ oA rA Γ9 ++ b_t cB cC cI cJ cZ oA rA Γ9 ++ b_d cB cC cI cJ cZ oA rA Γ9)) rfl hD1
  have hN := hE.1
  have hS : va_S A s.heap s.heap [] := va_S.rf
  have hl := lv_entry ([.ref (oA 10), .int p0]) (n := 2) (Nat.le_of_ble_eq_true rfl)
  rw [lg_entry_eq]
  generalize (lg_sl ([.ref (oA 10), .int p0]) ++ List.replicate (2 - (lg_sl ([.ref (oA 10), .int p0])).length) Slot.unset).toArray = ls at hl ⊢
  have hl : lv_has ls 2 [(0, .ref (oA 10)), (1, .int p0)] := hl
  unfold F_X3_call at hF
  refine lv_aload_n hx hb dX3_call_0 rfl (lv_at hl 0 rfl) ?_
  obtain ⟨u_1, hu_1, hF_2⟩ := Option.bind_eq_some_iff.mp hF
  clear hF
  have hPc := bx_P (bs := [b_k cB cC cI cJ cZ oA rA Γ, b_p cB cC cI cJ cZ oA rA Γ, b_o cB cC cI cJ cZ oA rA Γ, b_s cB cC cI cJ cZ oA rA Γ, b_c cB cC cI cJ cZ oA rA Γ, b_t cB cC cI cJ cZ oA rA Γ, b_d cB cC cI cJ cZ oA rA Γ]) (bs' := [b_k cB cC cI cJ cZ oA rA Γ, b_p cB cC cI cJ cZ oA rA Γ, b_o cB cC cI cJ cZ oA rA Γ, b_s cB cC cI cJ cZ oA rA Γ, b_c cB cC cI cJ cZ oA rA Γ, b_t cB cC cI cJ cZ oA rA Γ, b_d cB cC cI cJ cZ oA rA Γ]) (ws' := (b_k cB cC cI cJ cZ oA rA Γ ++ b_p cB cC cI cJ cZ oA rA Γ ++ b_o cB cC cI cJ cZ oA rA Γ ++ b_s cB cC cI cJ cZ oA rA Γ ++ b_c cB cC cI cJ cZ oA rA Γ ++ b_t cB cC cI cJ cZ oA rA Γ ++ b_d cB cC cI cJ cZ oA rA Γ)) hP fl_7 fl_7 [0, 1, 2, 3, 4, 5, 6] rfl
  have hDc := bx_D (bs := [b_k cB cC cI cJ cZ oA rA Γ, b_p cB cC cI cJ cZ oA rA Γ, b_o cB cC cI cJ cZ oA rA Γ, b_s cB cC cI cJ cZ oA rA Γ, b_c cB cC cI cJ cZ oA rA Γ, b_t cB cC cI cJ cZ oA rA Γ, b_d cB cC cI cJ cZ oA rA Γ]) (bs' := [b_k cB cC cI cJ cZ oA rA Γ, b_p cB cC cI cJ cZ oA rA Γ, b_o cB cC cI cJ cZ oA rA Γ, b_s cB cC cI cJ cZ oA rA Γ, b_c cB cC cI cJ cZ oA rA Γ, b_t cB cC cI cJ cZ oA rA Γ, b_d cB cC cI cJ cZ oA rA Γ]) (ws' := (b_k cB cC cI cJ cZ oA rA Γ ++ b_p cB cC cI cJ cZ oA rA Γ ++ b_o cB cC cI cJ cZ oA rA Γ ++ b_s cB cC cI cJ cZ oA rA Γ ++ b_c cB cC cI cJ cZ oA rA Γ ++ b_t cB cC cI cJ cZ oA rA Γ ++ b_d cB cC cI cJ cZ oA rA Γ)) (hDD Γ) fl_7 fl_7 [0, 1, 2, 3, 4, 5, 6] (by decide +kernel) rfl
  have hFc := bx_F (bs := [b_k cB cC cI cJ cZ oA rA Γ, b_p cB cC cI cJ cZ oA rA Γ, b_o cB cC cI cJ cZ oA rA Γ, b_s cB cC cI cJ cZ oA rA Γ, b_c cB cC cI cJ cZ oA rA Γ, b_t cB cC cI cJ cZ oA rA Γ, b_d cB cC cI cJ cZ oA rA Γ]) (bs' := [b_k cB cC cI cJ cZ oA rA Γ, b_p cB cC cI cJ cZ oA rA Γ, b_o cB cC cI cJ cZ oA rA Γ, b_s cB cC cI cJ cZ oA rA Γ, b_c cB cC cI cJ cZ oA rA Γ, b_t cB cC cI cJ cZ oA rA Γ, b_d cB cC cI cJ cZ oA rA Γ]) (wc := (b_k cB cC cI cJ cZ oA rA Γ ++ b_p cB cC cI cJ cZ oA rA Γ ++ b_o cB cC cI cJ cZ oA rA Γ ++ b_s cB cC cI cJ cZ oA rA Γ ++ b_c cB cC cI cJ cZ oA rA Γ ++ b_t cB cC cI cJ cZ oA rA Γ ++ b_d cB cC cI cJ cZ oA rA Γ)) (hDD Γ) hS hA fl_7 fl_7 [0, 1, 2, 3, 4, 5, 6] rfl
  refine g_ofi (wc := (b_k cB cC cI cJ cZ oA rA Γ ++ b_p cB cC cI cJ cZ oA rA Γ ++ b_o cB cC cI cJ cZ oA rA Γ ++ b_s cB cC cI cJ cZ oA rA Γ ++ b_c cB cC cI cJ cZ oA rA Γ ++ b_t cB cC cI cJ cZ oA rA Γ ++ b_d cB cC cI cJ cZ oA rA Γ)) (wr := ([] : va_W)) hP (hDD Γ) hS hFc (bx_ix [b_k cB cC cI cJ cZ oA rA Γ, b_p cB cC cI cJ cZ oA rA Γ, b_o cB cC cI cJ cZ oA rA Γ, b_s cB cC cI cJ cZ oA rA Γ, b_c cB cC cI cJ cZ oA rA Γ, b_t cB cC cI cJ cZ oA rA Γ, b_d cB cC cI cJ cZ oA rA Γ] [0, 1, 2, 3, 4, 5, 6]) (bx_ix [b_k cB cC cI cJ cZ oA rA Γ, b_p cB cC cI cJ cZ oA rA Γ, b_o cB cC cI cJ cZ oA rA Γ, b_s cB cC cI cJ cZ oA rA Γ, b_c cB cC cI cJ cZ oA rA Γ, b_t cB cC cI cJ cZ oA rA Γ, b_d cB cC cI cJ cZ oA rA Γ] []) (bx_C (bs := [b_k cB cC cI cJ cZ oA rA Γ, b_p cB cC cI cJ cZ oA rA Γ, b_o cB cC cI cJ cZ oA rA Γ, b_s cB cC cI cJ cZ oA rA Γ, b_c cB cC cI cJ cZ oA rA Γ, b_t cB cC cI cJ cZ oA rA Γ, b_d cB cC cI cJ cZ oA rA Γ]) (bs' := [b_k cB cC cI cJ cZ oA rA Γ, b_p cB cC cI cJ cZ oA rA Γ, b_o cB cC cI cJ cZ oA rA Γ, b_s cB cC cI cJ cZ oA rA Γ, b_c cB cC cI cJ cZ oA rA Γ, b_t cB cC cI cJ cZ oA rA Γ, b_d cB cC cI cJ cZ oA rA Γ]) (is := [0, 1, 2, 3, 4, 5, 6]) fl_7 fl_7 rfl) (bx_C (bs := [b_k cB cC cI cJ cZ oA rA Γ, b_p cB cC cI cJ cZ oA rA Γ, b_o cB cC cI cJ cZ oA rA Γ, b_s cB cC cI cJ cZ oA rA Γ, b_c cB cC cI cJ cZ oA rA Γ, b_t cB cC cI cJ cZ oA rA Γ, b_d cB cC cI cJ cZ oA rA Γ]) (bs' := []) (is := []) fl_7 fl_0 rfl) (bx_n (by decide +kernel)) (bx_d (by decide +kernel)) (va_runV (As := []) (rest := []) ⟨hx, hb, hml, hown, hts⟩ (k_X3_isTooMuch l dC dI cB cC cI cJ cZ cP oA rA s.heap.size  Γ _ hu_1) (cwV 0 hts (g_gV wq_1160 wq_1161 wq_2090 wq_11 wq_1162) rfl rfl rfl (by decide +kernel) ⟨Nat.le_of_ble_eq_true rfl, Nat.le_of_ble_eq_true rfl⟩) (g_preV g_bl0 hK hPc hDc hS hE hFc g_to0 (q0 := 0) (ci := 3) rfl rfl) rfl rfl hl.1 rfl (lv_room (Nat.le_of_ble_eq_true rfl)) dX3_call_1 ⟨Nat.le_of_ble_eq_true rfl, Nat.le_of_ble_eq_true rfl⟩) (fun r9 u9 H locs hw9 hP' hD' hS => ?_)
  clear hPc hDc hFc
  subst hw9
  have hP : va_P (dC, dI) vwCl (b_k cB cC cI cJ cZ oA rA u_1.2 ++ b_p cB cC cI cJ cZ oA rA u_1.2 ++ b_o cB cC cI cJ cZ oA rA u_1.2 ++ b_s cB cC cI cJ cZ oA rA u_1.2 ++ b_c cB cC cI cJ cZ oA rA u_1.2 ++ b_t cB cC cI cJ cZ oA rA u_1.2 ++ b_d cB cC cI cJ cZ oA rA u_1.2) H := hP'
  clear hP' hD'
  refine lv_if_eq (tgt := 16) hx hb dX3_call_4 (by decide) (fun c_3 => ?_) (fun c_3 => ?_)
  · have hF_4 := ipos c_3 hF_2
    clear hF_2
    refine lv_aload_n hx hb dX3_call_16 rfl (lv_at hl 0 rfl) ?_
    refine va_get (D := (dC, dI)) (ci := 3) (v := .int ((u_1.2 10).1 12)) (C := RX3) (T := TX3) (N := 16) hx hb hts ii_X3 hown hK hP 0 rfl rfl 12 (by decide) (hts (.fieldLink RX3 43 "StoryHouse$Machine" "depth" "I") wq_276) (fun _ h9 => h9) rfl dX3_call_17 ?_
    refine lv_bipush (v := 30) hx hb dX3_call_20 (by decide +kernel) ?_
    refine lv_icmp_lt (tgt := 33) hx hb dX3_call_22 (by decide) (fun c_5 => ?_) (fun c_5 => ?_)
    · have hF_6 := ipos c_5 hF_4
      clear hF_4
      refine lv_aload_n hx hb dX3_call_33 rfl (lv_at hl 0 rfl) ?_
      refine va_get (D := (dC, dI)) (ci := 3) (v := .ref (rA 10 10)) (C := RX3) (T := TX3) (N := 16) hx hb hts ii_X3 hown hK hP 0 rfl rfl 10 (by decide) (hts (.fieldLink RX3 15 "StoryHouse$Machine" "returns" "[I") wq_274) (fun _ h9 => h9) rfl dX3_call_34 ?_
      refine lv_aload_n hx hb dX3_call_37 rfl (lv_at hl 0 rfl) ?_
      refine va_get (D := (dC, dI)) (ci := 3) (v := .int ((u_1.2 10).1 12)) (C := RX3) (T := TX3) (N := 16) hx hb hts ii_X3 hown hK hP 0 rfl rfl 12 (by decide) (hts (.fieldLink RX3 43 "StoryHouse$Machine" "depth" "I") wq_276) (fun _ h9 => h9) rfl dX3_call_38 ?_
      refine lv_aload_n hx hb dX3_call_41 rfl (lv_at hl 0 rfl) ?_
      refine va_get (D := (dC, dI)) (ci := 3) (v := .int ((u_1.2 10).1 9)) (C := RX3) (T := TX3) (N := 16) hx hb hts ii_X3 hown hK hP 0 rfl rfl 9 (by decide) (hts (.fieldLink RX3 68 "StoryHouse$Machine" "pc" "I") wq_273) (fun _ h9 => h9) rfl dX3_call_42 ?_
      obtain ⟨x_7, ex_7, hF_8⟩ := bnd_e hF_6
      clear hF_6
      refine m_top ex_7 ?_
      have hq9 : ((b_k cB cC cI cJ cZ oA rA u_1.2 ++ b_p cB cC cI cJ cZ oA rA u_1.2 ++ b_o cB cC cI cJ cZ oA rA u_1.2 ++ b_s cB cC cI cJ cZ oA rA u_1.2 ++ b_c cB cC cI cJ cZ oA rA u_1.2 ++ b_t cB cC cI cJ cZ oA rA u_1.2 ++ b_d cB cC cI cJ cZ oA rA u_1.2))[2]? = some (rA 10 10, .inl (cI, 30, .inl ((u_1.2 10).2.1 10))) := rfl
      have hPc := hP.sub (ws' := [(rA 10 10, .inl (cI, 30, .inl ((u_1.2 10).2.1 10)))]) [2] (pk_fm (er_C hq9))
      have hDc := (hDD u_1.2).sub (ws' := [(rA 10 10, .inl (cI, 30, .inl ((u_1.2 10).2.1 10)))]) [2] (by decide +kernel) (er_C hq9)
      have hFc := va_free (wc := [(rA 10 10, .inl (cI, 30, .inl ((u_1.2 10).2.1 10)))]) (hDD u_1.2) hS hA [2] (er_C hq9)
      refine g_ofv (wc := [(rA 10 10, .inl (cI, 30, .inl ((u_1.2 10).2.1 10)))]) (wr := (((b_k cB cC cI cJ cZ oA rA u_1.2 ++ b_p cB cC cI cJ cZ oA rA u_1.2 ++ b_o cB cC cI cJ cZ oA rA u_1.2 ++ b_s cB cC cI cJ cZ oA rA u_1.2 ++ b_c cB cC cI cJ cZ oA rA u_1.2 ++ b_t cB cC cI cJ cZ oA rA u_1.2 ++ b_d cB cC cI cJ cZ oA rA u_1.2)).eraseIdx 2)) hP (hDD u_1.2) hS hFc [2] ((List.range ((b_k cB cC cI cJ cZ oA rA u_1.2 ++ b_p cB cC cI cJ cZ oA rA u_1.2 ++ b_o cB cC cI cJ cZ oA rA u_1.2 ++ b_s cB cC cI cJ cZ oA rA u_1.2 ++ b_c cB cC cI cJ cZ oA rA u_1.2 ++ b_t cB cC cI cJ cZ oA rA u_1.2 ++ b_d cB cC cI cJ cZ oA rA u_1.2)).length).eraseIdx 2) (er_C hq9) er_R er_n er_d (va_runSN (As := [.ref (rA 10 10), .int ((u_1.2 10).1 12), .int x_7]) (rest := []) ⟨hx, hb, hml, hown, hts⟩ (c_X11_put l dC dI cB cC cI cJ cZ cP H.size (rA 10 10) ((u_1.2 10).1 12) x_7 30 ((u_1.2 10).2.1 10) (by decide)) ⟨va_cnB 3 hts (g_gA wq_412) rfl rfl rfl (nw_35 hN) (hts (.initialized RX11) wq_1) (by decide +kernel) ⟨Nat.le_of_ble_eq_true rfl, Nat.le_of_ble_eq_true rfl⟩, (hts (.static yX11_put) wq_411), trivial⟩ (g_preS g_bl0 hK hPc hDc hS hE hFc g_to0) rfl rfl hl.1 rfl (lv_room (Nat.le_of_ble_eq_true rfl)) dX3_call_45 ⟨Nat.le_of_ble_eq_true rfl, Nat.le_of_ble_eq_true rfl⟩) (fun g9 H locs hw9 hP' hD' hS => ?_)
      clear hPc hDc hFc hD'
      obtain ⟨σ_9, eσ_9, hF_10⟩ := bnd_e hF_8
      clear hF_8
      subst hw9
      have hP : va_P (dC, dI) vwCl (b_k cB cC cI cJ cZ oA rA σ_9 ++ b_p cB cC cI cJ cZ oA rA σ_9 ++ b_o cB cC cI cJ cZ oA rA σ_9 ++ b_s cB cC cI cJ cZ oA rA σ_9 ++ b_c cB cC cI cJ cZ oA rA σ_9 ++ b_t cB cC cI cJ cZ oA rA σ_9 ++ b_d cB cC cI cJ cZ oA rA σ_9) H := by rw [eσ_9]; exact cs_kposctd_k_10 ▸ er_P hP' (er_lt hq9)
      clear hP' hq9
      refine lv_aload_n hx hb dX3_call_48 rfl (lv_at hl 0 rfl) ?_
      refine va_get (D := (dC, dI)) (ci := 3) (v := .ref (rA 10 11)) (C := RX3) (T := TX3) (N := 16) hx hb hts ii_X3 hown hK hP 0 rfl rfl 11 (by decide) (hts (.fieldLink RX3 18 "StoryHouse$Machine" "bases" "[I") wq_275) (fun _ h9 => h9) rfl dX3_call_49 ?_
      refine lv_aload_n hx hb dX3_call_52 rfl (lv_at hl 0 rfl) ?_
      refine va_get (D := (dC, dI)) (ci := 3) (v := .int ((σ_9 10).1 12)) (C := RX3) (T := TX3) (N := 16) hx hb hts ii_X3 hown hK hP 0 rfl rfl 12 (by decide) (hts (.fieldLink RX3 43 "StoryHouse$Machine" "depth" "I") wq_276) (fun _ h9 => h9) rfl dX3_call_53 ?_
      refine lv_aload_n hx hb dX3_call_56 rfl (lv_at hl 0 rfl) ?_
      refine va_get (D := (dC, dI)) (ci := 3) (v := .int ((σ_9 10).1 8)) (C := RX3) (T := TX3) (N := 16) hx hb hts ii_X3 hown hK hP 0 rfl rfl 8 (by decide) (hts (.fieldLink RX3 46 "StoryHouse$Machine" "base" "I") wq_272) (fun _ h9 => h9) rfl dX3_call_57 ?_
      obtain ⟨x_11, ex_11, hF_12⟩ := bnd_e hF_10
      clear hF_10
      refine m_top ex_11 ?_
      have hq9 : ((b_k cB cC cI cJ cZ oA rA σ_9 ++ b_p cB cC cI cJ cZ oA rA σ_9 ++ b_o cB cC cI cJ cZ oA rA σ_9 ++ b_s cB cC cI cJ cZ oA rA σ_9 ++ b_c cB cC cI cJ cZ oA rA σ_9 ++ b_t cB cC cI cJ cZ oA rA σ_9 ++ b_d cB cC cI cJ cZ oA rA σ_9))[3]? = some (rA 10 11, .inl (cI, 30, .inl ((σ_9 10).2.1 11))) := rfl
      have hPc := hP.sub (ws' := [(rA 10 11, .inl (cI, 30, .inl ((σ_9 10).2.1 11)))]) [3] (pk_fm (er_C hq9))
      have hDc := (hDD σ_9).sub (ws' := [(rA 10 11, .inl (cI, 30, .inl ((σ_9 10).2.1 11)))]) [3] (by decide +kernel) (er_C hq9)
      have hFc := va_free (wc := [(rA 10 11, .inl (cI, 30, .inl ((σ_9 10).2.1 11)))]) (hDD σ_9) hS hA [3] (er_C hq9)
      refine g_ofv (wc := [(rA 10 11, .inl (cI, 30, .inl ((σ_9 10).2.1 11)))]) (wr := (((b_k cB cC cI cJ cZ oA rA σ_9 ++ b_p cB cC cI cJ cZ oA rA σ_9 ++ b_o cB cC cI cJ cZ oA rA σ_9 ++ b_s cB cC cI cJ cZ oA rA σ_9 ++ b_c cB cC cI cJ cZ oA rA σ_9 ++ b_t cB cC cI cJ cZ oA rA σ_9 ++ b_d cB cC cI cJ cZ oA rA σ_9)).eraseIdx 3)) hP (hDD σ_9) hS hFc [3] ((List.range ((b_k cB cC cI cJ cZ oA rA σ_9 ++ b_p cB cC cI cJ cZ oA rA σ_9 ++ b_o cB cC cI cJ cZ oA rA σ_9 ++ b_s cB cC cI cJ cZ oA rA σ_9 ++ b_c cB cC cI cJ cZ oA rA σ_9 ++ b_t cB cC cI cJ cZ oA rA σ_9 ++ b_d cB cC cI cJ cZ oA rA σ_9)).length).eraseIdx 3) (er_C hq9) er_R er_n er_d (va_runSN (As := [.ref (rA 10 11), .int ((σ_9 10).1 12), .int x_11]) (rest := []) ⟨hx, hb, hml, hown, hts⟩ (c_X11_put l dC dI cB cC cI cJ cZ cP H.size (rA 10 11) ((σ_9 10).1 12) x_11 30 ((σ_9 10).2.1 11) (by decide)) ⟨va_cnB 3 hts (g_gA wq_412) rfl rfl rfl (nw_35 hN) (hts (.initialized RX11) wq_1) (by decide +kernel) ⟨Nat.le_of_ble_eq_true rfl, Nat.le_of_ble_eq_true rfl⟩, (hts (.static yX11_put) wq_411), trivial⟩ (g_preS g_bl0 hK hPc hDc hS hE hFc g_to0) rfl rfl hl.1 rfl (lv_room (Nat.le_of_ble_eq_true rfl)) dX3_call_60 ⟨Nat.le_of_ble_eq_true rfl, Nat.le_of_ble_eq_true rfl⟩) (fun g9 H locs hw9 hP' hD' hS => ?_)
      clear hPc hDc hFc hD'
      obtain ⟨σ_13, eσ_13, hF_14⟩ := bnd_e hF_12
      clear hF_12
      subst hw9
      have hP : va_P (dC, dI) vwCl (b_k cB cC cI cJ cZ oA rA σ_13 ++ b_p cB cC cI cJ cZ oA rA σ_13 ++ b_o cB cC cI cJ cZ oA rA σ_13 ++ b_s cB cC cI cJ cZ oA rA σ_13 ++ b_c cB cC cI cJ cZ oA rA σ_13 ++ b_t cB cC cI cJ cZ oA rA σ_13 ++ b_d cB cC cI cJ cZ oA rA σ_13) H := by rw [eσ_13]; exact cs_kposctd_k_11 ▸ er_P hP' (er_lt hq9)
      clear hP' hq9
      refine lv_aload_n hx hb dX3_call_63 rfl (lv_at hl 0 rfl) ?_
      refine lv_dup hx hb dX3_call_64 rfl ?_
      refine va_get (D := (dC, dI)) (ci := 3) (v := .int ((σ_13 10).1 12)) (C := RX3) (T := TX3) (N := 16) hx hb hts ii_X3 hown hK hP 0 rfl rfl 12 (by decide) (hts (.fieldLink RX3 43 "StoryHouse$Machine" "depth" "I") wq_276) (fun _ h9 => h9) rfl dX3_call_65 ?_
      refine lv_iconst (v := 1) hx hb dX3_call_68 (by decide +kernel) ?_
      refine lv_iadd hx hb dX3_call_69 ?_
      obtain ⟨σ_15, eσ_15, hF_16⟩ := bnd_e hF_14
      clear hF_14
      refine va_put (D := (dC, dI)) (ci := 3) (v := .int (((σ_13 10).1 12) + 1)) (ty := .int) (C := RX3) (T := TX3) (N := 16) hx hb hts ii_X3 tyX3 tyX3_ok nmX3 hown hK hP (hDD _) hS 0 rfl rfl 12 (by decide) (hts (.fieldLink RX3 43 "StoryHouse$Machine" "depth" "I") wq_276) (fun _ h9 => h9) rfl (by decide +kernel) rfl rfl (Nat.le_of_ble_eq_true rfl) dX3_call_70 (fun H locs hP' _ hS => ?_)
      have hP : va_P (dC, dI) vwCl (b_k cB cC cI cJ cZ oA rA σ_15 ++ b_p cB cC cI cJ cZ oA rA σ_15 ++ b_o cB cC cI cJ cZ oA rA σ_15 ++ b_s cB cC cI cJ cZ oA rA σ_15 ++ b_c cB cC cI cJ cZ oA rA σ_15 ++ b_t cB cC cI cJ cZ oA rA σ_15 ++ b_d cB cC cI cJ cZ oA rA σ_15) H := by rw [eσ_15]; exact cs_kposctd_k_12 ▸ hP'
      clear hP'
      refine lv_aload_n hx hb dX3_call_73 rfl (lv_at hl 0 rfl) ?_
      refine lv_aload_n hx hb dX3_call_74 rfl (lv_at hl 0 rfl) ?_
      refine va_get (D := (dC, dI)) (ci := 3) (v := .int ((σ_15 10).1 7)) (C := RX3) (T := TX3) (N := 16) hx hb hts ii_X3 hown hK hP 0 rfl rfl 7 (by decide) (hts (.fieldLink RX3 49 "StoryHouse$Machine" "top" "I") wq_271) (fun _ h9 => h9) rfl dX3_call_75 ?_
      refine lv_aload_n hx hb dX3_call_78 rfl (lv_at hl 0 rfl) ?_
      refine va_get (D := (dC, dI)) (ci := 3) (v := .ref (oA 4)) (C := RX3) (T := TX3) (N := 16) hx hb hts ii_X3 hown hK hP 0 rfl rfl 2 (by decide) (hts (.fieldLink RX3 52 "StoryHouse$Machine" "story" "LStoryHouse$Story;") wq_262) (fun _ h9 => h9) rfl dX3_call_79 ?_
      refine va_get (D := (dC, dI)) (ci := 7) (v := .ref (oA 5)) (C := RX7) (T := TX7) (N := 19) hx hb hts ii_X7 hown hK hP 15 rfl rfl 16 (by decide) (hts (.fieldLink RX3 56 "StoryHouse$Story" "code" "LStoryHouse$Code;") wq_194) (fun _ h9 => h9) rfl dX3_call_82 ?_
      refine va_get (D := (dC, dI)) (ci := 0) (v := .ref (rA 5 4)) (C := RX0) (T := TX0) (N := 9) hx hb hts ii_X0 hown hK hP 32 rfl rfl 4 (by decide) (hts (.fieldLink RX3 142 "StoryHouse$Code" "lists" "[I") wq_122) (fun _ h9 => h9) rfl dX3_call_85 ?_
      refine lv_iload_n hx hb dX3_call_88 rfl (lv_at hl 1 rfl) ?_
      have hq9 : ((b_k cB cC cI cJ cZ oA rA σ_15 ++ b_p cB cC cI cJ cZ oA rA σ_15 ++ b_o cB cC cI cJ cZ oA rA σ_15 ++ b_s cB cC cI cJ cZ oA rA σ_15 ++ b_c cB cC cI cJ cZ oA rA σ_15 ++ b_t cB cC cI cJ cZ oA rA σ_15 ++ b_d cB cC cI cJ cZ oA rA σ_15))[36]? = some (rA 5 4, .inl (cI, 100, .inl ((σ_15 5).2.1 4))) := rfl
      have hPc := hP.sub (ws' := [(rA 5 4, .inl (cI, 100, .inl ((σ_15 5).2.1 4)))]) [36] (pk_fm (er_C hq9))
      have hDc := (hDD σ_15).sub (ws' := [(rA 5 4, .inl (cI, 100, .inl ((σ_15 5).2.1 4)))]) [36] (by decide +kernel) (er_C hq9)
      have hFc := va_free (wc := [(rA 5 4, .inl (cI, 100, .inl ((σ_15 5).2.1 4)))]) (hDD σ_15) hS hA [36] (er_C hq9)
      refine g_ofi (wc := [(rA 5 4, .inl (cI, 100, .inl ((σ_15 5).2.1 4)))]) (wr := (((b_k cB cC cI cJ cZ oA rA σ_15 ++ b_p cB cC cI cJ cZ oA rA σ_15 ++ b_o cB cC cI cJ cZ oA rA σ_15 ++ b_s cB cC cI cJ cZ oA rA σ_15 ++ b_c cB cC cI cJ cZ oA rA σ_15 ++ b_t cB cC cI cJ cZ oA rA σ_15 ++ b_d cB cC cI cJ cZ oA rA σ_15)).eraseIdx 36)) hP (hDD σ_15) hS hFc [36] ((List.range ((b_k cB cC cI cJ cZ oA rA σ_15 ++ b_p cB cC cI cJ cZ oA rA σ_15 ++ b_o cB cC cI cJ cZ oA rA σ_15 ++ b_s cB cC cI cJ cZ oA rA σ_15 ++ b_c cB cC cI cJ cZ oA rA σ_15 ++ b_t cB cC cI cJ cZ oA rA σ_15 ++ b_d cB cC cI cJ cZ oA rA σ_15)).length).eraseIdx 36) (er_C hq9) er_R er_n er_d (va_runSN (As := [.ref (rA 5 4), .int p0]) (rest := [.int ((σ_15 10).1 7), .ref (oA 10)]) ⟨hx, hb, hml, hown, hts⟩ (c_X11_at l dC dI cB cC cI cJ cZ cP H.size (rA 5 4) p0 100 ((σ_15 5).2.1 4) (by decide)) ⟨va_cnB 2 hts (g_gA wq_407) rfl rfl rfl (nw_30 hN) (hts (.initialized RX11) wq_1) (by decide +kernel) ⟨Nat.le_of_ble_eq_true rfl, Nat.le_of_ble_eq_true rfl⟩, (hts (.static yX11_at) wq_406), trivial⟩ (g_preS g_bl0 hK hPc hDc hS hE hFc g_to0) rfl rfl hl.1 rfl (lv_room (Nat.le_of_ble_eq_true rfl)) dX3_call_89 ⟨Nat.le_of_ble_eq_true rfl, Nat.le_of_ble_eq_true rfl⟩) (fun r9 u9 H locs hw9 hP' hD' hS => ?_)
      clear hPc hDc hFc hD'
      have hP : va_P (dC, dI) vwCl (b_k cB cC cI cJ cZ oA rA σ_15 ++ b_p cB cC cI cJ cZ oA rA σ_15 ++ b_o cB cC cI cJ cZ oA rA σ_15 ++ b_s cB cC cI cJ cZ oA rA σ_15 ++ b_c cB cC cI cJ cZ oA rA σ_15 ++ b_t cB cC cI cJ cZ oA rA σ_15 ++ b_d cB cC cI cJ cZ oA rA σ_15) H := er_I hP' hq9
      clear hP' hq9
      subst hw9
      obtain ⟨x_17, ex_17, hF_18⟩ := bnd_e hF_16
      clear hF_16
      refine m_top ex_17 ?_
      refine lv_isub hx hb dX3_call_92 ?_
      obtain ⟨σ_19, eσ_19, hF_20⟩ := bnd_e hF_18
      clear hF_18
      refine va_put (D := (dC, dI)) (ci := 3) (v := .int (((σ_15 10).1 7) - x_17)) (ty := .int) (C := RX3) (T := TX3) (N := 16) hx hb hts ii_X3 tyX3 tyX3_ok nmX3 hown hK hP (hDD _) hS 0 rfl rfl 8 (by decide) (hts (.fieldLink RX3 46 "StoryHouse$Machine" "base" "I") wq_272) (fun _ h9 => h9) rfl (by decide +kernel) rfl rfl (Nat.le_of_ble_eq_true rfl) dX3_call_93 (fun H locs hP' _ hS => ?_)
      have hP : va_P (dC, dI) vwCl (b_k cB cC cI cJ cZ oA rA σ_19 ++ b_p cB cC cI cJ cZ oA rA σ_19 ++ b_o cB cC cI cJ cZ oA rA σ_19 ++ b_s cB cC cI cJ cZ oA rA σ_19 ++ b_c cB cC cI cJ cZ oA rA σ_19 ++ b_t cB cC cI cJ cZ oA rA σ_19 ++ b_d cB cC cI cJ cZ oA rA σ_19) H := by rw [eσ_19]; exact cs_kposctd_k_8 ▸ hP'
      clear hP'
      refine lv_aload_n hx hb dX3_call_96 rfl (lv_at hl 0 rfl) ?_
      refine lv_aload_n hx hb dX3_call_97 rfl (lv_at hl 0 rfl) ?_
      refine va_get (D := (dC, dI)) (ci := 3) (v := .int ((σ_19 10).1 8)) (C := RX3) (T := TX3) (N := 16) hx hb hts ii_X3 hown hK hP 0 rfl rfl 8 (by decide) (hts (.fieldLink RX3 46 "StoryHouse$Machine" "base" "I") wq_272) (fun _ h9 => h9) rfl dX3_call_98 ?_
      refine lv_bipush (v := 14) hx hb dX3_call_101 (by decide +kernel) ?_
      refine lv_iadd hx hb dX3_call_103 ?_
      obtain ⟨σ_21, eσ_21, hF_22⟩ := bnd_e hF_20
      clear hF_20
      refine va_put (D := (dC, dI)) (ci := 3) (v := .int (((σ_19 10).1 8) + 14)) (ty := .int) (C := RX3) (T := TX3) (N := 16) hx hb hts ii_X3 tyX3 tyX3_ok nmX3 hown hK hP (hDD _) hS 0 rfl rfl 7 (by decide) (hts (.fieldLink RX3 49 "StoryHouse$Machine" "top" "I") wq_271) (fun _ h9 => h9) rfl (by decide +kernel) rfl rfl (Nat.le_of_ble_eq_true rfl) dX3_call_104 (fun H locs hP' _ hS => ?_)
      have hP : va_P (dC, dI) vwCl (b_k cB cC cI cJ cZ oA rA σ_21 ++ b_p cB cC cI cJ cZ oA rA σ_21 ++ b_o cB cC cI cJ cZ oA rA σ_21 ++ b_s cB cC cI cJ cZ oA rA σ_21 ++ b_c cB cC cI cJ cZ oA rA σ_21 ++ b_t cB cC cI cJ cZ oA rA σ_21 ++ b_d cB cC cI cJ cZ oA rA σ_21) H := by rw [eσ_21]; exact cs_kposctd_k_7 ▸ hP'
      clear hP'
      refine lv_aload_n hx hb dX3_call_107 rfl (lv_at hl 0 rfl) ?_
      refine lv_aload_n hx hb dX3_call_108 rfl (lv_at hl 0 rfl) ?_
      refine va_get (D := (dC, dI)) (ci := 3) (v := .ref (oA 4)) (C := RX3) (T := TX3) (N := 16) hx hb hts ii_X3 hown hK hP 0 rfl rfl 2 (by decide) (hts (.fieldLink RX3 52 "StoryHouse$Machine" "story" "LStoryHouse$Story;") wq_262) (fun _ h9 => h9) rfl dX3_call_109 ?_
      refine va_get (D := (dC, dI)) (ci := 7) (v := .ref (oA 5)) (C := RX7) (T := TX7) (N := 19) hx hb hts ii_X7 hown hK hP 15 rfl rfl 16 (by decide) (hts (.fieldLink RX3 56 "StoryHouse$Story" "code" "LStoryHouse$Code;") wq_194) (fun _ h9 => h9) rfl dX3_call_112 ?_
      refine lv_iload_n hx hb dX3_call_115 rfl (lv_at hl 1 rfl) ?_
      obtain ⟨u_23, hu_23, hF_24⟩ := Option.bind_eq_some_iff.mp hF_22
      clear hF_22
      have hPc := bx_P (bs := [b_k cB cC cI cJ cZ oA rA σ_21, b_p cB cC cI cJ cZ oA rA σ_21, b_o cB cC cI cJ cZ oA rA σ_21, b_s cB cC cI cJ cZ oA rA σ_21, b_c cB cC cI cJ cZ oA rA σ_21, b_t cB cC cI cJ cZ oA rA σ_21, b_d cB cC cI cJ cZ oA rA σ_21]) (bs' := [b_c cB cC cI cJ cZ oA rA σ_21]) (ws' := (b_c cB cC cI cJ cZ oA rA σ_21)) hP fl_7 fl_1 [4] rfl
      have hDc := bx_D (bs := [b_k cB cC cI cJ cZ oA rA σ_21, b_p cB cC cI cJ cZ oA rA σ_21, b_o cB cC cI cJ cZ oA rA σ_21, b_s cB cC cI cJ cZ oA rA σ_21, b_c cB cC cI cJ cZ oA rA σ_21, b_t cB cC cI cJ cZ oA rA σ_21, b_d cB cC cI cJ cZ oA rA σ_21]) (bs' := [b_c cB cC cI cJ cZ oA rA σ_21]) (ws' := (b_c cB cC cI cJ cZ oA rA σ_21)) (hDD σ_21) fl_7 fl_1 [4] (by decide +kernel) rfl
      have hFc := bx_F (bs := [b_k cB cC cI cJ cZ oA rA σ_21, b_p cB cC cI cJ cZ oA rA σ_21, b_o cB cC cI cJ cZ oA rA σ_21, b_s cB cC cI cJ cZ oA rA σ_21, b_c cB cC cI cJ cZ oA rA σ_21, b_t cB cC cI cJ cZ oA rA σ_21, b_d cB cC cI cJ cZ oA rA σ_21]) (bs' := [b_c cB cC cI cJ cZ oA rA σ_21]) (wc := (b_c cB cC cI cJ cZ oA rA σ_21)) (hDD σ_21) hS hA fl_7 fl_1 [4] rfl
      refine g_ofi (wc := (b_c cB cC cI cJ cZ oA rA σ_21)) (wr := (b_k cB cC cI cJ cZ oA rA σ_21 ++ b_p cB cC cI cJ cZ oA rA σ_21 ++ b_o cB cC cI cJ cZ oA rA σ_21 ++ b_s cB cC cI cJ cZ oA rA σ_21 ++ b_t cB cC cI cJ cZ oA rA σ_21 ++ b_d cB cC cI cJ cZ oA rA σ_21)) hP (hDD σ_21) hS hFc (bx_ix [b_k cB cC cI cJ cZ oA rA σ_21, b_p cB cC cI cJ cZ oA rA σ_21, b_o cB cC cI cJ cZ oA rA σ_21, b_s cB cC cI cJ cZ oA rA σ_21, b_c cB cC cI cJ cZ oA rA σ_21, b_t cB cC cI cJ cZ oA rA σ_21, b_d cB cC cI cJ cZ oA rA σ_21] [4]) (bx_ix [b_k cB cC cI cJ cZ oA rA σ_21, b_p cB cC cI cJ cZ oA rA σ_21, b_o cB cC cI cJ cZ oA rA σ_21, b_s cB cC cI cJ cZ oA rA σ_21, b_c cB cC cI cJ cZ oA rA σ_21, b_t cB cC cI cJ cZ oA rA σ_21, b_d cB cC cI cJ cZ oA rA σ_21] [0, 1, 2, 3, 5, 6]) (bx_C (bs := [b_k cB cC cI cJ cZ oA rA σ_21, b_p cB cC cI cJ cZ oA rA σ_21, b_o cB cC cI cJ cZ oA rA σ_21, b_s cB cC cI cJ cZ oA rA σ_21, b_c cB cC cI cJ cZ oA rA σ_21, b_t cB cC cI cJ cZ oA rA σ_21, b_d cB cC cI cJ cZ oA rA σ_21]) (bs' := [b_c cB cC cI cJ cZ oA rA σ_21]) (is := [4]) fl_7 fl_1 rfl) (bx_C (bs := [b_k cB cC cI cJ cZ oA rA σ_21, b_p cB cC cI cJ cZ oA rA σ_21, b_o cB cC cI cJ cZ oA rA σ_21, b_s cB cC cI cJ cZ oA rA σ_21, b_c cB cC cI cJ cZ oA rA σ_21, b_t cB cC cI cJ cZ oA rA σ_21, b_d cB cC cI cJ cZ oA rA σ_21]) (bs' := [b_k cB cC cI cJ cZ oA rA σ_21, b_p cB cC cI cJ cZ oA rA σ_21, b_o cB cC cI cJ cZ oA rA σ_21, b_s cB cC cI cJ cZ oA rA σ_21, b_t cB cC cI cJ cZ oA rA σ_21, b_d cB cC cI cJ cZ oA rA σ_21]) (is := [0, 1, 2, 3, 5, 6]) fl_7 fl_6 rfl) (bx_n (by decide +kernel)) (bx_d (by decide +kernel)) (va_runV (As := [.int p0]) (rest := [.ref (oA 10)]) ⟨hx, hb, hml, hown, hts⟩ (k_X0_beginOf l dC dI cB cC cI cJ cZ cP oA rA H.size  p0 σ_21 _ hu_23) (cwV 1 hts (g_gV wq_1131 wq_1132 wq_1133 wq_6 wq_1134) rfl rfl rfl (by decide +kernel) ⟨Nat.le_of_ble_eq_true rfl, Nat.le_of_ble_eq_true rfl⟩) (g_preV g_bl0 hK hPc hDc hS hE hFc g_to0 (q0 := 0) (ci := 0) rfl rfl) rfl rfl hl.1 rfl (lv_room (Nat.le_of_ble_eq_true rfl)) dX3_call_116 ⟨Nat.le_of_ble_eq_true rfl, Nat.le_of_ble_eq_true rfl⟩) (fun r9 u9 H locs hw9 hP' hD' hS => ?_)
      clear hPc hDc hFc
      subst hw9
      obtain ⟨σ_25, eσ_25, hF_26⟩ := bnd_e hF_24
      clear hF_24
      have hP : va_P (dC, dI) vwCl (b_k cB cC cI cJ cZ oA rA σ_25 ++ b_p cB cC cI cJ cZ oA rA σ_25 ++ b_o cB cC cI cJ cZ oA rA σ_25 ++ b_s cB cC cI cJ cZ oA rA σ_25 ++ b_c cB cC cI cJ cZ oA rA σ_25 ++ b_t cB cC cI cJ cZ oA rA σ_25 ++ b_d cB cC cI cJ cZ oA rA σ_25) H := by rw [eσ_25]; exact bx_P (bs := [b_k cB cC cI cJ cZ oA rA σ_21, b_p cB cC cI cJ cZ oA rA σ_21, b_o cB cC cI cJ cZ oA rA σ_21, b_s cB cC cI cJ cZ oA rA σ_21, b_t cB cC cI cJ cZ oA rA σ_21, b_d cB cC cI cJ cZ oA rA σ_21] ++ [b_c cB cC cI cJ cZ oA rA u_23.2]) (bs' := [b_k cB cC cI cJ cZ oA rA (mrg (fun j => j == 5) σ_21 u_23.2), b_p cB cC cI cJ cZ oA rA (mrg (fun j => j == 5) σ_21 u_23.2), b_o cB cC cI cJ cZ oA rA (mrg (fun j => j == 5) σ_21 u_23.2), b_s cB cC cI cJ cZ oA rA (mrg (fun j => j == 5) σ_21 u_23.2), b_c cB cC cI cJ cZ oA rA (mrg (fun j => j == 5) σ_21 u_23.2), b_t cB cC cI cJ cZ oA rA (mrg (fun j => j == 5) σ_21 u_23.2), b_d cB cC cI cJ cZ oA rA (mrg (fun j => j == 5) σ_21 u_23.2)]) hP' (fl_a fl_6 fl_1) fl_7 [0, 1, 2, 3, 6, 4, 5] rfl
      clear hP' hD'
      obtain ⟨σ_27, eσ_27, hF_28⟩ := bnd_e hF_26
      clear hF_26
      refine va_put (D := (dC, dI)) (ci := 3) (v := .int u_23.1) (ty := .int) (C := RX3) (T := TX3) (N := 16) hx hb hts ii_X3 tyX3 tyX3_ok nmX3 hown hK hP (hDD _) hS 0 rfl rfl 9 (by decide) (hts (.fieldLink RX3 68 "StoryHouse$Machine" "pc" "I") wq_273) (fun _ h9 => h9) rfl (by decide +kernel) rfl rfl (Nat.le_of_ble_eq_true rfl) dX3_call_119 (fun H locs hP' _ hS => ?_)
      have hP : va_P (dC, dI) vwCl (b_k cB cC cI cJ cZ oA rA σ_27 ++ b_p cB cC cI cJ cZ oA rA σ_27 ++ b_o cB cC cI cJ cZ oA rA σ_27 ++ b_s cB cC cI cJ cZ oA rA σ_27 ++ b_c cB cC cI cJ cZ oA rA σ_27 ++ b_t cB cC cI cJ cZ oA rA σ_27 ++ b_d cB cC cI cJ cZ oA rA σ_27) H := by rw [eσ_27]; exact cs_kposctd_k_9 ▸ hP'
      clear hP'
      have h9 := Option.some.inj hF_28
      subst h9
      exact W.vret hx hb hr (fun t ht hW => ⟨⟨(), rfl, trivial, m_end ht hP, hDD _⟩, hS.F ht⟩) hS.2.2 dX3_call_122
    · have hF_29 := ineg c_5 hF_4
      clear hF_4
      refine lv_aload_n hx hb dX3_call_25 rfl (lv_at hl 0 rfl) ?_
      refine lv_iconst (v := 5) hx hb dX3_call_26 (by decide +kernel) ?_
      obtain ⟨u_30, hu_30, hF_31⟩ := Option.bind_eq_some_iff.mp hF_29
      clear hF_29
      have hPc := bx_P (bs := [b_k cB cC cI cJ cZ oA rA u_1.2, b_p cB cC cI cJ cZ oA rA u_1.2, b_o cB cC cI cJ cZ oA rA u_1.2, b_s cB cC cI cJ cZ oA rA u_1.2, b_c cB cC cI cJ cZ oA rA u_1.2, b_t cB cC cI cJ cZ oA rA u_1.2, b_d cB cC cI cJ cZ oA rA u_1.2]) (bs' := [b_k cB cC cI cJ cZ oA rA u_1.2, b_p cB cC cI cJ cZ oA rA u_1.2, b_o cB cC cI cJ cZ oA rA u_1.2, b_s cB cC cI cJ cZ oA rA u_1.2, b_c cB cC cI cJ cZ oA rA u_1.2, b_t cB cC cI cJ cZ oA rA u_1.2, b_d cB cC cI cJ cZ oA rA u_1.2]) (ws' := (b_k cB cC cI cJ cZ oA rA u_1.2 ++ b_p cB cC cI cJ cZ oA rA u_1.2 ++ b_o cB cC cI cJ cZ oA rA u_1.2 ++ b_s cB cC cI cJ cZ oA rA u_1.2 ++ b_c cB cC cI cJ cZ oA rA u_1.2 ++ b_t cB cC cI cJ cZ oA rA u_1.2 ++ b_d cB cC cI cJ cZ oA rA u_1.2)) hP fl_7 fl_7 [0, 1, 2, 3, 4, 5, 6] rfl
      have hDc := bx_D (bs := [b_k cB cC cI cJ cZ oA rA u_1.2, b_p cB cC cI cJ cZ oA rA u_1.2, b_o cB cC cI cJ cZ oA rA u_1.2, b_s cB cC cI cJ cZ oA rA u_1.2, b_c cB cC cI cJ cZ oA rA u_1.2, b_t cB cC cI cJ cZ oA rA u_1.2, b_d cB cC cI cJ cZ oA rA u_1.2]) (bs' := [b_k cB cC cI cJ cZ oA rA u_1.2, b_p cB cC cI cJ cZ oA rA u_1.2, b_o cB cC cI cJ cZ oA rA u_1.2, b_s cB cC cI cJ cZ oA rA u_1.2, b_c cB cC cI cJ cZ oA rA u_1.2, b_t cB cC cI cJ cZ oA rA u_1.2, b_d cB cC cI cJ cZ oA rA u_1.2]) (ws' := (b_k cB cC cI cJ cZ oA rA u_1.2 ++ b_p cB cC cI cJ cZ oA rA u_1.2 ++ b_o cB cC cI cJ cZ oA rA u_1.2 ++ b_s cB cC cI cJ cZ oA rA u_1.2 ++ b_c cB cC cI cJ cZ oA rA u_1.2 ++ b_t cB cC cI cJ cZ oA rA u_1.2 ++ b_d cB cC cI cJ cZ oA rA u_1.2)) (hDD u_1.2) fl_7 fl_7 [0, 1, 2, 3, 4, 5, 6] (by decide +kernel) rfl
      have hFc := bx_F (bs := [b_k cB cC cI cJ cZ oA rA u_1.2, b_p cB cC cI cJ cZ oA rA u_1.2, b_o cB cC cI cJ cZ oA rA u_1.2, b_s cB cC cI cJ cZ oA rA u_1.2, b_c cB cC cI cJ cZ oA rA u_1.2, b_t cB cC cI cJ cZ oA rA u_1.2, b_d cB cC cI cJ cZ oA rA u_1.2]) (bs' := [b_k cB cC cI cJ cZ oA rA u_1.2, b_p cB cC cI cJ cZ oA rA u_1.2, b_o cB cC cI cJ cZ oA rA u_1.2, b_s cB cC cI cJ cZ oA rA u_1.2, b_c cB cC cI cJ cZ oA rA u_1.2, b_t cB cC cI cJ cZ oA rA u_1.2, b_d cB cC cI cJ cZ oA rA u_1.2]) (wc := (b_k cB cC cI cJ cZ oA rA u_1.2 ++ b_p cB cC cI cJ cZ oA rA u_1.2 ++ b_o cB cC cI cJ cZ oA rA u_1.2 ++ b_s cB cC cI cJ cZ oA rA u_1.2 ++ b_c cB cC cI cJ cZ oA rA u_1.2 ++ b_t cB cC cI cJ cZ oA rA u_1.2 ++ b_d cB cC cI cJ cZ oA rA u_1.2)) (hDD u_1.2) hS hA fl_7 fl_7 [0, 1, 2, 3, 4, 5, 6] rfl
      refine g_ofv (wc := (b_k cB cC cI cJ cZ oA rA u_1.2 ++ b_p cB cC cI cJ cZ oA rA u_1.2 ++ b_o cB cC cI cJ cZ oA rA u_1.2 ++ b_s cB cC cI cJ cZ oA rA u_1.2 ++ b_c cB cC cI cJ cZ oA rA u_1.2 ++ b_t cB cC cI cJ cZ oA rA u_1.2 ++ b_d cB cC cI cJ cZ oA rA u_1.2)) (wr := ([] : va_W)) hP (hDD u_1.2) hS hFc (bx_ix [b_k cB cC cI cJ cZ oA rA u_1.2, b_p cB cC cI cJ cZ oA rA u_1.2, b_o cB cC cI cJ cZ oA rA u_1.2, b_s cB cC cI cJ cZ oA rA u_1.2, b_c cB cC cI cJ cZ oA rA u_1.2, b_t cB cC cI cJ cZ oA rA u_1.2, b_d cB cC cI cJ cZ oA rA u_1.2] [0, 1, 2, 3, 4, 5, 6]) (bx_ix [b_k cB cC cI cJ cZ oA rA u_1.2, b_p cB cC cI cJ cZ oA rA u_1.2, b_o cB cC cI cJ cZ oA rA u_1.2, b_s cB cC cI cJ cZ oA rA u_1.2, b_c cB cC cI cJ cZ oA rA u_1.2, b_t cB cC cI cJ cZ oA rA u_1.2, b_d cB cC cI cJ cZ oA rA u_1.2] []) (bx_C (bs := [b_k cB cC cI cJ cZ oA rA u_1.2, b_p cB cC cI cJ cZ oA rA u_1.2, b_o cB cC cI cJ cZ oA rA u_1.2, b_s cB cC cI cJ cZ oA rA u_1.2, b_c cB cC cI cJ cZ oA rA u_1.2, b_t cB cC cI cJ cZ oA rA u_1.2, b_d cB cC cI cJ cZ oA rA u_1.2]) (bs' := [b_k cB cC cI cJ cZ oA rA u_1.2, b_p cB cC cI cJ cZ oA rA u_1.2, b_o cB cC cI cJ cZ oA rA u_1.2, b_s cB cC cI cJ cZ oA rA u_1.2, b_c cB cC cI cJ cZ oA rA u_1.2, b_t cB cC cI cJ cZ oA rA u_1.2, b_d cB cC cI cJ cZ oA rA u_1.2]) (is := [0, 1, 2, 3, 4, 5, 6]) fl_7 fl_7 rfl) (bx_C (bs := [b_k cB cC cI cJ cZ oA rA u_1.2, b_p cB cC cI cJ cZ oA rA u_1.2, b_o cB cC cI cJ cZ oA rA u_1.2, b_s cB cC cI cJ cZ oA rA u_1.2, b_c cB cC cI cJ cZ oA rA u_1.2, b_t cB cC cI cJ cZ oA rA u_1.2, b_d cB cC cI cJ cZ oA rA u_1.2]) (bs' := []) (is := []) fl_7 fl_0 rfl) (bx_n (by decide +kernel)) (bx_d (by decide +kernel)) (va_runV (As := [.int 5]) (rest := []) ⟨hx, hb, hml, hown, hts⟩ (k_X3_stop l dC dI cB cC cI cJ cZ cP oA rA H.size  5 u_1.2 _ hu_30) (cwV 1 hts (g_gV wq_1154 wq_1155 wq_2088 wq_11 wq_1156) rfl rfl rfl (by decide +kernel) ⟨Nat.le_of_ble_eq_true rfl, Nat.le_of_ble_eq_true rfl⟩) (g_preV g_bl0 hK hPc hDc hS hE hFc g_to0 (q0 := 0) (ci := 3) rfl rfl) rfl rfl hl.1 rfl (lv_room (Nat.le_of_ble_eq_true rfl)) dX3_call_27 ⟨Nat.le_of_ble_eq_true rfl, Nat.le_of_ble_eq_true rfl⟩) (fun u9 H locs hw9 hP' hD' hS => ?_)
      clear hPc hDc hFc
      have hP : va_P (dC, dI) vwCl (b_k cB cC cI cJ cZ oA rA u_30.2 ++ b_p cB cC cI cJ cZ oA rA u_30.2 ++ b_o cB cC cI cJ cZ oA rA u_30.2 ++ b_s cB cC cI cJ cZ oA rA u_30.2 ++ b_c cB cC cI cJ cZ oA rA u_30.2 ++ b_t cB cC cI cJ cZ oA rA u_30.2 ++ b_d cB cC cI cJ cZ oA rA u_30.2) H := hP'
      clear hP' hD'
      refine lv_goto (tgt := 122) hx hb dX3_call_30 (by decide) ?_
      have h9 := Option.some.inj hF_31
      subst h9
      exact W.vret hx hb hr (fun t ht hW => ⟨⟨(), rfl, trivial, m_end ht hP, hDD _⟩, hS.F ht⟩) hS.2.2 dX3_call_122
  · have hF_32 := ineg c_3 hF_2
    clear hF_2
    refine lv_aload_n hx hb dX3_call_7 rfl (lv_at hl 0 rfl) ?_
    refine lv_bipush (v := 6) hx hb dX3_call_8 (by decide +kernel) ?_
    obtain ⟨u_33, hu_33, hF_34⟩ := Option.bind_eq_some_iff.mp hF_32
    clear hF_32
    have hPc := bx_P (bs := [b_k cB cC cI cJ cZ oA rA u_1.2, b_p cB cC cI cJ cZ oA rA u_1.2, b_o cB cC cI cJ cZ oA rA u_1.2, b_s cB cC cI cJ cZ oA rA u_1.2, b_c cB cC cI cJ cZ oA rA u_1.2, b_t cB cC cI cJ cZ oA rA u_1.2, b_d cB cC cI cJ cZ oA rA u_1.2]) (bs' := [b_k cB cC cI cJ cZ oA rA u_1.2, b_p cB cC cI cJ cZ oA rA u_1.2, b_o cB cC cI cJ cZ oA rA u_1.2, b_s cB cC cI cJ cZ oA rA u_1.2, b_c cB cC cI cJ cZ oA rA u_1.2, b_t cB cC cI cJ cZ oA rA u_1.2, b_d cB cC cI cJ cZ oA rA u_1.2]) (ws' := (b_k cB cC cI cJ cZ oA rA u_1.2 ++ b_p cB cC cI cJ cZ oA rA u_1.2 ++ b_o cB cC cI cJ cZ oA rA u_1.2 ++ b_s cB cC cI cJ cZ oA rA u_1.2 ++ b_c cB cC cI cJ cZ oA rA u_1.2 ++ b_t cB cC cI cJ cZ oA rA u_1.2 ++ b_d cB cC cI cJ cZ oA rA u_1.2)) hP fl_7 fl_7 [0, 1, 2, 3, 4, 5, 6] rfl
    have hDc := bx_D (bs := [b_k cB cC cI cJ cZ oA rA u_1.2, b_p cB cC cI cJ cZ oA rA u_1.2, b_o cB cC cI cJ cZ oA rA u_1.2, b_s cB cC cI cJ cZ oA rA u_1.2, b_c cB cC cI cJ cZ oA rA u_1.2, b_t cB cC cI cJ cZ oA rA u_1.2, b_d cB cC cI cJ cZ oA rA u_1.2]) (bs' := [b_k cB cC cI cJ cZ oA rA u_1.2, b_p cB cC cI cJ cZ oA rA u_1.2, b_o cB cC cI cJ cZ oA rA u_1.2, b_s cB cC cI cJ cZ oA rA u_1.2, b_c cB cC cI cJ cZ oA rA u_1.2, b_t cB cC cI cJ cZ oA rA u_1.2, b_d cB cC cI cJ cZ oA rA u_1.2]) (ws' := (b_k cB cC cI cJ cZ oA rA u_1.2 ++ b_p cB cC cI cJ cZ oA rA u_1.2 ++ b_o cB cC cI cJ cZ oA rA u_1.2 ++ b_s cB cC cI cJ cZ oA rA u_1.2 ++ b_c cB cC cI cJ cZ oA rA u_1.2 ++ b_t cB cC cI cJ cZ oA rA u_1.2 ++ b_d cB cC cI cJ cZ oA rA u_1.2)) (hDD u_1.2) fl_7 fl_7 [0, 1, 2, 3, 4, 5, 6] (by decide +kernel) rfl
    have hFc := bx_F (bs := [b_k cB cC cI cJ cZ oA rA u_1.2, b_p cB cC cI cJ cZ oA rA u_1.2, b_o cB cC cI cJ cZ oA rA u_1.2, b_s cB cC cI cJ cZ oA rA u_1.2, b_c cB cC cI cJ cZ oA rA u_1.2, b_t cB cC cI cJ cZ oA rA u_1.2, b_d cB cC cI cJ cZ oA rA u_1.2]) (bs' := [b_k cB cC cI cJ cZ oA rA u_1.2, b_p cB cC cI cJ cZ oA rA u_1.2, b_o cB cC cI cJ cZ oA rA u_1.2, b_s cB cC cI cJ cZ oA rA u_1.2, b_c cB cC cI cJ cZ oA rA u_1.2, b_t cB cC cI cJ cZ oA rA u_1.2, b_d cB cC cI cJ cZ oA rA u_1.2]) (wc := (b_k cB cC cI cJ cZ oA rA u_1.2 ++ b_p cB cC cI cJ cZ oA rA u_1.2 ++ b_o cB cC cI cJ cZ oA rA u_1.2 ++ b_s cB cC cI cJ cZ oA rA u_1.2 ++ b_c cB cC cI cJ cZ oA rA u_1.2 ++ b_t cB cC cI cJ cZ oA rA u_1.2 ++ b_d cB cC cI cJ cZ oA rA u_1.2)) (hDD u_1.2) hS hA fl_7 fl_7 [0, 1, 2, 3, 4, 5, 6] rfl
    refine g_ofv (wc := (b_k cB cC cI cJ cZ oA rA u_1.2 ++ b_p cB cC cI cJ cZ oA rA u_1.2 ++ b_o cB cC cI cJ cZ oA rA u_1.2 ++ b_s cB cC cI cJ cZ oA rA u_1.2 ++ b_c cB cC cI cJ cZ oA rA u_1.2 ++ b_t cB cC cI cJ cZ oA rA u_1.2 ++ b_d cB cC cI cJ cZ oA rA u_1.2)) (wr := ([] : va_W)) hP (hDD u_1.2) hS hFc (bx_ix [b_k cB cC cI cJ cZ oA rA u_1.2, b_p cB cC cI cJ cZ oA rA u_1.2, b_o cB cC cI cJ cZ oA rA u_1.2, b_s cB cC cI cJ cZ oA rA u_1.2, b_c cB cC cI cJ cZ oA rA u_1.2, b_t cB cC cI cJ cZ oA rA u_1.2, b_d cB cC cI cJ cZ oA rA u_1.2] [0, 1, 2, 3, 4, 5, 6]) (bx_ix [b_k cB cC cI cJ cZ oA rA u_1.2, b_p cB cC cI cJ cZ oA rA u_1.2, b_o cB cC cI cJ cZ oA rA u_1.2, b_s cB cC cI cJ cZ oA rA u_1.2, b_c cB cC cI cJ cZ oA rA u_1.2, b_t cB cC cI cJ cZ oA rA u_1.2, b_d cB cC cI cJ cZ oA rA u_1.2] []) (bx_C (bs := [b_k cB cC cI cJ cZ oA rA u_1.2, b_p cB cC cI cJ cZ oA rA u_1.2, b_o cB cC cI cJ cZ oA rA u_1.2, b_s cB cC cI cJ cZ oA rA u_1.2, b_c cB cC cI cJ cZ oA rA u_1.2, b_t cB cC cI cJ cZ oA rA u_1.2, b_d cB cC cI cJ cZ oA rA u_1.2]) (bs' := [b_k cB cC cI cJ cZ oA rA u_1.2, b_p cB cC cI cJ cZ oA rA u_1.2, b_o cB cC cI cJ cZ oA rA u_1.2, b_s cB cC cI cJ cZ oA rA u_1.2, b_c cB cC cI cJ cZ oA rA u_1.2, b_t cB cC cI cJ cZ oA rA u_1.2, b_d cB cC cI cJ cZ oA rA u_1.2]) (is := [0, 1, 2, 3, 4, 5, 6]) fl_7 fl_7 rfl) (bx_C (bs := [b_k cB cC cI cJ cZ oA rA u_1.2, b_p cB cC cI cJ cZ oA rA u_1.2, b_o cB cC cI cJ cZ oA rA u_1.2, b_s cB cC cI cJ cZ oA rA u_1.2, b_c cB cC cI cJ cZ oA rA u_1.2, b_t cB cC cI cJ cZ oA rA u_1.2, b_d cB cC cI cJ cZ oA rA u_1.2]) (bs' := []) (is := []) fl_7 fl_0 rfl) (bx_n (by decide +kernel)) (bx_d (by decide +kernel)) (va_runV (As := [.int 6]) (rest := []) ⟨hx, hb, hml, hown, hts⟩ (k_X3_stop l dC dI cB cC cI cJ cZ cP oA rA H.size  6 u_1.2 _ hu_33) (cwV 1 hts (g_gV wq_1154 wq_1155 wq_2088 wq_11 wq_1156) rfl rfl rfl (by decide +kernel) ⟨Nat.le_of_ble_eq_true rfl, Nat.le_of_ble_eq_true rfl⟩) (g_preV g_bl0 hK hPc hDc hS hE hFc g_to0 (q0 := 0) (ci := 3) rfl rfl) rfl rfl hl.1 rfl (lv_room (Nat.le_of_ble_eq_true rfl)) dX3_call_10 ⟨Nat.le_of_ble_eq_true rfl, Nat.le_of_ble_eq_true rfl⟩) (fun u9 H locs hw9 hP' hD' hS => ?_)
    clear hPc hDc hFc
    have hP : va_P (dC, dI) vwCl (b_k cB cC cI cJ cZ oA rA u_33.2 ++ b_p cB cC cI cJ cZ oA rA u_33.2 ++ b_o cB cC cI cJ cZ oA rA u_33.2 ++ b_s cB cC cI cJ cZ oA rA u_33.2 ++ b_c cB cC cI cJ cZ oA rA u_33.2 ++ b_t cB cC cI cJ cZ oA rA u_33.2 ++ b_d cB cC cI cJ cZ oA rA u_33.2) H := hP'
    clear hP' hD'
    refine lv_goto (tgt := 122) hx hb dX3_call_13 (by decide) ?_
    have h9 := Option.some.inj hF_34
    subst h9
    exact W.vret hx hb hr (fun t ht hW => ⟨⟨(), rfl, trivial, m_end ht hP, hDD _⟩, hS.F ht⟩) hS.2.2 dX3_call_122
theorem dX7_cellOf_0 : decode cX7_cellOf 0 = .ok (.iload_n 1, 1) := by decide +kernel
theorem dX7_cellOf_1 : decode cX7_cellOf 1 = .ok (.ifCond .le 16, 3) := by decide +kernel
theorem dX7_cellOf_4 : decode cX7_cellOf 4 = .ok (.aload_n 0, 1) := by decide +kernel
theorem dX7_cellOf_5 : decode cX7_cellOf 5 = .ok (.getfield 49, 3) := by decide +kernel
theorem dX7_cellOf_8 : decode cX7_cellOf 8 = .ok (.iload_n 1, 1) := by decide +kernel
theorem dX7_cellOf_9 : decode cX7_cellOf 9 = .ok (.iconst 1, 1) := by decide +kernel
theorem dX7_cellOf_10 : decode cX7_cellOf 10 = .ok (.isub, 1) := by decide +kernel
theorem dX7_cellOf_11 : decode cX7_cellOf 11 = .ok (.invokestatic 155, 3) := by decide +kernel
theorem dX7_cellOf_14 : decode cX7_cellOf 14 = .ok (.goto 4, 3) := by decide +kernel
theorem dX7_cellOf_17 : decode cX7_cellOf 17 = .ok (.iconst 0, 1) := by decide +kernel
theorem dX7_cellOf_18 : decode cX7_cellOf 18 = .ok (.istore_n 3, 1) := by decide +kernel
theorem dX7_cellOf_19 : decode cX7_cellOf 19 = .ok (.aload_n 0, 1) := by decide +kernel
theorem dX7_cellOf_20 : decode cX7_cellOf 20 = .ok (.getfield 49, 3) := by decide +kernel
theorem dX7_cellOf_23 : decode cX7_cellOf 23 = .ok (.iload_n 1, 1) := by decide +kernel
theorem dX7_cellOf_24 : decode cX7_cellOf 24 = .ok (.invokestatic 155, 3) := by decide +kernel
theorem dX7_cellOf_27 : decode cX7_cellOf 27 = .ok (.iload_n 3, 1) := by decide +kernel
theorem dX7_cellOf_28 : decode cX7_cellOf 28 = .ok (.isub, 1) := by decide +kernel
theorem dX7_cellOf_29 : decode cX7_cellOf 29 = .ok (.istore 4, 2) := by decide +kernel
theorem dX7_cellOf_31 : decode cX7_cellOf 31 = .ok (.iload_n 2, 1) := by decide +kernel
theorem dX7_cellOf_32 : decode cX7_cellOf 32 = .ok (.ifCond .lt 15, 3) := by decide +kernel
theorem dX7_cellOf_35 : decode cX7_cellOf 35 = .ok (.iload_n 2, 1) := by decide +kernel
theorem dX7_cellOf_36 : decode cX7_cellOf 36 = .ok (.iload 4, 2) := by decide +kernel
theorem dX7_cellOf_38 : decode cX7_cellOf 38 = .ok (.if_icmp .ge 9, 3) := by decide +kernel
theorem dX7_cellOf_41 : decode cX7_cellOf 41 = .ok (.iload_n 3, 1) := by decide +kernel
theorem dX7_cellOf_42 : decode cX7_cellOf 42 = .ok (.iload_n 2, 1) := by decide +kernel
theorem dX7_cellOf_43 : decode cX7_cellOf 43 = .ok (.iadd, 1) := by decide +kernel
theorem dX7_cellOf_44 : decode cX7_cellOf 44 = .ok (.goto 4, 3) := by decide +kernel
theorem dX7_cellOf_47 : decode cX7_cellOf 47 = .ok (.iconst (-1), 1) := by decide +kernel
theorem dX7_cellOf_48 : decode cX7_cellOf 48 = .ok (.ireturn, 1) := by decide +kernel
def F_X7_cellOf (p0 : Int32) (p1 : Int32) (Γ : HS) : HR :=
  bnd (fun (t_1 : Int32) (σ_2 : HS) => (
    bnd ((g_at 20 ((σ_2 4).2.1 12) p0)) fun (x_6 : Int32) =>
    bnd ((x_6 - t_1)) fun (x_8 : Int32) =>
    if p1 < 0 then (
      some ((-1), σ_2)
    ) else (
      if x_8 ≤ p1 then (
        some ((-1), σ_2)
      ) else (
        some ((t_1 + p1), σ_2)
      )
    )
  ) : Int32 → HS → HR) fun j_3 =>
  if p0 ≤ 0 then (
    j_3 0 Γ
  ) else (
    bnd ((p0 - 1)) fun (x_19 : Int32) =>
    bnd ((g_at 20 ((Γ 4).2.1 12) x_19)) fun (x_21 : Int32) =>
    j_3 x_21 Γ
  )
set_option maxHeartbeats 4000000 in
set_option maxRecDepth 100000 in
theorem k_X7_cellOf (l : Launch) (dC : Nat → ClassId) (dI : Nat → Nat → Nat) (cB cC cI cJ cZ cP : ClassId) (oA : Nat → Nat) (rA : Nat → Nat → Nat) (sz : Nat)  (p0 : Int32) (p1 : Int32) (Γ : HS) (res : Int32 × HS) (hF : F_X7_cellOf p0 p1 Γ = some res) : Met l yX7_cellOf (g_ws yX7_cellOf cX7_cellOf 5 (some .int)) ({ frames := 3, cells := 0, slots := 0, locals := 81 }) (va_Pc [.ref (oA 4), .int p0, .int p1] (g_B (dC, dI) [(cB, .byte), (cC, .char), (cI, .int), (cJ, .long), (cZ, .boolean), (cP, .object "StoryHouse$Play")] sz (b_s cB cC cI cJ cZ oA rA Γ ++ b_c cB cC cI cJ cZ oA rA Γ ++ b_t cB cC cI cJ cZ oA rA Γ ++ b_d cB cC cI cJ cZ oA rA Γ) g_0)) (va_Qi (fun r (_ : Unit) => r = res.1) (g_Bo (dC, dI) (va_A (b_s cB cC cI cJ cZ oA rA Γ ++ b_c cB cC cI cJ cZ oA rA Γ ++ b_t cB cC cI cJ cZ oA rA Γ ++ b_d cB cC cI cJ cZ oA rA Γ) sz) (fun (_ : Unit) => (b_s cB cC cI cJ cZ oA rA res.2 ++ b_c cB cC cI cJ cZ oA rA res.2 ++ b_t cB cC cI cJ cZ oA rA res.2 ++ b_d cB cC cI cJ cZ oA rA res.2))) (va_A (b_s cB cC cI cJ cZ oA rA Γ ++ b_c cB cC cI cJ cZ oA rA Γ ++ b_t cB cC cI cJ cZ oA rA Γ ++ b_d cB cC cI cJ cZ oA rA Γ) sz)) 0 0 (va_A (b_s cB cC cI cJ cZ oA rA Γ ++ b_c cB cC cI cJ cZ oA rA Γ ++ b_t cB cC cI cJ cZ oA rA Γ ++ b_d cB cC cI cJ cZ oA rA Γ) sz) := by
  refine Met.ofW (cc := cX7_cellOf) (maxL := 5) (ret := (some .int)) (by decide) rfl ?_
  intro p e s m args below meth c s₁ B hml hv
  obtain ⟨rfl, hsz, hP, hK, hD0, hE, hX⟩ := hv
  have hx := B.exec
  have hb := B.bytes
  have hr := B.returns
  have hts0 := atoms_spec (ws := g_ws yX7_cellOf cX7_cellOf 5 (some .int)) B.pre
  have hts : ∀ w ∈ lw_good, w.before ([.ref (oA 4), .int p0, .int p1] : List Value).toArray s = true := fun w z => hts0 w (List.mem_cons_of_mem _ z)
  have hown : s.vm.findClass RX7 = some m.cls := findClass_of_methodNamed B.named
  have hlocks := B.notSynchronized
  subst hsz
  have hD1 := hD0.self (sz := s.heap.size)
  generalize hAe : va_A (b_s cB cC cI cJ cZ oA rA Γ ++ b_c cB cC cI cJ cZ oA rA Γ ++ b_t cB cC cI cJ cZ oA rA Γ ++ b_d cB cC cI cJ cZ oA rA Γ) s.heap.size = A at hD1 hE hX ⊢
  have hA : ∀ q : Nat, s.heap.size ≤ q → A q := fun q z => by rw [← hAe]; exact Or.inr z
  have hDD : ∀ Γ : HS, va_D A (b_s cB cC cI cJ cZ oA rA Γ ++ b_c cB cC cI cJ cZ oA rA Γ ++ b_t cB cC cI cJ cZ oA rA Γ ++ b_d cB cC cI cJ cZ oA rA Γ) := fun Γ9 => va_D_fst (ws := (b_s cB cC cI cJ cZ oA rA Γ ++ b_c cB cC cI cJ cZ oA rA Γ ++ b_t cB cC cI cJ cZ oA rA Γ ++ b_d cB cC cI cJ cZ oA rA Γ)) (ws' := (b_s cB cC cI cJ cZ oA rA Γ9 ++ b_c cB cC cI cJ cZ oA rA Γ9 ++ b_t cB cC cI cJ cZ oA rA Γ9 ++ b_d cB cC cI cJ cZ oA rA Γ9)) rfl hD1
  have hN := hE.1
  have hS : va_S A s.heap s.heap [] := va_S.rf
  have hl := lv_entry ([.ref (oA 4), .int p0, .int p1]) (n := 5) (Nat.le_of_ble_eq_true rfl)
  rw [lg_entry_eq]
  generalize (lg_sl ([.ref (oA 4), .int p0, .int p1]) ++ List.replicate (5 - (lg_sl ([.ref (oA 4), .int p0, .int p1])).length) Slot.unset).toArray = ls at hl ⊢
  have hl : lv_has ls 5 [(0, .ref (oA 4)), (1, .int p0), (2, .int p1)] := hl
  unfold F_X7_cellOf at hF
  refine lv_iload_n hx hb dX7_cellOf_0 rfl (lv_at hl 1 rfl) ?_
  obtain ⟨j_3, ej_3, hF_4⟩ := bnd_e hF
  clear hF
  have Jj_3 : ∀ (t_1 : Int32) (σ_2 : HS), j_3 t_1 σ_2 = some res → ∀ (H : Heap) (locs : List Loc), va_P (dC, dI) vwCl (b_s cB cC cI cJ cZ oA rA σ_2 ++ b_c cB cC cI cJ cZ oA rA σ_2 ++ b_t cB cC cI cJ cZ oA rA σ_2 ++ b_d cB cC cI cJ cZ oA rA σ_2) H → va_S A s.heap H locs → ∀ ls : Array Slot, lv_has ls 5 [(0, .ref (oA 4)), (1, .int p0), (2, .int p1)] → W p l e (headSpec (g_ws yX7_cellOf cX7_cellOf 5 (some .int)) { frames := 3, cells := 0, slots := 0, locals := 81 }).room s m ([.ref (oA 4), .int p0, .int p1] : List Value).toArray below meth c H locs 0 0 (MQ below (va_Qi (fun r (_ : Unit) => r = res.1) (g_Bo (dC, dI) A (fun (_ : Unit) => (b_s cB cC cI cJ cZ oA rA res.2 ++ b_c cB cC cI cJ cZ oA rA res.2 ++ b_t cB cC cI cJ cZ oA rA res.2 ++ b_d cB cC cI cJ cZ oA rA res.2))) A) ([.ref (oA 4), .int p0, .int p1] : List Value).toArray s 0 0 A) (F0 m 18 ls [.int t_1]) := by
    intro t_1 σ_2 hF0 H locs hP hS ls hl
    subst ej_3
    have hF_5 := hF0
    clear hF0
    refine lv_istore_n (lv' := [(3, .int t_1), (0, .ref (oA 4)), (1, .int p0), (2, .int p1)]) hx hb dX7_cellOf_18 rfl hl (by decide) rfl (fun ls hl => ?_)
    refine lv_aload_n hx hb dX7_cellOf_19 rfl (lv_at hl 1 rfl) ?_
    refine va_get (D := (dC, dI)) (ci := 7) (v := .ref (rA 4 12)) (C := RX7) (T := TX7) (N := 19) hx hb hts ii_X7 hown hK hP 0 rfl rfl 12 (by decide) (hts (.fieldLink RX7 49 "StoryHouse$Story" "cellEnds" "[I") wq_181) (fun _ h9 => h9) rfl dX7_cellOf_20 ?_
    refine lv_iload_n hx hb dX7_cellOf_23 rfl (lv_at hl 2 rfl) ?_
    have hq9 : ((b_s cB cC cI cJ cZ oA rA σ_2 ++ b_c cB cC cI cJ cZ oA rA σ_2 ++ b_t cB cC cI cJ cZ oA rA σ_2 ++ b_d cB cC cI cJ cZ oA rA σ_2))[13]? = some (rA 4 12, .inl (cI, 20, .inl ((σ_2 4).2.1 12))) := rfl
    have hPc := hP.sub (ws' := [(rA 4 12, .inl (cI, 20, .inl ((σ_2 4).2.1 12)))]) [13] (pk_fm (er_C hq9))
    have hDc := (hDD σ_2).sub (ws' := [(rA 4 12, .inl (cI, 20, .inl ((σ_2 4).2.1 12)))]) [13] (by decide +kernel) (er_C hq9)
    have hFc := va_free (wc := [(rA 4 12, .inl (cI, 20, .inl ((σ_2 4).2.1 12)))]) (hDD σ_2) hS hA [13] (er_C hq9)
    refine g_ofi (wc := [(rA 4 12, .inl (cI, 20, .inl ((σ_2 4).2.1 12)))]) (wr := (((b_s cB cC cI cJ cZ oA rA σ_2 ++ b_c cB cC cI cJ cZ oA rA σ_2 ++ b_t cB cC cI cJ cZ oA rA σ_2 ++ b_d cB cC cI cJ cZ oA rA σ_2)).eraseIdx 13)) hP (hDD σ_2) hS hFc [13] ((List.range ((b_s cB cC cI cJ cZ oA rA σ_2 ++ b_c cB cC cI cJ cZ oA rA σ_2 ++ b_t cB cC cI cJ cZ oA rA σ_2 ++ b_d cB cC cI cJ cZ oA rA σ_2)).length).eraseIdx 13) (er_C hq9) er_R er_n er_d (va_runSN (As := [.ref (rA 4 12), .int p0]) (rest := []) ⟨hx, hb, hml, hown, hts⟩ (c_X11_at l dC dI cB cC cI cJ cZ cP H.size (rA 4 12) p0 20 ((σ_2 4).2.1 12) (by decide)) ⟨va_cnB 2 hts (g_gA wq_407) rfl rfl rfl (nw_17 hN) (hts (.initialized RX11) wq_1) (by decide +kernel) ⟨Nat.le_of_ble_eq_true rfl, Nat.le_of_ble_eq_true rfl⟩, (hts (.static yX11_at) wq_406), trivial⟩ (g_preS g_bl0 hK hPc hDc hS hE hFc g_to0) rfl rfl hl.1 rfl (lv_room (Nat.le_of_ble_eq_true rfl)) dX7_cellOf_24 ⟨Nat.le_of_ble_eq_true rfl, Nat.le_of_ble_eq_true rfl⟩) (fun r9 u9 H locs hw9 hP' hD' hS => ?_)
    clear hPc hDc hFc hD'
    have hP : va_P (dC, dI) vwCl (b_s cB cC cI cJ cZ oA rA σ_2 ++ b_c cB cC cI cJ cZ oA rA σ_2 ++ b_t cB cC cI cJ cZ oA rA σ_2 ++ b_d cB cC cI cJ cZ oA rA σ_2) H := er_I hP' hq9
    clear hP' hq9
    subst hw9
    obtain ⟨x_6, ex_6, hF_7⟩ := bnd_e hF_5
    clear hF_5
    refine m_top ex_6 ?_
    refine lv_iload_n hx hb dX7_cellOf_27 rfl (lv_at hl 0 rfl) ?_
    refine lv_isub hx hb dX7_cellOf_28 ?_
    obtain ⟨x_8, ex_8, hF_9⟩ := bnd_e hF_7
    clear hF_7
    refine m_top ex_8 ?_
    refine lv_istore (lv' := [(4, .int x_8), (3, .int t_1), (0, .ref (oA 4)), (1, .int p0), (2, .int p1)]) hx hb dX7_cellOf_29 hl (by decide) rfl (fun ls hl => ?_)
    refine lv_iload_n hx hb dX7_cellOf_31 rfl (lv_at hl 4 rfl) ?_
    refine lv_if_lt (tgt := 47) hx hb dX7_cellOf_32 (by decide) (fun c_10 => ?_) (fun c_10 => ?_)
    · have hF_11 := ipos c_10 hF_9
      clear hF_9
      refine lv_iconst (v := (-1)) hx hb dX7_cellOf_47 (by decide +kernel) ?_
      have h9 := Option.some.inj hF_11
      subst h9
      exact W.iret (v := (-1)) hx hb hr (fun t ht hW => ⟨⟨(-1), (), rfl, rfl, m_end ht hP, hDD _⟩, hS.F ht⟩) hS.2.2 dX7_cellOf_48
    · have hF_12 := ineg c_10 hF_9
      clear hF_9
      refine lv_iload_n hx hb dX7_cellOf_35 rfl (lv_at hl 4 rfl) ?_
      refine lv_iload hx hb dX7_cellOf_36 (lv_at hl 0 rfl) ?_
      refine lv_icmp_ge (tgt := 47) hx hb dX7_cellOf_38 (by decide) (fun c_13 => ?_) (fun c_13 => ?_)
      · have hF_14 := ipos c_13 hF_12
        clear hF_12
        refine lv_iconst (v := (-1)) hx hb dX7_cellOf_47 (by decide +kernel) ?_
        have h9 := Option.some.inj hF_14
        subst h9
        exact W.iret (v := (-1)) hx hb hr (fun t ht hW => ⟨⟨(-1), (), rfl, rfl, m_end ht hP, hDD _⟩, hS.F ht⟩) hS.2.2 dX7_cellOf_48
      · have hF_15 := ineg c_13 hF_12
        clear hF_12
        refine lv_iload_n hx hb dX7_cellOf_41 rfl (lv_at hl 1 rfl) ?_
        refine lv_iload_n hx hb dX7_cellOf_42 rfl (lv_at hl 4 rfl) ?_
        refine lv_iadd hx hb dX7_cellOf_43 ?_
        refine lv_goto (tgt := 48) hx hb dX7_cellOf_44 (by decide) ?_
        have h9 := Option.some.inj hF_15
        subst h9
        exact W.iret (v := (t_1 + p1)) hx hb hr (fun t ht hW => ⟨⟨(t_1 + p1), (), rfl, rfl, m_end ht hP, hDD _⟩, hS.F ht⟩) hS.2.2 dX7_cellOf_48
  refine lv_if_le (tgt := 17) hx hb dX7_cellOf_1 (by decide) (fun c_16 => ?_) (fun c_16 => ?_)
  · have hF_17 := ipos c_16 hF_4
    clear hF_4
    refine lv_iconst (v := 0) hx hb dX7_cellOf_17 (by decide +kernel) ?_
    exact Jj_3 0 Γ hF_17 _ _ hP hS ls (lv_sub hl [0, 1, 2] rfl)
  · have hF_18 := ineg c_16 hF_4
    clear hF_4
    refine lv_aload_n hx hb dX7_cellOf_4 rfl (lv_at hl 0 rfl) ?_
    refine va_get (D := (dC, dI)) (ci := 7) (v := .ref (rA 4 12)) (C := RX7) (T := TX7) (N := 19) hx hb hts ii_X7 hown hK hP 0 rfl rfl 12 (by decide) (hts (.fieldLink RX7 49 "StoryHouse$Story" "cellEnds" "[I") wq_181) (fun _ h9 => h9) rfl dX7_cellOf_5 ?_
    refine lv_iload_n hx hb dX7_cellOf_8 rfl (lv_at hl 1 rfl) ?_
    refine lv_iconst (v := 1) hx hb dX7_cellOf_9 (by decide +kernel) ?_
    refine lv_isub hx hb dX7_cellOf_10 ?_
    obtain ⟨x_19, ex_19, hF_20⟩ := bnd_e hF_18
    clear hF_18
    refine m_top ex_19 ?_
    have hq9 : ((b_s cB cC cI cJ cZ oA rA Γ ++ b_c cB cC cI cJ cZ oA rA Γ ++ b_t cB cC cI cJ cZ oA rA Γ ++ b_d cB cC cI cJ cZ oA rA Γ))[13]? = some (rA 4 12, .inl (cI, 20, .inl ((Γ 4).2.1 12))) := rfl
    have hPc := hP.sub (ws' := [(rA 4 12, .inl (cI, 20, .inl ((Γ 4).2.1 12)))]) [13] (pk_fm (er_C hq9))
    have hDc := (hDD Γ).sub (ws' := [(rA 4 12, .inl (cI, 20, .inl ((Γ 4).2.1 12)))]) [13] (by decide +kernel) (er_C hq9)
    have hFc := va_free (wc := [(rA 4 12, .inl (cI, 20, .inl ((Γ 4).2.1 12)))]) (hDD Γ) hS hA [13] (er_C hq9)
    refine g_ofi (wc := [(rA 4 12, .inl (cI, 20, .inl ((Γ 4).2.1 12)))]) (wr := (((b_s cB cC cI cJ cZ oA rA Γ ++ b_c cB cC cI cJ cZ oA rA Γ ++ b_t cB cC cI cJ cZ oA rA Γ ++ b_d cB cC cI cJ cZ oA rA Γ)).eraseIdx 13)) hP (hDD Γ) hS hFc [13] ((List.range ((b_s cB cC cI cJ cZ oA rA Γ ++ b_c cB cC cI cJ cZ oA rA Γ ++ b_t cB cC cI cJ cZ oA rA Γ ++ b_d cB cC cI cJ cZ oA rA Γ)).length).eraseIdx 13) (er_C hq9) er_R er_n er_d (va_runSN (As := [.ref (rA 4 12), .int x_19]) (rest := []) ⟨hx, hb, hml, hown, hts⟩ (c_X11_at l dC dI cB cC cI cJ cZ cP s.heap.size (rA 4 12) x_19 20 ((Γ 4).2.1 12) (by decide)) ⟨va_cnB 2 hts (g_gA wq_407) rfl rfl rfl (nw_17 hN) (hts (.initialized RX11) wq_1) (by decide +kernel) ⟨Nat.le_of_ble_eq_true rfl, Nat.le_of_ble_eq_true rfl⟩, (hts (.static yX11_at) wq_406), trivial⟩ (g_preS g_bl0 hK hPc hDc hS hE hFc g_to0) rfl rfl hl.1 rfl (lv_room (Nat.le_of_ble_eq_true rfl)) dX7_cellOf_11 ⟨Nat.le_of_ble_eq_true rfl, Nat.le_of_ble_eq_true rfl⟩) (fun r9 u9 H locs hw9 hP' hD' hS => ?_)
    clear hPc hDc hFc hD'
    have hP : va_P (dC, dI) vwCl (b_s cB cC cI cJ cZ oA rA Γ ++ b_c cB cC cI cJ cZ oA rA Γ ++ b_t cB cC cI cJ cZ oA rA Γ ++ b_d cB cC cI cJ cZ oA rA Γ) H := er_I hP' hq9
    clear hP' hq9
    subst hw9
    obtain ⟨x_21, ex_21, hF_22⟩ := bnd_e hF_20
    clear hF_20
    refine m_top ex_21 ?_
    refine lv_goto (tgt := 18) hx hb dX7_cellOf_14 (by decide) ?_
    exact Jj_3 x_21 Γ hF_22 _ _ hP hS ls (lv_sub hl [0, 1, 2] rfl)
theorem dX3_cellOp_0 : decode cX3_cellOp 0 = .ok (.iload_n 1, 1) := by decide +kernel
theorem dX3_cellOp_1 : decode cX3_cellOp 1 = .ok (.ifCond .eq 10, 3) := by decide +kernel
theorem dX3_cellOp_4 : decode cX3_cellOp 4 = .ok (.aload_n 0, 1) := by decide +kernel
theorem dX3_cellOp_5 : decode cX3_cellOp 5 = .ok (.invokevirtual 102, 3) := by decide +kernel
theorem dX3_cellOp_8 : decode cX3_cellOp 8 = .ok (.goto 4, 3) := by decide +kernel
theorem dX3_cellOp_11 : decode cX3_cellOp 11 = .ok (.iconst 0, 1) := by decide +kernel
theorem dX3_cellOp_12 : decode cX3_cellOp 12 = .ok (.istore_n 3, 1) := by decide +kernel
theorem dX3_cellOp_13 : decode cX3_cellOp 13 = .ok (.aload_n 0, 1) := by decide +kernel
theorem dX3_cellOp_14 : decode cX3_cellOp 14 = .ok (.getfield 52, 3) := by decide +kernel
theorem dX3_cellOp_17 : decode cX3_cellOp 17 = .ok (.iload_n 2, 1) := by decide +kernel
theorem dX3_cellOp_18 : decode cX3_cellOp 18 = .ok (.aload_n 0, 1) := by decide +kernel
theorem dX3_cellOp_19 : decode cX3_cellOp 19 = .ok (.invokevirtual 102, 3) := by decide +kernel
theorem dX3_cellOp_22 : decode cX3_cellOp 22 = .ok (.invokevirtual 164, 3) := by decide +kernel
theorem dX3_cellOp_25 : decode cX3_cellOp 25 = .ok (.istore 4, 2) := by decide +kernel
theorem dX3_cellOp_27 : decode cX3_cellOp 27 = .ok (.iload 4, 2) := by decide +kernel
theorem dX3_cellOp_29 : decode cX3_cellOp 29 = .ok (.iconst (-1), 1) := by decide +kernel
theorem dX3_cellOp_30 : decode cX3_cellOp 30 = .ok (.if_icmp .ne 11, 3) := by decide +kernel
theorem dX3_cellOp_33 : decode cX3_cellOp 33 = .ok (.aload_n 0, 1) := by decide +kernel
theorem dX3_cellOp_34 : decode cX3_cellOp 34 = .ok (.iconst 4, 1) := by decide +kernel
theorem dX3_cellOp_35 : decode cX3_cellOp 35 = .ok (.invokevirtual 106, 3) := by decide +kernel
theorem dX3_cellOp_38 : decode cX3_cellOp 38 = .ok (.goto 39, 3) := by decide +kernel
theorem dX3_cellOp_41 : decode cX3_cellOp 41 = .ok (.iload_n 1, 1) := by decide +kernel
theorem dX3_cellOp_42 : decode cX3_cellOp 42 = .ok (.ifCond .eq 19, 3) := by decide +kernel
theorem dX3_cellOp_45 : decode cX3_cellOp 45 = .ok (.aload_n 0, 1) := by decide +kernel
theorem dX3_cellOp_46 : decode cX3_cellOp 46 = .ok (.getfield 29, 3) := by decide +kernel
theorem dX3_cellOp_49 : decode cX3_cellOp 49 = .ok (.getfield 168, 3) := by decide +kernel
theorem dX3_cellOp_52 : decode cX3_cellOp 52 = .ok (.iload 4, 2) := by decide +kernel
theorem dX3_cellOp_54 : decode cX3_cellOp 54 = .ok (.iload_n 3, 1) := by decide +kernel
theorem dX3_cellOp_55 : decode cX3_cellOp 55 = .ok (.invokestatic 138, 3) := by decide +kernel
theorem dX3_cellOp_58 : decode cX3_cellOp 58 = .ok (.goto 19, 3) := by decide +kernel
theorem dX3_cellOp_61 : decode cX3_cellOp 61 = .ok (.aload_n 0, 1) := by decide +kernel
theorem dX3_cellOp_62 : decode cX3_cellOp 62 = .ok (.aload_n 0, 1) := by decide +kernel
theorem dX3_cellOp_63 : decode cX3_cellOp 63 = .ok (.getfield 29, 3) := by decide +kernel
theorem dX3_cellOp_66 : decode cX3_cellOp 66 = .ok (.getfield 168, 3) := by decide +kernel
theorem dX3_cellOp_69 : decode cX3_cellOp 69 = .ok (.iload 4, 2) := by decide +kernel
theorem dX3_cellOp_71 : decode cX3_cellOp 71 = .ok (.invokestatic 98, 3) := by decide +kernel
theorem dX3_cellOp_74 : decode cX3_cellOp 74 = .ok (.invokevirtual 113, 3) := by decide +kernel
theorem dX3_cellOp_77 : decode cX3_cellOp 77 = .ok (.return_, 1) := by decide +kernel
def F_X3_cellOp (p0 : Int32) (p1 : Int32) (Γ : HS) : HR :=
  bnd (fun (t_1 : Int32) (σ_2 : HS) => (
    (F_X3_pop σ_2).bind fun u_6 =>
    (F_X7_cellOf p1 u_6.1 u_6.2).bind fun u_8 =>
    bnd (mrg (fun j => j == 4 || j == 5 || j == 6 || j == 7) u_6.2 u_8.2) fun σ_10 =>
    if u_8.1 = (-1) then (
      (F_X3_stop 4 σ_10).bind fun u_14 =>
      some (0, u_14.2)
    ) else (
      if p0 = 0 then (
        bnd ((g_at 1000 ((σ_10 9).2.1 5) u_8.1)) fun (x_19 : Int32) =>
        (F_X3_push x_19 σ_10).bind fun u_21 =>
        some (0, u_21.2)
      ) else (
        bnd (cA' σ_10 9 5 (g_put 1000 ((σ_10 9).2.1 5) u_8.1 t_1)) fun σ_24 =>
        some (0, σ_24)
      )
    )
  ) : Int32 → HS → HR) fun j_3 =>
  if p0 = 0 then (
    j_3 0 Γ
  ) else (
    (F_X3_pop Γ).bind fun u_29 =>
    j_3 u_29.1 u_29.2
  )
set_option maxHeartbeats 4000000 in
set_option maxRecDepth 100000 in
theorem k_X3_cellOp (l : Launch) (dC : Nat → ClassId) (dI : Nat → Nat → Nat) (cB cC cI cJ cZ cP : ClassId) (oA : Nat → Nat) (rA : Nat → Nat → Nat) (sz : Nat)  (p0 : Int32) (p1 : Int32) (Γ : HS) (res : Int32 × HS) (hF : F_X3_cellOp p0 p1 Γ = some res) : Met l yX3_cellOp (g_ws yX3_cellOp cX3_cellOp 5 none) ({ frames := 4, cells := 0, slots := 0, locals := 105 }) (va_Pc [.ref (oA 10), .int p0, .int p1] (g_B (dC, dI) [(cB, .byte), (cC, .char), (cI, .int), (cJ, .long), (cZ, .boolean), (cP, .object "StoryHouse$Play")] sz (b_k cB cC cI cJ cZ oA rA Γ ++ b_p cB cC cI cJ cZ oA rA Γ ++ b_o cB cC cI cJ cZ oA rA Γ ++ b_s cB cC cI cJ cZ oA rA Γ ++ b_c cB cC cI cJ cZ oA rA Γ ++ b_t cB cC cI cJ cZ oA rA Γ ++ b_d cB cC cI cJ cZ oA rA Γ) g_0)) (va_Qv (fun (_ : Unit) => True) (g_Bo (dC, dI) (va_A (b_k cB cC cI cJ cZ oA rA Γ ++ b_p cB cC cI cJ cZ oA rA Γ ++ b_o cB cC cI cJ cZ oA rA Γ ++ b_s cB cC cI cJ cZ oA rA Γ ++ b_c cB cC cI cJ cZ oA rA Γ ++ b_t cB cC cI cJ cZ oA rA Γ ++ b_d cB cC cI cJ cZ oA rA Γ) sz) (fun (_ : Unit) => (b_k cB cC cI cJ cZ oA rA res.2 ++ b_p cB cC cI cJ cZ oA rA res.2 ++ b_o cB cC cI cJ cZ oA rA res.2 ++ b_s cB cC cI cJ cZ oA rA res.2 ++ b_c cB cC cI cJ cZ oA rA res.2 ++ b_t cB cC cI cJ cZ oA rA res.2 ++ b_d cB cC cI cJ cZ oA rA res.2))) (va_A (b_k cB cC cI cJ cZ oA rA Γ ++ b_p cB cC cI cJ cZ oA rA Γ ++ b_o cB cC cI cJ cZ oA rA Γ ++ b_s cB cC cI cJ cZ oA rA Γ ++ b_c cB cC cI cJ cZ oA rA Γ ++ b_t cB cC cI cJ cZ oA rA Γ ++ b_d cB cC cI cJ cZ oA rA Γ) sz)) 0 0 (va_A (b_k cB cC cI cJ cZ oA rA Γ ++ b_p cB cC cI cJ cZ oA rA Γ ++ b_o cB cC cI cJ cZ oA rA Γ ++ b_s cB cC cI cJ cZ oA rA Γ ++ b_c cB cC cI cJ cZ oA rA Γ ++ b_t cB cC cI cJ cZ oA rA Γ ++ b_d cB cC cI cJ cZ oA rA Γ) sz) := by
  refine Met.ofW (cc := cX3_cellOp) (maxL := 5) (ret := none) (by decide) rfl ?_
  intro p e s m args below meth c s₁ B hml hv
  obtain ⟨rfl, hsz, hP, hK, hD0, hE, hX⟩ := hv
  have hx := B.exec
  have hb := B.bytes
  have hr := B.returns
  have hts0 := atoms_spec (ws := g_ws yX3_cellOp cX3_cellOp 5 none) B.pre
  have hts : ∀ w ∈ lw_good, w.before ([.ref (oA 10), .int p0, .int p1] : List Value).toArray s = true := fun w z => hts0 w (List.mem_cons_of_mem _ z)
  have hown : s.vm.findClass RX3 = some m.cls := findClass_of_methodNamed B.named
  have hlocks := B.notSynchronized
  subst hsz
  have hD1 := hD0.self (sz := s.heap.size)
  generalize hAe : va_A (b_k cB cC cI cJ cZ oA rA Γ ++ b_p cB cC cI cJ cZ oA rA Γ ++ b_o cB cC cI cJ cZ oA rA Γ ++ b_s cB cC cI cJ cZ oA rA Γ ++ b_c cB cC cI cJ cZ oA rA Γ ++ b_t cB cC cI cJ cZ oA rA Γ ++ b_d cB cC cI cJ cZ oA rA Γ) s.heap.size = A at hD1 hE hX ⊢
  have hA : ∀ q : Nat, s.heap.size ≤ q → A q := fun q z => by rw [← hAe]; exact Or.inr z
  have hDD : ∀ Γ : HS, va_D A (b_k cB cC cI cJ cZ oA rA Γ ++ b_p cB cC cI cJ cZ oA rA Γ ++ b_o cB cC cI cJ cZ oA rA Γ ++ b_s cB cC cI cJ cZ oA rA Γ ++ b_c cB cC cI cJ cZ oA rA Γ ++ b_t cB cC cI cJ cZ oA rA Γ ++ b_d cB cC cI cJ cZ oA rA Γ) := fun Γ9 => va_D_fst (ws := (b_k cB cC cI cJ cZ oA rA Γ ++ b_p cB cC cI cJ cZ oA rA Γ ++ b_o cB cC cI cJ cZ oA rA Γ ++ b_s cB cC cI cJ cZ oA rA Γ ++ b_c cB cC cI cJ cZ oA rA Γ ++ b_t cB cC cI cJ cZ oA rA Γ ++ b_d cB cC cI cJ cZ oA rA Γ)) (ws' := (b_k cB cC cI cJ cZ oA rA Γ9 ++ b_p cB cC cI cJ cZ oA rA Γ9 ++ b_o cB cC cI cJ cZ oA rA Γ9 ++ b_s cB cC cI cJ cZ oA rA Γ9 ++ b_c cB cC cI cJ cZ oA rA Γ9 ++ b_t cB cC cI cJ cZ oA rA Γ9 ++ b_d cB cC cI cJ cZ oA rA Γ9)) rfl hD1
  have hN := hE.1
  have hS : va_S A s.heap s.heap [] := va_S.rf
  have hl := lv_entry ([.ref (oA 10), .int p0, .int p1]) (n := 5) (Nat.le_of_ble_eq_true rfl)
  rw [lg_entry_eq]
  generalize (lg_sl ([.ref (oA 10), .int p0, .int p1]) ++ List.replicate (5 - (lg_sl ([.ref (oA 10), .int p0, .int p1])).length) Slot.unset).toArray = ls at hl ⊢
  have hl : lv_has ls 5 [(0, .ref (oA 10)), (1, .int p0), (2, .int p1)] := hl
  unfold F_X3_cellOp at hF
  refine lv_iload_n hx hb dX3_cellOp_0 rfl (lv_at hl 1 rfl) ?_
  obtain ⟨j_3, ej_3, hF_4⟩ := bnd_e hF
  clear hF
  have Jj_3 : ∀ (t_1 : Int32) (σ_2 : HS), j_3 t_1 σ_2 = some res → ∀ (H : Heap) (locs : List Loc), va_P (dC, dI) vwCl (b_k cB cC cI cJ cZ oA rA σ_2 ++ b_p cB cC cI cJ cZ oA rA σ_2 ++ b_o cB cC cI cJ cZ oA rA σ_2 ++ b_s cB cC cI cJ cZ oA rA σ_2 ++ b_c cB cC cI cJ cZ oA rA σ_2 ++ b_t cB cC cI cJ cZ oA rA σ_2 ++ b_d cB cC cI cJ cZ oA rA σ_2) H → va_S A s.heap H locs → ∀ ls : Array Slot, lv_has ls 5 [(0, .ref (oA 10)), (1, .int p0), (2, .int p1)] → W p l e (headSpec (g_ws yX3_cellOp cX3_cellOp 5 none) { frames := 4, cells := 0, slots := 0, locals := 105 }).room s m ([.ref (oA 10), .int p0, .int p1] : List Value).toArray below meth c H locs 0 0 (MQ below (va_Qv (fun (_ : Unit) => True) (g_Bo (dC, dI) A (fun (_ : Unit) => (b_k cB cC cI cJ cZ oA rA res.2 ++ b_p cB cC cI cJ cZ oA rA res.2 ++ b_o cB cC cI cJ cZ oA rA res.2 ++ b_s cB cC cI cJ cZ oA rA res.2 ++ b_c cB cC cI cJ cZ oA rA res.2 ++ b_t cB cC cI cJ cZ oA rA res.2 ++ b_d cB cC cI cJ cZ oA rA res.2))) A) ([.ref (oA 10), .int p0, .int p1] : List Value).toArray s 0 0 A) (F0 m 12 ls [.int t_1]) := by
    intro t_1 σ_2 hF0 H locs hP hS ls hl
    subst ej_3
    have hF_5 := hF0
    clear hF0
    refine lv_istore_n (lv' := [(3, .int t_1), (0, .ref (oA 10)), (1, .int p0), (2, .int p1)]) hx hb dX3_cellOp_12 rfl hl (by decide) rfl (fun ls hl => ?_)
    refine lv_aload_n hx hb dX3_cellOp_13 rfl (lv_at hl 1 rfl) ?_
    refine va_get (D := (dC, dI)) (ci := 3) (v := .ref (oA 4)) (C := RX3) (T := TX3) (N := 16) hx hb hts ii_X3 hown hK hP 0 rfl rfl 2 (by decide) (hts (.fieldLink RX3 52 "StoryHouse$Machine" "story" "LStoryHouse$Story;") wq_262) (fun _ h9 => h9) rfl dX3_cellOp_14 ?_
    refine lv_iload_n hx hb dX3_cellOp_17 rfl (lv_at hl 3 rfl) ?_
    refine lv_aload_n hx hb dX3_cellOp_18 rfl (lv_at hl 1 rfl) ?_
    obtain ⟨u_6, hu_6, hF_7⟩ := Option.bind_eq_some_iff.mp hF_5
    clear hF_5
    have hPc := bx_P (bs := [b_k cB cC cI cJ cZ oA rA σ_2, b_p cB cC cI cJ cZ oA rA σ_2, b_o cB cC cI cJ cZ oA rA σ_2, b_s cB cC cI cJ cZ oA rA σ_2, b_c cB cC cI cJ cZ oA rA σ_2, b_t cB cC cI cJ cZ oA rA σ_2, b_d cB cC cI cJ cZ oA rA σ_2]) (bs' := [b_k cB cC cI cJ cZ oA rA σ_2, b_p cB cC cI cJ cZ oA rA σ_2, b_o cB cC cI cJ cZ oA rA σ_2, b_s cB cC cI cJ cZ oA rA σ_2, b_c cB cC cI cJ cZ oA rA σ_2, b_t cB cC cI cJ cZ oA rA σ_2, b_d cB cC cI cJ cZ oA rA σ_2]) (ws' := (b_k cB cC cI cJ cZ oA rA σ_2 ++ b_p cB cC cI cJ cZ oA rA σ_2 ++ b_o cB cC cI cJ cZ oA rA σ_2 ++ b_s cB cC cI cJ cZ oA rA σ_2 ++ b_c cB cC cI cJ cZ oA rA σ_2 ++ b_t cB cC cI cJ cZ oA rA σ_2 ++ b_d cB cC cI cJ cZ oA rA σ_2)) hP fl_7 fl_7 [0, 1, 2, 3, 4, 5, 6] rfl
    have hDc := bx_D (bs := [b_k cB cC cI cJ cZ oA rA σ_2, b_p cB cC cI cJ cZ oA rA σ_2, b_o cB cC cI cJ cZ oA rA σ_2, b_s cB cC cI cJ cZ oA rA σ_2, b_c cB cC cI cJ cZ oA rA σ_2, b_t cB cC cI cJ cZ oA rA σ_2, b_d cB cC cI cJ cZ oA rA σ_2]) (bs' := [b_k cB cC cI cJ cZ oA rA σ_2, b_p cB cC cI cJ cZ oA rA σ_2, b_o cB cC cI cJ cZ oA rA σ_2, b_s cB cC cI cJ cZ oA rA σ_2, b_c cB cC cI cJ cZ oA rA σ_2, b_t cB cC cI cJ cZ oA rA σ_2, b_d cB cC cI cJ cZ oA rA σ_2]) (ws' := (b_k cB cC cI cJ cZ oA rA σ_2 ++ b_p cB cC cI cJ cZ oA rA σ_2 ++ b_o cB cC cI cJ cZ oA rA σ_2 ++ b_s cB cC cI cJ cZ oA rA σ_2 ++ b_c cB cC cI cJ cZ oA rA σ_2 ++ b_t cB cC cI cJ cZ oA rA σ_2 ++ b_d cB cC cI cJ cZ oA rA σ_2)) (hDD σ_2) fl_7 fl_7 [0, 1, 2, 3, 4, 5, 6] (by decide +kernel) rfl
    have hFc := bx_F (bs := [b_k cB cC cI cJ cZ oA rA σ_2, b_p cB cC cI cJ cZ oA rA σ_2, b_o cB cC cI cJ cZ oA rA σ_2, b_s cB cC cI cJ cZ oA rA σ_2, b_c cB cC cI cJ cZ oA rA σ_2, b_t cB cC cI cJ cZ oA rA σ_2, b_d cB cC cI cJ cZ oA rA σ_2]) (bs' := [b_k cB cC cI cJ cZ oA rA σ_2, b_p cB cC cI cJ cZ oA rA σ_2, b_o cB cC cI cJ cZ oA rA σ_2, b_s cB cC cI cJ cZ oA rA σ_2, b_c cB cC cI cJ cZ oA rA σ_2, b_t cB cC cI cJ cZ oA rA σ_2, b_d cB cC cI cJ cZ oA rA σ_2]) (wc := (b_k cB cC cI cJ cZ oA rA σ_2 ++ b_p cB cC cI cJ cZ oA rA σ_2 ++ b_o cB cC cI cJ cZ oA rA σ_2 ++ b_s cB cC cI cJ cZ oA rA σ_2 ++ b_c cB cC cI cJ cZ oA rA σ_2 ++ b_t cB cC cI cJ cZ oA rA σ_2 ++ b_d cB cC cI cJ cZ oA rA σ_2)) (hDD σ_2) hS hA fl_7 fl_7 [0, 1, 2, 3, 4, 5, 6] rfl
    refine g_ofi (wc := (b_k cB cC cI cJ cZ oA rA σ_2 ++ b_p cB cC cI cJ cZ oA rA σ_2 ++ b_o cB cC cI cJ cZ oA rA σ_2 ++ b_s cB cC cI cJ cZ oA rA σ_2 ++ b_c cB cC cI cJ cZ oA rA σ_2 ++ b_t cB cC cI cJ cZ oA rA σ_2 ++ b_d cB cC cI cJ cZ oA rA σ_2)) (wr := ([] : va_W)) hP (hDD σ_2) hS hFc (bx_ix [b_k cB cC cI cJ cZ oA rA σ_2, b_p cB cC cI cJ cZ oA rA σ_2, b_o cB cC cI cJ cZ oA rA σ_2, b_s cB cC cI cJ cZ oA rA σ_2, b_c cB cC cI cJ cZ oA rA σ_2, b_t cB cC cI cJ cZ oA rA σ_2, b_d cB cC cI cJ cZ oA rA σ_2] [0, 1, 2, 3, 4, 5, 6]) (bx_ix [b_k cB cC cI cJ cZ oA rA σ_2, b_p cB cC cI cJ cZ oA rA σ_2, b_o cB cC cI cJ cZ oA rA σ_2, b_s cB cC cI cJ cZ oA rA σ_2, b_c cB cC cI cJ cZ oA rA σ_2, b_t cB cC cI cJ cZ oA rA σ_2, b_d cB cC cI cJ cZ oA rA σ_2] []) (bx_C (bs := [b_k cB cC cI cJ cZ oA rA σ_2, b_p cB cC cI cJ cZ oA rA σ_2, b_o cB cC cI cJ cZ oA rA σ_2, b_s cB cC cI cJ cZ oA rA σ_2, b_c cB cC cI cJ cZ oA rA σ_2, b_t cB cC cI cJ cZ oA rA σ_2, b_d cB cC cI cJ cZ oA rA σ_2]) (bs' := [b_k cB cC cI cJ cZ oA rA σ_2, b_p cB cC cI cJ cZ oA rA σ_2, b_o cB cC cI cJ cZ oA rA σ_2, b_s cB cC cI cJ cZ oA rA σ_2, b_c cB cC cI cJ cZ oA rA σ_2, b_t cB cC cI cJ cZ oA rA σ_2, b_d cB cC cI cJ cZ oA rA σ_2]) (is := [0, 1, 2, 3, 4, 5, 6]) fl_7 fl_7 rfl) (bx_C (bs := [b_k cB cC cI cJ cZ oA rA σ_2, b_p cB cC cI cJ cZ oA rA σ_2, b_o cB cC cI cJ cZ oA rA σ_2, b_s cB cC cI cJ cZ oA rA σ_2, b_c cB cC cI cJ cZ oA rA σ_2, b_t cB cC cI cJ cZ oA rA σ_2, b_d cB cC cI cJ cZ oA rA σ_2]) (bs' := []) (is := []) fl_7 fl_0 rfl) (bx_n (by decide +kernel)) (bx_d (by decide +kernel)) (va_runV (As := []) (rest := [.int p1, .ref (oA 4)]) ⟨hx, hb, hml, hown, hts⟩ (k_X3_pop l dC dI cB cC cI cJ cZ cP oA rA H.size  σ_2 _ hu_6) (cwV 0 hts (g_gV wq_1144 wq_1145 wq_2086 wq_11 wq_1146) rfl rfl rfl (by decide +kernel) ⟨Nat.le_of_ble_eq_true rfl, Nat.le_of_ble_eq_true rfl⟩) (g_preV g_bl0 hK hPc hDc hS hE hFc g_to0 (q0 := 0) (ci := 3) rfl rfl) rfl rfl hl.1 rfl (lv_room (Nat.le_of_ble_eq_true rfl)) dX3_cellOp_19 ⟨Nat.le_of_ble_eq_true rfl, Nat.le_of_ble_eq_true rfl⟩) (fun r9 u9 H locs hw9 hP' hD' hS => ?_)
    clear hPc hDc hFc
    subst hw9
    have hP : va_P (dC, dI) vwCl (b_k cB cC cI cJ cZ oA rA u_6.2 ++ b_p cB cC cI cJ cZ oA rA u_6.2 ++ b_o cB cC cI cJ cZ oA rA u_6.2 ++ b_s cB cC cI cJ cZ oA rA u_6.2 ++ b_c cB cC cI cJ cZ oA rA u_6.2 ++ b_t cB cC cI cJ cZ oA rA u_6.2 ++ b_d cB cC cI cJ cZ oA rA u_6.2) H := hP'
    clear hP' hD'
    obtain ⟨u_8, hu_8, hF_9⟩ := Option.bind_eq_some_iff.mp hF_7
    clear hF_7
    have hPc := bx_P (bs := [b_k cB cC cI cJ cZ oA rA u_6.2, b_p cB cC cI cJ cZ oA rA u_6.2, b_o cB cC cI cJ cZ oA rA u_6.2, b_s cB cC cI cJ cZ oA rA u_6.2, b_c cB cC cI cJ cZ oA rA u_6.2, b_t cB cC cI cJ cZ oA rA u_6.2, b_d cB cC cI cJ cZ oA rA u_6.2]) (bs' := [b_s cB cC cI cJ cZ oA rA u_6.2, b_c cB cC cI cJ cZ oA rA u_6.2, b_t cB cC cI cJ cZ oA rA u_6.2, b_d cB cC cI cJ cZ oA rA u_6.2]) (ws' := (b_s cB cC cI cJ cZ oA rA u_6.2 ++ b_c cB cC cI cJ cZ oA rA u_6.2 ++ b_t cB cC cI cJ cZ oA rA u_6.2 ++ b_d cB cC cI cJ cZ oA rA u_6.2)) hP fl_7 fl_4 [3, 4, 5, 6] rfl
    have hDc := bx_D (bs := [b_k cB cC cI cJ cZ oA rA u_6.2, b_p cB cC cI cJ cZ oA rA u_6.2, b_o cB cC cI cJ cZ oA rA u_6.2, b_s cB cC cI cJ cZ oA rA u_6.2, b_c cB cC cI cJ cZ oA rA u_6.2, b_t cB cC cI cJ cZ oA rA u_6.2, b_d cB cC cI cJ cZ oA rA u_6.2]) (bs' := [b_s cB cC cI cJ cZ oA rA u_6.2, b_c cB cC cI cJ cZ oA rA u_6.2, b_t cB cC cI cJ cZ oA rA u_6.2, b_d cB cC cI cJ cZ oA rA u_6.2]) (ws' := (b_s cB cC cI cJ cZ oA rA u_6.2 ++ b_c cB cC cI cJ cZ oA rA u_6.2 ++ b_t cB cC cI cJ cZ oA rA u_6.2 ++ b_d cB cC cI cJ cZ oA rA u_6.2)) (hDD u_6.2) fl_7 fl_4 [3, 4, 5, 6] (by decide +kernel) rfl
    have hFc := bx_F (bs := [b_k cB cC cI cJ cZ oA rA u_6.2, b_p cB cC cI cJ cZ oA rA u_6.2, b_o cB cC cI cJ cZ oA rA u_6.2, b_s cB cC cI cJ cZ oA rA u_6.2, b_c cB cC cI cJ cZ oA rA u_6.2, b_t cB cC cI cJ cZ oA rA u_6.2, b_d cB cC cI cJ cZ oA rA u_6.2]) (bs' := [b_s cB cC cI cJ cZ oA rA u_6.2, b_c cB cC cI cJ cZ oA rA u_6.2, b_t cB cC cI cJ cZ oA rA u_6.2, b_d cB cC cI cJ cZ oA rA u_6.2]) (wc := (b_s cB cC cI cJ cZ oA rA u_6.2 ++ b_c cB cC cI cJ cZ oA rA u_6.2 ++ b_t cB cC cI cJ cZ oA rA u_6.2 ++ b_d cB cC cI cJ cZ oA rA u_6.2)) (hDD u_6.2) hS hA fl_7 fl_4 [3, 4, 5, 6] rfl
    refine g_ofi (wc := (b_s cB cC cI cJ cZ oA rA u_6.2 ++ b_c cB cC cI cJ cZ oA rA u_6.2 ++ b_t cB cC cI cJ cZ oA rA u_6.2 ++ b_d cB cC cI cJ cZ oA rA u_6.2)) (wr := (b_k cB cC cI cJ cZ oA rA u_6.2 ++ b_p cB cC cI cJ cZ oA rA u_6.2 ++ b_o cB cC cI cJ cZ oA rA u_6.2)) hP (hDD u_6.2) hS hFc (bx_ix [b_k cB cC cI cJ cZ oA rA u_6.2, b_p cB cC cI cJ cZ oA rA u_6.2, b_o cB cC cI cJ cZ oA rA u_6.2, b_s cB cC cI cJ cZ oA rA u_6.2, b_c cB cC cI cJ cZ oA rA u_6.2, b_t cB cC cI cJ cZ oA rA u_6.2, b_d cB cC cI cJ cZ oA rA u_6.2] [3, 4, 5, 6]) (bx_ix [b_k cB cC cI cJ cZ oA rA u_6.2, b_p cB cC cI cJ cZ oA rA u_6.2, b_o cB cC cI cJ cZ oA rA u_6.2, b_s cB cC cI cJ cZ oA rA u_6.2, b_c cB cC cI cJ cZ oA rA u_6.2, b_t cB cC cI cJ cZ oA rA u_6.2, b_d cB cC cI cJ cZ oA rA u_6.2] [0, 1, 2]) (bx_C (bs := [b_k cB cC cI cJ cZ oA rA u_6.2, b_p cB cC cI cJ cZ oA rA u_6.2, b_o cB cC cI cJ cZ oA rA u_6.2, b_s cB cC cI cJ cZ oA rA u_6.2, b_c cB cC cI cJ cZ oA rA u_6.2, b_t cB cC cI cJ cZ oA rA u_6.2, b_d cB cC cI cJ cZ oA rA u_6.2]) (bs' := [b_s cB cC cI cJ cZ oA rA u_6.2, b_c cB cC cI cJ cZ oA rA u_6.2, b_t cB cC cI cJ cZ oA rA u_6.2, b_d cB cC cI cJ cZ oA rA u_6.2]) (is := [3, 4, 5, 6]) fl_7 fl_4 rfl) (bx_C (bs := [b_k cB cC cI cJ cZ oA rA u_6.2, b_p cB cC cI cJ cZ oA rA u_6.2, b_o cB cC cI cJ cZ oA rA u_6.2, b_s cB cC cI cJ cZ oA rA u_6.2, b_c cB cC cI cJ cZ oA rA u_6.2, b_t cB cC cI cJ cZ oA rA u_6.2, b_d cB cC cI cJ cZ oA rA u_6.2]) (bs' := [b_k cB cC cI cJ cZ oA rA u_6.2, b_p cB cC cI cJ cZ oA rA u_6.2, b_o cB cC cI cJ cZ oA rA u_6.2]) (is := [0, 1, 2]) fl_7 fl_3 rfl) (bx_n (by decide +kernel)) (bx_d (by decide +kernel)) (va_runV (As := [.int p1, .int u_6.1]) (rest := []) ⟨hx, hb, hml, hown, hts⟩ (k_X7_cellOf l dC dI cB cC cI cJ cZ cP oA rA H.size  p1 u_6.1 u_6.2 _ hu_8) (cwV 2 hts (g_gV wq_1150 wq_1151 wq_1152 wq_5 wq_1153) rfl rfl rfl (by decide +kernel) ⟨Nat.le_of_ble_eq_true rfl, Nat.le_of_ble_eq_true rfl⟩) (g_preV g_bl0 hK hPc hDc hS hE hFc g_to0 (q0 := 0) (ci := 7) rfl rfl) rfl rfl hl.1 rfl (lv_room (Nat.le_of_ble_eq_true rfl)) dX3_cellOp_22 ⟨Nat.le_of_ble_eq_true rfl, Nat.le_of_ble_eq_true rfl⟩) (fun r9 u9 H locs hw9 hP' hD' hS => ?_)
    clear hPc hDc hFc
    subst hw9
    obtain ⟨σ_10, eσ_10, hF_11⟩ := bnd_e hF_9
    clear hF_9
    have hP : va_P (dC, dI) vwCl (b_k cB cC cI cJ cZ oA rA σ_10 ++ b_p cB cC cI cJ cZ oA rA σ_10 ++ b_o cB cC cI cJ cZ oA rA σ_10 ++ b_s cB cC cI cJ cZ oA rA σ_10 ++ b_c cB cC cI cJ cZ oA rA σ_10 ++ b_t cB cC cI cJ cZ oA rA σ_10 ++ b_d cB cC cI cJ cZ oA rA σ_10) H := by rw [eσ_10]; exact bx_P (bs := [b_k cB cC cI cJ cZ oA rA u_6.2, b_p cB cC cI cJ cZ oA rA u_6.2, b_o cB cC cI cJ cZ oA rA u_6.2] ++ [b_s cB cC cI cJ cZ oA rA u_8.2, b_c cB cC cI cJ cZ oA rA u_8.2, b_t cB cC cI cJ cZ oA rA u_8.2, b_d cB cC cI cJ cZ oA rA u_8.2]) (bs' := [b_k cB cC cI cJ cZ oA rA (mrg (fun j => j == 4 || j == 5 || j == 6 || j == 7) u_6.2 u_8.2), b_p cB cC cI cJ cZ oA rA (mrg (fun j => j == 4 || j == 5 || j == 6 || j == 7) u_6.2 u_8.2), b_o cB cC cI cJ cZ oA rA (mrg (fun j => j == 4 || j == 5 || j == 6 || j == 7) u_6.2 u_8.2), b_s cB cC cI cJ cZ oA rA (mrg (fun j => j == 4 || j == 5 || j == 6 || j == 7) u_6.2 u_8.2), b_c cB cC cI cJ cZ oA rA (mrg (fun j => j == 4 || j == 5 || j == 6 || j == 7) u_6.2 u_8.2), b_t cB cC cI cJ cZ oA rA (mrg (fun j => j == 4 || j == 5 || j == 6 || j == 7) u_6.2 u_8.2), b_d cB cC cI cJ cZ oA rA (mrg (fun j => j == 4 || j == 5 || j == 6 || j == 7) u_6.2 u_8.2)]) hP' (fl_a fl_3 fl_4) fl_7 [0, 1, 2, 3, 4, 5, 6] rfl
    clear hP' hD'
    refine lv_istore (lv' := [(4, .int u_8.1), (3, .int t_1), (0, .ref (oA 10)), (1, .int p0), (2, .int p1)]) hx hb dX3_cellOp_25 hl (by decide) rfl (fun ls hl => ?_)
    refine lv_iload hx hb dX3_cellOp_27 (lv_at hl 0 rfl) ?_
    refine lv_iconst (v := (-1)) hx hb dX3_cellOp_29 (by decide +kernel) ?_
    refine lv_icmp_ne (tgt := 41) hx hb dX3_cellOp_30 (by decide) (fun c_12 => ?_) (fun c_12 => ?_)
    · have hF_16 := ineg c_12 hF_11
      clear hF_11
      refine lv_iload_n hx hb dX3_cellOp_41 rfl (lv_at hl 3 rfl) ?_
      refine lv_if_eq (tgt := 61) hx hb dX3_cellOp_42 (by decide) (fun c_17 => ?_) (fun c_17 => ?_)
      · have hF_18 := ipos c_17 hF_16
        clear hF_16
        refine lv_aload_n hx hb dX3_cellOp_61 rfl (lv_at hl 2 rfl) ?_
        refine lv_aload_n hx hb dX3_cellOp_62 rfl (lv_at hl 2 rfl) ?_
        refine va_get (D := (dC, dI)) (ci := 3) (v := .ref (oA 9)) (C := RX3) (T := TX3) (N := 16) hx hb hts ii_X3 hown hK hP 0 rfl rfl 0 (by decide) (hts (.fieldLink RX3 29 "StoryHouse$Machine" "play" "LStoryHouse$Play;") wq_259) (fun _ h9 => h9) rfl dX3_cellOp_63 ?_
        refine va_get (D := (dC, dI)) (ci := 6) (v := .ref (rA 9 5)) (C := RX6) (T := TX6) (N := 12) hx hb hts ii_X6 hown hK hP 5 rfl rfl 5 (by decide) (hts (.fieldLink RX3 168 "StoryHouse$Play" "cells" "[I") wq_234) (fun _ h9 => h9) rfl dX3_cellOp_66 ?_
        refine lv_iload hx hb dX3_cellOp_69 (lv_at hl 0 rfl) ?_
        have hq9 : ((b_k cB cC cI cJ cZ oA rA σ_10 ++ b_p cB cC cI cJ cZ oA rA σ_10 ++ b_o cB cC cI cJ cZ oA rA σ_10 ++ b_s cB cC cI cJ cZ oA rA σ_10 ++ b_c cB cC cI cJ cZ oA rA σ_10 ++ b_t cB cC cI cJ cZ oA rA σ_10 ++ b_d cB cC cI cJ cZ oA rA σ_10))[11]? = some (rA 9 5, .inl (cI, 1000, .inl ((σ_10 9).2.1 5))) := rfl
        have hPc := hP.sub (ws' := [(rA 9 5, .inl (cI, 1000, .inl ((σ_10 9).2.1 5)))]) [11] (pk_fm (er_C hq9))
        have hDc := (hDD σ_10).sub (ws' := [(rA 9 5, .inl (cI, 1000, .inl ((σ_10 9).2.1 5)))]) [11] (by decide +kernel) (er_C hq9)
        have hFc := va_free (wc := [(rA 9 5, .inl (cI, 1000, .inl ((σ_10 9).2.1 5)))]) (hDD σ_10) hS hA [11] (er_C hq9)
        refine g_ofi (wc := [(rA 9 5, .inl (cI, 1000, .inl ((σ_10 9).2.1 5)))]) (wr := (((b_k cB cC cI cJ cZ oA rA σ_10 ++ b_p cB cC cI cJ cZ oA rA σ_10 ++ b_o cB cC cI cJ cZ oA rA σ_10 ++ b_s cB cC cI cJ cZ oA rA σ_10 ++ b_c cB cC cI cJ cZ oA rA σ_10 ++ b_t cB cC cI cJ cZ oA rA σ_10 ++ b_d cB cC cI cJ cZ oA rA σ_10)).eraseIdx 11)) hP (hDD σ_10) hS hFc [11] ((List.range ((b_k cB cC cI cJ cZ oA rA σ_10 ++ b_p cB cC cI cJ cZ oA rA σ_10 ++ b_o cB cC cI cJ cZ oA rA σ_10 ++ b_s cB cC cI cJ cZ oA rA σ_10 ++ b_c cB cC cI cJ cZ oA rA σ_10 ++ b_t cB cC cI cJ cZ oA rA σ_10 ++ b_d cB cC cI cJ cZ oA rA σ_10)).length).eraseIdx 11) (er_C hq9) er_R er_n er_d (va_runSN (As := [.ref (rA 9 5), .int u_8.1]) (rest := [.ref (oA 10)]) ⟨hx, hb, hml, hown, hts⟩ (c_X11_at l dC dI cB cC cI cJ cZ cP H.size (rA 9 5) u_8.1 1000 ((σ_10 9).2.1 5) (by decide)) ⟨va_cnB 2 hts (g_gA wq_407) rfl rfl rfl (nw_30 hN) (hts (.initialized RX11) wq_1) (by decide +kernel) ⟨Nat.le_of_ble_eq_true rfl, Nat.le_of_ble_eq_true rfl⟩, (hts (.static yX11_at) wq_406), trivial⟩ (g_preS g_bl0 hK hPc hDc hS hE hFc g_to0) rfl rfl hl.1 rfl (lv_room (Nat.le_of_ble_eq_true rfl)) dX3_cellOp_71 ⟨Nat.le_of_ble_eq_true rfl, Nat.le_of_ble_eq_true rfl⟩) (fun r9 u9 H locs hw9 hP' hD' hS => ?_)
        clear hPc hDc hFc hD'
        have hP : va_P (dC, dI) vwCl (b_k cB cC cI cJ cZ oA rA σ_10 ++ b_p cB cC cI cJ cZ oA rA σ_10 ++ b_o cB cC cI cJ cZ oA rA σ_10 ++ b_s cB cC cI cJ cZ oA rA σ_10 ++ b_c cB cC cI cJ cZ oA rA σ_10 ++ b_t cB cC cI cJ cZ oA rA σ_10 ++ b_d cB cC cI cJ cZ oA rA σ_10) H := er_I hP' hq9
        clear hP' hq9
        subst hw9
        obtain ⟨x_19, ex_19, hF_20⟩ := bnd_e hF_18
        clear hF_18
        refine m_top ex_19 ?_
        obtain ⟨u_21, hu_21, hF_22⟩ := Option.bind_eq_some_iff.mp hF_20
        clear hF_20
        have hPc := bx_P (bs := [b_k cB cC cI cJ cZ oA rA σ_10, b_p cB cC cI cJ cZ oA rA σ_10, b_o cB cC cI cJ cZ oA rA σ_10, b_s cB cC cI cJ cZ oA rA σ_10, b_c cB cC cI cJ cZ oA rA σ_10, b_t cB cC cI cJ cZ oA rA σ_10, b_d cB cC cI cJ cZ oA rA σ_10]) (bs' := [b_k cB cC cI cJ cZ oA rA σ_10, b_p cB cC cI cJ cZ oA rA σ_10, b_o cB cC cI cJ cZ oA rA σ_10, b_s cB cC cI cJ cZ oA rA σ_10, b_c cB cC cI cJ cZ oA rA σ_10, b_t cB cC cI cJ cZ oA rA σ_10, b_d cB cC cI cJ cZ oA rA σ_10]) (ws' := (b_k cB cC cI cJ cZ oA rA σ_10 ++ b_p cB cC cI cJ cZ oA rA σ_10 ++ b_o cB cC cI cJ cZ oA rA σ_10 ++ b_s cB cC cI cJ cZ oA rA σ_10 ++ b_c cB cC cI cJ cZ oA rA σ_10 ++ b_t cB cC cI cJ cZ oA rA σ_10 ++ b_d cB cC cI cJ cZ oA rA σ_10)) hP fl_7 fl_7 [0, 1, 2, 3, 4, 5, 6] rfl
        have hDc := bx_D (bs := [b_k cB cC cI cJ cZ oA rA σ_10, b_p cB cC cI cJ cZ oA rA σ_10, b_o cB cC cI cJ cZ oA rA σ_10, b_s cB cC cI cJ cZ oA rA σ_10, b_c cB cC cI cJ cZ oA rA σ_10, b_t cB cC cI cJ cZ oA rA σ_10, b_d cB cC cI cJ cZ oA rA σ_10]) (bs' := [b_k cB cC cI cJ cZ oA rA σ_10, b_p cB cC cI cJ cZ oA rA σ_10, b_o cB cC cI cJ cZ oA rA σ_10, b_s cB cC cI cJ cZ oA rA σ_10, b_c cB cC cI cJ cZ oA rA σ_10, b_t cB cC cI cJ cZ oA rA σ_10, b_d cB cC cI cJ cZ oA rA σ_10]) (ws' := (b_k cB cC cI cJ cZ oA rA σ_10 ++ b_p cB cC cI cJ cZ oA rA σ_10 ++ b_o cB cC cI cJ cZ oA rA σ_10 ++ b_s cB cC cI cJ cZ oA rA σ_10 ++ b_c cB cC cI cJ cZ oA rA σ_10 ++ b_t cB cC cI cJ cZ oA rA σ_10 ++ b_d cB cC cI cJ cZ oA rA σ_10)) (hDD σ_10) fl_7 fl_7 [0, 1, 2, 3, 4, 5, 6] (by decide +kernel) rfl
        have hFc := bx_F (bs := [b_k cB cC cI cJ cZ oA rA σ_10, b_p cB cC cI cJ cZ oA rA σ_10, b_o cB cC cI cJ cZ oA rA σ_10, b_s cB cC cI cJ cZ oA rA σ_10, b_c cB cC cI cJ cZ oA rA σ_10, b_t cB cC cI cJ cZ oA rA σ_10, b_d cB cC cI cJ cZ oA rA σ_10]) (bs' := [b_k cB cC cI cJ cZ oA rA σ_10, b_p cB cC cI cJ cZ oA rA σ_10, b_o cB cC cI cJ cZ oA rA σ_10, b_s cB cC cI cJ cZ oA rA σ_10, b_c cB cC cI cJ cZ oA rA σ_10, b_t cB cC cI cJ cZ oA rA σ_10, b_d cB cC cI cJ cZ oA rA σ_10]) (wc := (b_k cB cC cI cJ cZ oA rA σ_10 ++ b_p cB cC cI cJ cZ oA rA σ_10 ++ b_o cB cC cI cJ cZ oA rA σ_10 ++ b_s cB cC cI cJ cZ oA rA σ_10 ++ b_c cB cC cI cJ cZ oA rA σ_10 ++ b_t cB cC cI cJ cZ oA rA σ_10 ++ b_d cB cC cI cJ cZ oA rA σ_10)) (hDD σ_10) hS hA fl_7 fl_7 [0, 1, 2, 3, 4, 5, 6] rfl
        refine g_ofv (wc := (b_k cB cC cI cJ cZ oA rA σ_10 ++ b_p cB cC cI cJ cZ oA rA σ_10 ++ b_o cB cC cI cJ cZ oA rA σ_10 ++ b_s cB cC cI cJ cZ oA rA σ_10 ++ b_c cB cC cI cJ cZ oA rA σ_10 ++ b_t cB cC cI cJ cZ oA rA σ_10 ++ b_d cB cC cI cJ cZ oA rA σ_10)) (wr := ([] : va_W)) hP (hDD σ_10) hS hFc (bx_ix [b_k cB cC cI cJ cZ oA rA σ_10, b_p cB cC cI cJ cZ oA rA σ_10, b_o cB cC cI cJ cZ oA rA σ_10, b_s cB cC cI cJ cZ oA rA σ_10, b_c cB cC cI cJ cZ oA rA σ_10, b_t cB cC cI cJ cZ oA rA σ_10, b_d cB cC cI cJ cZ oA rA σ_10] [0, 1, 2, 3, 4, 5, 6]) (bx_ix [b_k cB cC cI cJ cZ oA rA σ_10, b_p cB cC cI cJ cZ oA rA σ_10, b_o cB cC cI cJ cZ oA rA σ_10, b_s cB cC cI cJ cZ oA rA σ_10, b_c cB cC cI cJ cZ oA rA σ_10, b_t cB cC cI cJ cZ oA rA σ_10, b_d cB cC cI cJ cZ oA rA σ_10] []) (bx_C (bs := [b_k cB cC cI cJ cZ oA rA σ_10, b_p cB cC cI cJ cZ oA rA σ_10, b_o cB cC cI cJ cZ oA rA σ_10, b_s cB cC cI cJ cZ oA rA σ_10, b_c cB cC cI cJ cZ oA rA σ_10, b_t cB cC cI cJ cZ oA rA σ_10, b_d cB cC cI cJ cZ oA rA σ_10]) (bs' := [b_k cB cC cI cJ cZ oA rA σ_10, b_p cB cC cI cJ cZ oA rA σ_10, b_o cB cC cI cJ cZ oA rA σ_10, b_s cB cC cI cJ cZ oA rA σ_10, b_c cB cC cI cJ cZ oA rA σ_10, b_t cB cC cI cJ cZ oA rA σ_10, b_d cB cC cI cJ cZ oA rA σ_10]) (is := [0, 1, 2, 3, 4, 5, 6]) fl_7 fl_7 rfl) (bx_C (bs := [b_k cB cC cI cJ cZ oA rA σ_10, b_p cB cC cI cJ cZ oA rA σ_10, b_o cB cC cI cJ cZ oA rA σ_10, b_s cB cC cI cJ cZ oA rA σ_10, b_c cB cC cI cJ cZ oA rA σ_10, b_t cB cC cI cJ cZ oA rA σ_10, b_d cB cC cI cJ cZ oA rA σ_10]) (bs' := []) (is := []) fl_7 fl_0 rfl) (bx_n (by decide +kernel)) (bx_d (by decide +kernel)) (va_runV (As := [.int x_19]) (rest := []) ⟨hx, hb, hml, hown, hts⟩ (k_X3_push l dC dI cB cC cI cJ cZ cP oA rA H.size  x_19 σ_10 _ hu_21) (cwV 1 hts (g_gV wq_1141 wq_1142 wq_2085 wq_11 wq_1143) rfl rfl rfl (by decide +kernel) ⟨Nat.le_of_ble_eq_true rfl, Nat.le_of_ble_eq_true rfl⟩) (g_preV g_bl0 hK hPc hDc hS hE hFc g_to0 (q0 := 0) (ci := 3) rfl rfl) rfl rfl hl.1 rfl (lv_room (Nat.le_of_ble_eq_true rfl)) dX3_cellOp_74 ⟨Nat.le_of_ble_eq_true rfl, Nat.le_of_ble_eq_true rfl⟩) (fun u9 H locs hw9 hP' hD' hS => ?_)
        clear hPc hDc hFc
        have hP : va_P (dC, dI) vwCl (b_k cB cC cI cJ cZ oA rA u_21.2 ++ b_p cB cC cI cJ cZ oA rA u_21.2 ++ b_o cB cC cI cJ cZ oA rA u_21.2 ++ b_s cB cC cI cJ cZ oA rA u_21.2 ++ b_c cB cC cI cJ cZ oA rA u_21.2 ++ b_t cB cC cI cJ cZ oA rA u_21.2 ++ b_d cB cC cI cJ cZ oA rA u_21.2) H := hP'
        clear hP' hD'
        have h9 := Option.some.inj hF_22
        subst h9
        exact W.vret hx hb hr (fun t ht hW => ⟨⟨(), rfl, trivial, m_end ht hP, hDD _⟩, hS.F ht⟩) hS.2.2 dX3_cellOp_77
      · have hF_23 := ineg c_17 hF_16
        clear hF_16
        refine lv_aload_n hx hb dX3_cellOp_45 rfl (lv_at hl 2 rfl) ?_
        refine va_get (D := (dC, dI)) (ci := 3) (v := .ref (oA 9)) (C := RX3) (T := TX3) (N := 16) hx hb hts ii_X3 hown hK hP 0 rfl rfl 0 (by decide) (hts (.fieldLink RX3 29 "StoryHouse$Machine" "play" "LStoryHouse$Play;") wq_259) (fun _ h9 => h9) rfl dX3_cellOp_46 ?_
        refine va_get (D := (dC, dI)) (ci := 6) (v := .ref (rA 9 5)) (C := RX6) (T := TX6) (N := 12) hx hb hts ii_X6 hown hK hP 5 rfl rfl 5 (by decide) (hts (.fieldLink RX3 168 "StoryHouse$Play" "cells" "[I") wq_234) (fun _ h9 => h9) rfl dX3_cellOp_49 ?_
        refine lv_iload hx hb dX3_cellOp_52 (lv_at hl 0 rfl) ?_
        refine lv_iload_n hx hb dX3_cellOp_54 rfl (lv_at hl 1 rfl) ?_
        have hq9 : ((b_k cB cC cI cJ cZ oA rA σ_10 ++ b_p cB cC cI cJ cZ oA rA σ_10 ++ b_o cB cC cI cJ cZ oA rA σ_10 ++ b_s cB cC cI cJ cZ oA rA σ_10 ++ b_c cB cC cI cJ cZ oA rA σ_10 ++ b_t cB cC cI cJ cZ oA rA σ_10 ++ b_d cB cC cI cJ cZ oA rA σ_10))[11]? = some (rA 9 5, .inl (cI, 1000, .inl ((σ_10 9).2.1 5))) := rfl
        have hPc := hP.sub (ws' := [(rA 9 5, .inl (cI, 1000, .inl ((σ_10 9).2.1 5)))]) [11] (pk_fm (er_C hq9))
        have hDc := (hDD σ_10).sub (ws' := [(rA 9 5, .inl (cI, 1000, .inl ((σ_10 9).2.1 5)))]) [11] (by decide +kernel) (er_C hq9)
        have hFc := va_free (wc := [(rA 9 5, .inl (cI, 1000, .inl ((σ_10 9).2.1 5)))]) (hDD σ_10) hS hA [11] (er_C hq9)
        refine g_ofv (wc := [(rA 9 5, .inl (cI, 1000, .inl ((σ_10 9).2.1 5)))]) (wr := (((b_k cB cC cI cJ cZ oA rA σ_10 ++ b_p cB cC cI cJ cZ oA rA σ_10 ++ b_o cB cC cI cJ cZ oA rA σ_10 ++ b_s cB cC cI cJ cZ oA rA σ_10 ++ b_c cB cC cI cJ cZ oA rA σ_10 ++ b_t cB cC cI cJ cZ oA rA σ_10 ++ b_d cB cC cI cJ cZ oA rA σ_10)).eraseIdx 11)) hP (hDD σ_10) hS hFc [11] ((List.range ((b_k cB cC cI cJ cZ oA rA σ_10 ++ b_p cB cC cI cJ cZ oA rA σ_10 ++ b_o cB cC cI cJ cZ oA rA σ_10 ++ b_s cB cC cI cJ cZ oA rA σ_10 ++ b_c cB cC cI cJ cZ oA rA σ_10 ++ b_t cB cC cI cJ cZ oA rA σ_10 ++ b_d cB cC cI cJ cZ oA rA σ_10)).length).eraseIdx 11) (er_C hq9) er_R er_n er_d (va_runSN (As := [.ref (rA 9 5), .int u_8.1, .int t_1]) (rest := []) ⟨hx, hb, hml, hown, hts⟩ (c_X11_put l dC dI cB cC cI cJ cZ cP H.size (rA 9 5) u_8.1 t_1 1000 ((σ_10 9).2.1 5) (by decide)) ⟨va_cnB 3 hts (g_gA wq_412) rfl rfl rfl (nw_35 hN) (hts (.initialized RX11) wq_1) (by decide +kernel) ⟨Nat.le_of_ble_eq_true rfl, Nat.le_of_ble_eq_true rfl⟩, (hts (.static yX11_put) wq_411), trivial⟩ (g_preS g_bl0 hK hPc hDc hS hE hFc g_to0) rfl rfl hl.1 rfl (lv_room (Nat.le_of_ble_eq_true rfl)) dX3_cellOp_55 ⟨Nat.le_of_ble_eq_true rfl, Nat.le_of_ble_eq_true rfl⟩) (fun g9 H locs hw9 hP' hD' hS => ?_)
        clear hPc hDc hFc hD'
        obtain ⟨σ_24, eσ_24, hF_25⟩ := bnd_e hF_23
        clear hF_23
        subst hw9
        have hP : va_P (dC, dI) vwCl (b_k cB cC cI cJ cZ oA rA σ_24 ++ b_p cB cC cI cJ cZ oA rA σ_24 ++ b_o cB cC cI cJ cZ oA rA σ_24 ++ b_s cB cC cI cJ cZ oA rA σ_24 ++ b_c cB cC cI cJ cZ oA rA σ_24 ++ b_t cB cC cI cJ cZ oA rA σ_24 ++ b_d cB cC cI cJ cZ oA rA σ_24) H := by rw [eσ_24]; exact cs_kposctd_p_5 ▸ er_P hP' (er_lt hq9)
        clear hP' hq9
        refine lv_goto (tgt := 77) hx hb dX3_cellOp_58 (by decide) ?_
        have h9 := Option.some.inj hF_25
        subst h9
        exact W.vret hx hb hr (fun t ht hW => ⟨⟨(), rfl, trivial, m_end ht hP, hDD _⟩, hS.F ht⟩) hS.2.2 dX3_cellOp_77
    · have hF_13 := ipos c_12 hF_11
      clear hF_11
      refine lv_aload_n hx hb dX3_cellOp_33 rfl (lv_at hl 2 rfl) ?_
      refine lv_iconst (v := 4) hx hb dX3_cellOp_34 (by decide +kernel) ?_
      obtain ⟨u_14, hu_14, hF_15⟩ := Option.bind_eq_some_iff.mp hF_13
      clear hF_13
      have hPc := bx_P (bs := [b_k cB cC cI cJ cZ oA rA σ_10, b_p cB cC cI cJ cZ oA rA σ_10, b_o cB cC cI cJ cZ oA rA σ_10, b_s cB cC cI cJ cZ oA rA σ_10, b_c cB cC cI cJ cZ oA rA σ_10, b_t cB cC cI cJ cZ oA rA σ_10, b_d cB cC cI cJ cZ oA rA σ_10]) (bs' := [b_k cB cC cI cJ cZ oA rA σ_10, b_p cB cC cI cJ cZ oA rA σ_10, b_o cB cC cI cJ cZ oA rA σ_10, b_s cB cC cI cJ cZ oA rA σ_10, b_c cB cC cI cJ cZ oA rA σ_10, b_t cB cC cI cJ cZ oA rA σ_10, b_d cB cC cI cJ cZ oA rA σ_10]) (ws' := (b_k cB cC cI cJ cZ oA rA σ_10 ++ b_p cB cC cI cJ cZ oA rA σ_10 ++ b_o cB cC cI cJ cZ oA rA σ_10 ++ b_s cB cC cI cJ cZ oA rA σ_10 ++ b_c cB cC cI cJ cZ oA rA σ_10 ++ b_t cB cC cI cJ cZ oA rA σ_10 ++ b_d cB cC cI cJ cZ oA rA σ_10)) hP fl_7 fl_7 [0, 1, 2, 3, 4, 5, 6] rfl
      have hDc := bx_D (bs := [b_k cB cC cI cJ cZ oA rA σ_10, b_p cB cC cI cJ cZ oA rA σ_10, b_o cB cC cI cJ cZ oA rA σ_10, b_s cB cC cI cJ cZ oA rA σ_10, b_c cB cC cI cJ cZ oA rA σ_10, b_t cB cC cI cJ cZ oA rA σ_10, b_d cB cC cI cJ cZ oA rA σ_10]) (bs' := [b_k cB cC cI cJ cZ oA rA σ_10, b_p cB cC cI cJ cZ oA rA σ_10, b_o cB cC cI cJ cZ oA rA σ_10, b_s cB cC cI cJ cZ oA rA σ_10, b_c cB cC cI cJ cZ oA rA σ_10, b_t cB cC cI cJ cZ oA rA σ_10, b_d cB cC cI cJ cZ oA rA σ_10]) (ws' := (b_k cB cC cI cJ cZ oA rA σ_10 ++ b_p cB cC cI cJ cZ oA rA σ_10 ++ b_o cB cC cI cJ cZ oA rA σ_10 ++ b_s cB cC cI cJ cZ oA rA σ_10 ++ b_c cB cC cI cJ cZ oA rA σ_10 ++ b_t cB cC cI cJ cZ oA rA σ_10 ++ b_d cB cC cI cJ cZ oA rA σ_10)) (hDD σ_10) fl_7 fl_7 [0, 1, 2, 3, 4, 5, 6] (by decide +kernel) rfl
      have hFc := bx_F (bs := [b_k cB cC cI cJ cZ oA rA σ_10, b_p cB cC cI cJ cZ oA rA σ_10, b_o cB cC cI cJ cZ oA rA σ_10, b_s cB cC cI cJ cZ oA rA σ_10, b_c cB cC cI cJ cZ oA rA σ_10, b_t cB cC cI cJ cZ oA rA σ_10, b_d cB cC cI cJ cZ oA rA σ_10]) (bs' := [b_k cB cC cI cJ cZ oA rA σ_10, b_p cB cC cI cJ cZ oA rA σ_10, b_o cB cC cI cJ cZ oA rA σ_10, b_s cB cC cI cJ cZ oA rA σ_10, b_c cB cC cI cJ cZ oA rA σ_10, b_t cB cC cI cJ cZ oA rA σ_10, b_d cB cC cI cJ cZ oA rA σ_10]) (wc := (b_k cB cC cI cJ cZ oA rA σ_10 ++ b_p cB cC cI cJ cZ oA rA σ_10 ++ b_o cB cC cI cJ cZ oA rA σ_10 ++ b_s cB cC cI cJ cZ oA rA σ_10 ++ b_c cB cC cI cJ cZ oA rA σ_10 ++ b_t cB cC cI cJ cZ oA rA σ_10 ++ b_d cB cC cI cJ cZ oA rA σ_10)) (hDD σ_10) hS hA fl_7 fl_7 [0, 1, 2, 3, 4, 5, 6] rfl
      refine g_ofv (wc := (b_k cB cC cI cJ cZ oA rA σ_10 ++ b_p cB cC cI cJ cZ oA rA σ_10 ++ b_o cB cC cI cJ cZ oA rA σ_10 ++ b_s cB cC cI cJ cZ oA rA σ_10 ++ b_c cB cC cI cJ cZ oA rA σ_10 ++ b_t cB cC cI cJ cZ oA rA σ_10 ++ b_d cB cC cI cJ cZ oA rA σ_10)) (wr := ([] : va_W)) hP (hDD σ_10) hS hFc (bx_ix [b_k cB cC cI cJ cZ oA rA σ_10, b_p cB cC cI cJ cZ oA rA σ_10, b_o cB cC cI cJ cZ oA rA σ_10, b_s cB cC cI cJ cZ oA rA σ_10, b_c cB cC cI cJ cZ oA rA σ_10, b_t cB cC cI cJ cZ oA rA σ_10, b_d cB cC cI cJ cZ oA rA σ_10] [0, 1, 2, 3, 4, 5, 6]) (bx_ix [b_k cB cC cI cJ cZ oA rA σ_10, b_p cB cC cI cJ cZ oA rA σ_10, b_o cB cC cI cJ cZ oA rA σ_10, b_s cB cC cI cJ cZ oA rA σ_10, b_c cB cC cI cJ cZ oA rA σ_10, b_t cB cC cI cJ cZ oA rA σ_10, b_d cB cC cI cJ cZ oA rA σ_10] []) (bx_C (bs := [b_k cB cC cI cJ cZ oA rA σ_10, b_p cB cC cI cJ cZ oA rA σ_10, b_o cB cC cI cJ cZ oA rA σ_10, b_s cB cC cI cJ cZ oA rA σ_10, b_c cB cC cI cJ cZ oA rA σ_10, b_t cB cC cI cJ cZ oA rA σ_10, b_d cB cC cI cJ cZ oA rA σ_10]) (bs' := [b_k cB cC cI cJ cZ oA rA σ_10, b_p cB cC cI cJ cZ oA rA σ_10, b_o cB cC cI cJ cZ oA rA σ_10, b_s cB cC cI cJ cZ oA rA σ_10, b_c cB cC cI cJ cZ oA rA σ_10, b_t cB cC cI cJ cZ oA rA σ_10, b_d cB cC cI cJ cZ oA rA σ_10]) (is := [0, 1, 2, 3, 4, 5, 6]) fl_7 fl_7 rfl) (bx_C (bs := [b_k cB cC cI cJ cZ oA rA σ_10, b_p cB cC cI cJ cZ oA rA σ_10, b_o cB cC cI cJ cZ oA rA σ_10, b_s cB cC cI cJ cZ oA rA σ_10, b_c cB cC cI cJ cZ oA rA σ_10, b_t cB cC cI cJ cZ oA rA σ_10, b_d cB cC cI cJ cZ oA rA σ_10]) (bs' := []) (is := []) fl_7 fl_0 rfl) (bx_n (by decide +kernel)) (bx_d (by decide +kernel)) (va_runV (As := [.int 4]) (rest := []) ⟨hx, hb, hml, hown, hts⟩ (k_X3_stop l dC dI cB cC cI cJ cZ cP oA rA H.size  4 σ_10 _ hu_14) (cwV 1 hts (g_gV wq_1154 wq_1155 wq_2088 wq_11 wq_1156) rfl rfl rfl (by decide +kernel) ⟨Nat.le_of_ble_eq_true rfl, Nat.le_of_ble_eq_true rfl⟩) (g_preV g_bl0 hK hPc hDc hS hE hFc g_to0 (q0 := 0) (ci := 3) rfl rfl) rfl rfl hl.1 rfl (lv_room (Nat.le_of_ble_eq_true rfl)) dX3_cellOp_35 ⟨Nat.le_of_ble_eq_true rfl, Nat.le_of_ble_eq_true rfl⟩) (fun u9 H locs hw9 hP' hD' hS => ?_)
      clear hPc hDc hFc
      have hP : va_P (dC, dI) vwCl (b_k cB cC cI cJ cZ oA rA u_14.2 ++ b_p cB cC cI cJ cZ oA rA u_14.2 ++ b_o cB cC cI cJ cZ oA rA u_14.2 ++ b_s cB cC cI cJ cZ oA rA u_14.2 ++ b_c cB cC cI cJ cZ oA rA u_14.2 ++ b_t cB cC cI cJ cZ oA rA u_14.2 ++ b_d cB cC cI cJ cZ oA rA u_14.2) H := hP'
      clear hP' hD'
      refine lv_goto (tgt := 77) hx hb dX3_cellOp_38 (by decide) ?_
      have h9 := Option.some.inj hF_15
      subst h9
      exact W.vret hx hb hr (fun t ht hW => ⟨⟨(), rfl, trivial, m_end ht hP, hDD _⟩, hS.F ht⟩) hS.2.2 dX3_cellOp_77
  refine lv_if_eq (tgt := 11) hx hb dX3_cellOp_1 (by decide) (fun c_26 => ?_) (fun c_26 => ?_)
  · have hF_27 := ipos c_26 hF_4
    clear hF_4
    refine lv_iconst (v := 0) hx hb dX3_cellOp_11 (by decide +kernel) ?_
    exact Jj_3 0 Γ hF_27 _ _ hP hS ls (lv_sub hl [0, 1, 2] rfl)
  · have hF_28 := ineg c_26 hF_4
    clear hF_4
    refine lv_aload_n hx hb dX3_cellOp_4 rfl (lv_at hl 0 rfl) ?_
    obtain ⟨u_29, hu_29, hF_30⟩ := Option.bind_eq_some_iff.mp hF_28
    clear hF_28
    have hPc := bx_P (bs := [b_k cB cC cI cJ cZ oA rA Γ, b_p cB cC cI cJ cZ oA rA Γ, b_o cB cC cI cJ cZ oA rA Γ, b_s cB cC cI cJ cZ oA rA Γ, b_c cB cC cI cJ cZ oA rA Γ, b_t cB cC cI cJ cZ oA rA Γ, b_d cB cC cI cJ cZ oA rA Γ]) (bs' := [b_k cB cC cI cJ cZ oA rA Γ, b_p cB cC cI cJ cZ oA rA Γ, b_o cB cC cI cJ cZ oA rA Γ, b_s cB cC cI cJ cZ oA rA Γ, b_c cB cC cI cJ cZ oA rA Γ, b_t cB cC cI cJ cZ oA rA Γ, b_d cB cC cI cJ cZ oA rA Γ]) (ws' := (b_k cB cC cI cJ cZ oA rA Γ ++ b_p cB cC cI cJ cZ oA rA Γ ++ b_o cB cC cI cJ cZ oA rA Γ ++ b_s cB cC cI cJ cZ oA rA Γ ++ b_c cB cC cI cJ cZ oA rA Γ ++ b_t cB cC cI cJ cZ oA rA Γ ++ b_d cB cC cI cJ cZ oA rA Γ)) hP fl_7 fl_7 [0, 1, 2, 3, 4, 5, 6] rfl
    have hDc := bx_D (bs := [b_k cB cC cI cJ cZ oA rA Γ, b_p cB cC cI cJ cZ oA rA Γ, b_o cB cC cI cJ cZ oA rA Γ, b_s cB cC cI cJ cZ oA rA Γ, b_c cB cC cI cJ cZ oA rA Γ, b_t cB cC cI cJ cZ oA rA Γ, b_d cB cC cI cJ cZ oA rA Γ]) (bs' := [b_k cB cC cI cJ cZ oA rA Γ, b_p cB cC cI cJ cZ oA rA Γ, b_o cB cC cI cJ cZ oA rA Γ, b_s cB cC cI cJ cZ oA rA Γ, b_c cB cC cI cJ cZ oA rA Γ, b_t cB cC cI cJ cZ oA rA Γ, b_d cB cC cI cJ cZ oA rA Γ]) (ws' := (b_k cB cC cI cJ cZ oA rA Γ ++ b_p cB cC cI cJ cZ oA rA Γ ++ b_o cB cC cI cJ cZ oA rA Γ ++ b_s cB cC cI cJ cZ oA rA Γ ++ b_c cB cC cI cJ cZ oA rA Γ ++ b_t cB cC cI cJ cZ oA rA Γ ++ b_d cB cC cI cJ cZ oA rA Γ)) (hDD Γ) fl_7 fl_7 [0, 1, 2, 3, 4, 5, 6] (by decide +kernel) rfl
    have hFc := bx_F (bs := [b_k cB cC cI cJ cZ oA rA Γ, b_p cB cC cI cJ cZ oA rA Γ, b_o cB cC cI cJ cZ oA rA Γ, b_s cB cC cI cJ cZ oA rA Γ, b_c cB cC cI cJ cZ oA rA Γ, b_t cB cC cI cJ cZ oA rA Γ, b_d cB cC cI cJ cZ oA rA Γ]) (bs' := [b_k cB cC cI cJ cZ oA rA Γ, b_p cB cC cI cJ cZ oA rA Γ, b_o cB cC cI cJ cZ oA rA Γ, b_s cB cC cI cJ cZ oA rA Γ, b_c cB cC cI cJ cZ oA rA Γ, b_t cB cC cI cJ cZ oA rA Γ, b_d cB cC cI cJ cZ oA rA Γ]) (wc := (b_k cB cC cI cJ cZ oA rA Γ ++ b_p cB cC cI cJ cZ oA rA Γ ++ b_o cB cC cI cJ cZ oA rA Γ ++ b_s cB cC cI cJ cZ oA rA Γ ++ b_c cB cC cI cJ cZ oA rA Γ ++ b_t cB cC cI cJ cZ oA rA Γ ++ b_d cB cC cI cJ cZ oA rA Γ)) (hDD Γ) hS hA fl_7 fl_7 [0, 1, 2, 3, 4, 5, 6] rfl
    refine g_ofi (wc := (b_k cB cC cI cJ cZ oA rA Γ ++ b_p cB cC cI cJ cZ oA rA Γ ++ b_o cB cC cI cJ cZ oA rA Γ ++ b_s cB cC cI cJ cZ oA rA Γ ++ b_c cB cC cI cJ cZ oA rA Γ ++ b_t cB cC cI cJ cZ oA rA Γ ++ b_d cB cC cI cJ cZ oA rA Γ)) (wr := ([] : va_W)) hP (hDD Γ) hS hFc (bx_ix [b_k cB cC cI cJ cZ oA rA Γ, b_p cB cC cI cJ cZ oA rA Γ, b_o cB cC cI cJ cZ oA rA Γ, b_s cB cC cI cJ cZ oA rA Γ, b_c cB cC cI cJ cZ oA rA Γ, b_t cB cC cI cJ cZ oA rA Γ, b_d cB cC cI cJ cZ oA rA Γ] [0, 1, 2, 3, 4, 5, 6]) (bx_ix [b_k cB cC cI cJ cZ oA rA Γ, b_p cB cC cI cJ cZ oA rA Γ, b_o cB cC cI cJ cZ oA rA Γ, b_s cB cC cI cJ cZ oA rA Γ, b_c cB cC cI cJ cZ oA rA Γ, b_t cB cC cI cJ cZ oA rA Γ, b_d cB cC cI cJ cZ oA rA Γ] []) (bx_C (bs := [b_k cB cC cI cJ cZ oA rA Γ, b_p cB cC cI cJ cZ oA rA Γ, b_o cB cC cI cJ cZ oA rA Γ, b_s cB cC cI cJ cZ oA rA Γ, b_c cB cC cI cJ cZ oA rA Γ, b_t cB cC cI cJ cZ oA rA Γ, b_d cB cC cI cJ cZ oA rA Γ]) (bs' := [b_k cB cC cI cJ cZ oA rA Γ, b_p cB cC cI cJ cZ oA rA Γ, b_o cB cC cI cJ cZ oA rA Γ, b_s cB cC cI cJ cZ oA rA Γ, b_c cB cC cI cJ cZ oA rA Γ, b_t cB cC cI cJ cZ oA rA Γ, b_d cB cC cI cJ cZ oA rA Γ]) (is := [0, 1, 2, 3, 4, 5, 6]) fl_7 fl_7 rfl) (bx_C (bs := [b_k cB cC cI cJ cZ oA rA Γ, b_p cB cC cI cJ cZ oA rA Γ, b_o cB cC cI cJ cZ oA rA Γ, b_s cB cC cI cJ cZ oA rA Γ, b_c cB cC cI cJ cZ oA rA Γ, b_t cB cC cI cJ cZ oA rA Γ, b_d cB cC cI cJ cZ oA rA Γ]) (bs' := []) (is := []) fl_7 fl_0 rfl) (bx_n (by decide +kernel)) (bx_d (by decide +kernel)) (va_runV (As := []) (rest := []) ⟨hx, hb, hml, hown, hts⟩ (k_X3_pop l dC dI cB cC cI cJ cZ cP oA rA s.heap.size  Γ _ hu_29) (cwV 0 hts (g_gV wq_1144 wq_1145 wq_2086 wq_11 wq_1146) rfl rfl rfl (by decide +kernel) ⟨Nat.le_of_ble_eq_true rfl, Nat.le_of_ble_eq_true rfl⟩) (g_preV g_bl0 hK hPc hDc hS hE hFc g_to0 (q0 := 0) (ci := 3) rfl rfl) rfl rfl hl.1 rfl (lv_room (Nat.le_of_ble_eq_true rfl)) dX3_cellOp_5 ⟨Nat.le_of_ble_eq_true rfl, Nat.le_of_ble_eq_true rfl⟩) (fun r9 u9 H locs hw9 hP' hD' hS => ?_)
    clear hPc hDc hFc
    subst hw9
    have hP : va_P (dC, dI) vwCl (b_k cB cC cI cJ cZ oA rA u_29.2 ++ b_p cB cC cI cJ cZ oA rA u_29.2 ++ b_o cB cC cI cJ cZ oA rA u_29.2 ++ b_s cB cC cI cJ cZ oA rA u_29.2 ++ b_c cB cC cI cJ cZ oA rA u_29.2 ++ b_t cB cC cI cJ cZ oA rA u_29.2 ++ b_d cB cC cI cJ cZ oA rA u_29.2) H := hP'
    clear hP' hD'
    refine lv_goto (tgt := 12) hx hb dX3_cellOp_8 (by decide) ?_
    exact Jj_3 u_29.1 u_29.2 hF_30 _ _ hP hS ls (lv_sub hl [0, 1, 2] rfl)
theorem dX3_pairOp_0 : decode cX3_pairOp 0 = .ok (.aload_n 0, 1) := by decide +kernel
theorem dX3_pairOp_1 : decode cX3_pairOp 1 = .ok (.invokevirtual 102, 3) := by decide +kernel
theorem dX3_pairOp_4 : decode cX3_pairOp 4 = .ok (.ifCond .eq 7, 3) := by decide +kernel
theorem dX3_pairOp_7 : decode cX3_pairOp 7 = .ok (.iconst 1, 1) := by decide +kernel
theorem dX3_pairOp_8 : decode cX3_pairOp 8 = .ok (.goto 4, 3) := by decide +kernel
theorem dX3_pairOp_11 : decode cX3_pairOp 11 = .ok (.iconst 0, 1) := by decide +kernel
theorem dX3_pairOp_12 : decode cX3_pairOp 12 = .ok (.istore_n 3, 1) := by decide +kernel
theorem dX3_pairOp_13 : decode cX3_pairOp 13 = .ok (.iload_n 3, 1) := by decide +kernel
theorem dX3_pairOp_14 : decode cX3_pairOp 14 = .ok (.iload_n 1, 1) := by decide +kernel
theorem dX3_pairOp_15 : decode cX3_pairOp 15 = .ok (.if_icmp .ne 21, 3) := by decide +kernel
theorem dX3_pairOp_18 : decode cX3_pairOp 18 = .ok (.aload_n 0, 1) := by decide +kernel
theorem dX3_pairOp_19 : decode cX3_pairOp 19 = .ok (.iload_n 3, 1) := by decide +kernel
theorem dX3_pairOp_20 : decode cX3_pairOp 20 = .ok (.ifCond .eq 7, 3) := by decide +kernel
theorem dX3_pairOp_23 : decode cX3_pairOp 23 = .ok (.iconst 1, 1) := by decide +kernel
theorem dX3_pairOp_24 : decode cX3_pairOp 24 = .ok (.goto 4, 3) := by decide +kernel
theorem dX3_pairOp_27 : decode cX3_pairOp 27 = .ok (.iconst 0, 1) := by decide +kernel
theorem dX3_pairOp_28 : decode cX3_pairOp 28 = .ok (.invokevirtual 113, 3) := by decide +kernel
theorem dX3_pairOp_31 : decode cX3_pairOp 31 = .ok (.aload_n 0, 1) := by decide +kernel
theorem dX3_pairOp_32 : decode cX3_pairOp 32 = .ok (.iload_n 2, 1) := by decide +kernel
theorem dX3_pairOp_33 : decode cX3_pairOp 33 = .ok (.putfield 68, 3) := by decide +kernel
theorem dX3_pairOp_36 : decode cX3_pairOp 36 = .ok (.return_, 1) := by decide +kernel
def F_X3_pairOp (p0 : Int32) (p1 : Int32) (Γ : HS) : HR :=
  (F_X3_pop Γ).bind fun u_1 =>
  bnd (fun (t_3 : Int32) (σ_4 : HS) => (
    if t_3 = p0 then (
      bnd (fun (t_10 : Int32) (σ_11 : HS) => (
        (F_X3_push t_10 σ_11).bind fun u_15 =>
        bnd (cI' u_15.2 10 9 p1) fun σ_17 =>
        some (0, σ_17)
      ) : Int32 → HS → HR) fun j_12 =>
      if t_3 = 0 then (
        j_12 0 σ_4
      ) else (
        j_12 1 σ_4
      )
    ) else (
      some (0, σ_4)
    )
  ) : Int32 → HS → HR) fun j_5 =>
  if u_1.1 = 0 then (
    j_5 0 u_1.2
  ) else (
    j_5 1 u_1.2
  )
set_option maxHeartbeats 4000000 in
set_option maxRecDepth 100000 in
theorem k_X3_pairOp (l : Launch) (dC : Nat → ClassId) (dI : Nat → Nat → Nat) (cB cC cI cJ cZ cP : ClassId) (oA : Nat → Nat) (rA : Nat → Nat → Nat) (sz : Nat)  (p0 : Int32) (p1 : Int32) (Γ : HS) (res : Int32 × HS) (hF : F_X3_pairOp p0 p1 Γ = some res) : Met l yX3_pairOp (g_ws yX3_pairOp cX3_pairOp 4 none) ({ frames := 4, cells := 0, slots := 0, locals := 101 }) (va_Pc [.ref (oA 10), .int p0, .int p1] (g_B (dC, dI) [(cB, .byte), (cC, .char), (cI, .int), (cJ, .long), (cZ, .boolean), (cP, .object "StoryHouse$Play")] sz (b_k cB cC cI cJ cZ oA rA Γ ++ b_p cB cC cI cJ cZ oA rA Γ ++ b_o cB cC cI cJ cZ oA rA Γ ++ b_s cB cC cI cJ cZ oA rA Γ ++ b_c cB cC cI cJ cZ oA rA Γ ++ b_t cB cC cI cJ cZ oA rA Γ ++ b_d cB cC cI cJ cZ oA rA Γ) g_0)) (va_Qv (fun (_ : Unit) => True) (g_Bo (dC, dI) (va_A (b_k cB cC cI cJ cZ oA rA Γ ++ b_p cB cC cI cJ cZ oA rA Γ ++ b_o cB cC cI cJ cZ oA rA Γ ++ b_s cB cC cI cJ cZ oA rA Γ ++ b_c cB cC cI cJ cZ oA rA Γ ++ b_t cB cC cI cJ cZ oA rA Γ ++ b_d cB cC cI cJ cZ oA rA Γ) sz) (fun (_ : Unit) => (b_k cB cC cI cJ cZ oA rA res.2 ++ b_p cB cC cI cJ cZ oA rA res.2 ++ b_o cB cC cI cJ cZ oA rA res.2 ++ b_s cB cC cI cJ cZ oA rA res.2 ++ b_c cB cC cI cJ cZ oA rA res.2 ++ b_t cB cC cI cJ cZ oA rA res.2 ++ b_d cB cC cI cJ cZ oA rA res.2))) (va_A (b_k cB cC cI cJ cZ oA rA Γ ++ b_p cB cC cI cJ cZ oA rA Γ ++ b_o cB cC cI cJ cZ oA rA Γ ++ b_s cB cC cI cJ cZ oA rA Γ ++ b_c cB cC cI cJ cZ oA rA Γ ++ b_t cB cC cI cJ cZ oA rA Γ ++ b_d cB cC cI cJ cZ oA rA Γ) sz)) 0 0 (va_A (b_k cB cC cI cJ cZ oA rA Γ ++ b_p cB cC cI cJ cZ oA rA Γ ++ b_o cB cC cI cJ cZ oA rA Γ ++ b_s cB cC cI cJ cZ oA rA Γ ++ b_c cB cC cI cJ cZ oA rA Γ ++ b_t cB cC cI cJ cZ oA rA Γ ++ b_d cB cC cI cJ cZ oA rA Γ) sz) := by
  refine Met.ofW (cc := cX3_pairOp) (maxL := 4) (ret := none) (by decide) rfl ?_
  intro p e s m args below meth c s₁ B hml hv
  obtain ⟨rfl, hsz, hP, hK, hD0, hE, hX⟩ := hv
  have hx := B.exec
  have hb := B.bytes
  have hr := B.returns
  have hts0 := atoms_spec (ws := g_ws yX3_pairOp cX3_pairOp 4 none) B.pre
  have hts : ∀ w ∈ lw_good, w.before ([.ref (oA 10), .int p0, .int p1] : List Value).toArray s = true := fun w z => hts0 w (List.mem_cons_of_mem _ z)
  have hown : s.vm.findClass RX3 = some m.cls := findClass_of_methodNamed B.named
  have hlocks := B.notSynchronized
  subst hsz
  have hD1 := hD0.self (sz := s.heap.size)
  generalize hAe : va_A (b_k cB cC cI cJ cZ oA rA Γ ++ b_p cB cC cI cJ cZ oA rA Γ ++ b_o cB cC cI cJ cZ oA rA Γ ++ b_s cB cC cI cJ cZ oA rA Γ ++ b_c cB cC cI cJ cZ oA rA Γ ++ b_t cB cC cI cJ cZ oA rA Γ ++ b_d cB cC cI cJ cZ oA rA Γ) s.heap.size = A at hD1 hE hX ⊢
  have hA : ∀ q : Nat, s.heap.size ≤ q → A q := fun q z => by rw [← hAe]; exact Or.inr z
  have hDD : ∀ Γ : HS, va_D A (b_k cB cC cI cJ cZ oA rA Γ ++ b_p cB cC cI cJ cZ oA rA Γ ++ b_o cB cC cI cJ cZ oA rA Γ ++ b_s cB cC cI cJ cZ oA rA Γ ++ b_c cB cC cI cJ cZ oA rA Γ ++ b_t cB cC cI cJ cZ oA rA Γ ++ b_d cB cC cI cJ cZ oA rA Γ) := fun Γ9 => va_D_fst (ws := (b_k cB cC cI cJ cZ oA rA Γ ++ b_p cB cC cI cJ cZ oA rA Γ ++ b_o cB cC cI cJ cZ oA rA Γ ++ b_s cB cC cI cJ cZ oA rA Γ ++ b_c cB cC cI cJ cZ oA rA Γ ++ b_t cB cC cI cJ cZ oA rA Γ ++ b_d cB cC cI cJ cZ oA rA Γ)) (ws' := (b_k cB cC cI cJ cZ oA rA Γ9 ++ b_p cB cC cI cJ cZ oA rA Γ9 ++ b_o cB cC cI cJ cZ oA rA Γ9 ++ b_s cB cC cI cJ cZ oA rA Γ9 ++ b_c cB cC cI cJ cZ oA rA Γ9 ++ b_t cB cC cI cJ cZ oA rA Γ9 ++ b_d cB cC cI cJ cZ oA rA Γ9)) rfl hD1
  have hN := hE.1
  have hS : va_S A s.heap s.heap [] := va_S.rf
  have hl := lv_entry ([.ref (oA 10), .int p0, .int p1]) (n := 4) (Nat.le_of_ble_eq_true rfl)
  rw [lg_entry_eq]
  generalize (lg_sl ([.ref (oA 10), .int p0, .int p1]) ++ List.replicate (4 - (lg_sl ([.ref (oA 10), .int p0, .int p1])).length) Slot.unset).toArray = ls at hl ⊢
  have hl : lv_has ls 4 [(0, .ref (oA 10)), (1, .int p0), (2, .int p1)] := hl
  unfold F_X3_pairOp at hF
  refine lv_aload_n hx hb dX3_pairOp_0 rfl (lv_at hl 0 rfl) ?_
  obtain ⟨u_1, hu_1, hF_2⟩ := Option.bind_eq_some_iff.mp hF
  clear hF
  have hPc := bx_P (bs := [b_k cB cC cI cJ cZ oA rA Γ, b_p cB cC cI cJ cZ oA rA Γ, b_o cB cC cI cJ cZ oA rA Γ, b_s cB cC cI cJ cZ oA rA Γ, b_c cB cC cI cJ cZ oA rA Γ, b_t cB cC cI cJ cZ oA rA Γ, b_d cB cC cI cJ cZ oA rA Γ]) (bs' := [b_k cB cC cI cJ cZ oA rA Γ, b_p cB cC cI cJ cZ oA rA Γ, b_o cB cC cI cJ cZ oA rA Γ, b_s cB cC cI cJ cZ oA rA Γ, b_c cB cC cI cJ cZ oA rA Γ, b_t cB cC cI cJ cZ oA rA Γ, b_d cB cC cI cJ cZ oA rA Γ]) (ws' := (b_k cB cC cI cJ cZ oA rA Γ ++ b_p cB cC cI cJ cZ oA rA Γ ++ b_o cB cC cI cJ cZ oA rA Γ ++ b_s cB cC cI cJ cZ oA rA Γ ++ b_c cB cC cI cJ cZ oA rA Γ ++ b_t cB cC cI cJ cZ oA rA Γ ++ b_d cB cC cI cJ cZ oA rA Γ)) hP fl_7 fl_7 [0, 1, 2, 3, 4, 5, 6] rfl
  have hDc := bx_D (bs := [b_k cB cC cI cJ cZ oA rA Γ, b_p cB cC cI cJ cZ oA rA Γ, b_o cB cC cI cJ cZ oA rA Γ, b_s cB cC cI cJ cZ oA rA Γ, b_c cB cC cI cJ cZ oA rA Γ, b_t cB cC cI cJ cZ oA rA Γ, b_d cB cC cI cJ cZ oA rA Γ]) (bs' := [b_k cB cC cI cJ cZ oA rA Γ, b_p cB cC cI cJ cZ oA rA Γ, b_o cB cC cI cJ cZ oA rA Γ, b_s cB cC cI cJ cZ oA rA Γ, b_c cB cC cI cJ cZ oA rA Γ, b_t cB cC cI cJ cZ oA rA Γ, b_d cB cC cI cJ cZ oA rA Γ]) (ws' := (b_k cB cC cI cJ cZ oA rA Γ ++ b_p cB cC cI cJ cZ oA rA Γ ++ b_o cB cC cI cJ cZ oA rA Γ ++ b_s cB cC cI cJ cZ oA rA Γ ++ b_c cB cC cI cJ cZ oA rA Γ ++ b_t cB cC cI cJ cZ oA rA Γ ++ b_d cB cC cI cJ cZ oA rA Γ)) (hDD Γ) fl_7 fl_7 [0, 1, 2, 3, 4, 5, 6] (by decide +kernel) rfl
  have hFc := bx_F (bs := [b_k cB cC cI cJ cZ oA rA Γ, b_p cB cC cI cJ cZ oA rA Γ, b_o cB cC cI cJ cZ oA rA Γ, b_s cB cC cI cJ cZ oA rA Γ, b_c cB cC cI cJ cZ oA rA Γ, b_t cB cC cI cJ cZ oA rA Γ, b_d cB cC cI cJ cZ oA rA Γ]) (bs' := [b_k cB cC cI cJ cZ oA rA Γ, b_p cB cC cI cJ cZ oA rA Γ, b_o cB cC cI cJ cZ oA rA Γ, b_s cB cC cI cJ cZ oA rA Γ, b_c cB cC cI cJ cZ oA rA Γ, b_t cB cC cI cJ cZ oA rA Γ, b_d cB cC cI cJ cZ oA rA Γ]) (wc := (b_k cB cC cI cJ cZ oA rA Γ ++ b_p cB cC cI cJ cZ oA rA Γ ++ b_o cB cC cI cJ cZ oA rA Γ ++ b_s cB cC cI cJ cZ oA rA Γ ++ b_c cB cC cI cJ cZ oA rA Γ ++ b_t cB cC cI cJ cZ oA rA Γ ++ b_d cB cC cI cJ cZ oA rA Γ)) (hDD Γ) hS hA fl_7 fl_7 [0, 1, 2, 3, 4, 5, 6] rfl
  refine g_ofi (wc := (b_k cB cC cI cJ cZ oA rA Γ ++ b_p cB cC cI cJ cZ oA rA Γ ++ b_o cB cC cI cJ cZ oA rA Γ ++ b_s cB cC cI cJ cZ oA rA Γ ++ b_c cB cC cI cJ cZ oA rA Γ ++ b_t cB cC cI cJ cZ oA rA Γ ++ b_d cB cC cI cJ cZ oA rA Γ)) (wr := ([] : va_W)) hP (hDD Γ) hS hFc (bx_ix [b_k cB cC cI cJ cZ oA rA Γ, b_p cB cC cI cJ cZ oA rA Γ, b_o cB cC cI cJ cZ oA rA Γ, b_s cB cC cI cJ cZ oA rA Γ, b_c cB cC cI cJ cZ oA rA Γ, b_t cB cC cI cJ cZ oA rA Γ, b_d cB cC cI cJ cZ oA rA Γ] [0, 1, 2, 3, 4, 5, 6]) (bx_ix [b_k cB cC cI cJ cZ oA rA Γ, b_p cB cC cI cJ cZ oA rA Γ, b_o cB cC cI cJ cZ oA rA Γ, b_s cB cC cI cJ cZ oA rA Γ, b_c cB cC cI cJ cZ oA rA Γ, b_t cB cC cI cJ cZ oA rA Γ, b_d cB cC cI cJ cZ oA rA Γ] []) (bx_C (bs := [b_k cB cC cI cJ cZ oA rA Γ, b_p cB cC cI cJ cZ oA rA Γ, b_o cB cC cI cJ cZ oA rA Γ, b_s cB cC cI cJ cZ oA rA Γ, b_c cB cC cI cJ cZ oA rA Γ, b_t cB cC cI cJ cZ oA rA Γ, b_d cB cC cI cJ cZ oA rA Γ]) (bs' := [b_k cB cC cI cJ cZ oA rA Γ, b_p cB cC cI cJ cZ oA rA Γ, b_o cB cC cI cJ cZ oA rA Γ, b_s cB cC cI cJ cZ oA rA Γ, b_c cB cC cI cJ cZ oA rA Γ, b_t cB cC cI cJ cZ oA rA Γ, b_d cB cC cI cJ cZ oA rA Γ]) (is := [0, 1, 2, 3, 4, 5, 6]) fl_7 fl_7 rfl) (bx_C (bs := [b_k cB cC cI cJ cZ oA rA Γ, b_p cB cC cI cJ cZ oA rA Γ, b_o cB cC cI cJ cZ oA rA Γ, b_s cB cC cI cJ cZ oA rA Γ, b_c cB cC cI cJ cZ oA rA Γ, b_t cB cC cI cJ cZ oA rA Γ, b_d cB cC cI cJ cZ oA rA Γ]) (bs' := []) (is := []) fl_7 fl_0 rfl) (bx_n (by decide +kernel)) (bx_d (by decide +kernel)) (va_runV (As := []) (rest := []) ⟨hx, hb, hml, hown, hts⟩ (k_X3_pop l dC dI cB cC cI cJ cZ cP oA rA s.heap.size  Γ _ hu_1) (cwV 0 hts (g_gV wq_1144 wq_1145 wq_2086 wq_11 wq_1146) rfl rfl rfl (by decide +kernel) ⟨Nat.le_of_ble_eq_true rfl, Nat.le_of_ble_eq_true rfl⟩) (g_preV g_bl0 hK hPc hDc hS hE hFc g_to0 (q0 := 0) (ci := 3) rfl rfl) rfl rfl hl.1 rfl (lv_room (Nat.le_of_ble_eq_true rfl)) dX3_pairOp_1 ⟨Nat.le_of_ble_eq_true rfl, Nat.le_of_ble_eq_true rfl⟩) (fun r9 u9 H locs hw9 hP' hD' hS => ?_)
  clear hPc hDc hFc
  subst hw9
  have hP : va_P (dC, dI) vwCl (b_k cB cC cI cJ cZ oA rA u_1.2 ++ b_p cB cC cI cJ cZ oA rA u_1.2 ++ b_o cB cC cI cJ cZ oA rA u_1.2 ++ b_s cB cC cI cJ cZ oA rA u_1.2 ++ b_c cB cC cI cJ cZ oA rA u_1.2 ++ b_t cB cC cI cJ cZ oA rA u_1.2 ++ b_d cB cC cI cJ cZ oA rA u_1.2) H := hP'
  clear hP' hD'
  obtain ⟨j_5, ej_5, hF_6⟩ := bnd_e hF_2
  clear hF_2
  have Jj_5 : ∀ (t_3 : Int32) (σ_4 : HS), j_5 t_3 σ_4 = some res → ∀ (H : Heap) (locs : List Loc), va_P (dC, dI) vwCl (b_k cB cC cI cJ cZ oA rA σ_4 ++ b_p cB cC cI cJ cZ oA rA σ_4 ++ b_o cB cC cI cJ cZ oA rA σ_4 ++ b_s cB cC cI cJ cZ oA rA σ_4 ++ b_c cB cC cI cJ cZ oA rA σ_4 ++ b_t cB cC cI cJ cZ oA rA σ_4 ++ b_d cB cC cI cJ cZ oA rA σ_4) H → va_S A s.heap H locs → ∀ ls : Array Slot, lv_has ls 4 [(0, .ref (oA 10)), (1, .int p0), (2, .int p1)] → W p l e (headSpec (g_ws yX3_pairOp cX3_pairOp 4 none) { frames := 4, cells := 0, slots := 0, locals := 101 }).room s m ([.ref (oA 10), .int p0, .int p1] : List Value).toArray below meth c H locs 0 0 (MQ below (va_Qv (fun (_ : Unit) => True) (g_Bo (dC, dI) A (fun (_ : Unit) => (b_k cB cC cI cJ cZ oA rA res.2 ++ b_p cB cC cI cJ cZ oA rA res.2 ++ b_o cB cC cI cJ cZ oA rA res.2 ++ b_s cB cC cI cJ cZ oA rA res.2 ++ b_c cB cC cI cJ cZ oA rA res.2 ++ b_t cB cC cI cJ cZ oA rA res.2 ++ b_d cB cC cI cJ cZ oA rA res.2))) A) ([.ref (oA 10), .int p0, .int p1] : List Value).toArray s 0 0 A) (F0 m 12 ls [.int t_3]) := by
    intro t_3 σ_4 hF0 H locs hP hS ls hl
    subst ej_5
    have hF_7 := hF0
    clear hF0
    refine lv_istore_n (lv' := [(3, .int t_3), (0, .ref (oA 10)), (1, .int p0), (2, .int p1)]) hx hb dX3_pairOp_12 rfl hl (by decide) rfl (fun ls hl => ?_)
    refine lv_iload_n hx hb dX3_pairOp_13 rfl (lv_at hl 0 rfl) ?_
    refine lv_iload_n hx hb dX3_pairOp_14 rfl (lv_at hl 2 rfl) ?_
    refine lv_icmp_ne (tgt := 36) hx hb dX3_pairOp_15 (by decide) (fun c_8 => ?_) (fun c_8 => ?_)
    · have hF_22 := ineg c_8 hF_7
      clear hF_7
      have h9 := Option.some.inj hF_22
      subst h9
      exact W.vret hx hb hr (fun t ht hW => ⟨⟨(), rfl, trivial, m_end ht hP, hDD _⟩, hS.F ht⟩) hS.2.2 dX3_pairOp_36
    · have hF_9 := ipos c_8 hF_7
      clear hF_7
      refine lv_aload_n hx hb dX3_pairOp_18 rfl (lv_at hl 1 rfl) ?_
      refine lv_iload_n hx hb dX3_pairOp_19 rfl (lv_at hl 0 rfl) ?_
      obtain ⟨j_12, ej_12, hF_13⟩ := bnd_e hF_9
      clear hF_9
      have Jj_12 : ∀ (t_10 : Int32) (σ_11 : HS), j_12 t_10 σ_11 = some res → ∀ (H : Heap) (locs : List Loc), va_P (dC, dI) vwCl (b_k cB cC cI cJ cZ oA rA σ_11 ++ b_p cB cC cI cJ cZ oA rA σ_11 ++ b_o cB cC cI cJ cZ oA rA σ_11 ++ b_s cB cC cI cJ cZ oA rA σ_11 ++ b_c cB cC cI cJ cZ oA rA σ_11 ++ b_t cB cC cI cJ cZ oA rA σ_11 ++ b_d cB cC cI cJ cZ oA rA σ_11) H → va_S A s.heap H locs → ∀ ls : Array Slot, lv_has ls 4 [(0, .ref (oA 10)), (2, .int p1)] → W p l e (headSpec (g_ws yX3_pairOp cX3_pairOp 4 none) { frames := 4, cells := 0, slots := 0, locals := 101 }).room s m ([.ref (oA 10), .int p0, .int p1] : List Value).toArray below meth c H locs 0 0 (MQ below (va_Qv (fun (_ : Unit) => True) (g_Bo (dC, dI) A (fun (_ : Unit) => (b_k cB cC cI cJ cZ oA rA res.2 ++ b_p cB cC cI cJ cZ oA rA res.2 ++ b_o cB cC cI cJ cZ oA rA res.2 ++ b_s cB cC cI cJ cZ oA rA res.2 ++ b_c cB cC cI cJ cZ oA rA res.2 ++ b_t cB cC cI cJ cZ oA rA res.2 ++ b_d cB cC cI cJ cZ oA rA res.2))) A) ([.ref (oA 10), .int p0, .int p1] : List Value).toArray s 0 0 A) (F0 m 28 ls [.int t_10, .ref (oA 10)]) := by
        intro t_10 σ_11 hF0 H locs hP hS ls hl
        subst ej_12
        have hF_14 := hF0
        clear hF0
        obtain ⟨u_15, hu_15, hF_16⟩ := Option.bind_eq_some_iff.mp hF_14
        clear hF_14
        have hPc := bx_P (bs := [b_k cB cC cI cJ cZ oA rA σ_11, b_p cB cC cI cJ cZ oA rA σ_11, b_o cB cC cI cJ cZ oA rA σ_11, b_s cB cC cI cJ cZ oA rA σ_11, b_c cB cC cI cJ cZ oA rA σ_11, b_t cB cC cI cJ cZ oA rA σ_11, b_d cB cC cI cJ cZ oA rA σ_11]) (bs' := [b_k cB cC cI cJ cZ oA rA σ_11, b_p cB cC cI cJ cZ oA rA σ_11, b_o cB cC cI cJ cZ oA rA σ_11, b_s cB cC cI cJ cZ oA rA σ_11, b_c cB cC cI cJ cZ oA rA σ_11, b_t cB cC cI cJ cZ oA rA σ_11, b_d cB cC cI cJ cZ oA rA σ_11]) (ws' := (b_k cB cC cI cJ cZ oA rA σ_11 ++ b_p cB cC cI cJ cZ oA rA σ_11 ++ b_o cB cC cI cJ cZ oA rA σ_11 ++ b_s cB cC cI cJ cZ oA rA σ_11 ++ b_c cB cC cI cJ cZ oA rA σ_11 ++ b_t cB cC cI cJ cZ oA rA σ_11 ++ b_d cB cC cI cJ cZ oA rA σ_11)) hP fl_7 fl_7 [0, 1, 2, 3, 4, 5, 6] rfl
        have hDc := bx_D (bs := [b_k cB cC cI cJ cZ oA rA σ_11, b_p cB cC cI cJ cZ oA rA σ_11, b_o cB cC cI cJ cZ oA rA σ_11, b_s cB cC cI cJ cZ oA rA σ_11, b_c cB cC cI cJ cZ oA rA σ_11, b_t cB cC cI cJ cZ oA rA σ_11, b_d cB cC cI cJ cZ oA rA σ_11]) (bs' := [b_k cB cC cI cJ cZ oA rA σ_11, b_p cB cC cI cJ cZ oA rA σ_11, b_o cB cC cI cJ cZ oA rA σ_11, b_s cB cC cI cJ cZ oA rA σ_11, b_c cB cC cI cJ cZ oA rA σ_11, b_t cB cC cI cJ cZ oA rA σ_11, b_d cB cC cI cJ cZ oA rA σ_11]) (ws' := (b_k cB cC cI cJ cZ oA rA σ_11 ++ b_p cB cC cI cJ cZ oA rA σ_11 ++ b_o cB cC cI cJ cZ oA rA σ_11 ++ b_s cB cC cI cJ cZ oA rA σ_11 ++ b_c cB cC cI cJ cZ oA rA σ_11 ++ b_t cB cC cI cJ cZ oA rA σ_11 ++ b_d cB cC cI cJ cZ oA rA σ_11)) (hDD σ_11) fl_7 fl_7 [0, 1, 2, 3, 4, 5, 6] (by decide +kernel) rfl
        have hFc := bx_F (bs := [b_k cB cC cI cJ cZ oA rA σ_11, b_p cB cC cI cJ cZ oA rA σ_11, b_o cB cC cI cJ cZ oA rA σ_11, b_s cB cC cI cJ cZ oA rA σ_11, b_c cB cC cI cJ cZ oA rA σ_11, b_t cB cC cI cJ cZ oA rA σ_11, b_d cB cC cI cJ cZ oA rA σ_11]) (bs' := [b_k cB cC cI cJ cZ oA rA σ_11, b_p cB cC cI cJ cZ oA rA σ_11, b_o cB cC cI cJ cZ oA rA σ_11, b_s cB cC cI cJ cZ oA rA σ_11, b_c cB cC cI cJ cZ oA rA σ_11, b_t cB cC cI cJ cZ oA rA σ_11, b_d cB cC cI cJ cZ oA rA σ_11]) (wc := (b_k cB cC cI cJ cZ oA rA σ_11 ++ b_p cB cC cI cJ cZ oA rA σ_11 ++ b_o cB cC cI cJ cZ oA rA σ_11 ++ b_s cB cC cI cJ cZ oA rA σ_11 ++ b_c cB cC cI cJ cZ oA rA σ_11 ++ b_t cB cC cI cJ cZ oA rA σ_11 ++ b_d cB cC cI cJ cZ oA rA σ_11)) (hDD σ_11) hS hA fl_7 fl_7 [0, 1, 2, 3, 4, 5, 6] rfl
        refine g_ofv (wc := (b_k cB cC cI cJ cZ oA rA σ_11 ++ b_p cB cC cI cJ cZ oA rA σ_11 ++ b_o cB cC cI cJ cZ oA rA σ_11 ++ b_s cB cC cI cJ cZ oA rA σ_11 ++ b_c cB cC cI cJ cZ oA rA σ_11 ++ b_t cB cC cI cJ cZ oA rA σ_11 ++ b_d cB cC cI cJ cZ oA rA σ_11)) (wr := ([] : va_W)) hP (hDD σ_11) hS hFc (bx_ix [b_k cB cC cI cJ cZ oA rA σ_11, b_p cB cC cI cJ cZ oA rA σ_11, b_o cB cC cI cJ cZ oA rA σ_11, b_s cB cC cI cJ cZ oA rA σ_11, b_c cB cC cI cJ cZ oA rA σ_11, b_t cB cC cI cJ cZ oA rA σ_11, b_d cB cC cI cJ cZ oA rA σ_11] [0, 1, 2, 3, 4, 5, 6]) (bx_ix [b_k cB cC cI cJ cZ oA rA σ_11, b_p cB cC cI cJ cZ oA rA σ_11, b_o cB cC cI cJ cZ oA rA σ_11, b_s cB cC cI cJ cZ oA rA σ_11, b_c cB cC cI cJ cZ oA rA σ_11, b_t cB cC cI cJ cZ oA rA σ_11, b_d cB cC cI cJ cZ oA rA σ_11] []) (bx_C (bs := [b_k cB cC cI cJ cZ oA rA σ_11, b_p cB cC cI cJ cZ oA rA σ_11, b_o cB cC cI cJ cZ oA rA σ_11, b_s cB cC cI cJ cZ oA rA σ_11, b_c cB cC cI cJ cZ oA rA σ_11, b_t cB cC cI cJ cZ oA rA σ_11, b_d cB cC cI cJ cZ oA rA σ_11]) (bs' := [b_k cB cC cI cJ cZ oA rA σ_11, b_p cB cC cI cJ cZ oA rA σ_11, b_o cB cC cI cJ cZ oA rA σ_11, b_s cB cC cI cJ cZ oA rA σ_11, b_c cB cC cI cJ cZ oA rA σ_11, b_t cB cC cI cJ cZ oA rA σ_11, b_d cB cC cI cJ cZ oA rA σ_11]) (is := [0, 1, 2, 3, 4, 5, 6]) fl_7 fl_7 rfl) (bx_C (bs := [b_k cB cC cI cJ cZ oA rA σ_11, b_p cB cC cI cJ cZ oA rA σ_11, b_o cB cC cI cJ cZ oA rA σ_11, b_s cB cC cI cJ cZ oA rA σ_11, b_c cB cC cI cJ cZ oA rA σ_11, b_t cB cC cI cJ cZ oA rA σ_11, b_d cB cC cI cJ cZ oA rA σ_11]) (bs' := []) (is := []) fl_7 fl_0 rfl) (bx_n (by decide +kernel)) (bx_d (by decide +kernel)) (va_runV (As := [.int t_10]) (rest := []) ⟨hx, hb, hml, hown, hts⟩ (k_X3_push l dC dI cB cC cI cJ cZ cP oA rA H.size  t_10 σ_11 _ hu_15) (cwV 1 hts (g_gV wq_1141 wq_1142 wq_2085 wq_11 wq_1143) rfl rfl rfl (by decide +kernel) ⟨Nat.le_of_ble_eq_true rfl, Nat.le_of_ble_eq_true rfl⟩) (g_preV g_bl0 hK hPc hDc hS hE hFc g_to0 (q0 := 0) (ci := 3) rfl rfl) rfl rfl hl.1 rfl (lv_room (Nat.le_of_ble_eq_true rfl)) dX3_pairOp_28 ⟨Nat.le_of_ble_eq_true rfl, Nat.le_of_ble_eq_true rfl⟩) (fun u9 H locs hw9 hP' hD' hS => ?_)
        clear hPc hDc hFc
        have hP : va_P (dC, dI) vwCl (b_k cB cC cI cJ cZ oA rA u_15.2 ++ b_p cB cC cI cJ cZ oA rA u_15.2 ++ b_o cB cC cI cJ cZ oA rA u_15.2 ++ b_s cB cC cI cJ cZ oA rA u_15.2 ++ b_c cB cC cI cJ cZ oA rA u_15.2 ++ b_t cB cC cI cJ cZ oA rA u_15.2 ++ b_d cB cC cI cJ cZ oA rA u_15.2) H := hP'
        clear hP' hD'
        refine lv_aload_n hx hb dX3_pairOp_31 rfl (lv_at hl 0 rfl) ?_
        refine lv_iload_n hx hb dX3_pairOp_32 rfl (lv_at hl 1 rfl) ?_
        obtain ⟨σ_17, eσ_17, hF_18⟩ := bnd_e hF_16
        clear hF_16
        refine va_put (D := (dC, dI)) (ci := 3) (v := .int p1) (ty := .int) (C := RX3) (T := TX3) (N := 16) hx hb hts ii_X3 tyX3 tyX3_ok nmX3 hown hK hP (hDD _) hS 0 rfl rfl 9 (by decide) (hts (.fieldLink RX3 68 "StoryHouse$Machine" "pc" "I") wq_273) (fun _ h9 => h9) rfl (by decide +kernel) rfl rfl (Nat.le_of_ble_eq_true rfl) dX3_pairOp_33 (fun H locs hP' _ hS => ?_)
        have hP : va_P (dC, dI) vwCl (b_k cB cC cI cJ cZ oA rA σ_17 ++ b_p cB cC cI cJ cZ oA rA σ_17 ++ b_o cB cC cI cJ cZ oA rA σ_17 ++ b_s cB cC cI cJ cZ oA rA σ_17 ++ b_c cB cC cI cJ cZ oA rA σ_17 ++ b_t cB cC cI cJ cZ oA rA σ_17 ++ b_d cB cC cI cJ cZ oA rA σ_17) H := by rw [eσ_17]; exact cs_kposctd_k_9 ▸ hP'
        clear hP'
        have h9 := Option.some.inj hF_18
        subst h9
        exact W.vret hx hb hr (fun t ht hW => ⟨⟨(), rfl, trivial, m_end ht hP, hDD _⟩, hS.F ht⟩) hS.2.2 dX3_pairOp_36
      refine lv_if_eq (tgt := 27) hx hb dX3_pairOp_20 (by decide) (fun c_19 => ?_) (fun c_19 => ?_)
      · have hF_20 := ipos c_19 hF_13
        clear hF_13
        refine lv_iconst (v := 0) hx hb dX3_pairOp_27 (by decide +kernel) ?_
        exact Jj_12 0 σ_4 hF_20 _ _ hP hS ls (lv_sub hl [1, 3] rfl)
      · have hF_21 := ineg c_19 hF_13
        clear hF_13
        refine lv_iconst (v := 1) hx hb dX3_pairOp_23 (by decide +kernel) ?_
        refine lv_goto (tgt := 28) hx hb dX3_pairOp_24 (by decide) ?_
        exact Jj_12 1 σ_4 hF_21 _ _ hP hS ls (lv_sub hl [1, 3] rfl)
  refine lv_if_eq (tgt := 11) hx hb dX3_pairOp_4 (by decide) (fun c_23 => ?_) (fun c_23 => ?_)
  · have hF_24 := ipos c_23 hF_6
    clear hF_6
    refine lv_iconst (v := 0) hx hb dX3_pairOp_11 (by decide +kernel) ?_
    exact Jj_5 0 u_1.2 hF_24 _ _ hP hS ls (lv_sub hl [0, 1, 2] rfl)
  · have hF_25 := ineg c_23 hF_6
    clear hF_6
    refine lv_iconst (v := 1) hx hb dX3_pairOp_7 (by decide +kernel) ?_
    refine lv_goto (tgt := 12) hx hb dX3_pairOp_8 (by decide) ?_
    exact Jj_5 1 u_1.2 hF_25 _ _ hP hS ls (lv_sub hl [0, 1, 2] rfl)
