/-! methods of the class: what each does is its function -/
theorem dX4_tellItem_0 : decode cX4_tellItem 0 = .ok (.aload_n 0, 1) := by decide +kernel
theorem dX4_tellItem_1 : decode cX4_tellItem 1 = .ok (.getfield 32, 3) := by decide +kernel
theorem dX4_tellItem_4 : decode cX4_tellItem 4 = .ok (.iload_n 1, 1) := by decide +kernel
theorem dX4_tellItem_5 : decode cX4_tellItem 5 = .ok (.invokevirtual 119, 3) := by decide +kernel
theorem dX4_tellItem_8 : decode cX4_tellItem 8 = .ok (.istore 5, 2) := by decide +kernel
theorem dX4_tellItem_10 : decode cX4_tellItem 10 = .ok (.aload_n 0, 1) := by decide +kernel
theorem dX4_tellItem_11 : decode cX4_tellItem 11 = .ok (.getfield 11, 3) := by decide +kernel
theorem dX4_tellItem_14 : decode cX4_tellItem 14 = .ok (.iload 5, 2) := by decide +kernel
theorem dX4_tellItem_16 : decode cX4_tellItem 16 = .ok (.invokestatic 122, 3) := by decide +kernel
theorem dX4_tellItem_19 : decode cX4_tellItem 19 = .ok (.iload_n 1, 1) := by decide +kernel
theorem dX4_tellItem_20 : decode cX4_tellItem 20 = .ok (.if_icmp .ge 12, 3) := by decide +kernel
theorem dX4_tellItem_23 : decode cX4_tellItem 23 = .ok (.aload_n 0, 1) := by decide +kernel
theorem dX4_tellItem_24 : decode cX4_tellItem 24 = .ok (.iconst 4, 1) := by decide +kernel
theorem dX4_tellItem_25 : decode cX4_tellItem 25 = .ok (.iload_n 1, 1) := by decide +kernel
theorem dX4_tellItem_26 : decode cX4_tellItem 26 = .ok (.invokevirtual 84, 3) := by decide +kernel
theorem dX4_tellItem_29 : decode cX4_tellItem 29 = .ok (.goto 93, 3) := by decide +kernel
theorem dX4_tellItem_32 : decode cX4_tellItem 32 = .ok (.aload_n 0, 1) := by decide +kernel
theorem dX4_tellItem_33 : decode cX4_tellItem 33 = .ok (.getfield 36, 3) := by decide +kernel
theorem dX4_tellItem_36 : decode cX4_tellItem 36 = .ok (.getfield 165, 3) := by decide +kernel
theorem dX4_tellItem_39 : decode cX4_tellItem 39 = .ok (.iload_n 3, 1) := by decide +kernel
theorem dX4_tellItem_40 : decode cX4_tellItem 40 = .ok (.invokestatic 122, 3) := by decide +kernel
theorem dX4_tellItem_43 : decode cX4_tellItem 43 = .ok (.iload 4, 2) := by decide +kernel
theorem dX4_tellItem_45 : decode cX4_tellItem 45 = .ok (.if_icmp .lt 12, 3) := by decide +kernel
theorem dX4_tellItem_48 : decode cX4_tellItem 48 = .ok (.aload_n 0, 1) := by decide +kernel
theorem dX4_tellItem_49 : decode cX4_tellItem 49 = .ok (.iconst 5, 1) := by decide +kernel
theorem dX4_tellItem_50 : decode cX4_tellItem 50 = .ok (.iload_n 1, 1) := by decide +kernel
theorem dX4_tellItem_51 : decode cX4_tellItem 51 = .ok (.invokevirtual 84, 3) := by decide +kernel
theorem dX4_tellItem_54 : decode cX4_tellItem 54 = .ok (.goto 68, 3) := by decide +kernel
theorem dX4_tellItem_57 : decode cX4_tellItem 57 = .ok (.aload_n 0, 1) := by decide +kernel
theorem dX4_tellItem_58 : decode cX4_tellItem 58 = .ok (.getfield 36, 3) := by decide +kernel
theorem dX4_tellItem_61 : decode cX4_tellItem 61 = .ok (.getfield 165, 3) := by decide +kernel
theorem dX4_tellItem_64 : decode cX4_tellItem 64 = .ok (.iload_n 3, 1) := by decide +kernel
theorem dX4_tellItem_65 : decode cX4_tellItem 65 = .ok (.aload_n 0, 1) := by decide +kernel
theorem dX4_tellItem_66 : decode cX4_tellItem 66 = .ok (.getfield 36, 3) := by decide +kernel
theorem dX4_tellItem_69 : decode cX4_tellItem 69 = .ok (.getfield 165, 3) := by decide +kernel
theorem dX4_tellItem_72 : decode cX4_tellItem 72 = .ok (.iload_n 3, 1) := by decide +kernel
theorem dX4_tellItem_73 : decode cX4_tellItem 73 = .ok (.invokestatic 122, 3) := by decide +kernel
theorem dX4_tellItem_76 : decode cX4_tellItem 76 = .ok (.iconst 1, 1) := by decide +kernel
theorem dX4_tellItem_77 : decode cX4_tellItem 77 = .ok (.iadd, 1) := by decide +kernel
theorem dX4_tellItem_78 : decode cX4_tellItem 78 = .ok (.invokestatic 112, 3) := by decide +kernel
theorem dX4_tellItem_81 : decode cX4_tellItem 81 = .ok (.aload_n 0, 1) := by decide +kernel
theorem dX4_tellItem_82 : decode cX4_tellItem 82 = .ok (.getfield 17, 3) := by decide +kernel
theorem dX4_tellItem_85 : decode cX4_tellItem 85 = .ok (.iload 5, 2) := by decide +kernel
theorem dX4_tellItem_87 : decode cX4_tellItem 87 = .ok (.iload_n 2, 1) := by decide +kernel
theorem dX4_tellItem_88 : decode cX4_tellItem 88 = .ok (.invokestatic 112, 3) := by decide +kernel
theorem dX4_tellItem_91 : decode cX4_tellItem 91 = .ok (.aload_n 0, 1) := by decide +kernel
theorem dX4_tellItem_92 : decode cX4_tellItem 92 = .ok (.getfield 20, 3) := by decide +kernel
theorem dX4_tellItem_95 : decode cX4_tellItem 95 = .ok (.iload 5, 2) := by decide +kernel
theorem dX4_tellItem_97 : decode cX4_tellItem 97 = .ok (.aload_n 0, 1) := by decide +kernel
theorem dX4_tellItem_98 : decode cX4_tellItem 98 = .ok (.getfield 36, 3) := by decide +kernel
theorem dX4_tellItem_101 : decode cX4_tellItem 101 = .ok (.getfield 165, 3) := by decide +kernel
theorem dX4_tellItem_104 : decode cX4_tellItem 104 = .ok (.iload_n 3, 1) := by decide +kernel
theorem dX4_tellItem_105 : decode cX4_tellItem 105 = .ok (.invokestatic 122, 3) := by decide +kernel
theorem dX4_tellItem_108 : decode cX4_tellItem 108 = .ok (.iload_n 2, 1) := by decide +kernel
theorem dX4_tellItem_109 : decode cX4_tellItem 109 = .ok (.iconst 3, 1) := by decide +kernel
theorem dX4_tellItem_110 : decode cX4_tellItem 110 = .ok (.if_icmp .gt 7, 3) := by decide +kernel
theorem dX4_tellItem_113 : decode cX4_tellItem 113 = .ok (.iconst 0, 1) := by decide +kernel
theorem dX4_tellItem_114 : decode cX4_tellItem 114 = .ok (.goto 4, 3) := by decide +kernel
theorem dX4_tellItem_117 : decode cX4_tellItem 117 = .ok (.iconst 1, 1) := by decide +kernel
theorem dX4_tellItem_118 : decode cX4_tellItem 118 = .ok (.isub, 1) := by decide +kernel
theorem dX4_tellItem_119 : decode cX4_tellItem 119 = .ok (.invokestatic 112, 3) := by decide +kernel
theorem dX4_tellItem_122 : decode cX4_tellItem 122 = .ok (.return_, 1) := by decide +kernel
def F_X4_tellItem (p0 : Int32) (p1 : Int32) (p2 : Int32) (p3 : Int32) (Γ : HS) : HR :=
  (F_X10_worthOf p0 Γ).bind fun u_1 =>
  bnd (mrg (fun j => j == 1) Γ u_1.2) fun σ_3 =>
  bnd ((g_at 4500 ((σ_3 3).2.1 2) u_1.1)) fun (x_5 : Int32) =>
  if p0 ≤ x_5 then (
    bnd ((g_at 7 ((σ_3 4).2.1 0) p2)) fun (x_9 : Int32) =>
    if x_9 < p3 then (
      bnd ((g_at 7 ((σ_3 4).2.1 0) p2)) fun (x_13 : Int32) =>
      bnd ((x_13 + 1)) fun (x_15 : Int32) =>
      bnd (cA' σ_3 4 0 (g_put 7 ((σ_3 4).2.1 0) p2 x_15)) fun σ_17 =>
      bnd (cA' σ_17 3 3 (g_put 4500 ((σ_17 3).2.1 3) u_1.1 p1)) fun σ_19 =>
      bnd ((g_at 7 ((σ_19 4).2.1 0) p2)) fun (x_21 : Int32) =>
      bnd (fun (t_23 : Int32) (σ_24 : HS) => (
        bnd ((x_21 - t_23)) fun (x_28 : Int32) =>
        bnd (cA' σ_24 3 4 (g_put 4500 ((σ_24 3).2.1 4) u_1.1 x_28)) fun σ_30 =>
        some (0, σ_30)
      ) : Int32 → HS → HR) fun j_25 =>
      if 3 < p1 then (
        j_25 1 σ_19
      ) else (
        j_25 0 σ_19
      )
    ) else (
      (F_X4_fail 5 p0 σ_3).bind fun u_36 =>
      some (0, u_36.2)
    )
  ) else (
    (F_X4_fail 4 p0 σ_3).bind fun u_39 =>
    some (0, u_39.2)
  )
set_option maxHeartbeats 4000000 in
set_option maxRecDepth 100000 in
theorem k_X4_tellItem (l : Launch) (dC : Nat → ClassId) (dI : Nat → Nat → Nat) (cB cC cI cJ cZ cP : ClassId) (oA : Nat → Nat) (rA : Nat → Nat → Nat) (sz : Nat)  (p0 : Int32) (p1 : Int32) (p2 : Int32) (p3 : Int32) (Γ : HS) (res : Int32 × HS) (hF : F_X4_tellItem p0 p1 p2 p3 Γ = some res) : Met l yX4_tellItem (g_ws yX4_tellItem cX4_tellItem 6 none) ({ frames := 5, cells := 0, slots := 0, locals := 124 }) (va_Pc [.ref (oA 3), .int p0, .int p1, .int p2, .int p3] (g_B (dC, dI) [(cB, .byte), (cC, .char), (cI, .int), (cJ, .long), (cZ, .boolean), (cP, .object "StoryHouse$Play")] sz (b_m cB cC cI cJ cZ oA rA Γ ++ b_w cB cC cI cJ cZ oA rA Γ ++ b_s cB cC cI cJ cZ oA rA Γ ++ b_c cB cC cI cJ cZ oA rA Γ ++ b_t cB cC cI cJ cZ oA rA Γ ++ b_d cB cC cI cJ cZ oA rA Γ) g_0)) (va_Qv (fun (_ : Unit) => True) (g_Bo (dC, dI) (va_A (b_m cB cC cI cJ cZ oA rA Γ ++ b_w cB cC cI cJ cZ oA rA Γ ++ b_s cB cC cI cJ cZ oA rA Γ ++ b_c cB cC cI cJ cZ oA rA Γ ++ b_t cB cC cI cJ cZ oA rA Γ ++ b_d cB cC cI cJ cZ oA rA Γ) sz) (fun (_ : Unit) => (b_m cB cC cI cJ cZ oA rA res.2 ++ b_w cB cC cI cJ cZ oA rA res.2 ++ b_s cB cC cI cJ cZ oA rA res.2 ++ b_c cB cC cI cJ cZ oA rA res.2 ++ b_t cB cC cI cJ cZ oA rA res.2 ++ b_d cB cC cI cJ cZ oA rA res.2))) (va_A (b_m cB cC cI cJ cZ oA rA Γ ++ b_w cB cC cI cJ cZ oA rA Γ ++ b_s cB cC cI cJ cZ oA rA Γ ++ b_c cB cC cI cJ cZ oA rA Γ ++ b_t cB cC cI cJ cZ oA rA Γ ++ b_d cB cC cI cJ cZ oA rA Γ) sz)) 0 0 (va_A (b_m cB cC cI cJ cZ oA rA Γ ++ b_w cB cC cI cJ cZ oA rA Γ ++ b_s cB cC cI cJ cZ oA rA Γ ++ b_c cB cC cI cJ cZ oA rA Γ ++ b_t cB cC cI cJ cZ oA rA Γ ++ b_d cB cC cI cJ cZ oA rA Γ) sz) := by
  refine Met.ofW (cc := cX4_tellItem) (maxL := 6) (ret := none) (by decide) rfl ?_
  intro p e s m args below meth c s₁ B hml hv
  obtain ⟨rfl, hsz, hP, hK, hD0, hE, hX⟩ := hv
  have hx := B.exec
  have hb := B.bytes
  have hr := B.returns
  have hts0 := atoms_spec (ws := g_ws yX4_tellItem cX4_tellItem 6 none) B.pre
  have hts : ∀ w ∈ lw_good, w.before ([.ref (oA 3), .int p0, .int p1, .int p2, .int p3] : List Value).toArray s = true := fun w z => hts0 w (List.mem_cons_of_mem _ z)
  have hown : s.vm.findClass RX4 = some m.cls := findClass_of_methodNamed B.named
  have hlocks := B.notSynchronized
  subst hsz
  have hD1 := hD0.self (sz := s.heap.size)
  generalize hAe : va_A (b_m cB cC cI cJ cZ oA rA Γ ++ b_w cB cC cI cJ cZ oA rA Γ ++ b_s cB cC cI cJ cZ oA rA Γ ++ b_c cB cC cI cJ cZ oA rA Γ ++ b_t cB cC cI cJ cZ oA rA Γ ++ b_d cB cC cI cJ cZ oA rA Γ) s.heap.size = A at hD1 hE hX ⊢
  have hA : ∀ q : Nat, s.heap.size ≤ q → A q := fun q z => by rw [← hAe]; exact Or.inr z
  have hDD : ∀ Γ : HS, va_D A (b_m cB cC cI cJ cZ oA rA Γ ++ b_w cB cC cI cJ cZ oA rA Γ ++ b_s cB cC cI cJ cZ oA rA Γ ++ b_c cB cC cI cJ cZ oA rA Γ ++ b_t cB cC cI cJ cZ oA rA Γ ++ b_d cB cC cI cJ cZ oA rA Γ) := fun Γ9 => va_D_fst (ws := (b_m cB cC cI cJ cZ oA rA Γ ++ b_w cB cC cI cJ cZ oA rA Γ ++ b_s cB cC cI cJ cZ oA rA Γ ++ b_c cB cC cI cJ cZ oA rA Γ ++ b_t cB cC cI cJ cZ oA rA Γ ++ b_d cB cC cI cJ cZ oA rA Γ)) (ws' := (b_m cB cC cI cJ cZ oA rA Γ9 ++ b_w cB cC cI cJ cZ oA rA Γ9 ++ b_s cB cC cI cJ cZ oA rA Γ9 ++ b_c cB cC cI cJ cZ oA rA Γ9 ++ b_t cB cC cI cJ cZ oA rA Γ9 ++ b_d cB cC cI cJ cZ oA rA Γ9)) rfl hD1
  have hN := hE.1
  have hS : va_S A s.heap s.heap [] := va_S.rf
  have hl := lv_entry ([.ref (oA 3), .int p0, .int p1, .int p2, .int p3]) (n := 6) (Nat.le_of_ble_eq_true rfl)
  rw [lg_entry_eq]
  generalize (lg_sl ([.ref (oA 3), .int p0, .int p1, .int p2, .int p3]) ++ List.replicate (6 - (lg_sl ([.ref (oA 3), .int p0, .int p1, .int p2, .int p3])).length) Slot.unset).toArray = ls at hl ⊢
  have hl : lv_has ls 6 [(0, .ref (oA 3)), (1, .int p0), (2, .int p1), (3, .int p2), (4, .int p3)] := hl
  unfold F_X4_tellItem at hF
  refine lv_aload_n hx hb dX4_tellItem_0 rfl (lv_at hl 0 rfl) ?_
  refine va_get (D := (dC, dI)) (ci := 4) (v := .ref (oA 1)) (C := RX4) (T := TX4) (N := 18) hx hb hts ii_X4 hown hK hP 0 rfl rfl 0 (by decide) (hts (.fieldLink RX4 32 "StoryHouse$Meanings" "words" "LStoryHouse$Words;") wq_86) (fun _ h9 => h9) rfl dX4_tellItem_1 ?_
  refine lv_iload_n hx hb dX4_tellItem_4 rfl (lv_at hl 1 rfl) ?_
  obtain ⟨u_1, hu_1, hF_2⟩ := Option.bind_eq_some_iff.mp hF
  clear hF
  have hPc := hP.sub (ws' := (b_w cB cC cI cJ cZ oA rA Γ)) [7, 8, 9, 10, 11, 12, 13, 14, 15] rfl
  have hDc := (hDD Γ).sub (ws' := (b_w cB cC cI cJ cZ oA rA Γ)) [7, 8, 9, 10, 11, 12, 13, 14, 15] (by decide +kernel) rfl
  have hFc := va_free (wc := (b_w cB cC cI cJ cZ oA rA Γ)) (hDD Γ) hS hA [7, 8, 9, 10, 11, 12, 13, 14, 15] rfl
  refine g_ofi (wc := (b_w cB cC cI cJ cZ oA rA Γ)) (wr := (b_m cB cC cI cJ cZ oA rA Γ ++ b_s cB cC cI cJ cZ oA rA Γ ++ b_c cB cC cI cJ cZ oA rA Γ ++ b_t cB cC cI cJ cZ oA rA Γ ++ b_d cB cC cI cJ cZ oA rA Γ)) hP (hDD Γ) hS hFc [7, 8, 9, 10, 11, 12, 13, 14, 15] [0, 1, 2, 3, 4, 5, 6, 16, 17, 18, 19, 20, 21, 22, 23, 24, 25, 26, 27, 28, 29, 30, 31, 32, 33, 34, 35, 36, 37, 38, 39, 40, 41, 42, 43, 44, 45, 46] rfl rfl (by decide +kernel) (by decide +kernel) (va_runV (As := [.int p0]) (rest := []) ⟨hx, hb, hml, hown, hts⟩ (k_X10_worthOf l dC dI cB cC cI cJ cZ cP oA rA s.heap.size  p0 Γ _ hu_1) (cwV 1 hts (g_gV wq_715 wq_653 wq_654 wq_2 wq_655) rfl rfl rfl (by decide +kernel) ⟨Nat.le_of_ble_eq_true rfl, Nat.le_of_ble_eq_true rfl⟩) (g_preV g_bl0 hK hPc hDc hS hE hFc g_to0 (q0 := 0) (ci := 10) rfl rfl) rfl rfl hl.1 rfl (lv_room (Nat.le_of_ble_eq_true rfl)) dX4_tellItem_5 ⟨Nat.le_of_ble_eq_true rfl, Nat.le_of_ble_eq_true rfl⟩) (fun r9 u9 H locs hw9 hP' hD' hS => ?_)
  clear hPc hDc hFc
  subst hw9
  obtain ⟨σ_3, eσ_3, hF_4⟩ := bnd_e hF_2
  clear hF_2
  have hP : va_P (dC, dI) vwCl (b_m cB cC cI cJ cZ oA rA σ_3 ++ b_w cB cC cI cJ cZ oA rA σ_3 ++ b_s cB cC cI cJ cZ oA rA σ_3 ++ b_c cB cC cI cJ cZ oA rA σ_3 ++ b_t cB cC cI cJ cZ oA rA σ_3 ++ b_d cB cC cI cJ cZ oA rA σ_3) H := by rw [eσ_3]; exact hP'.sub [0, 1, 2, 3, 4, 5, 6, 38, 39, 40, 41, 42, 43, 44, 45, 46, 7, 8, 9, 10, 11, 12, 13, 14, 15, 16, 17, 18, 19, 20, 21, 22, 23, 24, 25, 26, 27, 28, 29, 30, 31, 32, 33, 34, 35, 36, 37] rfl
  clear hP' hD'
  refine lv_istore (lv' := [(5, .int u_1.1), (0, .ref (oA 3)), (1, .int p0), (2, .int p1), (3, .int p2), (4, .int p3)]) hx hb dX4_tellItem_8 hl (by decide) rfl (fun ls hl => ?_)
  refine lv_aload_n hx hb dX4_tellItem_10 rfl (lv_at hl 1 rfl) ?_
  refine va_get (D := (dC, dI)) (ci := 4) (v := .ref (rA 3 2)) (C := RX4) (T := TX4) (N := 18) hx hb hts ii_X4 hown hK hP 0 rfl rfl 2 (by decide) (hts (.fieldLink RX4 11 "StoryHouse$Meanings" "toldAt" "[I") wq_88) (fun _ h9 => h9) rfl dX4_tellItem_11 ?_
  refine lv_iload hx hb dX4_tellItem_14 (lv_at hl 0 rfl) ?_
  have hPc := hP.sub (ws' := [(rA 3 2, .inl (cI, 4500, .inl ((σ_3 3).2.1 2)))]) [1] rfl
  have hDc := (hDD σ_3).sub (ws' := [(rA 3 2, .inl (cI, 4500, .inl ((σ_3 3).2.1 2)))]) [1] (by decide +kernel) rfl
  have hFc := va_free (wc := [(rA 3 2, .inl (cI, 4500, .inl ((σ_3 3).2.1 2)))]) (hDD σ_3) hS hA [1] rfl
  refine g_ofi (wc := [(rA 3 2, .inl (cI, 4500, .inl ((σ_3 3).2.1 2)))]) (wr := (((b_m cB cC cI cJ cZ oA rA σ_3 ++ b_w cB cC cI cJ cZ oA rA σ_3 ++ b_s cB cC cI cJ cZ oA rA σ_3 ++ b_c cB cC cI cJ cZ oA rA σ_3 ++ b_t cB cC cI cJ cZ oA rA σ_3 ++ b_d cB cC cI cJ cZ oA rA σ_3)).eraseIdx 1)) hP (hDD σ_3) hS hFc [1] [0, 2, 3, 4, 5, 6, 7, 8, 9, 10, 11, 12, 13, 14, 15, 16, 17, 18, 19, 20, 21, 22, 23, 24, 25, 26, 27, 28, 29, 30, 31, 32, 33, 34, 35, 36, 37, 38, 39, 40, 41, 42, 43, 44, 45, 46] rfl rfl (by decide +kernel) (by decide +kernel) (va_runSN (As := [.ref (rA 3 2), .int u_1.1]) (rest := []) ⟨hx, hb, hml, hown, hts⟩ (c_X11_at l dC dI cB cC cI cJ cZ cP H.size (rA 3 2) u_1.1 4500 ((σ_3 3).2.1 2) (by decide)) ⟨va_cnB 2 hts (g_gA wq_407) rfl rfl rfl (hN.at 24 rfl) (hts (.initialized RX11) wq_1) (by decide +kernel) ⟨Nat.le_of_ble_eq_true rfl, Nat.le_of_ble_eq_true rfl⟩, (hts (.static yX11_at) wq_406), trivial⟩ (g_preS g_bl0 hK hPc hDc hS hE hFc g_to0) rfl rfl hl.1 rfl (lv_room (Nat.le_of_ble_eq_true rfl)) dX4_tellItem_16 ⟨Nat.le_of_ble_eq_true rfl, Nat.le_of_ble_eq_true rfl⟩) (fun r9 u9 H locs hw9 hP' hD' hS => ?_)
  clear hPc hDc hFc hD'
  have hP : va_P (dC, dI) vwCl (b_m cB cC cI cJ cZ oA rA σ_3 ++ b_w cB cC cI cJ cZ oA rA σ_3 ++ b_s cB cC cI cJ cZ oA rA σ_3 ++ b_c cB cC cI cJ cZ oA rA σ_3 ++ b_t cB cC cI cJ cZ oA rA σ_3 ++ b_d cB cC cI cJ cZ oA rA σ_3) H := hP'.sub [0, 46, 1, 2, 3, 4, 5, 6, 7, 8, 9, 10, 11, 12, 13, 14, 15, 16, 17, 18, 19, 20, 21, 22, 23, 24, 25, 26, 27, 28, 29, 30, 31, 32, 33, 34, 35, 36, 37, 38, 39, 40, 41, 42, 43, 44, 45] rfl
  clear hP'
  subst hw9
  obtain ⟨x_5, ex_5, hF_6⟩ := bnd_e hF_4
  clear hF_4
  refine m_top ex_5 ?_
  refine lv_iload_n hx hb dX4_tellItem_19 rfl (lv_at hl 2 rfl) ?_
  refine lv_icmp_ge (tgt := 32) hx hb dX4_tellItem_20 (by decide) (fun c_7 => ?_) (fun c_7 => ?_)
  · have hF_8 := ipos c_7 hF_6
    clear hF_6
    refine lv_aload_n hx hb dX4_tellItem_32 rfl (lv_at hl 1 rfl) ?_
    refine va_get (D := (dC, dI)) (ci := 4) (v := .ref (oA 4)) (C := RX4) (T := TX4) (N := 18) hx hb hts ii_X4 hown hK hP 0 rfl rfl 1 (by decide) (hts (.fieldLink RX4 36 "StoryHouse$Meanings" "story" "LStoryHouse$Story;") wq_87) (fun _ h9 => h9) rfl dX4_tellItem_33 ?_
    refine va_get (D := (dC, dI)) (ci := 7) (v := .ref (rA 4 0)) (C := RX7) (T := TX7) (N := 19) hx hb hts ii_X7 hown hK hP 16 rfl rfl 0 (by decide) (hts (.fieldLink RX4 165 "StoryHouse$Story" "counts" "[I") wq_154) (fun _ h9 => h9) rfl dX4_tellItem_36 ?_
    refine lv_iload_n hx hb dX4_tellItem_39 rfl (lv_at hl 4 rfl) ?_
    have hPc := hP.sub (ws' := [(rA 4 0, .inl (cI, 7, .inl ((σ_3 4).2.1 0)))]) [17] rfl
    have hDc := (hDD σ_3).sub (ws' := [(rA 4 0, .inl (cI, 7, .inl ((σ_3 4).2.1 0)))]) [17] (by decide +kernel) rfl
    have hFc := va_free (wc := [(rA 4 0, .inl (cI, 7, .inl ((σ_3 4).2.1 0)))]) (hDD σ_3) hS hA [17] rfl
    refine g_ofi (wc := [(rA 4 0, .inl (cI, 7, .inl ((σ_3 4).2.1 0)))]) (wr := (((b_m cB cC cI cJ cZ oA rA σ_3 ++ b_w cB cC cI cJ cZ oA rA σ_3 ++ b_s cB cC cI cJ cZ oA rA σ_3 ++ b_c cB cC cI cJ cZ oA rA σ_3 ++ b_t cB cC cI cJ cZ oA rA σ_3 ++ b_d cB cC cI cJ cZ oA rA σ_3)).eraseIdx 17)) hP (hDD σ_3) hS hFc [17] [0, 1, 2, 3, 4, 5, 6, 7, 8, 9, 10, 11, 12, 13, 14, 15, 16, 18, 19, 20, 21, 22, 23, 24, 25, 26, 27, 28, 29, 30, 31, 32, 33, 34, 35, 36, 37, 38, 39, 40, 41, 42, 43, 44, 45, 46] rfl rfl (by decide +kernel) (by decide +kernel) (va_runSN (As := [.ref (rA 4 0), .int p2]) (rest := []) ⟨hx, hb, hml, hown, hts⟩ (c_X11_at l dC dI cB cC cI cJ cZ cP H.size (rA 4 0) p2 7 ((σ_3 4).2.1 0) (by decide)) ⟨va_cnB 2 hts (g_gA wq_407) rfl rfl rfl (hN.at 24 rfl) (hts (.initialized RX11) wq_1) (by decide +kernel) ⟨Nat.le_of_ble_eq_true rfl, Nat.le_of_ble_eq_true rfl⟩, (hts (.static yX11_at) wq_406), trivial⟩ (g_preS g_bl0 hK hPc hDc hS hE hFc g_to0) rfl rfl hl.1 rfl (lv_room (Nat.le_of_ble_eq_true rfl)) dX4_tellItem_40 ⟨Nat.le_of_ble_eq_true rfl, Nat.le_of_ble_eq_true rfl⟩) (fun r9 u9 H locs hw9 hP' hD' hS => ?_)
    clear hPc hDc hFc hD'
    have hP : va_P (dC, dI) vwCl (b_m cB cC cI cJ cZ oA rA σ_3 ++ b_w cB cC cI cJ cZ oA rA σ_3 ++ b_s cB cC cI cJ cZ oA rA σ_3 ++ b_c cB cC cI cJ cZ oA rA σ_3 ++ b_t cB cC cI cJ cZ oA rA σ_3 ++ b_d cB cC cI cJ cZ oA rA σ_3) H := hP'.sub [0, 1, 2, 3, 4, 5, 6, 7, 8, 9, 10, 11, 12, 13, 14, 15, 16, 46, 17, 18, 19, 20, 21, 22, 23, 24, 25, 26, 27, 28, 29, 30, 31, 32, 33, 34, 35, 36, 37, 38, 39, 40, 41, 42, 43, 44, 45] rfl
    clear hP'
    subst hw9
    obtain ⟨x_9, ex_9, hF_10⟩ := bnd_e hF_8
    clear hF_8
    refine m_top ex_9 ?_
    refine lv_iload hx hb dX4_tellItem_43 (lv_at hl 5 rfl) ?_
    refine lv_icmp_lt (tgt := 57) hx hb dX4_tellItem_45 (by decide) (fun c_11 => ?_) (fun c_11 => ?_)
    · have hF_12 := ipos c_11 hF_10
      clear hF_10
      refine lv_aload_n hx hb dX4_tellItem_57 rfl (lv_at hl 1 rfl) ?_
      refine va_get (D := (dC, dI)) (ci := 4) (v := .ref (oA 4)) (C := RX4) (T := TX4) (N := 18) hx hb hts ii_X4 hown hK hP 0 rfl rfl 1 (by decide) (hts (.fieldLink RX4 36 "StoryHouse$Meanings" "story" "LStoryHouse$Story;") wq_87) (fun _ h9 => h9) rfl dX4_tellItem_58 ?_
      refine va_get (D := (dC, dI)) (ci := 7) (v := .ref (rA 4 0)) (C := RX7) (T := TX7) (N := 19) hx hb hts ii_X7 hown hK hP 16 rfl rfl 0 (by decide) (hts (.fieldLink RX4 165 "StoryHouse$Story" "counts" "[I") wq_154) (fun _ h9 => h9) rfl dX4_tellItem_61 ?_
      refine lv_iload_n hx hb dX4_tellItem_64 rfl (lv_at hl 4 rfl) ?_
      refine lv_aload_n hx hb dX4_tellItem_65 rfl (lv_at hl 1 rfl) ?_
      refine va_get (D := (dC, dI)) (ci := 4) (v := .ref (oA 4)) (C := RX4) (T := TX4) (N := 18) hx hb hts ii_X4 hown hK hP 0 rfl rfl 1 (by decide) (hts (.fieldLink RX4 36 "StoryHouse$Meanings" "story" "LStoryHouse$Story;") wq_87) (fun _ h9 => h9) rfl dX4_tellItem_66 ?_
      refine va_get (D := (dC, dI)) (ci := 7) (v := .ref (rA 4 0)) (C := RX7) (T := TX7) (N := 19) hx hb hts ii_X7 hown hK hP 16 rfl rfl 0 (by decide) (hts (.fieldLink RX4 165 "StoryHouse$Story" "counts" "[I") wq_154) (fun _ h9 => h9) rfl dX4_tellItem_69 ?_
      refine lv_iload_n hx hb dX4_tellItem_72 rfl (lv_at hl 4 rfl) ?_
      have hPc := hP.sub (ws' := [(rA 4 0, .inl (cI, 7, .inl ((σ_3 4).2.1 0)))]) [17] rfl
      have hDc := (hDD σ_3).sub (ws' := [(rA 4 0, .inl (cI, 7, .inl ((σ_3 4).2.1 0)))]) [17] (by decide +kernel) rfl
      have hFc := va_free (wc := [(rA 4 0, .inl (cI, 7, .inl ((σ_3 4).2.1 0)))]) (hDD σ_3) hS hA [17] rfl
      refine g_ofi (wc := [(rA 4 0, .inl (cI, 7, .inl ((σ_3 4).2.1 0)))]) (wr := (((b_m cB cC cI cJ cZ oA rA σ_3 ++ b_w cB cC cI cJ cZ oA rA σ_3 ++ b_s cB cC cI cJ cZ oA rA σ_3 ++ b_c cB cC cI cJ cZ oA rA σ_3 ++ b_t cB cC cI cJ cZ oA rA σ_3 ++ b_d cB cC cI cJ cZ oA rA σ_3)).eraseIdx 17)) hP (hDD σ_3) hS hFc [17] [0, 1, 2, 3, 4, 5, 6, 7, 8, 9, 10, 11, 12, 13, 14, 15, 16, 18, 19, 20, 21, 22, 23, 24, 25, 26, 27, 28, 29, 30, 31, 32, 33, 34, 35, 36, 37, 38, 39, 40, 41, 42, 43, 44, 45, 46] rfl rfl (by decide +kernel) (by decide +kernel) (va_runSN (As := [.ref (rA 4 0), .int p2]) (rest := [.int p2, .ref (rA 4 0)]) ⟨hx, hb, hml, hown, hts⟩ (c_X11_at l dC dI cB cC cI cJ cZ cP H.size (rA 4 0) p2 7 ((σ_3 4).2.1 0) (by decide)) ⟨va_cnB 2 hts (g_gA wq_407) rfl rfl rfl (hN.at 24 rfl) (hts (.initialized RX11) wq_1) (by decide +kernel) ⟨Nat.le_of_ble_eq_true rfl, Nat.le_of_ble_eq_true rfl⟩, (hts (.static yX11_at) wq_406), trivial⟩ (g_preS g_bl0 hK hPc hDc hS hE hFc g_to0) rfl rfl hl.1 rfl (lv_room (Nat.le_of_ble_eq_true rfl)) dX4_tellItem_73 ⟨Nat.le_of_ble_eq_true rfl, Nat.le_of_ble_eq_true rfl⟩) (fun r9 u9 H locs hw9 hP' hD' hS => ?_)
      clear hPc hDc hFc hD'
      have hP : va_P (dC, dI) vwCl (b_m cB cC cI cJ cZ oA rA σ_3 ++ b_w cB cC cI cJ cZ oA rA σ_3 ++ b_s cB cC cI cJ cZ oA rA σ_3 ++ b_c cB cC cI cJ cZ oA rA σ_3 ++ b_t cB cC cI cJ cZ oA rA σ_3 ++ b_d cB cC cI cJ cZ oA rA σ_3) H := hP'.sub [0, 1, 2, 3, 4, 5, 6, 7, 8, 9, 10, 11, 12, 13, 14, 15, 16, 46, 17, 18, 19, 20, 21, 22, 23, 24, 25, 26, 27, 28, 29, 30, 31, 32, 33, 34, 35, 36, 37, 38, 39, 40, 41, 42, 43, 44, 45] rfl
      clear hP'
      subst hw9
      obtain ⟨x_13, ex_13, hF_14⟩ := bnd_e hF_12
      clear hF_12
      refine m_top ex_13 ?_
      refine lv_iconst (v := 1) hx hb dX4_tellItem_76 (by decide +kernel) ?_
      refine lv_iadd hx hb dX4_tellItem_77 ?_
      obtain ⟨x_15, ex_15, hF_16⟩ := bnd_e hF_14
      clear hF_14
      refine m_top ex_15 ?_
      have hPc := hP.sub (ws' := [(rA 4 0, .inl (cI, 7, .inl ((σ_3 4).2.1 0)))]) [17] rfl
      have hDc := (hDD σ_3).sub (ws' := [(rA 4 0, .inl (cI, 7, .inl ((σ_3 4).2.1 0)))]) [17] (by decide +kernel) rfl
      have hFc := va_free (wc := [(rA 4 0, .inl (cI, 7, .inl ((σ_3 4).2.1 0)))]) (hDD σ_3) hS hA [17] rfl
      refine g_ofv (wc := [(rA 4 0, .inl (cI, 7, .inl ((σ_3 4).2.1 0)))]) (wr := (((b_m cB cC cI cJ cZ oA rA σ_3 ++ b_w cB cC cI cJ cZ oA rA σ_3 ++ b_s cB cC cI cJ cZ oA rA σ_3 ++ b_c cB cC cI cJ cZ oA rA σ_3 ++ b_t cB cC cI cJ cZ oA rA σ_3 ++ b_d cB cC cI cJ cZ oA rA σ_3)).eraseIdx 17)) hP (hDD σ_3) hS hFc [17] [0, 1, 2, 3, 4, 5, 6, 7, 8, 9, 10, 11, 12, 13, 14, 15, 16, 18, 19, 20, 21, 22, 23, 24, 25, 26, 27, 28, 29, 30, 31, 32, 33, 34, 35, 36, 37, 38, 39, 40, 41, 42, 43, 44, 45, 46] rfl rfl (by decide +kernel) (by decide +kernel) (va_runSN (As := [.ref (rA 4 0), .int p2, .int x_15]) (rest := []) ⟨hx, hb, hml, hown, hts⟩ (c_X11_put l dC dI cB cC cI cJ cZ cP H.size (rA 4 0) p2 x_15 7 ((σ_3 4).2.1 0) (by decide)) ⟨va_cnB 3 hts (g_gA wq_412) rfl rfl rfl (hN.at 23 rfl) (hts (.initialized RX11) wq_1) (by decide +kernel) ⟨Nat.le_of_ble_eq_true rfl, Nat.le_of_ble_eq_true rfl⟩, (hts (.static yX11_put) wq_411), trivial⟩ (g_preS g_bl0 hK hPc hDc hS hE hFc g_to0) rfl rfl hl.1 rfl (lv_room (Nat.le_of_ble_eq_true rfl)) dX4_tellItem_78 ⟨Nat.le_of_ble_eq_true rfl, Nat.le_of_ble_eq_true rfl⟩) (fun g9 H locs hw9 hP' hD' hS => ?_)
      clear hPc hDc hFc hD'
      obtain ⟨σ_17, eσ_17, hF_18⟩ := bnd_e hF_16
      clear hF_16
      subst hw9
      have hP : va_P (dC, dI) vwCl (b_m cB cC cI cJ cZ oA rA σ_17 ++ b_w cB cC cI cJ cZ oA rA σ_17 ++ b_s cB cC cI cJ cZ oA rA σ_17 ++ b_c cB cC cI cJ cZ oA rA σ_17 ++ b_t cB cC cI cJ cZ oA rA σ_17 ++ b_d cB cC cI cJ cZ oA rA σ_17) H := by rw [eσ_17]; exact hP'.sub [0, 1, 2, 3, 4, 5, 6, 7, 8, 9, 10, 11, 12, 13, 14, 15, 16, 46, 17, 18, 19, 20, 21, 22, 23, 24, 25, 26, 27, 28, 29, 30, 31, 32, 33, 34, 35, 36, 37, 38, 39, 40, 41, 42, 43, 44, 45] rfl
      clear hP'
      refine lv_aload_n hx hb dX4_tellItem_81 rfl (lv_at hl 1 rfl) ?_
      refine va_get (D := (dC, dI)) (ci := 4) (v := .ref (rA 3 3)) (C := RX4) (T := TX4) (N := 18) hx hb hts ii_X4 hown hK hP 0 rfl rfl 3 (by decide) (hts (.fieldLink RX4 17 "StoryHouse$Meanings" "sorts" "[I") wq_89) (fun _ h9 => h9) rfl dX4_tellItem_82 ?_
      refine lv_iload hx hb dX4_tellItem_85 (lv_at hl 0 rfl) ?_
      refine lv_iload_n hx hb dX4_tellItem_87 rfl (lv_at hl 3 rfl) ?_
      have hPc := hP.sub (ws' := [(rA 3 3, .inl (cI, 4500, .inl ((σ_17 3).2.1 3)))]) [2] rfl
      have hDc := (hDD σ_17).sub (ws' := [(rA 3 3, .inl (cI, 4500, .inl ((σ_17 3).2.1 3)))]) [2] (by decide +kernel) rfl
      have hFc := va_free (wc := [(rA 3 3, .inl (cI, 4500, .inl ((σ_17 3).2.1 3)))]) (hDD σ_17) hS hA [2] rfl
      refine g_ofv (wc := [(rA 3 3, .inl (cI, 4500, .inl ((σ_17 3).2.1 3)))]) (wr := (((b_m cB cC cI cJ cZ oA rA σ_17 ++ b_w cB cC cI cJ cZ oA rA σ_17 ++ b_s cB cC cI cJ cZ oA rA σ_17 ++ b_c cB cC cI cJ cZ oA rA σ_17 ++ b_t cB cC cI cJ cZ oA rA σ_17 ++ b_d cB cC cI cJ cZ oA rA σ_17)).eraseIdx 2)) hP (hDD σ_17) hS hFc [2] [0, 1, 3, 4, 5, 6, 7, 8, 9, 10, 11, 12, 13, 14, 15, 16, 17, 18, 19, 20, 21, 22, 23, 24, 25, 26, 27, 28, 29, 30, 31, 32, 33, 34, 35, 36, 37, 38, 39, 40, 41, 42, 43, 44, 45, 46] rfl rfl (by decide +kernel) (by decide +kernel) (va_runSN (As := [.ref (rA 3 3), .int u_1.1, .int p1]) (rest := []) ⟨hx, hb, hml, hown, hts⟩ (c_X11_put l dC dI cB cC cI cJ cZ cP H.size (rA 3 3) u_1.1 p1 4500 ((σ_17 3).2.1 3) (by decide)) ⟨va_cnB 3 hts (g_gA wq_412) rfl rfl rfl (hN.at 23 rfl) (hts (.initialized RX11) wq_1) (by decide +kernel) ⟨Nat.le_of_ble_eq_true rfl, Nat.le_of_ble_eq_true rfl⟩, (hts (.static yX11_put) wq_411), trivial⟩ (g_preS g_bl0 hK hPc hDc hS hE hFc g_to0) rfl rfl hl.1 rfl (lv_room (Nat.le_of_ble_eq_true rfl)) dX4_tellItem_88 ⟨Nat.le_of_ble_eq_true rfl, Nat.le_of_ble_eq_true rfl⟩) (fun g9 H locs hw9 hP' hD' hS => ?_)
      clear hPc hDc hFc hD'
      obtain ⟨σ_19, eσ_19, hF_20⟩ := bnd_e hF_18
      clear hF_18
      subst hw9
      have hP : va_P (dC, dI) vwCl (b_m cB cC cI cJ cZ oA rA σ_19 ++ b_w cB cC cI cJ cZ oA rA σ_19 ++ b_s cB cC cI cJ cZ oA rA σ_19 ++ b_c cB cC cI cJ cZ oA rA σ_19 ++ b_t cB cC cI cJ cZ oA rA σ_19 ++ b_d cB cC cI cJ cZ oA rA σ_19) H := by rw [eσ_19]; exact hP'.sub [0, 1, 46, 2, 3, 4, 5, 6, 7, 8, 9, 10, 11, 12, 13, 14, 15, 16, 17, 18, 19, 20, 21, 22, 23, 24, 25, 26, 27, 28, 29, 30, 31, 32, 33, 34, 35, 36, 37, 38, 39, 40, 41, 42, 43, 44, 45] rfl
      clear hP'
      refine lv_aload_n hx hb dX4_tellItem_91 rfl (lv_at hl 1 rfl) ?_
      refine va_get (D := (dC, dI)) (ci := 4) (v := .ref (rA 3 4)) (C := RX4) (T := TX4) (N := 18) hx hb hts ii_X4 hown hK hP 0 rfl rfl 4 (by decide) (hts (.fieldLink RX4 20 "StoryHouse$Meanings" "numbers" "[I") wq_90) (fun _ h9 => h9) rfl dX4_tellItem_92 ?_
      refine lv_iload hx hb dX4_tellItem_95 (lv_at hl 0 rfl) ?_
      refine lv_aload_n hx hb dX4_tellItem_97 rfl (lv_at hl 1 rfl) ?_
      refine va_get (D := (dC, dI)) (ci := 4) (v := .ref (oA 4)) (C := RX4) (T := TX4) (N := 18) hx hb hts ii_X4 hown hK hP 0 rfl rfl 1 (by decide) (hts (.fieldLink RX4 36 "StoryHouse$Meanings" "story" "LStoryHouse$Story;") wq_87) (fun _ h9 => h9) rfl dX4_tellItem_98 ?_
      refine va_get (D := (dC, dI)) (ci := 7) (v := .ref (rA 4 0)) (C := RX7) (T := TX7) (N := 19) hx hb hts ii_X7 hown hK hP 16 rfl rfl 0 (by decide) (hts (.fieldLink RX4 165 "StoryHouse$Story" "counts" "[I") wq_154) (fun _ h9 => h9) rfl dX4_tellItem_101 ?_
      refine lv_iload_n hx hb dX4_tellItem_104 rfl (lv_at hl 4 rfl) ?_
      have hPc := hP.sub (ws' := [(rA 4 0, .inl (cI, 7, .inl ((σ_19 4).2.1 0)))]) [17] rfl
      have hDc := (hDD σ_19).sub (ws' := [(rA 4 0, .inl (cI, 7, .inl ((σ_19 4).2.1 0)))]) [17] (by decide +kernel) rfl
      have hFc := va_free (wc := [(rA 4 0, .inl (cI, 7, .inl ((σ_19 4).2.1 0)))]) (hDD σ_19) hS hA [17] rfl
      refine g_ofi (wc := [(rA 4 0, .inl (cI, 7, .inl ((σ_19 4).2.1 0)))]) (wr := (((b_m cB cC cI cJ cZ oA rA σ_19 ++ b_w cB cC cI cJ cZ oA rA σ_19 ++ b_s cB cC cI cJ cZ oA rA σ_19 ++ b_c cB cC cI cJ cZ oA rA σ_19 ++ b_t cB cC cI cJ cZ oA rA σ_19 ++ b_d cB cC cI cJ cZ oA rA σ_19)).eraseIdx 17)) hP (hDD σ_19) hS hFc [17] [0, 1, 2, 3, 4, 5, 6, 7, 8, 9, 10, 11, 12, 13, 14, 15, 16, 18, 19, 20, 21, 22, 23, 24, 25, 26, 27, 28, 29, 30, 31, 32, 33, 34, 35, 36, 37, 38, 39, 40, 41, 42, 43, 44, 45, 46] rfl rfl (by decide +kernel) (by decide +kernel) (va_runSN (As := [.ref (rA 4 0), .int p2]) (rest := [.int u_1.1, .ref (rA 3 4)]) ⟨hx, hb, hml, hown, hts⟩ (c_X11_at l dC dI cB cC cI cJ cZ cP H.size (rA 4 0) p2 7 ((σ_19 4).2.1 0) (by decide)) ⟨va_cnB 2 hts (g_gA wq_407) rfl rfl rfl (hN.at 24 rfl) (hts (.initialized RX11) wq_1) (by decide +kernel) ⟨Nat.le_of_ble_eq_true rfl, Nat.le_of_ble_eq_true rfl⟩, (hts (.static yX11_at) wq_406), trivial⟩ (g_preS g_bl0 hK hPc hDc hS hE hFc g_to0) rfl rfl hl.1 rfl (lv_room (Nat.le_of_ble_eq_true rfl)) dX4_tellItem_105 ⟨Nat.le_of_ble_eq_true rfl, Nat.le_of_ble_eq_true rfl⟩) (fun r9 u9 H locs hw9 hP' hD' hS => ?_)
      clear hPc hDc hFc hD'
      have hP : va_P (dC, dI) vwCl (b_m cB cC cI cJ cZ oA rA σ_19 ++ b_w cB cC cI cJ cZ oA rA σ_19 ++ b_s cB cC cI cJ cZ oA rA σ_19 ++ b_c cB cC cI cJ cZ oA rA σ_19 ++ b_t cB cC cI cJ cZ oA rA σ_19 ++ b_d cB cC cI cJ cZ oA rA σ_19) H := hP'.sub [0, 1, 2, 3, 4, 5, 6, 7, 8, 9, 10, 11, 12, 13, 14, 15, 16, 46, 17, 18, 19, 20, 21, 22, 23, 24, 25, 26, 27, 28, 29, 30, 31, 32, 33, 34, 35, 36, 37, 38, 39, 40, 41, 42, 43, 44, 45] rfl
      clear hP'
      subst hw9
      obtain ⟨x_21, ex_21, hF_22⟩ := bnd_e hF_20
      clear hF_20
      refine m_top ex_21 ?_
      refine lv_iload_n hx hb dX4_tellItem_108 rfl (lv_at hl 3 rfl) ?_
      refine lv_iconst (v := 3) hx hb dX4_tellItem_109 (by decide +kernel) ?_
      obtain ⟨j_25, ej_25, hF_26⟩ := bnd_e hF_22
      clear hF_22
      have Jj_25 : ∀ (t_23 : Int32) (σ_24 : HS), j_25 t_23 σ_24 = some res → ∀ (H : Heap) (locs : List Loc), va_P (dC, dI) vwCl (b_m cB cC cI cJ cZ oA rA σ_24 ++ b_w cB cC cI cJ cZ oA rA σ_24 ++ b_s cB cC cI cJ cZ oA rA σ_24 ++ b_c cB cC cI cJ cZ oA rA σ_24 ++ b_t cB cC cI cJ cZ oA rA σ_24 ++ b_d cB cC cI cJ cZ oA rA σ_24) H → va_S A s.heap H locs → ∀ ls : Array Slot, lv_has ls 6 [] → W p l e (headSpec (g_ws yX4_tellItem cX4_tellItem 6 none) { frames := 5, cells := 0, slots := 0, locals := 124 }).room s m ([.ref (oA 3), .int p0, .int p1, .int p2, .int p3] : List Value).toArray below meth c H locs 0 0 (MQ below (va_Qv (fun (_ : Unit) => True) (g_Bo (dC, dI) A (fun (_ : Unit) => (b_m cB cC cI cJ cZ oA rA res.2 ++ b_w cB cC cI cJ cZ oA rA res.2 ++ b_s cB cC cI cJ cZ oA rA res.2 ++ b_c cB cC cI cJ cZ oA rA res.2 ++ b_t cB cC cI cJ cZ oA rA res.2 ++ b_d cB cC cI cJ cZ oA rA res.2))) A) ([.ref (oA 3), .int p0, .int p1, .int p2, .int p3] : List Value).toArray s 0 0 A) (F0 m 118 ls [.int t_23, .int x_21, .int u_1.1, .ref (rA 3 4)]) := by
        intro t_23 σ_24 hF0 H locs hP hS ls hl
        subst ej_25
        have hF_27 := hF0
        clear hF0
        refine lv_isub hx hb dX4_tellItem_118 ?_
        obtain ⟨x_28, ex_28, hF_29⟩ := bnd_e hF_27
        clear hF_27
        refine m_top ex_28 ?_
        have hPc := hP.sub (ws' := [(rA 3 4, .inl (cI, 4500, .inl ((σ_24 3).2.1 4)))]) [3] rfl
        have hDc := (hDD σ_24).sub (ws' := [(rA 3 4, .inl (cI, 4500, .inl ((σ_24 3).2.1 4)))]) [3] (by decide +kernel) rfl
        have hFc := va_free (wc := [(rA 3 4, .inl (cI, 4500, .inl ((σ_24 3).2.1 4)))]) (hDD σ_24) hS hA [3] rfl
        refine g_ofv (wc := [(rA 3 4, .inl (cI, 4500, .inl ((σ_24 3).2.1 4)))]) (wr := (((b_m cB cC cI cJ cZ oA rA σ_24 ++ b_w cB cC cI cJ cZ oA rA σ_24 ++ b_s cB cC cI cJ cZ oA rA σ_24 ++ b_c cB cC cI cJ cZ oA rA σ_24 ++ b_t cB cC cI cJ cZ oA rA σ_24 ++ b_d cB cC cI cJ cZ oA rA σ_24)).eraseIdx 3)) hP (hDD σ_24) hS hFc [3] [0, 1, 2, 4, 5, 6, 7, 8, 9, 10, 11, 12, 13, 14, 15, 16, 17, 18, 19, 20, 21, 22, 23, 24, 25, 26, 27, 28, 29, 30, 31, 32, 33, 34, 35, 36, 37, 38, 39, 40, 41, 42, 43, 44, 45, 46] rfl rfl (by decide +kernel) (by decide +kernel) (va_runSN (As := [.ref (rA 3 4), .int u_1.1, .int x_28]) (rest := []) ⟨hx, hb, hml, hown, hts⟩ (c_X11_put l dC dI cB cC cI cJ cZ cP H.size (rA 3 4) u_1.1 x_28 4500 ((σ_24 3).2.1 4) (by decide)) ⟨va_cnB 3 hts (g_gA wq_412) rfl rfl rfl (hN.at 23 rfl) (hts (.initialized RX11) wq_1) (by decide +kernel) ⟨Nat.le_of_ble_eq_true rfl, Nat.le_of_ble_eq_true rfl⟩, (hts (.static yX11_put) wq_411), trivial⟩ (g_preS g_bl0 hK hPc hDc hS hE hFc g_to0) rfl rfl hl.1 rfl (lv_room (Nat.le_of_ble_eq_true rfl)) dX4_tellItem_119 ⟨Nat.le_of_ble_eq_true rfl, Nat.le_of_ble_eq_true rfl⟩) (fun g9 H locs hw9 hP' hD' hS => ?_)
        clear hPc hDc hFc hD'
        obtain ⟨σ_30, eσ_30, hF_31⟩ := bnd_e hF_29
        clear hF_29
        subst hw9
        have hP : va_P (dC, dI) vwCl (b_m cB cC cI cJ cZ oA rA σ_30 ++ b_w cB cC cI cJ cZ oA rA σ_30 ++ b_s cB cC cI cJ cZ oA rA σ_30 ++ b_c cB cC cI cJ cZ oA rA σ_30 ++ b_t cB cC cI cJ cZ oA rA σ_30 ++ b_d cB cC cI cJ cZ oA rA σ_30) H := by rw [eσ_30]; exact hP'.sub [0, 1, 2, 46, 3, 4, 5, 6, 7, 8, 9, 10, 11, 12, 13, 14, 15, 16, 17, 18, 19, 20, 21, 22, 23, 24, 25, 26, 27, 28, 29, 30, 31, 32, 33, 34, 35, 36, 37, 38, 39, 40, 41, 42, 43, 44, 45] rfl
        clear hP'
        have h9 := Option.some.inj hF_31
        subst h9
        exact W.vret hx hb hr (fun t ht hW => ⟨⟨(), rfl, trivial, m_end ht hP, hDD _⟩, hS.F ht⟩) hS.2.2 dX4_tellItem_122
      refine lv_icmp_gt (tgt := 117) hx hb dX4_tellItem_110 (by decide) (fun c_32 => ?_) (fun c_32 => ?_)
      · have hF_33 := ipos c_32 hF_26
        clear hF_26
        refine lv_iconst (v := 1) hx hb dX4_tellItem_117 (by decide +kernel) ?_
        exact Jj_25 1 σ_19 hF_33 _ _ hP hS ls (lv_sub hl [] rfl)
      · have hF_34 := ineg c_32 hF_26
        clear hF_26
        refine lv_iconst (v := 0) hx hb dX4_tellItem_113 (by decide +kernel) ?_
        refine lv_goto (tgt := 118) hx hb dX4_tellItem_114 (by decide) ?_
        exact Jj_25 0 σ_19 hF_34 _ _ hP hS ls (lv_sub hl [] rfl)
    · have hF_35 := ineg c_11 hF_10
      clear hF_10
      refine lv_aload_n hx hb dX4_tellItem_48 rfl (lv_at hl 1 rfl) ?_
      refine lv_iconst (v := 5) hx hb dX4_tellItem_49 (by decide +kernel) ?_
      refine lv_iload_n hx hb dX4_tellItem_50 rfl (lv_at hl 2 rfl) ?_
      obtain ⟨u_36, hu_36, hF_37⟩ := Option.bind_eq_some_iff.mp hF_35
      clear hF_35
      have hPc := hP.sub (ws' := (b_m cB cC cI cJ cZ oA rA σ_3 ++ b_w cB cC cI cJ cZ oA rA σ_3 ++ b_s cB cC cI cJ cZ oA rA σ_3 ++ b_c cB cC cI cJ cZ oA rA σ_3 ++ b_t cB cC cI cJ cZ oA rA σ_3 ++ b_d cB cC cI cJ cZ oA rA σ_3)) [0, 1, 2, 3, 4, 5, 6, 7, 8, 9, 10, 11, 12, 13, 14, 15, 16, 17, 18, 19, 20, 21, 22, 23, 24, 25, 26, 27, 28, 29, 30, 31, 32, 33, 34, 35, 36, 37, 38, 39, 40, 41, 42, 43, 44, 45, 46] rfl
      have hDc := (hDD σ_3).sub (ws' := (b_m cB cC cI cJ cZ oA rA σ_3 ++ b_w cB cC cI cJ cZ oA rA σ_3 ++ b_s cB cC cI cJ cZ oA rA σ_3 ++ b_c cB cC cI cJ cZ oA rA σ_3 ++ b_t cB cC cI cJ cZ oA rA σ_3 ++ b_d cB cC cI cJ cZ oA rA σ_3)) [0, 1, 2, 3, 4, 5, 6, 7, 8, 9, 10, 11, 12, 13, 14, 15, 16, 17, 18, 19, 20, 21, 22, 23, 24, 25, 26, 27, 28, 29, 30, 31, 32, 33, 34, 35, 36, 37, 38, 39, 40, 41, 42, 43, 44, 45, 46] (by decide +kernel) rfl
      have hFc := va_free (wc := (b_m cB cC cI cJ cZ oA rA σ_3 ++ b_w cB cC cI cJ cZ oA rA σ_3 ++ b_s cB cC cI cJ cZ oA rA σ_3 ++ b_c cB cC cI cJ cZ oA rA σ_3 ++ b_t cB cC cI cJ cZ oA rA σ_3 ++ b_d cB cC cI cJ cZ oA rA σ_3)) (hDD σ_3) hS hA [0, 1, 2, 3, 4, 5, 6, 7, 8, 9, 10, 11, 12, 13, 14, 15, 16, 17, 18, 19, 20, 21, 22, 23, 24, 25, 26, 27, 28, 29, 30, 31, 32, 33, 34, 35, 36, 37, 38, 39, 40, 41, 42, 43, 44, 45, 46] rfl
      refine g_ofv (wc := (b_m cB cC cI cJ cZ oA rA σ_3 ++ b_w cB cC cI cJ cZ oA rA σ_3 ++ b_s cB cC cI cJ cZ oA rA σ_3 ++ b_c cB cC cI cJ cZ oA rA σ_3 ++ b_t cB cC cI cJ cZ oA rA σ_3 ++ b_d cB cC cI cJ cZ oA rA σ_3)) (wr := ([] : va_W)) hP (hDD σ_3) hS hFc [0, 1, 2, 3, 4, 5, 6, 7, 8, 9, 10, 11, 12, 13, 14, 15, 16, 17, 18, 19, 20, 21, 22, 23, 24, 25, 26, 27, 28, 29, 30, 31, 32, 33, 34, 35, 36, 37, 38, 39, 40, 41, 42, 43, 44, 45, 46] [] rfl rfl (by decide +kernel) (by decide +kernel) (va_runV (As := [.int 5, .int p0]) (rest := []) ⟨hx, hb, hml, hown, hts⟩ (k_X4_fail l dC dI cB cC cI cJ cZ cP oA rA H.size  5 p0 σ_3 _ hu_36) (cwV 2 hts (g_gV wq_725 wq_726 wq_2037 wq_4 wq_727) rfl rfl rfl (by decide +kernel) ⟨Nat.le_of_ble_eq_true rfl, Nat.le_of_ble_eq_true rfl⟩) (g_preV g_bl0 hK hPc hDc hS hE hFc g_to0 (q0 := 0) (ci := 4) rfl rfl) rfl rfl hl.1 rfl (lv_room (Nat.le_of_ble_eq_true rfl)) dX4_tellItem_51 ⟨Nat.le_of_ble_eq_true rfl, Nat.le_of_ble_eq_true rfl⟩) (fun u9 H locs hw9 hP' hD' hS => ?_)
      clear hPc hDc hFc
      have hP : va_P (dC, dI) vwCl (b_m cB cC cI cJ cZ oA rA u_36.2 ++ b_w cB cC cI cJ cZ oA rA u_36.2 ++ b_s cB cC cI cJ cZ oA rA u_36.2 ++ b_c cB cC cI cJ cZ oA rA u_36.2 ++ b_t cB cC cI cJ cZ oA rA u_36.2 ++ b_d cB cC cI cJ cZ oA rA u_36.2) H := hP'
      clear hP' hD'
      refine lv_goto (tgt := 122) hx hb dX4_tellItem_54 (by decide) ?_
      have h9 := Option.some.inj hF_37
      subst h9
      exact W.vret hx hb hr (fun t ht hW => ⟨⟨(), rfl, trivial, m_end ht hP, hDD _⟩, hS.F ht⟩) hS.2.2 dX4_tellItem_122
  · have hF_38 := ineg c_7 hF_6
    clear hF_6
    refine lv_aload_n hx hb dX4_tellItem_23 rfl (lv_at hl 1 rfl) ?_
    refine lv_iconst (v := 4) hx hb dX4_tellItem_24 (by decide +kernel) ?_
    refine lv_iload_n hx hb dX4_tellItem_25 rfl (lv_at hl 2 rfl) ?_
    obtain ⟨u_39, hu_39, hF_40⟩ := Option.bind_eq_some_iff.mp hF_38
    clear hF_38
    have hPc := hP.sub (ws' := (b_m cB cC cI cJ cZ oA rA σ_3 ++ b_w cB cC cI cJ cZ oA rA σ_3 ++ b_s cB cC cI cJ cZ oA rA σ_3 ++ b_c cB cC cI cJ cZ oA rA σ_3 ++ b_t cB cC cI cJ cZ oA rA σ_3 ++ b_d cB cC cI cJ cZ oA rA σ_3)) [0, 1, 2, 3, 4, 5, 6, 7, 8, 9, 10, 11, 12, 13, 14, 15, 16, 17, 18, 19, 20, 21, 22, 23, 24, 25, 26, 27, 28, 29, 30, 31, 32, 33, 34, 35, 36, 37, 38, 39, 40, 41, 42, 43, 44, 45, 46] rfl
    have hDc := (hDD σ_3).sub (ws' := (b_m cB cC cI cJ cZ oA rA σ_3 ++ b_w cB cC cI cJ cZ oA rA σ_3 ++ b_s cB cC cI cJ cZ oA rA σ_3 ++ b_c cB cC cI cJ cZ oA rA σ_3 ++ b_t cB cC cI cJ cZ oA rA σ_3 ++ b_d cB cC cI cJ cZ oA rA σ_3)) [0, 1, 2, 3, 4, 5, 6, 7, 8, 9, 10, 11, 12, 13, 14, 15, 16, 17, 18, 19, 20, 21, 22, 23, 24, 25, 26, 27, 28, 29, 30, 31, 32, 33, 34, 35, 36, 37, 38, 39, 40, 41, 42, 43, 44, 45, 46] (by decide +kernel) rfl
    have hFc := va_free (wc := (b_m cB cC cI cJ cZ oA rA σ_3 ++ b_w cB cC cI cJ cZ oA rA σ_3 ++ b_s cB cC cI cJ cZ oA rA σ_3 ++ b_c cB cC cI cJ cZ oA rA σ_3 ++ b_t cB cC cI cJ cZ oA rA σ_3 ++ b_d cB cC cI cJ cZ oA rA σ_3)) (hDD σ_3) hS hA [0, 1, 2, 3, 4, 5, 6, 7, 8, 9, 10, 11, 12, 13, 14, 15, 16, 17, 18, 19, 20, 21, 22, 23, 24, 25, 26, 27, 28, 29, 30, 31, 32, 33, 34, 35, 36, 37, 38, 39, 40, 41, 42, 43, 44, 45, 46] rfl
    refine g_ofv (wc := (b_m cB cC cI cJ cZ oA rA σ_3 ++ b_w cB cC cI cJ cZ oA rA σ_3 ++ b_s cB cC cI cJ cZ oA rA σ_3 ++ b_c cB cC cI cJ cZ oA rA σ_3 ++ b_t cB cC cI cJ cZ oA rA σ_3 ++ b_d cB cC cI cJ cZ oA rA σ_3)) (wr := ([] : va_W)) hP (hDD σ_3) hS hFc [0, 1, 2, 3, 4, 5, 6, 7, 8, 9, 10, 11, 12, 13, 14, 15, 16, 17, 18, 19, 20, 21, 22, 23, 24, 25, 26, 27, 28, 29, 30, 31, 32, 33, 34, 35, 36, 37, 38, 39, 40, 41, 42, 43, 44, 45, 46] [] rfl rfl (by decide +kernel) (by decide +kernel) (va_runV (As := [.int 4, .int p0]) (rest := []) ⟨hx, hb, hml, hown, hts⟩ (k_X4_fail l dC dI cB cC cI cJ cZ cP oA rA H.size  4 p0 σ_3 _ hu_39) (cwV 2 hts (g_gV wq_725 wq_726 wq_2037 wq_4 wq_727) rfl rfl rfl (by decide +kernel) ⟨Nat.le_of_ble_eq_true rfl, Nat.le_of_ble_eq_true rfl⟩) (g_preV g_bl0 hK hPc hDc hS hE hFc g_to0 (q0 := 0) (ci := 4) rfl rfl) rfl rfl hl.1 rfl (lv_room (Nat.le_of_ble_eq_true rfl)) dX4_tellItem_26 ⟨Nat.le_of_ble_eq_true rfl, Nat.le_of_ble_eq_true rfl⟩) (fun u9 H locs hw9 hP' hD' hS => ?_)
    clear hPc hDc hFc
    have hP : va_P (dC, dI) vwCl (b_m cB cC cI cJ cZ oA rA u_39.2 ++ b_w cB cC cI cJ cZ oA rA u_39.2 ++ b_s cB cC cI cJ cZ oA rA u_39.2 ++ b_c cB cC cI cJ cZ oA rA u_39.2 ++ b_t cB cC cI cJ cZ oA rA u_39.2 ++ b_d cB cC cI cJ cZ oA rA u_39.2) H := hP'
    clear hP' hD'
    refine lv_goto (tgt := 122) hx hb dX4_tellItem_29 (by decide) ?_
    have h9 := Option.some.inj hF_40
    subst h9
    exact W.vret hx hb hr (fun t ht hW => ⟨⟨(), rfl, trivial, m_end ht hP, hDD _⟩, hS.F ht⟩) hS.2.2 dX4_tellItem_122
theorem dX4_tellArray_0 : decode cX4_tellArray 0 = .ok (.aload_n 0, 1) := by decide +kernel
theorem dX4_tellArray_1 : decode cX4_tellArray 1 = .ok (.iload_n 1, 1) := by decide +kernel
theorem dX4_tellArray_2 : decode cX4_tellArray 2 = .ok (.iconst 1, 1) := by decide +kernel
theorem dX4_tellArray_3 : decode cX4_tellArray 3 = .ok (.iadd, 1) := by decide +kernel
theorem dX4_tellArray_4 : decode cX4_tellArray 4 = .ok (.iconst 5, 1) := by decide +kernel
theorem dX4_tellArray_5 : decode cX4_tellArray 5 = .ok (.iconst 3, 1) := by decide +kernel
theorem dX4_tellArray_6 : decode cX4_tellArray 6 = .ok (.bipush 20, 2) := by decide +kernel
theorem dX4_tellArray_8 : decode cX4_tellArray 8 = .ok (.invokevirtual 138, 3) := by decide +kernel
theorem dX4_tellArray_11 : decode cX4_tellArray 11 = .ok (.aload_n 0, 1) := by decide +kernel
theorem dX4_tellArray_12 : decode cX4_tellArray 12 = .ok (.getfield 32, 3) := by decide +kernel
theorem dX4_tellArray_15 : decode cX4_tellArray 15 = .ok (.iload_n 1, 1) := by decide +kernel
theorem dX4_tellArray_16 : decode cX4_tellArray 16 = .ok (.iconst 3, 1) := by decide +kernel
theorem dX4_tellArray_17 : decode cX4_tellArray 17 = .ok (.iadd, 1) := by decide +kernel
theorem dX4_tellArray_18 : decode cX4_tellArray 18 = .ok (.invokevirtual 119, 3) := by decide +kernel
theorem dX4_tellArray_21 : decode cX4_tellArray 21 = .ok (.istore_n 2, 1) := by decide +kernel
theorem dX4_tellArray_22 : decode cX4_tellArray 22 = .ok (.aload_n 0, 1) := by decide +kernel
theorem dX4_tellArray_23 : decode cX4_tellArray 23 = .ok (.getfield 36, 3) := by decide +kernel
theorem dX4_tellArray_26 : decode cX4_tellArray 26 = .ok (.getfield 165, 3) := by decide +kernel
theorem dX4_tellArray_29 : decode cX4_tellArray 29 = .ok (.iconst 3, 1) := by decide +kernel
theorem dX4_tellArray_30 : decode cX4_tellArray 30 = .ok (.invokestatic 122, 3) := by decide +kernel
theorem dX4_tellArray_33 : decode cX4_tellArray 33 = .ok (.iconst 1, 1) := by decide +kernel
theorem dX4_tellArray_34 : decode cX4_tellArray 34 = .ok (.isub, 1) := by decide +kernel
theorem dX4_tellArray_35 : decode cX4_tellArray 35 = .ok (.istore_n 3, 1) := by decide +kernel
theorem dX4_tellArray_36 : decode cX4_tellArray 36 = .ok (.iload_n 3, 1) := by decide +kernel
theorem dX4_tellArray_37 : decode cX4_tellArray 37 = .ok (.ifCond .le 19, 3) := by decide +kernel
theorem dX4_tellArray_40 : decode cX4_tellArray 40 = .ok (.aload_n 0, 1) := by decide +kernel
theorem dX4_tellArray_41 : decode cX4_tellArray 41 = .ok (.getfield 36, 3) := by decide +kernel
theorem dX4_tellArray_44 : decode cX4_tellArray 44 = .ok (.getfield 171, 3) := by decide +kernel
theorem dX4_tellArray_47 : decode cX4_tellArray 47 = .ok (.iload_n 3, 1) := by decide +kernel
theorem dX4_tellArray_48 : decode cX4_tellArray 48 = .ok (.iconst 1, 1) := by decide +kernel
theorem dX4_tellArray_49 : decode cX4_tellArray 49 = .ok (.isub, 1) := by decide +kernel
theorem dX4_tellArray_50 : decode cX4_tellArray 50 = .ok (.invokestatic 122, 3) := by decide +kernel
theorem dX4_tellArray_53 : decode cX4_tellArray 53 = .ok (.goto 4, 3) := by decide +kernel
theorem dX4_tellArray_56 : decode cX4_tellArray 56 = .ok (.iconst 0, 1) := by decide +kernel
theorem dX4_tellArray_57 : decode cX4_tellArray 57 = .ok (.istore 4, 2) := by decide +kernel
theorem dX4_tellArray_59 : decode cX4_tellArray 59 = .ok (.iload_n 2, 1) := by decide +kernel
theorem dX4_tellArray_60 : decode cX4_tellArray 60 = .ok (.iconst 1, 1) := by decide +kernel
theorem dX4_tellArray_61 : decode cX4_tellArray 61 = .ok (.if_icmp .lt 20, 3) := by decide +kernel
theorem dX4_tellArray_64 : decode cX4_tellArray 64 = .ok (.iload_n 2, 1) := by decide +kernel
theorem dX4_tellArray_65 : decode cX4_tellArray 65 = .ok (.sipush 400, 3) := by decide +kernel
theorem dX4_tellArray_68 : decode cX4_tellArray 68 = .ok (.if_icmp .gt 13, 3) := by decide +kernel
theorem dX4_tellArray_71 : decode cX4_tellArray 71 = .ok (.iload 4, 2) := by decide +kernel
theorem dX4_tellArray_73 : decode cX4_tellArray 73 = .ok (.iload_n 2, 1) := by decide +kernel
theorem dX4_tellArray_74 : decode cX4_tellArray 74 = .ok (.iadd, 1) := by decide +kernel
theorem dX4_tellArray_75 : decode cX4_tellArray 75 = .ok (.sipush 1000, 3) := by decide +kernel
theorem dX4_tellArray_78 : decode cX4_tellArray 78 = .ok (.if_icmp .le 11, 3) := by decide +kernel
theorem dX4_tellArray_81 : decode cX4_tellArray 81 = .ok (.aload_n 0, 1) := by decide +kernel
theorem dX4_tellArray_82 : decode cX4_tellArray 82 = .ok (.iconst 5, 1) := by decide +kernel
theorem dX4_tellArray_83 : decode cX4_tellArray 83 = .ok (.iload_n 1, 1) := by decide +kernel
theorem dX4_tellArray_84 : decode cX4_tellArray 84 = .ok (.iconst 3, 1) := by decide +kernel
theorem dX4_tellArray_85 : decode cX4_tellArray 85 = .ok (.iadd, 1) := by decide +kernel
theorem dX4_tellArray_86 : decode cX4_tellArray 86 = .ok (.invokevirtual 84, 3) := by decide +kernel
theorem dX4_tellArray_89 : decode cX4_tellArray 89 = .ok (.aload_n 0, 1) := by decide +kernel
theorem dX4_tellArray_90 : decode cX4_tellArray 90 = .ok (.getfield 36, 3) := by decide +kernel
theorem dX4_tellArray_93 : decode cX4_tellArray 93 = .ok (.getfield 171, 3) := by decide +kernel
theorem dX4_tellArray_96 : decode cX4_tellArray 96 = .ok (.iload_n 3, 1) := by decide +kernel
theorem dX4_tellArray_97 : decode cX4_tellArray 97 = .ok (.iload 4, 2) := by decide +kernel
theorem dX4_tellArray_99 : decode cX4_tellArray 99 = .ok (.iload_n 2, 1) := by decide +kernel
theorem dX4_tellArray_100 : decode cX4_tellArray 100 = .ok (.iadd, 1) := by decide +kernel
theorem dX4_tellArray_101 : decode cX4_tellArray 101 = .ok (.invokestatic 112, 3) := by decide +kernel
theorem dX4_tellArray_104 : decode cX4_tellArray 104 = .ok (.return_, 1) := by decide +kernel
def F_X4_tellArray (p0 : Int32) (Γ : HS) : HR :=
  (F_X4_tellItem (p0 + 1) 5 3 20 Γ).bind fun u_1 =>
  (F_X10_worthOf (p0 + 3) u_1.2).bind fun u_3 =>
  bnd (mrg (fun j => j == 1) u_1.2 u_3.2) fun σ_5 =>
  bnd ((g_at 7 ((σ_5 4).2.1 0) 3)) fun (x_7 : Int32) =>
  bnd (fun (t_9 : Int32) (σ_10 : HS) => (
    bnd (fun  (σ_14 : HS) => (
      bnd ((t_9 + u_3.1)) fun (x_18 : Int32) =>
      bnd (cA' σ_14 4 12 (g_put 20 ((σ_14 4).2.1 12) (x_7 - 1) x_18)) fun σ_20 =>
      some (0, σ_20)
    ) : HS → HR) fun j_15 =>
    bnd (fun  (σ_22 : HS) => (
      (F_X4_fail 5 (p0 + 3) σ_22).bind fun u_26 =>
      j_15  u_26.2
    ) : HS → HR) fun j_23 =>
    if u_3.1 < 1 then (
      j_23  σ_10
    ) else (
      if 400 < u_3.1 then (
        j_23  σ_10
      ) else (
        if (t_9 + u_3.1) ≤ 1000 then (
          j_15  σ_10
        ) else (
          j_23  σ_10
        )
      )
    )
  ) : Int32 → HS → HR) fun j_11 =>
  if (x_7 - 1) ≤ 0 then (
    j_11 0 σ_5
  ) else (
    bnd (((x_7 - 1) - 1)) fun (x_40 : Int32) =>
    bnd ((g_at 20 ((σ_5 4).2.1 12) x_40)) fun (x_42 : Int32) =>
    j_11 x_42 σ_5
  )
set_option maxHeartbeats 4000000 in
set_option maxRecDepth 100000 in
theorem k_X4_tellArray (l : Launch) (dC : Nat → ClassId) (dI : Nat → Nat → Nat) (cB cC cI cJ cZ cP : ClassId) (oA : Nat → Nat) (rA : Nat → Nat → Nat) (sz : Nat)  (p0 : Int32) (Γ : HS) (res : Int32 × HS) (hF : F_X4_tellArray p0 Γ = some res) : Met l yX4_tellArray (g_ws yX4_tellArray cX4_tellArray 5 none) ({ frames := 6, cells := 0, slots := 0, locals := 149 }) (va_Pc [.ref (oA 3), .int p0] (g_B (dC, dI) [(cB, .byte), (cC, .char), (cI, .int), (cJ, .long), (cZ, .boolean), (cP, .object "StoryHouse$Play")] sz (b_m cB cC cI cJ cZ oA rA Γ ++ b_w cB cC cI cJ cZ oA rA Γ ++ b_s cB cC cI cJ cZ oA rA Γ ++ b_c cB cC cI cJ cZ oA rA Γ ++ b_t cB cC cI cJ cZ oA rA Γ ++ b_d cB cC cI cJ cZ oA rA Γ) g_0)) (va_Qv (fun (_ : Unit) => True) (g_Bo (dC, dI) (va_A (b_m cB cC cI cJ cZ oA rA Γ ++ b_w cB cC cI cJ cZ oA rA Γ ++ b_s cB cC cI cJ cZ oA rA Γ ++ b_c cB cC cI cJ cZ oA rA Γ ++ b_t cB cC cI cJ cZ oA rA Γ ++ b_d cB cC cI cJ cZ oA rA Γ) sz) (fun (_ : Unit) => (b_m cB cC cI cJ cZ oA rA res.2 ++ b_w cB cC cI cJ cZ oA rA res.2 ++ b_s cB cC cI cJ cZ oA rA res.2 ++ b_c cB cC cI cJ cZ oA rA res.2 ++ b_t cB cC cI cJ cZ oA rA res.2 ++ b_d cB cC cI cJ cZ oA rA res.2))) (va_A (b_m cB cC cI cJ cZ oA rA Γ ++ b_w cB cC cI cJ cZ oA rA Γ ++ b_s cB cC cI cJ cZ oA rA Γ ++ b_c cB cC cI cJ cZ oA rA Γ ++ b_t cB cC cI cJ cZ oA rA Γ ++ b_d cB cC cI cJ cZ oA rA Γ) sz)) 0 0 (va_A (b_m cB cC cI cJ cZ oA rA Γ ++ b_w cB cC cI cJ cZ oA rA Γ ++ b_s cB cC cI cJ cZ oA rA Γ ++ b_c cB cC cI cJ cZ oA rA Γ ++ b_t cB cC cI cJ cZ oA rA Γ ++ b_d cB cC cI cJ cZ oA rA Γ) sz) := by
  refine Met.ofW (cc := cX4_tellArray) (maxL := 5) (ret := none) (by decide) rfl ?_
  intro p e s m args below meth c s₁ B hml hv
  obtain ⟨rfl, hsz, hP, hK, hD0, hE, hX⟩ := hv
  have hx := B.exec
  have hb := B.bytes
  have hr := B.returns
  have hts0 := atoms_spec (ws := g_ws yX4_tellArray cX4_tellArray 5 none) B.pre
  have hts : ∀ w ∈ lw_good, w.before ([.ref (oA 3), .int p0] : List Value).toArray s = true := fun w z => hts0 w (List.mem_cons_of_mem _ z)
  have hown : s.vm.findClass RX4 = some m.cls := findClass_of_methodNamed B.named
  have hlocks := B.notSynchronized
  subst hsz
  have hD1 := hD0.self (sz := s.heap.size)
  generalize hAe : va_A (b_m cB cC cI cJ cZ oA rA Γ ++ b_w cB cC cI cJ cZ oA rA Γ ++ b_s cB cC cI cJ cZ oA rA Γ ++ b_c cB cC cI cJ cZ oA rA Γ ++ b_t cB cC cI cJ cZ oA rA Γ ++ b_d cB cC cI cJ cZ oA rA Γ) s.heap.size = A at hD1 hE hX ⊢
  have hA : ∀ q : Nat, s.heap.size ≤ q → A q := fun q z => by rw [← hAe]; exact Or.inr z
  have hDD : ∀ Γ : HS, va_D A (b_m cB cC cI cJ cZ oA rA Γ ++ b_w cB cC cI cJ cZ oA rA Γ ++ b_s cB cC cI cJ cZ oA rA Γ ++ b_c cB cC cI cJ cZ oA rA Γ ++ b_t cB cC cI cJ cZ oA rA Γ ++ b_d cB cC cI cJ cZ oA rA Γ) := fun Γ9 => va_D_fst (ws := (b_m cB cC cI cJ cZ oA rA Γ ++ b_w cB cC cI cJ cZ oA rA Γ ++ b_s cB cC cI cJ cZ oA rA Γ ++ b_c cB cC cI cJ cZ oA rA Γ ++ b_t cB cC cI cJ cZ oA rA Γ ++ b_d cB cC cI cJ cZ oA rA Γ)) (ws' := (b_m cB cC cI cJ cZ oA rA Γ9 ++ b_w cB cC cI cJ cZ oA rA Γ9 ++ b_s cB cC cI cJ cZ oA rA Γ9 ++ b_c cB cC cI cJ cZ oA rA Γ9 ++ b_t cB cC cI cJ cZ oA rA Γ9 ++ b_d cB cC cI cJ cZ oA rA Γ9)) rfl hD1
  have hN := hE.1
  have hS : va_S A s.heap s.heap [] := va_S.rf
  have hl := lv_entry ([.ref (oA 3), .int p0]) (n := 5) (Nat.le_of_ble_eq_true rfl)
  rw [lg_entry_eq]
  generalize (lg_sl ([.ref (oA 3), .int p0]) ++ List.replicate (5 - (lg_sl ([.ref (oA 3), .int p0])).length) Slot.unset).toArray = ls at hl ⊢
  have hl : lv_has ls 5 [(0, .ref (oA 3)), (1, .int p0)] := hl
  unfold F_X4_tellArray at hF
  refine lv_aload_n hx hb dX4_tellArray_0 rfl (lv_at hl 0 rfl) ?_
  refine lv_iload_n hx hb dX4_tellArray_1 rfl (lv_at hl 1 rfl) ?_
  refine lv_iconst (v := 1) hx hb dX4_tellArray_2 (by decide +kernel) ?_
  refine lv_iadd hx hb dX4_tellArray_3 ?_
  refine lv_iconst (v := 5) hx hb dX4_tellArray_4 (by decide +kernel) ?_
  refine lv_iconst (v := 3) hx hb dX4_tellArray_5 (by decide +kernel) ?_
  refine lv_bipush (v := 20) hx hb dX4_tellArray_6 (by decide +kernel) ?_
  obtain ⟨u_1, hu_1, hF_2⟩ := Option.bind_eq_some_iff.mp hF
  clear hF
  have hPc := hP.sub (ws' := (b_m cB cC cI cJ cZ oA rA Γ ++ b_w cB cC cI cJ cZ oA rA Γ ++ b_s cB cC cI cJ cZ oA rA Γ ++ b_c cB cC cI cJ cZ oA rA Γ ++ b_t cB cC cI cJ cZ oA rA Γ ++ b_d cB cC cI cJ cZ oA rA Γ)) [0, 1, 2, 3, 4, 5, 6, 7, 8, 9, 10, 11, 12, 13, 14, 15, 16, 17, 18, 19, 20, 21, 22, 23, 24, 25, 26, 27, 28, 29, 30, 31, 32, 33, 34, 35, 36, 37, 38, 39, 40, 41, 42, 43, 44, 45, 46] rfl
  have hDc := (hDD Γ).sub (ws' := (b_m cB cC cI cJ cZ oA rA Γ ++ b_w cB cC cI cJ cZ oA rA Γ ++ b_s cB cC cI cJ cZ oA rA Γ ++ b_c cB cC cI cJ cZ oA rA Γ ++ b_t cB cC cI cJ cZ oA rA Γ ++ b_d cB cC cI cJ cZ oA rA Γ)) [0, 1, 2, 3, 4, 5, 6, 7, 8, 9, 10, 11, 12, 13, 14, 15, 16, 17, 18, 19, 20, 21, 22, 23, 24, 25, 26, 27, 28, 29, 30, 31, 32, 33, 34, 35, 36, 37, 38, 39, 40, 41, 42, 43, 44, 45, 46] (by decide +kernel) rfl
  have hFc := va_free (wc := (b_m cB cC cI cJ cZ oA rA Γ ++ b_w cB cC cI cJ cZ oA rA Γ ++ b_s cB cC cI cJ cZ oA rA Γ ++ b_c cB cC cI cJ cZ oA rA Γ ++ b_t cB cC cI cJ cZ oA rA Γ ++ b_d cB cC cI cJ cZ oA rA Γ)) (hDD Γ) hS hA [0, 1, 2, 3, 4, 5, 6, 7, 8, 9, 10, 11, 12, 13, 14, 15, 16, 17, 18, 19, 20, 21, 22, 23, 24, 25, 26, 27, 28, 29, 30, 31, 32, 33, 34, 35, 36, 37, 38, 39, 40, 41, 42, 43, 44, 45, 46] rfl
  refine g_ofv (wc := (b_m cB cC cI cJ cZ oA rA Γ ++ b_w cB cC cI cJ cZ oA rA Γ ++ b_s cB cC cI cJ cZ oA rA Γ ++ b_c cB cC cI cJ cZ oA rA Γ ++ b_t cB cC cI cJ cZ oA rA Γ ++ b_d cB cC cI cJ cZ oA rA Γ)) (wr := ([] : va_W)) hP (hDD Γ) hS hFc [0, 1, 2, 3, 4, 5, 6, 7, 8, 9, 10, 11, 12, 13, 14, 15, 16, 17, 18, 19, 20, 21, 22, 23, 24, 25, 26, 27, 28, 29, 30, 31, 32, 33, 34, 35, 36, 37, 38, 39, 40, 41, 42, 43, 44, 45, 46] [] rfl rfl (by decide +kernel) (by decide +kernel) (va_runV (As := [.int (p0 + 1), .int 5, .int 3, .int 20]) (rest := []) ⟨hx, hb, hml, hown, hts⟩ (k_X4_tellItem l dC dI cB cC cI cJ cZ cP oA rA s.heap.size  (p0 + 1) 5 3 20 Γ _ hu_1) (cwV 4 hts (g_gV wq_722 wq_723 wq_2036 wq_4 wq_724) rfl rfl rfl (by decide +kernel) ⟨Nat.le_of_ble_eq_true rfl, Nat.le_of_ble_eq_true rfl⟩) (g_preV g_bl0 hK hPc hDc hS hE hFc g_to0 (q0 := 0) (ci := 4) rfl rfl) rfl rfl hl.1 rfl (lv_room (Nat.le_of_ble_eq_true rfl)) dX4_tellArray_8 ⟨Nat.le_of_ble_eq_true rfl, Nat.le_of_ble_eq_true rfl⟩) (fun u9 H locs hw9 hP' hD' hS => ?_)
  clear hPc hDc hFc
  have hP : va_P (dC, dI) vwCl (b_m cB cC cI cJ cZ oA rA u_1.2 ++ b_w cB cC cI cJ cZ oA rA u_1.2 ++ b_s cB cC cI cJ cZ oA rA u_1.2 ++ b_c cB cC cI cJ cZ oA rA u_1.2 ++ b_t cB cC cI cJ cZ oA rA u_1.2 ++ b_d cB cC cI cJ cZ oA rA u_1.2) H := hP'
  clear hP' hD'
  refine lv_aload_n hx hb dX4_tellArray_11 rfl (lv_at hl 0 rfl) ?_
  refine va_get (D := (dC, dI)) (ci := 4) (v := .ref (oA 1)) (C := RX4) (T := TX4) (N := 18) hx hb hts ii_X4 hown hK hP 0 rfl rfl 0 (by decide) (hts (.fieldLink RX4 32 "StoryHouse$Meanings" "words" "LStoryHouse$Words;") wq_86) (fun _ h9 => h9) rfl dX4_tellArray_12 ?_
  refine lv_iload_n hx hb dX4_tellArray_15 rfl (lv_at hl 1 rfl) ?_
  refine lv_iconst (v := 3) hx hb dX4_tellArray_16 (by decide +kernel) ?_
  refine lv_iadd hx hb dX4_tellArray_17 ?_
  obtain ⟨u_3, hu_3, hF_4⟩ := Option.bind_eq_some_iff.mp hF_2
  clear hF_2
  have hPc := hP.sub (ws' := (b_w cB cC cI cJ cZ oA rA u_1.2)) [7, 8, 9, 10, 11, 12, 13, 14, 15] rfl
  have hDc := (hDD u_1.2).sub (ws' := (b_w cB cC cI cJ cZ oA rA u_1.2)) [7, 8, 9, 10, 11, 12, 13, 14, 15] (by decide +kernel) rfl
  have hFc := va_free (wc := (b_w cB cC cI cJ cZ oA rA u_1.2)) (hDD u_1.2) hS hA [7, 8, 9, 10, 11, 12, 13, 14, 15] rfl
  refine g_ofi (wc := (b_w cB cC cI cJ cZ oA rA u_1.2)) (wr := (b_m cB cC cI cJ cZ oA rA u_1.2 ++ b_s cB cC cI cJ cZ oA rA u_1.2 ++ b_c cB cC cI cJ cZ oA rA u_1.2 ++ b_t cB cC cI cJ cZ oA rA u_1.2 ++ b_d cB cC cI cJ cZ oA rA u_1.2)) hP (hDD u_1.2) hS hFc [7, 8, 9, 10, 11, 12, 13, 14, 15] [0, 1, 2, 3, 4, 5, 6, 16, 17, 18, 19, 20, 21, 22, 23, 24, 25, 26, 27, 28, 29, 30, 31, 32, 33, 34, 35, 36, 37, 38, 39, 40, 41, 42, 43, 44, 45, 46] rfl rfl (by decide +kernel) (by decide +kernel) (va_runV (As := [.int (p0 + 3)]) (rest := []) ⟨hx, hb, hml, hown, hts⟩ (k_X10_worthOf l dC dI cB cC cI cJ cZ cP oA rA H.size  (p0 + 3) u_1.2 _ hu_3) (cwV 1 hts (g_gV wq_715 wq_653 wq_654 wq_2 wq_655) rfl rfl rfl (by decide +kernel) ⟨Nat.le_of_ble_eq_true rfl, Nat.le_of_ble_eq_true rfl⟩) (g_preV g_bl0 hK hPc hDc hS hE hFc g_to0 (q0 := 0) (ci := 10) rfl rfl) rfl rfl hl.1 rfl (lv_room (Nat.le_of_ble_eq_true rfl)) dX4_tellArray_18 ⟨Nat.le_of_ble_eq_true rfl, Nat.le_of_ble_eq_true rfl⟩) (fun r9 u9 H locs hw9 hP' hD' hS => ?_)
  clear hPc hDc hFc
  subst hw9
  obtain ⟨σ_5, eσ_5, hF_6⟩ := bnd_e hF_4
  clear hF_4
  have hP : va_P (dC, dI) vwCl (b_m cB cC cI cJ cZ oA rA σ_5 ++ b_w cB cC cI cJ cZ oA rA σ_5 ++ b_s cB cC cI cJ cZ oA rA σ_5 ++ b_c cB cC cI cJ cZ oA rA σ_5 ++ b_t cB cC cI cJ cZ oA rA σ_5 ++ b_d cB cC cI cJ cZ oA rA σ_5) H := by rw [eσ_5]; exact hP'.sub [0, 1, 2, 3, 4, 5, 6, 38, 39, 40, 41, 42, 43, 44, 45, 46, 7, 8, 9, 10, 11, 12, 13, 14, 15, 16, 17, 18, 19, 20, 21, 22, 23, 24, 25, 26, 27, 28, 29, 30, 31, 32, 33, 34, 35, 36, 37] rfl
  clear hP' hD'
  refine lv_istore_n (lv' := [(2, .int u_3.1), (0, .ref (oA 3)), (1, .int p0)]) hx hb dX4_tellArray_21 rfl hl (by decide) rfl (fun ls hl => ?_)
  refine lv_aload_n hx hb dX4_tellArray_22 rfl (lv_at hl 1 rfl) ?_
  refine va_get (D := (dC, dI)) (ci := 4) (v := .ref (oA 4)) (C := RX4) (T := TX4) (N := 18) hx hb hts ii_X4 hown hK hP 0 rfl rfl 1 (by decide) (hts (.fieldLink RX4 36 "StoryHouse$Meanings" "story" "LStoryHouse$Story;") wq_87) (fun _ h9 => h9) rfl dX4_tellArray_23 ?_
  refine va_get (D := (dC, dI)) (ci := 7) (v := .ref (rA 4 0)) (C := RX7) (T := TX7) (N := 19) hx hb hts ii_X7 hown hK hP 16 rfl rfl 0 (by decide) (hts (.fieldLink RX4 165 "StoryHouse$Story" "counts" "[I") wq_154) (fun _ h9 => h9) rfl dX4_tellArray_26 ?_
  refine lv_iconst (v := 3) hx hb dX4_tellArray_29 (by decide +kernel) ?_
  have hPc := hP.sub (ws' := [(rA 4 0, .inl (cI, 7, .inl ((σ_5 4).2.1 0)))]) [17] rfl
  have hDc := (hDD σ_5).sub (ws' := [(rA 4 0, .inl (cI, 7, .inl ((σ_5 4).2.1 0)))]) [17] (by decide +kernel) rfl
  have hFc := va_free (wc := [(rA 4 0, .inl (cI, 7, .inl ((σ_5 4).2.1 0)))]) (hDD σ_5) hS hA [17] rfl
  refine g_ofi (wc := [(rA 4 0, .inl (cI, 7, .inl ((σ_5 4).2.1 0)))]) (wr := (((b_m cB cC cI cJ cZ oA rA σ_5 ++ b_w cB cC cI cJ cZ oA rA σ_5 ++ b_s cB cC cI cJ cZ oA rA σ_5 ++ b_c cB cC cI cJ cZ oA rA σ_5 ++ b_t cB cC cI cJ cZ oA rA σ_5 ++ b_d cB cC cI cJ cZ oA rA σ_5)).eraseIdx 17)) hP (hDD σ_5) hS hFc [17] [0, 1, 2, 3, 4, 5, 6, 7, 8, 9, 10, 11, 12, 13, 14, 15, 16, 18, 19, 20, 21, 22, 23, 24, 25, 26, 27, 28, 29, 30, 31, 32, 33, 34, 35, 36, 37, 38, 39, 40, 41, 42, 43, 44, 45, 46] rfl rfl (by decide +kernel) (by decide +kernel) (va_runSN (As := [.ref (rA 4 0), .int 3]) (rest := []) ⟨hx, hb, hml, hown, hts⟩ (c_X11_at l dC dI cB cC cI cJ cZ cP H.size (rA 4 0) 3 7 ((σ_5 4).2.1 0) (by decide)) ⟨va_cnB 2 hts (g_gA wq_407) rfl rfl rfl (hN.at 24 rfl) (hts (.initialized RX11) wq_1) (by decide +kernel) ⟨Nat.le_of_ble_eq_true rfl, Nat.le_of_ble_eq_true rfl⟩, (hts (.static yX11_at) wq_406), trivial⟩ (g_preS g_bl0 hK hPc hDc hS hE hFc g_to0) rfl rfl hl.1 rfl (lv_room (Nat.le_of_ble_eq_true rfl)) dX4_tellArray_30 ⟨Nat.le_of_ble_eq_true rfl, Nat.le_of_ble_eq_true rfl⟩) (fun r9 u9 H locs hw9 hP' hD' hS => ?_)
  clear hPc hDc hFc hD'
  have hP : va_P (dC, dI) vwCl (b_m cB cC cI cJ cZ oA rA σ_5 ++ b_w cB cC cI cJ cZ oA rA σ_5 ++ b_s cB cC cI cJ cZ oA rA σ_5 ++ b_c cB cC cI cJ cZ oA rA σ_5 ++ b_t cB cC cI cJ cZ oA rA σ_5 ++ b_d cB cC cI cJ cZ oA rA σ_5) H := hP'.sub [0, 1, 2, 3, 4, 5, 6, 7, 8, 9, 10, 11, 12, 13, 14, 15, 16, 46, 17, 18, 19, 20, 21, 22, 23, 24, 25, 26, 27, 28, 29, 30, 31, 32, 33, 34, 35, 36, 37, 38, 39, 40, 41, 42, 43, 44, 45] rfl
  clear hP'
  subst hw9
  obtain ⟨x_7, ex_7, hF_8⟩ := bnd_e hF_6
  clear hF_6
  refine m_top ex_7 ?_
  refine lv_iconst (v := 1) hx hb dX4_tellArray_33 (by decide +kernel) ?_
  refine lv_isub hx hb dX4_tellArray_34 ?_
  refine lv_istore_n (lv' := [(3, .int (x_7 - 1)), (2, .int u_3.1), (0, .ref (oA 3)), (1, .int p0)]) hx hb dX4_tellArray_35 rfl hl (by decide) rfl (fun ls hl => ?_)
  refine lv_iload_n hx hb dX4_tellArray_36 rfl (lv_at hl 0 rfl) ?_
  obtain ⟨j_11, ej_11, hF_12⟩ := bnd_e hF_8
  clear hF_8
  have Jj_11 : ∀ (t_9 : Int32) (σ_10 : HS), j_11 t_9 σ_10 = some res → ∀ (H : Heap) (locs : List Loc), va_P (dC, dI) vwCl (b_m cB cC cI cJ cZ oA rA σ_10 ++ b_w cB cC cI cJ cZ oA rA σ_10 ++ b_s cB cC cI cJ cZ oA rA σ_10 ++ b_c cB cC cI cJ cZ oA rA σ_10 ++ b_t cB cC cI cJ cZ oA rA σ_10 ++ b_d cB cC cI cJ cZ oA rA σ_10) H → va_S A s.heap H locs → ∀ ls : Array Slot, lv_has ls 5 [(0, .ref (oA 3)), (1, .int p0), (2, .int u_3.1), (3, .int (x_7 - 1))] → W p l e (headSpec (g_ws yX4_tellArray cX4_tellArray 5 none) { frames := 6, cells := 0, slots := 0, locals := 149 }).room s m ([.ref (oA 3), .int p0] : List Value).toArray below meth c H locs 0 0 (MQ below (va_Qv (fun (_ : Unit) => True) (g_Bo (dC, dI) A (fun (_ : Unit) => (b_m cB cC cI cJ cZ oA rA res.2 ++ b_w cB cC cI cJ cZ oA rA res.2 ++ b_s cB cC cI cJ cZ oA rA res.2 ++ b_c cB cC cI cJ cZ oA rA res.2 ++ b_t cB cC cI cJ cZ oA rA res.2 ++ b_d cB cC cI cJ cZ oA rA res.2))) A) ([.ref (oA 3), .int p0] : List Value).toArray s 0 0 A) (F0 m 57 ls [.int t_9]) := by
    intro t_9 σ_10 hF0 H locs hP hS ls hl
    subst ej_11
    have hF_13 := hF0
    clear hF0
    refine lv_istore (lv' := [(4, .int t_9), (0, .ref (oA 3)), (1, .int p0), (2, .int u_3.1), (3, .int (x_7 - 1))]) hx hb dX4_tellArray_57 hl (by decide) rfl (fun ls hl => ?_)
    refine lv_iload_n hx hb dX4_tellArray_59 rfl (lv_at hl 3 rfl) ?_
    refine lv_iconst (v := 1) hx hb dX4_tellArray_60 (by decide +kernel) ?_
    obtain ⟨j_15, ej_15, hF_16⟩ := bnd_e hF_13
    clear hF_13
    have Jj_15 : ∀  (σ_14 : HS), j_15  σ_14 = some res → ∀ (H : Heap) (locs : List Loc), va_P (dC, dI) vwCl (b_m cB cC cI cJ cZ oA rA σ_14 ++ b_w cB cC cI cJ cZ oA rA σ_14 ++ b_s cB cC cI cJ cZ oA rA σ_14 ++ b_c cB cC cI cJ cZ oA rA σ_14 ++ b_t cB cC cI cJ cZ oA rA σ_14 ++ b_d cB cC cI cJ cZ oA rA σ_14) H → va_S A s.heap H locs → ∀ ls : Array Slot, lv_has ls 5 [(0, .ref (oA 3)), (2, .int u_3.1), (3, .int (x_7 - 1)), (4, .int t_9)] → W p l e (headSpec (g_ws yX4_tellArray cX4_tellArray 5 none) { frames := 6, cells := 0, slots := 0, locals := 149 }).room s m ([.ref (oA 3), .int p0] : List Value).toArray below meth c H locs 0 0 (MQ below (va_Qv (fun (_ : Unit) => True) (g_Bo (dC, dI) A (fun (_ : Unit) => (b_m cB cC cI cJ cZ oA rA res.2 ++ b_w cB cC cI cJ cZ oA rA res.2 ++ b_s cB cC cI cJ cZ oA rA res.2 ++ b_c cB cC cI cJ cZ oA rA res.2 ++ b_t cB cC cI cJ cZ oA rA res.2 ++ b_d cB cC cI cJ cZ oA rA res.2))) A) ([.ref (oA 3), .int p0] : List Value).toArray s 0 0 A) (F0 m 89 ls []) := by
      intro  σ_14 hF0 H locs hP hS ls hl
      subst ej_15
      have hF_17 := hF0
      clear hF0
      refine lv_aload_n hx hb dX4_tellArray_89 rfl (lv_at hl 0 rfl) ?_
      refine va_get (D := (dC, dI)) (ci := 4) (v := .ref (oA 4)) (C := RX4) (T := TX4) (N := 18) hx hb hts ii_X4 hown hK hP 0 rfl rfl 1 (by decide) (hts (.fieldLink RX4 36 "StoryHouse$Meanings" "story" "LStoryHouse$Story;") wq_87) (fun _ h9 => h9) rfl dX4_tellArray_90 ?_
      refine va_get (D := (dC, dI)) (ci := 7) (v := .ref (rA 4 12)) (C := RX7) (T := TX7) (N := 19) hx hb hts ii_X7 hown hK hP 16 rfl rfl 12 (by decide) (hts (.fieldLink RX4 171 "StoryHouse$Story" "cellEnds" "[I") wq_182) (fun _ h9 => h9) rfl dX4_tellArray_93 ?_
      refine lv_iload_n hx hb dX4_tellArray_96 rfl (lv_at hl 2 rfl) ?_
      refine lv_iload hx hb dX4_tellArray_97 (lv_at hl 3 rfl) ?_
      refine lv_iload_n hx hb dX4_tellArray_99 rfl (lv_at hl 1 rfl) ?_
      refine lv_iadd hx hb dX4_tellArray_100 ?_
      obtain ⟨x_18, ex_18, hF_19⟩ := bnd_e hF_17
      clear hF_17
      refine m_top ex_18 ?_
      have hPc := hP.sub (ws' := [(rA 4 12, .inl (cI, 20, .inl ((σ_14 4).2.1 12)))]) [29] rfl
      have hDc := (hDD σ_14).sub (ws' := [(rA 4 12, .inl (cI, 20, .inl ((σ_14 4).2.1 12)))]) [29] (by decide +kernel) rfl
      have hFc := va_free (wc := [(rA 4 12, .inl (cI, 20, .inl ((σ_14 4).2.1 12)))]) (hDD σ_14) hS hA [29] rfl
      refine g_ofv (wc := [(rA 4 12, .inl (cI, 20, .inl ((σ_14 4).2.1 12)))]) (wr := (((b_m cB cC cI cJ cZ oA rA σ_14 ++ b_w cB cC cI cJ cZ oA rA σ_14 ++ b_s cB cC cI cJ cZ oA rA σ_14 ++ b_c cB cC cI cJ cZ oA rA σ_14 ++ b_t cB cC cI cJ cZ oA rA σ_14 ++ b_d cB cC cI cJ cZ oA rA σ_14)).eraseIdx 29)) hP (hDD σ_14) hS hFc [29] [0, 1, 2, 3, 4, 5, 6, 7, 8, 9, 10, 11, 12, 13, 14, 15, 16, 17, 18, 19, 20, 21, 22, 23, 24, 25, 26, 27, 28, 30, 31, 32, 33, 34, 35, 36, 37, 38, 39, 40, 41, 42, 43, 44, 45, 46] rfl rfl (by decide +kernel) (by decide +kernel) (va_runSN (As := [.ref (rA 4 12), .int (x_7 - 1), .int x_18]) (rest := []) ⟨hx, hb, hml, hown, hts⟩ (c_X11_put l dC dI cB cC cI cJ cZ cP H.size (rA 4 12) (x_7 - 1) x_18 20 ((σ_14 4).2.1 12) (by decide)) ⟨va_cnB 3 hts (g_gA wq_412) rfl rfl rfl (hN.at 23 rfl) (hts (.initialized RX11) wq_1) (by decide +kernel) ⟨Nat.le_of_ble_eq_true rfl, Nat.le_of_ble_eq_true rfl⟩, (hts (.static yX11_put) wq_411), trivial⟩ (g_preS g_bl0 hK hPc hDc hS hE hFc g_to0) rfl rfl hl.1 rfl (lv_room (Nat.le_of_ble_eq_true rfl)) dX4_tellArray_101 ⟨Nat.le_of_ble_eq_true rfl, Nat.le_of_ble_eq_true rfl⟩) (fun g9 H locs hw9 hP' hD' hS => ?_)
      clear hPc hDc hFc hD'
      obtain ⟨σ_20, eσ_20, hF_21⟩ := bnd_e hF_19
      clear hF_19
      subst hw9
      have hP : va_P (dC, dI) vwCl (b_m cB cC cI cJ cZ oA rA σ_20 ++ b_w cB cC cI cJ cZ oA rA σ_20 ++ b_s cB cC cI cJ cZ oA rA σ_20 ++ b_c cB cC cI cJ cZ oA rA σ_20 ++ b_t cB cC cI cJ cZ oA rA σ_20 ++ b_d cB cC cI cJ cZ oA rA σ_20) H := by rw [eσ_20]; exact hP'.sub [0, 1, 2, 3, 4, 5, 6, 7, 8, 9, 10, 11, 12, 13, 14, 15, 16, 17, 18, 19, 20, 21, 22, 23, 24, 25, 26, 27, 28, 46, 29, 30, 31, 32, 33, 34, 35, 36, 37, 38, 39, 40, 41, 42, 43, 44, 45] rfl
      clear hP'
      have h9 := Option.some.inj hF_21
      subst h9
      exact W.vret hx hb hr (fun t ht hW => ⟨⟨(), rfl, trivial, m_end ht hP, hDD _⟩, hS.F ht⟩) hS.2.2 dX4_tellArray_104
    obtain ⟨j_23, ej_23, hF_24⟩ := bnd_e hF_16
    clear hF_16
    have Jj_23 : ∀  (σ_22 : HS), j_23  σ_22 = some res → ∀ (H : Heap) (locs : List Loc), va_P (dC, dI) vwCl (b_m cB cC cI cJ cZ oA rA σ_22 ++ b_w cB cC cI cJ cZ oA rA σ_22 ++ b_s cB cC cI cJ cZ oA rA σ_22 ++ b_c cB cC cI cJ cZ oA rA σ_22 ++ b_t cB cC cI cJ cZ oA rA σ_22 ++ b_d cB cC cI cJ cZ oA rA σ_22) H → va_S A s.heap H locs → ∀ ls : Array Slot, lv_has ls 5 [(0, .ref (oA 3)), (1, .int p0), (2, .int u_3.1), (3, .int (x_7 - 1)), (4, .int t_9)] → W p l e (headSpec (g_ws yX4_tellArray cX4_tellArray 5 none) { frames := 6, cells := 0, slots := 0, locals := 149 }).room s m ([.ref (oA 3), .int p0] : List Value).toArray below meth c H locs 0 0 (MQ below (va_Qv (fun (_ : Unit) => True) (g_Bo (dC, dI) A (fun (_ : Unit) => (b_m cB cC cI cJ cZ oA rA res.2 ++ b_w cB cC cI cJ cZ oA rA res.2 ++ b_s cB cC cI cJ cZ oA rA res.2 ++ b_c cB cC cI cJ cZ oA rA res.2 ++ b_t cB cC cI cJ cZ oA rA res.2 ++ b_d cB cC cI cJ cZ oA rA res.2))) A) ([.ref (oA 3), .int p0] : List Value).toArray s 0 0 A) (F0 m 81 ls []) := by
      intro  σ_22 hF0 H locs hP hS ls hl
      subst ej_23
      have hF_25 := hF0
      clear hF0
      refine lv_aload_n hx hb dX4_tellArray_81 rfl (lv_at hl 0 rfl) ?_
      refine lv_iconst (v := 5) hx hb dX4_tellArray_82 (by decide +kernel) ?_
      refine lv_iload_n hx hb dX4_tellArray_83 rfl (lv_at hl 1 rfl) ?_
      refine lv_iconst (v := 3) hx hb dX4_tellArray_84 (by decide +kernel) ?_
      refine lv_iadd hx hb dX4_tellArray_85 ?_
      obtain ⟨u_26, hu_26, hF_27⟩ := Option.bind_eq_some_iff.mp hF_25
      clear hF_25
      have hPc := hP.sub (ws' := (b_m cB cC cI cJ cZ oA rA σ_22 ++ b_w cB cC cI cJ cZ oA rA σ_22 ++ b_s cB cC cI cJ cZ oA rA σ_22 ++ b_c cB cC cI cJ cZ oA rA σ_22 ++ b_t cB cC cI cJ cZ oA rA σ_22 ++ b_d cB cC cI cJ cZ oA rA σ_22)) [0, 1, 2, 3, 4, 5, 6, 7, 8, 9, 10, 11, 12, 13, 14, 15, 16, 17, 18, 19, 20, 21, 22, 23, 24, 25, 26, 27, 28, 29, 30, 31, 32, 33, 34, 35, 36, 37, 38, 39, 40, 41, 42, 43, 44, 45, 46] rfl
      have hDc := (hDD σ_22).sub (ws' := (b_m cB cC cI cJ cZ oA rA σ_22 ++ b_w cB cC cI cJ cZ oA rA σ_22 ++ b_s cB cC cI cJ cZ oA rA σ_22 ++ b_c cB cC cI cJ cZ oA rA σ_22 ++ b_t cB cC cI cJ cZ oA rA σ_22 ++ b_d cB cC cI cJ cZ oA rA σ_22)) [0, 1, 2, 3, 4, 5, 6, 7, 8, 9, 10, 11, 12, 13, 14, 15, 16, 17, 18, 19, 20, 21, 22, 23, 24, 25, 26, 27, 28, 29, 30, 31, 32, 33, 34, 35, 36, 37, 38, 39, 40, 41, 42, 43, 44, 45, 46] (by decide +kernel) rfl
      have hFc := va_free (wc := (b_m cB cC cI cJ cZ oA rA σ_22 ++ b_w cB cC cI cJ cZ oA rA σ_22 ++ b_s cB cC cI cJ cZ oA rA σ_22 ++ b_c cB cC cI cJ cZ oA rA σ_22 ++ b_t cB cC cI cJ cZ oA rA σ_22 ++ b_d cB cC cI cJ cZ oA rA σ_22)) (hDD σ_22) hS hA [0, 1, 2, 3, 4, 5, 6, 7, 8, 9, 10, 11, 12, 13, 14, 15, 16, 17, 18, 19, 20, 21, 22, 23, 24, 25, 26, 27, 28, 29, 30, 31, 32, 33, 34, 35, 36, 37, 38, 39, 40, 41, 42, 43, 44, 45, 46] rfl
      refine g_ofv (wc := (b_m cB cC cI cJ cZ oA rA σ_22 ++ b_w cB cC cI cJ cZ oA rA σ_22 ++ b_s cB cC cI cJ cZ oA rA σ_22 ++ b_c cB cC cI cJ cZ oA rA σ_22 ++ b_t cB cC cI cJ cZ oA rA σ_22 ++ b_d cB cC cI cJ cZ oA rA σ_22)) (wr := ([] : va_W)) hP (hDD σ_22) hS hFc [0, 1, 2, 3, 4, 5, 6, 7, 8, 9, 10, 11, 12, 13, 14, 15, 16, 17, 18, 19, 20, 21, 22, 23, 24, 25, 26, 27, 28, 29, 30, 31, 32, 33, 34, 35, 36, 37, 38, 39, 40, 41, 42, 43, 44, 45, 46] [] rfl rfl (by decide +kernel) (by decide +kernel) (va_runV (As := [.int 5, .int (p0 + 3)]) (rest := []) ⟨hx, hb, hml, hown, hts⟩ (k_X4_fail l dC dI cB cC cI cJ cZ cP oA rA H.size  5 (p0 + 3) σ_22 _ hu_26) (cwV 2 hts (g_gV wq_725 wq_726 wq_2037 wq_4 wq_727) rfl rfl rfl (by decide +kernel) ⟨Nat.le_of_ble_eq_true rfl, Nat.le_of_ble_eq_true rfl⟩) (g_preV g_bl0 hK hPc hDc hS hE hFc g_to0 (q0 := 0) (ci := 4) rfl rfl) rfl rfl hl.1 rfl (lv_room (Nat.le_of_ble_eq_true rfl)) dX4_tellArray_86 ⟨Nat.le_of_ble_eq_true rfl, Nat.le_of_ble_eq_true rfl⟩) (fun u9 H locs hw9 hP' hD' hS => ?_)
      clear hPc hDc hFc
      have hP : va_P (dC, dI) vwCl (b_m cB cC cI cJ cZ oA rA u_26.2 ++ b_w cB cC cI cJ cZ oA rA u_26.2 ++ b_s cB cC cI cJ cZ oA rA u_26.2 ++ b_c cB cC cI cJ cZ oA rA u_26.2 ++ b_t cB cC cI cJ cZ oA rA u_26.2 ++ b_d cB cC cI cJ cZ oA rA u_26.2) H := hP'
      clear hP' hD'
      exact Jj_15  u_26.2 hF_27 _ _ hP hS ls (lv_sub hl [0, 2, 3, 4] rfl)
    refine lv_icmp_lt (tgt := 81) hx hb dX4_tellArray_61 (by decide) (fun c_28 => ?_) (fun c_28 => ?_)
    · have hF_29 := ipos c_28 hF_24
      clear hF_24
      exact Jj_23  σ_10 hF_29 _ _ hP hS ls (lv_sub hl [1, 2, 3, 4, 0] rfl)
    · have hF_30 := ineg c_28 hF_24
      clear hF_24
      refine lv_iload_n hx hb dX4_tellArray_64 rfl (lv_at hl 3 rfl) ?_
      refine lv_sipush (v := 400) hx hb dX4_tellArray_65 (by decide +kernel) ?_
      refine lv_icmp_gt (tgt := 81) hx hb dX4_tellArray_68 (by decide) (fun c_31 => ?_) (fun c_31 => ?_)
      · have hF_32 := ipos c_31 hF_30
        clear hF_30
        exact Jj_23  σ_10 hF_32 _ _ hP hS ls (lv_sub hl [1, 2, 3, 4, 0] rfl)
      · have hF_33 := ineg c_31 hF_30
        clear hF_30
        refine lv_iload hx hb dX4_tellArray_71 (lv_at hl 0 rfl) ?_
        refine lv_iload_n hx hb dX4_tellArray_73 rfl (lv_at hl 3 rfl) ?_
        refine lv_iadd hx hb dX4_tellArray_74 ?_
        refine lv_sipush (v := 1000) hx hb dX4_tellArray_75 (by decide +kernel) ?_
        refine lv_icmp_le (tgt := 89) hx hb dX4_tellArray_78 (by decide) (fun c_34 => ?_) (fun c_34 => ?_)
        · have hF_35 := ipos c_34 hF_33
          clear hF_33
          exact Jj_15  σ_10 hF_35 _ _ hP hS ls (lv_sub hl [1, 3, 4, 0] rfl)
        · have hF_36 := ineg c_34 hF_33
          clear hF_33
          exact Jj_23  σ_10 hF_36 _ _ hP hS ls (lv_sub hl [1, 2, 3, 4, 0] rfl)
  refine lv_if_le (tgt := 56) hx hb dX4_tellArray_37 (by decide) (fun c_37 => ?_) (fun c_37 => ?_)
  · have hF_38 := ipos c_37 hF_12
    clear hF_12
    refine lv_iconst (v := 0) hx hb dX4_tellArray_56 (by decide +kernel) ?_
    exact Jj_11 0 σ_5 hF_38 _ _ hP hS ls (lv_sub hl [2, 3, 1, 0] rfl)
  · have hF_39 := ineg c_37 hF_12
    clear hF_12
    refine lv_aload_n hx hb dX4_tellArray_40 rfl (lv_at hl 2 rfl) ?_
    refine va_get (D := (dC, dI)) (ci := 4) (v := .ref (oA 4)) (C := RX4) (T := TX4) (N := 18) hx hb hts ii_X4 hown hK hP 0 rfl rfl 1 (by decide) (hts (.fieldLink RX4 36 "StoryHouse$Meanings" "story" "LStoryHouse$Story;") wq_87) (fun _ h9 => h9) rfl dX4_tellArray_41 ?_
    refine va_get (D := (dC, dI)) (ci := 7) (v := .ref (rA 4 12)) (C := RX7) (T := TX7) (N := 19) hx hb hts ii_X7 hown hK hP 16 rfl rfl 12 (by decide) (hts (.fieldLink RX4 171 "StoryHouse$Story" "cellEnds" "[I") wq_182) (fun _ h9 => h9) rfl dX4_tellArray_44 ?_
    refine lv_iload_n hx hb dX4_tellArray_47 rfl (lv_at hl 0 rfl) ?_
    refine lv_iconst (v := 1) hx hb dX4_tellArray_48 (by decide +kernel) ?_
    refine lv_isub hx hb dX4_tellArray_49 ?_
    obtain ⟨x_40, ex_40, hF_41⟩ := bnd_e hF_39
    clear hF_39
    refine m_top ex_40 ?_
    have hPc := hP.sub (ws' := [(rA 4 12, .inl (cI, 20, .inl ((σ_5 4).2.1 12)))]) [29] rfl
    have hDc := (hDD σ_5).sub (ws' := [(rA 4 12, .inl (cI, 20, .inl ((σ_5 4).2.1 12)))]) [29] (by decide +kernel) rfl
    have hFc := va_free (wc := [(rA 4 12, .inl (cI, 20, .inl ((σ_5 4).2.1 12)))]) (hDD σ_5) hS hA [29] rfl
    refine g_ofi (wc := [(rA 4 12, .inl (cI, 20, .inl ((σ_5 4).2.1 12)))]) (wr := (((b_m cB cC cI cJ cZ oA rA σ_5 ++ b_w cB cC cI cJ cZ oA rA σ_5 ++ b_s cB cC cI cJ cZ oA rA σ_5 ++ b_c cB cC cI cJ cZ oA rA σ_5 ++ b_t cB cC cI cJ cZ oA rA σ_5 ++ b_d cB cC cI cJ cZ oA rA σ_5)).eraseIdx 29)) hP (hDD σ_5) hS hFc [29] [0, 1, 2, 3, 4, 5, 6, 7, 8, 9, 10, 11, 12, 13, 14, 15, 16, 17, 18, 19, 20, 21, 22, 23, 24, 25, 26, 27, 28, 30, 31, 32, 33, 34, 35, 36, 37, 38, 39, 40, 41, 42, 43, 44, 45, 46] rfl rfl (by decide +kernel) (by decide +kernel) (va_runSN (As := [.ref (rA 4 12), .int x_40]) (rest := []) ⟨hx, hb, hml, hown, hts⟩ (c_X11_at l dC dI cB cC cI cJ cZ cP H.size (rA 4 12) x_40 20 ((σ_5 4).2.1 12) (by decide)) ⟨va_cnB 2 hts (g_gA wq_407) rfl rfl rfl (hN.at 24 rfl) (hts (.initialized RX11) wq_1) (by decide +kernel) ⟨Nat.le_of_ble_eq_true rfl, Nat.le_of_ble_eq_true rfl⟩, (hts (.static yX11_at) wq_406), trivial⟩ (g_preS g_bl0 hK hPc hDc hS hE hFc g_to0) rfl rfl hl.1 rfl (lv_room (Nat.le_of_ble_eq_true rfl)) dX4_tellArray_50 ⟨Nat.le_of_ble_eq_true rfl, Nat.le_of_ble_eq_true rfl⟩) (fun r9 u9 H locs hw9 hP' hD' hS => ?_)
    clear hPc hDc hFc hD'
    have hP : va_P (dC, dI) vwCl (b_m cB cC cI cJ cZ oA rA σ_5 ++ b_w cB cC cI cJ cZ oA rA σ_5 ++ b_s cB cC cI cJ cZ oA rA σ_5 ++ b_c cB cC cI cJ cZ oA rA σ_5 ++ b_t cB cC cI cJ cZ oA rA σ_5 ++ b_d cB cC cI cJ cZ oA rA σ_5) H := hP'.sub [0, 1, 2, 3, 4, 5, 6, 7, 8, 9, 10, 11, 12, 13, 14, 15, 16, 17, 18, 19, 20, 21, 22, 23, 24, 25, 26, 27, 28, 46, 29, 30, 31, 32, 33, 34, 35, 36, 37, 38, 39, 40, 41, 42, 43, 44, 45] rfl
    clear hP'
    subst hw9
    obtain ⟨x_42, ex_42, hF_43⟩ := bnd_e hF_41
    clear hF_41
    refine m_top ex_42 ?_
    refine lv_goto (tgt := 57) hx hb dX4_tellArray_53 (by decide) ?_
    exact Jj_11 x_42 σ_5 hF_43 _ _ hP hS ls (lv_sub hl [2, 3, 1, 0] rfl)
theorem dX4_isTooLong_0 : decode cX4_isTooLong 0 = .ok (.aload_n 0, 1) := by decide +kernel
theorem dX4_isTooLong_1 : decode cX4_isTooLong 1 = .ok (.getfield 32, 3) := by decide +kernel
theorem dX4_isTooLong_4 : decode cX4_isTooLong 4 = .ok (.aload_n 0, 1) := by decide +kernel
theorem dX4_isTooLong_5 : decode cX4_isTooLong 5 = .ok (.getfield 32, 3) := by decide +kernel
theorem dX4_isTooLong_8 : decode cX4_isTooLong 8 = .ok (.getfield 181, 3) := by decide +kernel
theorem dX4_isTooLong_11 : decode cX4_isTooLong 11 = .ok (.iload_n 1, 1) := by decide +kernel
theorem dX4_isTooLong_12 : decode cX4_isTooLong 12 = .ok (.invokestatic 122, 3) := by decide +kernel
theorem dX4_isTooLong_15 : decode cX4_isTooLong 15 = .ok (.invokevirtual 88, 3) := by decide +kernel
theorem dX4_isTooLong_18 : decode cX4_isTooLong 18 = .ok (.iconst 1, 1) := by decide +kernel
theorem dX4_isTooLong_19 : decode cX4_isTooLong 19 = .ok (.iadd, 1) := by decide +kernel
theorem dX4_isTooLong_20 : decode cX4_isTooLong 20 = .ok (.aload_n 0, 1) := by decide +kernel
theorem dX4_isTooLong_21 : decode cX4_isTooLong 21 = .ok (.getfield 32, 3) := by decide +kernel
theorem dX4_isTooLong_24 : decode cX4_isTooLong 24 = .ok (.iload_n 1, 1) := by decide +kernel
theorem dX4_isTooLong_25 : decode cX4_isTooLong 25 = .ok (.invokevirtual 88, 3) := by decide +kernel
theorem dX4_isTooLong_28 : decode cX4_isTooLong 28 = .ok (.isub, 1) := by decide +kernel
theorem dX4_isTooLong_29 : decode cX4_isTooLong 29 = .ok (.sipush 4000, 3) := by decide +kernel
theorem dX4_isTooLong_32 : decode cX4_isTooLong 32 = .ok (.if_icmp .le 7, 3) := by decide +kernel
theorem dX4_isTooLong_35 : decode cX4_isTooLong 35 = .ok (.iconst 1, 1) := by decide +kernel
theorem dX4_isTooLong_36 : decode cX4_isTooLong 36 = .ok (.goto 4, 3) := by decide +kernel
theorem dX4_isTooLong_39 : decode cX4_isTooLong 39 = .ok (.iconst 0, 1) := by decide +kernel
theorem dX4_isTooLong_40 : decode cX4_isTooLong 40 = .ok (.ireturn, 1) := by decide +kernel
def F_X4_isTooLong (p0 : Int32) (Γ : HS) : HR :=
  bnd ((g_at 16001 ((Γ 1).2.1 6) p0)) fun (x_1 : Int32) =>
  (F_X10_placeOf x_1 Γ).bind fun u_3 =>
  bnd (mrg (fun j => j == 1) Γ u_3.2) fun σ_5 =>
  (F_X10_placeOf p0 σ_5).bind fun u_7 =>
  bnd (mrg (fun j => j == 1) σ_5 u_7.2) fun σ_9 =>
  if ((u_3.1 + 1) - u_7.1) ≤ 4000 then (
    some (0, σ_9)
  ) else (
    some (1, σ_9)
  )
set_option maxHeartbeats 4000000 in
set_option maxRecDepth 100000 in
theorem k_X4_isTooLong (l : Launch) (dC : Nat → ClassId) (dI : Nat → Nat → Nat) (cB cC cI cJ cZ cP : ClassId) (oA : Nat → Nat) (rA : Nat → Nat → Nat) (sz : Nat)  (p0 : Int32) (Γ : HS) (res : Int32 × HS) (hF : F_X4_isTooLong p0 Γ = some res) : Met l yX4_isTooLong (g_ws yX4_isTooLong cX4_isTooLong 2 (some .boolean)) ({ frames := 4, cells := 0, slots := 0, locals := 102 }) (va_Pc [.ref (oA 3), .int p0] (g_B (dC, dI) [(cB, .byte), (cC, .char), (cI, .int), (cJ, .long), (cZ, .boolean), (cP, .object "StoryHouse$Play")] sz (b_m cB cC cI cJ cZ oA rA Γ ++ b_w cB cC cI cJ cZ oA rA Γ ++ b_s cB cC cI cJ cZ oA rA Γ ++ b_c cB cC cI cJ cZ oA rA Γ ++ b_t cB cC cI cJ cZ oA rA Γ ++ b_d cB cC cI cJ cZ oA rA Γ) g_0)) (va_Qi (fun r (_ : Unit) => r = res.1) (g_Bo (dC, dI) (va_A (b_m cB cC cI cJ cZ oA rA Γ ++ b_w cB cC cI cJ cZ oA rA Γ ++ b_s cB cC cI cJ cZ oA rA Γ ++ b_c cB cC cI cJ cZ oA rA Γ ++ b_t cB cC cI cJ cZ oA rA Γ ++ b_d cB cC cI cJ cZ oA rA Γ) sz) (fun (_ : Unit) => (b_m cB cC cI cJ cZ oA rA res.2 ++ b_w cB cC cI cJ cZ oA rA res.2 ++ b_s cB cC cI cJ cZ oA rA res.2 ++ b_c cB cC cI cJ cZ oA rA res.2 ++ b_t cB cC cI cJ cZ oA rA res.2 ++ b_d cB cC cI cJ cZ oA rA res.2))) (va_A (b_m cB cC cI cJ cZ oA rA Γ ++ b_w cB cC cI cJ cZ oA rA Γ ++ b_s cB cC cI cJ cZ oA rA Γ ++ b_c cB cC cI cJ cZ oA rA Γ ++ b_t cB cC cI cJ cZ oA rA Γ ++ b_d cB cC cI cJ cZ oA rA Γ) sz)) 0 0 (va_A (b_m cB cC cI cJ cZ oA rA Γ ++ b_w cB cC cI cJ cZ oA rA Γ ++ b_s cB cC cI cJ cZ oA rA Γ ++ b_c cB cC cI cJ cZ oA rA Γ ++ b_t cB cC cI cJ cZ oA rA Γ ++ b_d cB cC cI cJ cZ oA rA Γ) sz) := by
  refine Met.ofW (cc := cX4_isTooLong) (maxL := 2) (ret := (some .boolean)) (by decide) rfl ?_
  intro p e s m args below meth c s₁ B hml hv
  obtain ⟨rfl, hsz, hP, hK, hD0, hE, hX⟩ := hv
  have hx := B.exec
  have hb := B.bytes
  have hr := B.returns
  have hts0 := atoms_spec (ws := g_ws yX4_isTooLong cX4_isTooLong 2 (some .boolean)) B.pre
  have hts : ∀ w ∈ lw_good, w.before ([.ref (oA 3), .int p0] : List Value).toArray s = true := fun w z => hts0 w (List.mem_cons_of_mem _ z)
  have hown : s.vm.findClass RX4 = some m.cls := findClass_of_methodNamed B.named
  have hlocks := B.notSynchronized
  subst hsz
  have hD1 := hD0.self (sz := s.heap.size)
  generalize hAe : va_A (b_m cB cC cI cJ cZ oA rA Γ ++ b_w cB cC cI cJ cZ oA rA Γ ++ b_s cB cC cI cJ cZ oA rA Γ ++ b_c cB cC cI cJ cZ oA rA Γ ++ b_t cB cC cI cJ cZ oA rA Γ ++ b_d cB cC cI cJ cZ oA rA Γ) s.heap.size = A at hD1 hE hX ⊢
  have hA : ∀ q : Nat, s.heap.size ≤ q → A q := fun q z => by rw [← hAe]; exact Or.inr z
  have hDD : ∀ Γ : HS, va_D A (b_m cB cC cI cJ cZ oA rA Γ ++ b_w cB cC cI cJ cZ oA rA Γ ++ b_s cB cC cI cJ cZ oA rA Γ ++ b_c cB cC cI cJ cZ oA rA Γ ++ b_t cB cC cI cJ cZ oA rA Γ ++ b_d cB cC cI cJ cZ oA rA Γ) := fun Γ9 => va_D_fst (ws := (b_m cB cC cI cJ cZ oA rA Γ ++ b_w cB cC cI cJ cZ oA rA Γ ++ b_s cB cC cI cJ cZ oA rA Γ ++ b_c cB cC cI cJ cZ oA rA Γ ++ b_t cB cC cI cJ cZ oA rA Γ ++ b_d cB cC cI cJ cZ oA rA Γ)) (ws' := (b_m cB cC cI cJ cZ oA rA Γ9 ++ b_w cB cC cI cJ cZ oA rA Γ9 ++ b_s cB cC cI cJ cZ oA rA Γ9 ++ b_c cB cC cI cJ cZ oA rA Γ9 ++ b_t cB cC cI cJ cZ oA rA Γ9 ++ b_d cB cC cI cJ cZ oA rA Γ9)) rfl hD1
  have hN := hE.1
  have hS : va_S A s.heap s.heap [] := va_S.rf
  have hl := lv_entry ([.ref (oA 3), .int p0]) (n := 2) (Nat.le_of_ble_eq_true rfl)
  rw [lg_entry_eq]
  generalize (lg_sl ([.ref (oA 3), .int p0]) ++ List.replicate (2 - (lg_sl ([.ref (oA 3), .int p0])).length) Slot.unset).toArray = ls at hl ⊢
  have hl : lv_has ls 2 [(0, .ref (oA 3)), (1, .int p0)] := hl
  unfold F_X4_isTooLong at hF
  refine lv_aload_n hx hb dX4_isTooLong_0 rfl (lv_at hl 0 rfl) ?_
  refine va_get (D := (dC, dI)) (ci := 4) (v := .ref (oA 1)) (C := RX4) (T := TX4) (N := 18) hx hb hts ii_X4 hown hK hP 0 rfl rfl 0 (by decide) (hts (.fieldLink RX4 32 "StoryHouse$Meanings" "words" "LStoryHouse$Words;") wq_86) (fun _ h9 => h9) rfl dX4_isTooLong_1 ?_
  refine lv_aload_n hx hb dX4_isTooLong_4 rfl (lv_at hl 0 rfl) ?_
  refine va_get (D := (dC, dI)) (ci := 4) (v := .ref (oA 1)) (C := RX4) (T := TX4) (N := 18) hx hb hts ii_X4 hown hK hP 0 rfl rfl 0 (by decide) (hts (.fieldLink RX4 32 "StoryHouse$Meanings" "words" "LStoryHouse$Words;") wq_86) (fun _ h9 => h9) rfl dX4_isTooLong_5 ?_
  refine va_get (D := (dC, dI)) (ci := 10) (v := .ref (rA 1 6)) (C := RX10) (T := TX10) (N := 12) hx hb hts ii_X10 hown hK hP 7 rfl rfl 6 (by decide) (hts (.fieldLink RX4 181 "StoryHouse$Words" "notes" "[I") wq_54) (fun _ h9 => h9) rfl dX4_isTooLong_8 ?_
  refine lv_iload_n hx hb dX4_isTooLong_11 rfl (lv_at hl 1 rfl) ?_
  have hPc := hP.sub (ws' := [(rA 1 6, .inl (cI, 16001, .inl ((Γ 1).2.1 6)))]) [12] rfl
  have hDc := (hDD Γ).sub (ws' := [(rA 1 6, .inl (cI, 16001, .inl ((Γ 1).2.1 6)))]) [12] (by decide +kernel) rfl
  have hFc := va_free (wc := [(rA 1 6, .inl (cI, 16001, .inl ((Γ 1).2.1 6)))]) (hDD Γ) hS hA [12] rfl
  refine g_ofi (wc := [(rA 1 6, .inl (cI, 16001, .inl ((Γ 1).2.1 6)))]) (wr := (((b_m cB cC cI cJ cZ oA rA Γ ++ b_w cB cC cI cJ cZ oA rA Γ ++ b_s cB cC cI cJ cZ oA rA Γ ++ b_c cB cC cI cJ cZ oA rA Γ ++ b_t cB cC cI cJ cZ oA rA Γ ++ b_d cB cC cI cJ cZ oA rA Γ)).eraseIdx 12)) hP (hDD Γ) hS hFc [12] [0, 1, 2, 3, 4, 5, 6, 7, 8, 9, 10, 11, 13, 14, 15, 16, 17, 18, 19, 20, 21, 22, 23, 24, 25, 26, 27, 28, 29, 30, 31, 32, 33, 34, 35, 36, 37, 38, 39, 40, 41, 42, 43, 44, 45, 46] rfl rfl (by decide +kernel) (by decide +kernel) (va_runSN (As := [.ref (rA 1 6), .int p0]) (rest := [.ref (oA 1)]) ⟨hx, hb, hml, hown, hts⟩ (c_X11_at l dC dI cB cC cI cJ cZ cP s.heap.size (rA 1 6) p0 16001 ((Γ 1).2.1 6) (by decide)) ⟨va_cnB 2 hts (g_gA wq_407) rfl rfl rfl (hN.at 24 rfl) (hts (.initialized RX11) wq_1) (by decide +kernel) ⟨Nat.le_of_ble_eq_true rfl, Nat.le_of_ble_eq_true rfl⟩, (hts (.static yX11_at) wq_406), trivial⟩ (g_preS g_bl0 hK hPc hDc hS hE hFc g_to0) rfl rfl hl.1 rfl (lv_room (Nat.le_of_ble_eq_true rfl)) dX4_isTooLong_12 ⟨Nat.le_of_ble_eq_true rfl, Nat.le_of_ble_eq_true rfl⟩) (fun r9 u9 H locs hw9 hP' hD' hS => ?_)
  clear hPc hDc hFc hD'
  have hP : va_P (dC, dI) vwCl (b_m cB cC cI cJ cZ oA rA Γ ++ b_w cB cC cI cJ cZ oA rA Γ ++ b_s cB cC cI cJ cZ oA rA Γ ++ b_c cB cC cI cJ cZ oA rA Γ ++ b_t cB cC cI cJ cZ oA rA Γ ++ b_d cB cC cI cJ cZ oA rA Γ) H := hP'.sub [0, 1, 2, 3, 4, 5, 6, 7, 8, 9, 10, 11, 46, 12, 13, 14, 15, 16, 17, 18, 19, 20, 21, 22, 23, 24, 25, 26, 27, 28, 29, 30, 31, 32, 33, 34, 35, 36, 37, 38, 39, 40, 41, 42, 43, 44, 45] rfl
  clear hP'
  subst hw9
  obtain ⟨x_1, ex_1, hF_2⟩ := bnd_e hF
  clear hF
  refine m_top ex_1 ?_
  obtain ⟨u_3, hu_3, hF_4⟩ := Option.bind_eq_some_iff.mp hF_2
  clear hF_2
  have hPc := hP.sub (ws' := (b_w cB cC cI cJ cZ oA rA Γ)) [7, 8, 9, 10, 11, 12, 13, 14, 15] rfl
  have hDc := (hDD Γ).sub (ws' := (b_w cB cC cI cJ cZ oA rA Γ)) [7, 8, 9, 10, 11, 12, 13, 14, 15] (by decide +kernel) rfl
  have hFc := va_free (wc := (b_w cB cC cI cJ cZ oA rA Γ)) (hDD Γ) hS hA [7, 8, 9, 10, 11, 12, 13, 14, 15] rfl
  refine g_ofi (wc := (b_w cB cC cI cJ cZ oA rA Γ)) (wr := (b_m cB cC cI cJ cZ oA rA Γ ++ b_s cB cC cI cJ cZ oA rA Γ ++ b_c cB cC cI cJ cZ oA rA Γ ++ b_t cB cC cI cJ cZ oA rA Γ ++ b_d cB cC cI cJ cZ oA rA Γ)) hP (hDD Γ) hS hFc [7, 8, 9, 10, 11, 12, 13, 14, 15] [0, 1, 2, 3, 4, 5, 6, 16, 17, 18, 19, 20, 21, 22, 23, 24, 25, 26, 27, 28, 29, 30, 31, 32, 33, 34, 35, 36, 37, 38, 39, 40, 41, 42, 43, 44, 45, 46] rfl rfl (by decide +kernel) (by decide +kernel) (va_runV (As := [.int x_1]) (rest := []) ⟨hx, hb, hml, hown, hts⟩ (k_X10_placeOf l dC dI cB cC cI cJ cZ cP oA rA H.size  x_1 Γ _ hu_3) (cwV 1 hts (g_gV wq_728 wq_702 wq_703 wq_2 wq_704) rfl rfl rfl (by decide +kernel) ⟨Nat.le_of_ble_eq_true rfl, Nat.le_of_ble_eq_true rfl⟩) (g_preV g_bl0 hK hPc hDc hS hE hFc g_to0 (q0 := 0) (ci := 10) rfl rfl) rfl rfl hl.1 rfl (lv_room (Nat.le_of_ble_eq_true rfl)) dX4_isTooLong_15 ⟨Nat.le_of_ble_eq_true rfl, Nat.le_of_ble_eq_true rfl⟩) (fun r9 u9 H locs hw9 hP' hD' hS => ?_)
  clear hPc hDc hFc
  subst hw9
  obtain ⟨σ_5, eσ_5, hF_6⟩ := bnd_e hF_4
  clear hF_4
  have hP : va_P (dC, dI) vwCl (b_m cB cC cI cJ cZ oA rA σ_5 ++ b_w cB cC cI cJ cZ oA rA σ_5 ++ b_s cB cC cI cJ cZ oA rA σ_5 ++ b_c cB cC cI cJ cZ oA rA σ_5 ++ b_t cB cC cI cJ cZ oA rA σ_5 ++ b_d cB cC cI cJ cZ oA rA σ_5) H := by rw [eσ_5]; exact hP'.sub [0, 1, 2, 3, 4, 5, 6, 38, 39, 40, 41, 42, 43, 44, 45, 46, 7, 8, 9, 10, 11, 12, 13, 14, 15, 16, 17, 18, 19, 20, 21, 22, 23, 24, 25, 26, 27, 28, 29, 30, 31, 32, 33, 34, 35, 36, 37] rfl
  clear hP' hD'
  refine lv_iconst (v := 1) hx hb dX4_isTooLong_18 (by decide +kernel) ?_
  refine lv_iadd hx hb dX4_isTooLong_19 ?_
  refine lv_aload_n hx hb dX4_isTooLong_20 rfl (lv_at hl 0 rfl) ?_
  refine va_get (D := (dC, dI)) (ci := 4) (v := .ref (oA 1)) (C := RX4) (T := TX4) (N := 18) hx hb hts ii_X4 hown hK hP 0 rfl rfl 0 (by decide) (hts (.fieldLink RX4 32 "StoryHouse$Meanings" "words" "LStoryHouse$Words;") wq_86) (fun _ h9 => h9) rfl dX4_isTooLong_21 ?_
  refine lv_iload_n hx hb dX4_isTooLong_24 rfl (lv_at hl 1 rfl) ?_
  obtain ⟨u_7, hu_7, hF_8⟩ := Option.bind_eq_some_iff.mp hF_6
  clear hF_6
  have hPc := hP.sub (ws' := (b_w cB cC cI cJ cZ oA rA σ_5)) [7, 8, 9, 10, 11, 12, 13, 14, 15] rfl
  have hDc := (hDD σ_5).sub (ws' := (b_w cB cC cI cJ cZ oA rA σ_5)) [7, 8, 9, 10, 11, 12, 13, 14, 15] (by decide +kernel) rfl
  have hFc := va_free (wc := (b_w cB cC cI cJ cZ oA rA σ_5)) (hDD σ_5) hS hA [7, 8, 9, 10, 11, 12, 13, 14, 15] rfl
  refine g_ofi (wc := (b_w cB cC cI cJ cZ oA rA σ_5)) (wr := (b_m cB cC cI cJ cZ oA rA σ_5 ++ b_s cB cC cI cJ cZ oA rA σ_5 ++ b_c cB cC cI cJ cZ oA rA σ_5 ++ b_t cB cC cI cJ cZ oA rA σ_5 ++ b_d cB cC cI cJ cZ oA rA σ_5)) hP (hDD σ_5) hS hFc [7, 8, 9, 10, 11, 12, 13, 14, 15] [0, 1, 2, 3, 4, 5, 6, 16, 17, 18, 19, 20, 21, 22, 23, 24, 25, 26, 27, 28, 29, 30, 31, 32, 33, 34, 35, 36, 37, 38, 39, 40, 41, 42, 43, 44, 45, 46] rfl rfl (by decide +kernel) (by decide +kernel) (va_runV (As := [.int p0]) (rest := [.int (u_3.1 + 1)]) ⟨hx, hb, hml, hown, hts⟩ (k_X10_placeOf l dC dI cB cC cI cJ cZ cP oA rA H.size  p0 σ_5 _ hu_7) (cwV 1 hts (g_gV wq_728 wq_702 wq_703 wq_2 wq_704) rfl rfl rfl (by decide +kernel) ⟨Nat.le_of_ble_eq_true rfl, Nat.le_of_ble_eq_true rfl⟩) (g_preV g_bl0 hK hPc hDc hS hE hFc g_to0 (q0 := 0) (ci := 10) rfl rfl) rfl rfl hl.1 rfl (lv_room (Nat.le_of_ble_eq_true rfl)) dX4_isTooLong_25 ⟨Nat.le_of_ble_eq_true rfl, Nat.le_of_ble_eq_true rfl⟩) (fun r9 u9 H locs hw9 hP' hD' hS => ?_)
  clear hPc hDc hFc
  subst hw9
  obtain ⟨σ_9, eσ_9, hF_10⟩ := bnd_e hF_8
  clear hF_8
  have hP : va_P (dC, dI) vwCl (b_m cB cC cI cJ cZ oA rA σ_9 ++ b_w cB cC cI cJ cZ oA rA σ_9 ++ b_s cB cC cI cJ cZ oA rA σ_9 ++ b_c cB cC cI cJ cZ oA rA σ_9 ++ b_t cB cC cI cJ cZ oA rA σ_9 ++ b_d cB cC cI cJ cZ oA rA σ_9) H := by rw [eσ_9]; exact hP'.sub [0, 1, 2, 3, 4, 5, 6, 38, 39, 40, 41, 42, 43, 44, 45, 46, 7, 8, 9, 10, 11, 12, 13, 14, 15, 16, 17, 18, 19, 20, 21, 22, 23, 24, 25, 26, 27, 28, 29, 30, 31, 32, 33, 34, 35, 36, 37] rfl
  clear hP' hD'
  refine lv_isub hx hb dX4_isTooLong_28 ?_
  refine lv_sipush (v := 4000) hx hb dX4_isTooLong_29 (by decide +kernel) ?_
  refine lv_icmp_le (tgt := 39) hx hb dX4_isTooLong_32 (by decide) (fun c_11 => ?_) (fun c_11 => ?_)
  · have hF_12 := ipos c_11 hF_10
    clear hF_10
    refine lv_iconst (v := 0) hx hb dX4_isTooLong_39 (by decide +kernel) ?_
    have h9 := Option.some.inj hF_12
    subst h9
    exact W.zret (v := 0) hx hb hr (by decide +kernel) (fun t ht hW => ⟨⟨0, (), rfl, rfl, m_end ht hP, hDD _⟩, hS.F ht⟩) hS.2.2 dX4_isTooLong_40
  · have hF_13 := ineg c_11 hF_10
    clear hF_10
    refine lv_iconst (v := 1) hx hb dX4_isTooLong_35 (by decide +kernel) ?_
    refine lv_goto (tgt := 40) hx hb dX4_isTooLong_36 (by decide) ?_
    have h9 := Option.some.inj hF_13
    subst h9
    exact W.zret (v := 1) hx hb hr (by decide +kernel) (fun t ht hW => ⟨⟨1, (), rfl, rfl, m_end ht hP, hDD _⟩, hS.F ht⟩) hS.2.2 dX4_isTooLong_40
theorem dX4_tellLocal_0 : decode cX4_tellLocal 0 = .ok (.aload_n 0, 1) := by decide +kernel
theorem dX4_tellLocal_1 : decode cX4_tellLocal 1 = .ok (.getfield 32, 3) := by decide +kernel
theorem dX4_tellLocal_4 : decode cX4_tellLocal 4 = .ok (.iload_n 1, 1) := by decide +kernel
theorem dX4_tellLocal_5 : decode cX4_tellLocal 5 = .ok (.invokevirtual 119, 3) := by decide +kernel
theorem dX4_tellLocal_8 : decode cX4_tellLocal 8 = .ok (.istore_n 3, 1) := by decide +kernel
theorem dX4_tellLocal_9 : decode cX4_tellLocal 9 = .ok (.aload_n 0, 1) := by decide +kernel
theorem dX4_tellLocal_10 : decode cX4_tellLocal 10 = .ok (.getfield 11, 3) := by decide +kernel
theorem dX4_tellLocal_13 : decode cX4_tellLocal 13 = .ok (.iload_n 3, 1) := by decide +kernel
theorem dX4_tellLocal_14 : decode cX4_tellLocal 14 = .ok (.invokestatic 122, 3) := by decide +kernel
theorem dX4_tellLocal_17 : decode cX4_tellLocal 17 = .ok (.sipush 16001, 3) := by decide +kernel
theorem dX4_tellLocal_20 : decode cX4_tellLocal 20 = .ok (.if_icmp .ne 14, 3) := by decide +kernel
theorem dX4_tellLocal_23 : decode cX4_tellLocal 23 = .ok (.aload_n 0, 1) := by decide +kernel
theorem dX4_tellLocal_24 : decode cX4_tellLocal 24 = .ok (.getfield 23, 3) := by decide +kernel
theorem dX4_tellLocal_27 : decode cX4_tellLocal 27 = .ok (.iload_n 3, 1) := by decide +kernel
theorem dX4_tellLocal_28 : decode cX4_tellLocal 28 = .ok (.invokestatic 122, 3) := by decide +kernel
theorem dX4_tellLocal_31 : decode cX4_tellLocal 31 = .ok (.ifCond .eq 12, 3) := by decide +kernel
theorem dX4_tellLocal_34 : decode cX4_tellLocal 34 = .ok (.aload_n 0, 1) := by decide +kernel
theorem dX4_tellLocal_35 : decode cX4_tellLocal 35 = .ok (.iconst 4, 1) := by decide +kernel
theorem dX4_tellLocal_36 : decode cX4_tellLocal 36 = .ok (.iload_n 1, 1) := by decide +kernel
theorem dX4_tellLocal_37 : decode cX4_tellLocal 37 = .ok (.invokevirtual 84, 3) := by decide +kernel
theorem dX4_tellLocal_40 : decode cX4_tellLocal 40 = .ok (.goto 13, 3) := by decide +kernel
theorem dX4_tellLocal_43 : decode cX4_tellLocal 43 = .ok (.iload_n 2, 1) := by decide +kernel
theorem dX4_tellLocal_44 : decode cX4_tellLocal 44 = .ok (.ifCond .ne 9, 3) := by decide +kernel
theorem dX4_tellLocal_47 : decode cX4_tellLocal 47 = .ok (.aload_n 0, 1) := by decide +kernel
theorem dX4_tellLocal_48 : decode cX4_tellLocal 48 = .ok (.iconst 5, 1) := by decide +kernel
theorem dX4_tellLocal_49 : decode cX4_tellLocal 49 = .ok (.iload_n 1, 1) := by decide +kernel
theorem dX4_tellLocal_50 : decode cX4_tellLocal 50 = .ok (.invokevirtual 84, 3) := by decide +kernel
theorem dX4_tellLocal_53 : decode cX4_tellLocal 53 = .ok (.return_, 1) := by decide +kernel
def F_X4_tellLocal (p0 : Int32) (p1 : Int32) (Γ : HS) : HR :=
  (F_X10_worthOf p0 Γ).bind fun u_1 =>
  bnd (mrg (fun j => j == 1) Γ u_1.2) fun σ_3 =>
  bnd ((g_at 4500 ((σ_3 3).2.1 2) u_1.1)) fun (x_5 : Int32) =>
  bnd (fun  (σ_7 : HS) => (
    (F_X4_fail 4 p0 σ_7).bind fun u_11 =>
    some (0, u_11.2)
  ) : HS → HR) fun j_8 =>
  if x_5 = 16001 then (
    bnd ((g_at 4500 ((σ_3 3).2.1 5) u_1.1)) fun (x_15 : Int32) =>
    if x_15 = 0 then (
      if p1 = 0 then (
        (F_X4_fail 5 p0 σ_3).bind fun u_21 =>
        some (0, u_21.2)
      ) else (
        some (0, σ_3)
      )
    ) else (
      j_8  σ_3
    )
  ) else (
    j_8  σ_3
  )
set_option maxHeartbeats 4000000 in
set_option maxRecDepth 100000 in
theorem k_X4_tellLocal (l : Launch) (dC : Nat → ClassId) (dI : Nat → Nat → Nat) (cB cC cI cJ cZ cP : ClassId) (oA : Nat → Nat) (rA : Nat → Nat → Nat) (sz : Nat)  (p0 : Int32) (p1 : Int32) (Γ : HS) (res : Int32 × HS) (hF : F_X4_tellLocal p0 p1 Γ = some res) : Met l yX4_tellLocal (g_ws yX4_tellLocal cX4_tellLocal 4 none) ({ frames := 5, cells := 0, slots := 0, locals := 124 }) (va_Pc [.ref (oA 3), .int p0, .int p1] (g_B (dC, dI) [(cB, .byte), (cC, .char), (cI, .int), (cJ, .long), (cZ, .boolean), (cP, .object "StoryHouse$Play")] sz (b_m cB cC cI cJ cZ oA rA Γ ++ b_w cB cC cI cJ cZ oA rA Γ ++ b_s cB cC cI cJ cZ oA rA Γ ++ b_c cB cC cI cJ cZ oA rA Γ ++ b_t cB cC cI cJ cZ oA rA Γ ++ b_d cB cC cI cJ cZ oA rA Γ) g_0)) (va_Qv (fun (_ : Unit) => True) (g_Bo (dC, dI) (va_A (b_m cB cC cI cJ cZ oA rA Γ ++ b_w cB cC cI cJ cZ oA rA Γ ++ b_s cB cC cI cJ cZ oA rA Γ ++ b_c cB cC cI cJ cZ oA rA Γ ++ b_t cB cC cI cJ cZ oA rA Γ ++ b_d cB cC cI cJ cZ oA rA Γ) sz) (fun (_ : Unit) => (b_m cB cC cI cJ cZ oA rA res.2 ++ b_w cB cC cI cJ cZ oA rA res.2 ++ b_s cB cC cI cJ cZ oA rA res.2 ++ b_c cB cC cI cJ cZ oA rA res.2 ++ b_t cB cC cI cJ cZ oA rA res.2 ++ b_d cB cC cI cJ cZ oA rA res.2))) (va_A (b_m cB cC cI cJ cZ oA rA Γ ++ b_w cB cC cI cJ cZ oA rA Γ ++ b_s cB cC cI cJ cZ oA rA Γ ++ b_c cB cC cI cJ cZ oA rA Γ ++ b_t cB cC cI cJ cZ oA rA Γ ++ b_d cB cC cI cJ cZ oA rA Γ) sz)) 0 0 (va_A (b_m cB cC cI cJ cZ oA rA Γ ++ b_w cB cC cI cJ cZ oA rA Γ ++ b_s cB cC cI cJ cZ oA rA Γ ++ b_c cB cC cI cJ cZ oA rA Γ ++ b_t cB cC cI cJ cZ oA rA Γ ++ b_d cB cC cI cJ cZ oA rA Γ) sz) := by
  refine Met.ofW (cc := cX4_tellLocal) (maxL := 4) (ret := none) (by decide) rfl ?_
  intro p e s m args below meth c s₁ B hml hv
  obtain ⟨rfl, hsz, hP, hK, hD0, hE, hX⟩ := hv
  have hx := B.exec
  have hb := B.bytes
  have hr := B.returns
  have hts0 := atoms_spec (ws := g_ws yX4_tellLocal cX4_tellLocal 4 none) B.pre
  have hts : ∀ w ∈ lw_good, w.before ([.ref (oA 3), .int p0, .int p1] : List Value).toArray s = true := fun w z => hts0 w (List.mem_cons_of_mem _ z)
  have hown : s.vm.findClass RX4 = some m.cls := findClass_of_methodNamed B.named
  have hlocks := B.notSynchronized
  subst hsz
  have hD1 := hD0.self (sz := s.heap.size)
  generalize hAe : va_A (b_m cB cC cI cJ cZ oA rA Γ ++ b_w cB cC cI cJ cZ oA rA Γ ++ b_s cB cC cI cJ cZ oA rA Γ ++ b_c cB cC cI cJ cZ oA rA Γ ++ b_t cB cC cI cJ cZ oA rA Γ ++ b_d cB cC cI cJ cZ oA rA Γ) s.heap.size = A at hD1 hE hX ⊢
  have hA : ∀ q : Nat, s.heap.size ≤ q → A q := fun q z => by rw [← hAe]; exact Or.inr z
  have hDD : ∀ Γ : HS, va_D A (b_m cB cC cI cJ cZ oA rA Γ ++ b_w cB cC cI cJ cZ oA rA Γ ++ b_s cB cC cI cJ cZ oA rA Γ ++ b_c cB cC cI cJ cZ oA rA Γ ++ b_t cB cC cI cJ cZ oA rA Γ ++ b_d cB cC cI cJ cZ oA rA Γ) := fun Γ9 => va_D_fst (ws := (b_m cB cC cI cJ cZ oA rA Γ ++ b_w cB cC cI cJ cZ oA rA Γ ++ b_s cB cC cI cJ cZ oA rA Γ ++ b_c cB cC cI cJ cZ oA rA Γ ++ b_t cB cC cI cJ cZ oA rA Γ ++ b_d cB cC cI cJ cZ oA rA Γ)) (ws' := (b_m cB cC cI cJ cZ oA rA Γ9 ++ b_w cB cC cI cJ cZ oA rA Γ9 ++ b_s cB cC cI cJ cZ oA rA Γ9 ++ b_c cB cC cI cJ cZ oA rA Γ9 ++ b_t cB cC cI cJ cZ oA rA Γ9 ++ b_d cB cC cI cJ cZ oA rA Γ9)) rfl hD1
  have hN := hE.1
  have hS : va_S A s.heap s.heap [] := va_S.rf
  have hl := lv_entry ([.ref (oA 3), .int p0, .int p1]) (n := 4) (Nat.le_of_ble_eq_true rfl)
  rw [lg_entry_eq]
  generalize (lg_sl ([.ref (oA 3), .int p0, .int p1]) ++ List.replicate (4 - (lg_sl ([.ref (oA 3), .int p0, .int p1])).length) Slot.unset).toArray = ls at hl ⊢
  have hl : lv_has ls 4 [(0, .ref (oA 3)), (1, .int p0), (2, .int p1)] := hl
  unfold F_X4_tellLocal at hF
  refine lv_aload_n hx hb dX4_tellLocal_0 rfl (lv_at hl 0 rfl) ?_
  refine va_get (D := (dC, dI)) (ci := 4) (v := .ref (oA 1)) (C := RX4) (T := TX4) (N := 18) hx hb hts ii_X4 hown hK hP 0 rfl rfl 0 (by decide) (hts (.fieldLink RX4 32 "StoryHouse$Meanings" "words" "LStoryHouse$Words;") wq_86) (fun _ h9 => h9) rfl dX4_tellLocal_1 ?_
  refine lv_iload_n hx hb dX4_tellLocal_4 rfl (lv_at hl 1 rfl) ?_
  obtain ⟨u_1, hu_1, hF_2⟩ := Option.bind_eq_some_iff.mp hF
  clear hF
  have hPc := hP.sub (ws' := (b_w cB cC cI cJ cZ oA rA Γ)) [7, 8, 9, 10, 11, 12, 13, 14, 15] rfl
  have hDc := (hDD Γ).sub (ws' := (b_w cB cC cI cJ cZ oA rA Γ)) [7, 8, 9, 10, 11, 12, 13, 14, 15] (by decide +kernel) rfl
  have hFc := va_free (wc := (b_w cB cC cI cJ cZ oA rA Γ)) (hDD Γ) hS hA [7, 8, 9, 10, 11, 12, 13, 14, 15] rfl
  refine g_ofi (wc := (b_w cB cC cI cJ cZ oA rA Γ)) (wr := (b_m cB cC cI cJ cZ oA rA Γ ++ b_s cB cC cI cJ cZ oA rA Γ ++ b_c cB cC cI cJ cZ oA rA Γ ++ b_t cB cC cI cJ cZ oA rA Γ ++ b_d cB cC cI cJ cZ oA rA Γ)) hP (hDD Γ) hS hFc [7, 8, 9, 10, 11, 12, 13, 14, 15] [0, 1, 2, 3, 4, 5, 6, 16, 17, 18, 19, 20, 21, 22, 23, 24, 25, 26, 27, 28, 29, 30, 31, 32, 33, 34, 35, 36, 37, 38, 39, 40, 41, 42, 43, 44, 45, 46] rfl rfl (by decide +kernel) (by decide +kernel) (va_runV (As := [.int p0]) (rest := []) ⟨hx, hb, hml, hown, hts⟩ (k_X10_worthOf l dC dI cB cC cI cJ cZ cP oA rA s.heap.size  p0 Γ _ hu_1) (cwV 1 hts (g_gV wq_715 wq_653 wq_654 wq_2 wq_655) rfl rfl rfl (by decide +kernel) ⟨Nat.le_of_ble_eq_true rfl, Nat.le_of_ble_eq_true rfl⟩) (g_preV g_bl0 hK hPc hDc hS hE hFc g_to0 (q0 := 0) (ci := 10) rfl rfl) rfl rfl hl.1 rfl (lv_room (Nat.le_of_ble_eq_true rfl)) dX4_tellLocal_5 ⟨Nat.le_of_ble_eq_true rfl, Nat.le_of_ble_eq_true rfl⟩) (fun r9 u9 H locs hw9 hP' hD' hS => ?_)
  clear hPc hDc hFc
  subst hw9
  obtain ⟨σ_3, eσ_3, hF_4⟩ := bnd_e hF_2
  clear hF_2
  have hP : va_P (dC, dI) vwCl (b_m cB cC cI cJ cZ oA rA σ_3 ++ b_w cB cC cI cJ cZ oA rA σ_3 ++ b_s cB cC cI cJ cZ oA rA σ_3 ++ b_c cB cC cI cJ cZ oA rA σ_3 ++ b_t cB cC cI cJ cZ oA rA σ_3 ++ b_d cB cC cI cJ cZ oA rA σ_3) H := by rw [eσ_3]; exact hP'.sub [0, 1, 2, 3, 4, 5, 6, 38, 39, 40, 41, 42, 43, 44, 45, 46, 7, 8, 9, 10, 11, 12, 13, 14, 15, 16, 17, 18, 19, 20, 21, 22, 23, 24, 25, 26, 27, 28, 29, 30, 31, 32, 33, 34, 35, 36, 37] rfl
  clear hP' hD'
  refine lv_istore_n (lv' := [(3, .int u_1.1), (0, .ref (oA 3)), (1, .int p0), (2, .int p1)]) hx hb dX4_tellLocal_8 rfl hl (by decide) rfl (fun ls hl => ?_)
  refine lv_aload_n hx hb dX4_tellLocal_9 rfl (lv_at hl 1 rfl) ?_
  refine va_get (D := (dC, dI)) (ci := 4) (v := .ref (rA 3 2)) (C := RX4) (T := TX4) (N := 18) hx hb hts ii_X4 hown hK hP 0 rfl rfl 2 (by decide) (hts (.fieldLink RX4 11 "StoryHouse$Meanings" "toldAt" "[I") wq_88) (fun _ h9 => h9) rfl dX4_tellLocal_10 ?_
  refine lv_iload_n hx hb dX4_tellLocal_13 rfl (lv_at hl 0 rfl) ?_
  have hPc := hP.sub (ws' := [(rA 3 2, .inl (cI, 4500, .inl ((σ_3 3).2.1 2)))]) [1] rfl
  have hDc := (hDD σ_3).sub (ws' := [(rA 3 2, .inl (cI, 4500, .inl ((σ_3 3).2.1 2)))]) [1] (by decide +kernel) rfl
  have hFc := va_free (wc := [(rA 3 2, .inl (cI, 4500, .inl ((σ_3 3).2.1 2)))]) (hDD σ_3) hS hA [1] rfl
  refine g_ofi (wc := [(rA 3 2, .inl (cI, 4500, .inl ((σ_3 3).2.1 2)))]) (wr := (((b_m cB cC cI cJ cZ oA rA σ_3 ++ b_w cB cC cI cJ cZ oA rA σ_3 ++ b_s cB cC cI cJ cZ oA rA σ_3 ++ b_c cB cC cI cJ cZ oA rA σ_3 ++ b_t cB cC cI cJ cZ oA rA σ_3 ++ b_d cB cC cI cJ cZ oA rA σ_3)).eraseIdx 1)) hP (hDD σ_3) hS hFc [1] [0, 2, 3, 4, 5, 6, 7, 8, 9, 10, 11, 12, 13, 14, 15, 16, 17, 18, 19, 20, 21, 22, 23, 24, 25, 26, 27, 28, 29, 30, 31, 32, 33, 34, 35, 36, 37, 38, 39, 40, 41, 42, 43, 44, 45, 46] rfl rfl (by decide +kernel) (by decide +kernel) (va_runSN (As := [.ref (rA 3 2), .int u_1.1]) (rest := []) ⟨hx, hb, hml, hown, hts⟩ (c_X11_at l dC dI cB cC cI cJ cZ cP H.size (rA 3 2) u_1.1 4500 ((σ_3 3).2.1 2) (by decide)) ⟨va_cnB 2 hts (g_gA wq_407) rfl rfl rfl (hN.at 24 rfl) (hts (.initialized RX11) wq_1) (by decide +kernel) ⟨Nat.le_of_ble_eq_true rfl, Nat.le_of_ble_eq_true rfl⟩, (hts (.static yX11_at) wq_406), trivial⟩ (g_preS g_bl0 hK hPc hDc hS hE hFc g_to0) rfl rfl hl.1 rfl (lv_room (Nat.le_of_ble_eq_true rfl)) dX4_tellLocal_14 ⟨Nat.le_of_ble_eq_true rfl, Nat.le_of_ble_eq_true rfl⟩) (fun r9 u9 H locs hw9 hP' hD' hS => ?_)
  clear hPc hDc hFc hD'
  have hP : va_P (dC, dI) vwCl (b_m cB cC cI cJ cZ oA rA σ_3 ++ b_w cB cC cI cJ cZ oA rA σ_3 ++ b_s cB cC cI cJ cZ oA rA σ_3 ++ b_c cB cC cI cJ cZ oA rA σ_3 ++ b_t cB cC cI cJ cZ oA rA σ_3 ++ b_d cB cC cI cJ cZ oA rA σ_3) H := hP'.sub [0, 46, 1, 2, 3, 4, 5, 6, 7, 8, 9, 10, 11, 12, 13, 14, 15, 16, 17, 18, 19, 20, 21, 22, 23, 24, 25, 26, 27, 28, 29, 30, 31, 32, 33, 34, 35, 36, 37, 38, 39, 40, 41, 42, 43, 44, 45] rfl
  clear hP'
  subst hw9
  obtain ⟨x_5, ex_5, hF_6⟩ := bnd_e hF_4
  clear hF_4
  refine m_top ex_5 ?_
  refine lv_sipush (v := 16001) hx hb dX4_tellLocal_17 (by decide +kernel) ?_
  obtain ⟨j_8, ej_8, hF_9⟩ := bnd_e hF_6
  clear hF_6
  have Jj_8 : ∀  (σ_7 : HS), j_8  σ_7 = some res → ∀ (H : Heap) (locs : List Loc), va_P (dC, dI) vwCl (b_m cB cC cI cJ cZ oA rA σ_7 ++ b_w cB cC cI cJ cZ oA rA σ_7 ++ b_s cB cC cI cJ cZ oA rA σ_7 ++ b_c cB cC cI cJ cZ oA rA σ_7 ++ b_t cB cC cI cJ cZ oA rA σ_7 ++ b_d cB cC cI cJ cZ oA rA σ_7) H → va_S A s.heap H locs → ∀ ls : Array Slot, lv_has ls 4 [(0, .ref (oA 3)), (1, .int p0)] → W p l e (headSpec (g_ws yX4_tellLocal cX4_tellLocal 4 none) { frames := 5, cells := 0, slots := 0, locals := 124 }).room s m ([.ref (oA 3), .int p0, .int p1] : List Value).toArray below meth c H locs 0 0 (MQ below (va_Qv (fun (_ : Unit) => True) (g_Bo (dC, dI) A (fun (_ : Unit) => (b_m cB cC cI cJ cZ oA rA res.2 ++ b_w cB cC cI cJ cZ oA rA res.2 ++ b_s cB cC cI cJ cZ oA rA res.2 ++ b_c cB cC cI cJ cZ oA rA res.2 ++ b_t cB cC cI cJ cZ oA rA res.2 ++ b_d cB cC cI cJ cZ oA rA res.2))) A) ([.ref (oA 3), .int p0, .int p1] : List Value).toArray s 0 0 A) (F0 m 34 ls []) := by
    intro  σ_7 hF0 H locs hP hS ls hl
    subst ej_8
    have hF_10 := hF0
    clear hF0
    refine lv_aload_n hx hb dX4_tellLocal_34 rfl (lv_at hl 0 rfl) ?_
    refine lv_iconst (v := 4) hx hb dX4_tellLocal_35 (by decide +kernel) ?_
    refine lv_iload_n hx hb dX4_tellLocal_36 rfl (lv_at hl 1 rfl) ?_
    obtain ⟨u_11, hu_11, hF_12⟩ := Option.bind_eq_some_iff.mp hF_10
    clear hF_10
    have hPc := hP.sub (ws' := (b_m cB cC cI cJ cZ oA rA σ_7 ++ b_w cB cC cI cJ cZ oA rA σ_7 ++ b_s cB cC cI cJ cZ oA rA σ_7 ++ b_c cB cC cI cJ cZ oA rA σ_7 ++ b_t cB cC cI cJ cZ oA rA σ_7 ++ b_d cB cC cI cJ cZ oA rA σ_7)) [0, 1, 2, 3, 4, 5, 6, 7, 8, 9, 10, 11, 12, 13, 14, 15, 16, 17, 18, 19, 20, 21, 22, 23, 24, 25, 26, 27, 28, 29, 30, 31, 32, 33, 34, 35, 36, 37, 38, 39, 40, 41, 42, 43, 44, 45, 46] rfl
    have hDc := (hDD σ_7).sub (ws' := (b_m cB cC cI cJ cZ oA rA σ_7 ++ b_w cB cC cI cJ cZ oA rA σ_7 ++ b_s cB cC cI cJ cZ oA rA σ_7 ++ b_c cB cC cI cJ cZ oA rA σ_7 ++ b_t cB cC cI cJ cZ oA rA σ_7 ++ b_d cB cC cI cJ cZ oA rA σ_7)) [0, 1, 2, 3, 4, 5, 6, 7, 8, 9, 10, 11, 12, 13, 14, 15, 16, 17, 18, 19, 20, 21, 22, 23, 24, 25, 26, 27, 28, 29, 30, 31, 32, 33, 34, 35, 36, 37, 38, 39, 40, 41, 42, 43, 44, 45, 46] (by decide +kernel) rfl
    have hFc := va_free (wc := (b_m cB cC cI cJ cZ oA rA σ_7 ++ b_w cB cC cI cJ cZ oA rA σ_7 ++ b_s cB cC cI cJ cZ oA rA σ_7 ++ b_c cB cC cI cJ cZ oA rA σ_7 ++ b_t cB cC cI cJ cZ oA rA σ_7 ++ b_d cB cC cI cJ cZ oA rA σ_7)) (hDD σ_7) hS hA [0, 1, 2, 3, 4, 5, 6, 7, 8, 9, 10, 11, 12, 13, 14, 15, 16, 17, 18, 19, 20, 21, 22, 23, 24, 25, 26, 27, 28, 29, 30, 31, 32, 33, 34, 35, 36, 37, 38, 39, 40, 41, 42, 43, 44, 45, 46] rfl
    refine g_ofv (wc := (b_m cB cC cI cJ cZ oA rA σ_7 ++ b_w cB cC cI cJ cZ oA rA σ_7 ++ b_s cB cC cI cJ cZ oA rA σ_7 ++ b_c cB cC cI cJ cZ oA rA σ_7 ++ b_t cB cC cI cJ cZ oA rA σ_7 ++ b_d cB cC cI cJ cZ oA rA σ_7)) (wr := ([] : va_W)) hP (hDD σ_7) hS hFc [0, 1, 2, 3, 4, 5, 6, 7, 8, 9, 10, 11, 12, 13, 14, 15, 16, 17, 18, 19, 20, 21, 22, 23, 24, 25, 26, 27, 28, 29, 30, 31, 32, 33, 34, 35, 36, 37, 38, 39, 40, 41, 42, 43, 44, 45, 46] [] rfl rfl (by decide +kernel) (by decide +kernel) (va_runV (As := [.int 4, .int p0]) (rest := []) ⟨hx, hb, hml, hown, hts⟩ (k_X4_fail l dC dI cB cC cI cJ cZ cP oA rA H.size  4 p0 σ_7 _ hu_11) (cwV 2 hts (g_gV wq_725 wq_726 wq_2037 wq_4 wq_727) rfl rfl rfl (by decide +kernel) ⟨Nat.le_of_ble_eq_true rfl, Nat.le_of_ble_eq_true rfl⟩) (g_preV g_bl0 hK hPc hDc hS hE hFc g_to0 (q0 := 0) (ci := 4) rfl rfl) rfl rfl hl.1 rfl (lv_room (Nat.le_of_ble_eq_true rfl)) dX4_tellLocal_37 ⟨Nat.le_of_ble_eq_true rfl, Nat.le_of_ble_eq_true rfl⟩) (fun u9 H locs hw9 hP' hD' hS => ?_)
    clear hPc hDc hFc
    have hP : va_P (dC, dI) vwCl (b_m cB cC cI cJ cZ oA rA u_11.2 ++ b_w cB cC cI cJ cZ oA rA u_11.2 ++ b_s cB cC cI cJ cZ oA rA u_11.2 ++ b_c cB cC cI cJ cZ oA rA u_11.2 ++ b_t cB cC cI cJ cZ oA rA u_11.2 ++ b_d cB cC cI cJ cZ oA rA u_11.2) H := hP'
    clear hP' hD'
    refine lv_goto (tgt := 53) hx hb dX4_tellLocal_40 (by decide) ?_
    have h9 := Option.some.inj hF_12
    subst h9
    exact W.vret hx hb hr (fun t ht hW => ⟨⟨(), rfl, trivial, m_end ht hP, hDD _⟩, hS.F ht⟩) hS.2.2 dX4_tellLocal_53
  refine lv_icmp_ne (tgt := 34) hx hb dX4_tellLocal_20 (by decide) (fun c_13 => ?_) (fun c_13 => ?_)
  · have hF_25 := ineg c_13 hF_9
    clear hF_9
    exact Jj_8  σ_3 hF_25 _ _ hP hS ls (lv_sub hl [1, 2] rfl)
  · have hF_14 := ipos c_13 hF_9
    clear hF_9
    refine lv_aload_n hx hb dX4_tellLocal_23 rfl (lv_at hl 1 rfl) ?_
    refine va_get (D := (dC, dI)) (ci := 4) (v := .ref (rA 3 5)) (C := RX4) (T := TX4) (N := 18) hx hb hts ii_X4 hown hK hP 0 rfl rfl 5 (by decide) (hts (.fieldLink RX4 23 "StoryHouse$Meanings" "seen" "[I") wq_91) (fun _ h9 => h9) rfl dX4_tellLocal_24 ?_
    refine lv_iload_n hx hb dX4_tellLocal_27 rfl (lv_at hl 0 rfl) ?_
    have hPc := hP.sub (ws' := [(rA 3 5, .inl (cI, 4500, .inl ((σ_3 3).2.1 5)))]) [4] rfl
    have hDc := (hDD σ_3).sub (ws' := [(rA 3 5, .inl (cI, 4500, .inl ((σ_3 3).2.1 5)))]) [4] (by decide +kernel) rfl
    have hFc := va_free (wc := [(rA 3 5, .inl (cI, 4500, .inl ((σ_3 3).2.1 5)))]) (hDD σ_3) hS hA [4] rfl
    refine g_ofi (wc := [(rA 3 5, .inl (cI, 4500, .inl ((σ_3 3).2.1 5)))]) (wr := (((b_m cB cC cI cJ cZ oA rA σ_3 ++ b_w cB cC cI cJ cZ oA rA σ_3 ++ b_s cB cC cI cJ cZ oA rA σ_3 ++ b_c cB cC cI cJ cZ oA rA σ_3 ++ b_t cB cC cI cJ cZ oA rA σ_3 ++ b_d cB cC cI cJ cZ oA rA σ_3)).eraseIdx 4)) hP (hDD σ_3) hS hFc [4] [0, 1, 2, 3, 5, 6, 7, 8, 9, 10, 11, 12, 13, 14, 15, 16, 17, 18, 19, 20, 21, 22, 23, 24, 25, 26, 27, 28, 29, 30, 31, 32, 33, 34, 35, 36, 37, 38, 39, 40, 41, 42, 43, 44, 45, 46] rfl rfl (by decide +kernel) (by decide +kernel) (va_runSN (As := [.ref (rA 3 5), .int u_1.1]) (rest := []) ⟨hx, hb, hml, hown, hts⟩ (c_X11_at l dC dI cB cC cI cJ cZ cP H.size (rA 3 5) u_1.1 4500 ((σ_3 3).2.1 5) (by decide)) ⟨va_cnB 2 hts (g_gA wq_407) rfl rfl rfl (hN.at 24 rfl) (hts (.initialized RX11) wq_1) (by decide +kernel) ⟨Nat.le_of_ble_eq_true rfl, Nat.le_of_ble_eq_true rfl⟩, (hts (.static yX11_at) wq_406), trivial⟩ (g_preS g_bl0 hK hPc hDc hS hE hFc g_to0) rfl rfl hl.1 rfl (lv_room (Nat.le_of_ble_eq_true rfl)) dX4_tellLocal_28 ⟨Nat.le_of_ble_eq_true rfl, Nat.le_of_ble_eq_true rfl⟩) (fun r9 u9 H locs hw9 hP' hD' hS => ?_)
    clear hPc hDc hFc hD'
    have hP : va_P (dC, dI) vwCl (b_m cB cC cI cJ cZ oA rA σ_3 ++ b_w cB cC cI cJ cZ oA rA σ_3 ++ b_s cB cC cI cJ cZ oA rA σ_3 ++ b_c cB cC cI cJ cZ oA rA σ_3 ++ b_t cB cC cI cJ cZ oA rA σ_3 ++ b_d cB cC cI cJ cZ oA rA σ_3) H := hP'.sub [0, 1, 2, 3, 46, 4, 5, 6, 7, 8, 9, 10, 11, 12, 13, 14, 15, 16, 17, 18, 19, 20, 21, 22, 23, 24, 25, 26, 27, 28, 29, 30, 31, 32, 33, 34, 35, 36, 37, 38, 39, 40, 41, 42, 43, 44, 45] rfl
    clear hP'
    subst hw9
    obtain ⟨x_15, ex_15, hF_16⟩ := bnd_e hF_14
    clear hF_14
    refine m_top ex_15 ?_
    refine lv_if_eq (tgt := 43) hx hb dX4_tellLocal_31 (by decide) (fun c_17 => ?_) (fun c_17 => ?_)
    · have hF_18 := ipos c_17 hF_16
      clear hF_16
      refine lv_iload_n hx hb dX4_tellLocal_43 rfl (lv_at hl 3 rfl) ?_
      refine lv_if_ne (tgt := 53) hx hb dX4_tellLocal_44 (by decide) (fun c_19 => ?_) (fun c_19 => ?_)
      · have hF_23 := ineg c_19 hF_18
        clear hF_18
        have h9 := Option.some.inj hF_23
        subst h9
        exact W.vret hx hb hr (fun t ht hW => ⟨⟨(), rfl, trivial, m_end ht hP, hDD _⟩, hS.F ht⟩) hS.2.2 dX4_tellLocal_53
      · have hF_20 := ipos c_19 hF_18
        clear hF_18
        refine lv_aload_n hx hb dX4_tellLocal_47 rfl (lv_at hl 1 rfl) ?_
        refine lv_iconst (v := 5) hx hb dX4_tellLocal_48 (by decide +kernel) ?_
        refine lv_iload_n hx hb dX4_tellLocal_49 rfl (lv_at hl 2 rfl) ?_
        obtain ⟨u_21, hu_21, hF_22⟩ := Option.bind_eq_some_iff.mp hF_20
        clear hF_20
        have hPc := hP.sub (ws' := (b_m cB cC cI cJ cZ oA rA σ_3 ++ b_w cB cC cI cJ cZ oA rA σ_3 ++ b_s cB cC cI cJ cZ oA rA σ_3 ++ b_c cB cC cI cJ cZ oA rA σ_3 ++ b_t cB cC cI cJ cZ oA rA σ_3 ++ b_d cB cC cI cJ cZ oA rA σ_3)) [0, 1, 2, 3, 4, 5, 6, 7, 8, 9, 10, 11, 12, 13, 14, 15, 16, 17, 18, 19, 20, 21, 22, 23, 24, 25, 26, 27, 28, 29, 30, 31, 32, 33, 34, 35, 36, 37, 38, 39, 40, 41, 42, 43, 44, 45, 46] rfl
        have hDc := (hDD σ_3).sub (ws' := (b_m cB cC cI cJ cZ oA rA σ_3 ++ b_w cB cC cI cJ cZ oA rA σ_3 ++ b_s cB cC cI cJ cZ oA rA σ_3 ++ b_c cB cC cI cJ cZ oA rA σ_3 ++ b_t cB cC cI cJ cZ oA rA σ_3 ++ b_d cB cC cI cJ cZ oA rA σ_3)) [0, 1, 2, 3, 4, 5, 6, 7, 8, 9, 10, 11, 12, 13, 14, 15, 16, 17, 18, 19, 20, 21, 22, 23, 24, 25, 26, 27, 28, 29, 30, 31, 32, 33, 34, 35, 36, 37, 38, 39, 40, 41, 42, 43, 44, 45, 46] (by decide +kernel) rfl
        have hFc := va_free (wc := (b_m cB cC cI cJ cZ oA rA σ_3 ++ b_w cB cC cI cJ cZ oA rA σ_3 ++ b_s cB cC cI cJ cZ oA rA σ_3 ++ b_c cB cC cI cJ cZ oA rA σ_3 ++ b_t cB cC cI cJ cZ oA rA σ_3 ++ b_d cB cC cI cJ cZ oA rA σ_3)) (hDD σ_3) hS hA [0, 1, 2, 3, 4, 5, 6, 7, 8, 9, 10, 11, 12, 13, 14, 15, 16, 17, 18, 19, 20, 21, 22, 23, 24, 25, 26, 27, 28, 29, 30, 31, 32, 33, 34, 35, 36, 37, 38, 39, 40, 41, 42, 43, 44, 45, 46] rfl
        refine g_ofv (wc := (b_m cB cC cI cJ cZ oA rA σ_3 ++ b_w cB cC cI cJ cZ oA rA σ_3 ++ b_s cB cC cI cJ cZ oA rA σ_3 ++ b_c cB cC cI cJ cZ oA rA σ_3 ++ b_t cB cC cI cJ cZ oA rA σ_3 ++ b_d cB cC cI cJ cZ oA rA σ_3)) (wr := ([] : va_W)) hP (hDD σ_3) hS hFc [0, 1, 2, 3, 4, 5, 6, 7, 8, 9, 10, 11, 12, 13, 14, 15, 16, 17, 18, 19, 20, 21, 22, 23, 24, 25, 26, 27, 28, 29, 30, 31, 32, 33, 34, 35, 36, 37, 38, 39, 40, 41, 42, 43, 44, 45, 46] [] rfl rfl (by decide +kernel) (by decide +kernel) (va_runV (As := [.int 5, .int p0]) (rest := []) ⟨hx, hb, hml, hown, hts⟩ (k_X4_fail l dC dI cB cC cI cJ cZ cP oA rA H.size  5 p0 σ_3 _ hu_21) (cwV 2 hts (g_gV wq_725 wq_726 wq_2037 wq_4 wq_727) rfl rfl rfl (by decide +kernel) ⟨Nat.le_of_ble_eq_true rfl, Nat.le_of_ble_eq_true rfl⟩) (g_preV g_bl0 hK hPc hDc hS hE hFc g_to0 (q0 := 0) (ci := 4) rfl rfl) rfl rfl hl.1 rfl (lv_room (Nat.le_of_ble_eq_true rfl)) dX4_tellLocal_50 ⟨Nat.le_of_ble_eq_true rfl, Nat.le_of_ble_eq_true rfl⟩) (fun u9 H locs hw9 hP' hD' hS => ?_)
        clear hPc hDc hFc
        have hP : va_P (dC, dI) vwCl (b_m cB cC cI cJ cZ oA rA u_21.2 ++ b_w cB cC cI cJ cZ oA rA u_21.2 ++ b_s cB cC cI cJ cZ oA rA u_21.2 ++ b_c cB cC cI cJ cZ oA rA u_21.2 ++ b_t cB cC cI cJ cZ oA rA u_21.2 ++ b_d cB cC cI cJ cZ oA rA u_21.2) H := hP'
        clear hP' hD'
        have h9 := Option.some.inj hF_22
        subst h9
        exact W.vret hx hb hr (fun t ht hW => ⟨⟨(), rfl, trivial, m_end ht hP, hDD _⟩, hS.F ht⟩) hS.2.2 dX4_tellLocal_53
    · have hF_24 := ineg c_17 hF_16
      clear hF_16
      exact Jj_8  σ_3 hF_24 _ _ hP hS ls (lv_sub hl [1, 2] rfl)
