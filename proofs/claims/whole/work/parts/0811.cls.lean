/-! methods of the class: what each does is its function -/
theorem dX4_exitPart_0 : decode cX4_exitPart 0 = .ok (.aload_n 0, 1) := by decide +kernel
theorem dX4_exitPart_1 : decode cX4_exitPart 1 = .ok (.iload_n 1, 1) := by decide +kernel
theorem dX4_exitPart_2 : decode cX4_exitPart 2 = .ok (.iconst 2, 1) := by decide +kernel
theorem dX4_exitPart_3 : decode cX4_exitPart 3 = .ok (.iadd, 1) := by decide +kernel
theorem dX4_exitPart_4 : decode cX4_exitPart 4 = .ok (.invokevirtual 221, 3) := by decide +kernel
theorem dX4_exitPart_7 : decode cX4_exitPart 7 = .ok (.iconst 1, 1) := by decide +kernel
theorem dX4_exitPart_8 : decode cX4_exitPart 8 = .ok (.if_icmp .eq 11, 3) := by decide +kernel
theorem dX4_exitPart_11 : decode cX4_exitPart 11 = .ok (.aload_n 0, 1) := by decide +kernel
theorem dX4_exitPart_12 : decode cX4_exitPart 12 = .ok (.iconst 3, 1) := by decide +kernel
theorem dX4_exitPart_13 : decode cX4_exitPart 13 = .ok (.iload_n 1, 1) := by decide +kernel
theorem dX4_exitPart_14 : decode cX4_exitPart 14 = .ok (.iconst 2, 1) := by decide +kernel
theorem dX4_exitPart_15 : decode cX4_exitPart 15 = .ok (.iadd, 1) := by decide +kernel
theorem dX4_exitPart_16 : decode cX4_exitPart 16 = .ok (.invokevirtual 84, 3) := by decide +kernel
theorem dX4_exitPart_19 : decode cX4_exitPart 19 = .ok (.aload_n 0, 1) := by decide +kernel
theorem dX4_exitPart_20 : decode cX4_exitPart 20 = .ok (.getfield 36, 3) := by decide +kernel
theorem dX4_exitPart_23 : decode cX4_exitPart 23 = .ok (.getfield 224, 3) := by decide +kernel
theorem dX4_exitPart_26 : decode cX4_exitPart 26 = .ok (.aload_n 0, 1) := by decide +kernel
theorem dX4_exitPart_27 : decode cX4_exitPart 27 = .ok (.getfield 190, 3) := by decide +kernel
theorem dX4_exitPart_30 : decode cX4_exitPart 30 = .ok (.bipush 6, 2) := by decide +kernel
theorem dX4_exitPart_32 : decode cX4_exitPart 32 = .ok (.imul, 1) := by decide +kernel
theorem dX4_exitPart_33 : decode cX4_exitPart 33 = .ok (.aload_n 0, 1) := by decide +kernel
theorem dX4_exitPart_34 : decode cX4_exitPart 34 = .ok (.getfield 32, 3) := by decide +kernel
theorem dX4_exitPart_37 : decode cX4_exitPart 37 = .ok (.iload_n 1, 1) := by decide +kernel
theorem dX4_exitPart_38 : decode cX4_exitPart 38 = .ok (.iconst 1, 1) := by decide +kernel
theorem dX4_exitPart_39 : decode cX4_exitPart 39 = .ok (.iadd, 1) := by decide +kernel
theorem dX4_exitPart_40 : decode cX4_exitPart 40 = .ok (.invokevirtual 116, 3) := by decide +kernel
theorem dX4_exitPart_43 : decode cX4_exitPart 43 = .ok (.iadd, 1) := by decide +kernel
theorem dX4_exitPart_44 : decode cX4_exitPart 44 = .ok (.sipush 200, 3) := by decide +kernel
theorem dX4_exitPart_47 : decode cX4_exitPart 47 = .ok (.isub, 1) := by decide +kernel
theorem dX4_exitPart_48 : decode cX4_exitPart 48 = .ok (.aload_n 0, 1) := by decide +kernel
theorem dX4_exitPart_49 : decode cX4_exitPart 49 = .ok (.iload_n 1, 1) := by decide +kernel
theorem dX4_exitPart_50 : decode cX4_exitPart 50 = .ok (.iconst 2, 1) := by decide +kernel
theorem dX4_exitPart_51 : decode cX4_exitPart 51 = .ok (.iadd, 1) := by decide +kernel
theorem dX4_exitPart_52 : decode cX4_exitPart 52 = .ok (.invokevirtual 193, 3) := by decide +kernel
theorem dX4_exitPart_55 : decode cX4_exitPart 55 = .ok (.invokestatic 112, 3) := by decide +kernel
theorem dX4_exitPart_58 : decode cX4_exitPart 58 = .ok (.return_, 1) := by decide +kernel
def F_X4_exitPart (p0 : Int32) (Γ : HS) : HR :=
  (F_X4_sortOf (p0 + 2) Γ).bind fun u_1 =>
  bnd (fun  (σ_3 : HS) => (
    (F_X10_kindOf (p0 + 1) σ_3).bind fun u_7 =>
    bnd (mrg (fun j => j == 1) σ_3 u_7.2) fun σ_9 =>
    (F_X4_numberOf (p0 + 2) σ_9).bind fun u_11 =>
    bnd (cA' u_11.2 4 6 (g_put 726 ((u_11.2 4).2.1 6) (((((σ_3 3).1 13) * 6) + u_7.1) - 200) u_11.1)) fun σ_13 =>
    some (0, σ_13)
  ) : HS → HR) fun j_4 =>
  if u_1.1 = 1 then (
    j_4  u_1.2
  ) else (
    (F_X4_fail 3 (p0 + 2) u_1.2).bind fun u_18 =>
    j_4  u_18.2
  )
set_option maxHeartbeats 4000000 in
set_option maxRecDepth 100000 in
theorem k_X4_exitPart (l : Launch) (dC : Nat → ClassId) (dI : Nat → Nat → Nat) (cB cC cI cJ cZ cP : ClassId) (oA : Nat → Nat) (rA : Nat → Nat → Nat) (sz : Nat)  (p0 : Int32) (Γ : HS) (res : Int32 × HS) (hF : F_X4_exitPart p0 Γ = some res) : Met l yX4_exitPart (g_ws yX4_exitPart cX4_exitPart 2 none) ({ frames := 5, cells := 0, slots := 0, locals := 124 }) (va_Pc [.ref (oA 3), .int p0] (g_B (dC, dI) [(cB, .byte), (cC, .char), (cI, .int), (cJ, .long), (cZ, .boolean), (cP, .object "StoryHouse$Play")] sz (b_m cB cC cI cJ cZ oA rA Γ ++ b_w cB cC cI cJ cZ oA rA Γ ++ b_s cB cC cI cJ cZ oA rA Γ ++ b_c cB cC cI cJ cZ oA rA Γ ++ b_t cB cC cI cJ cZ oA rA Γ ++ b_d cB cC cI cJ cZ oA rA Γ) g_0)) (va_Qv (fun (_ : Unit) => True) (g_Bo (dC, dI) (va_A (b_m cB cC cI cJ cZ oA rA Γ ++ b_w cB cC cI cJ cZ oA rA Γ ++ b_s cB cC cI cJ cZ oA rA Γ ++ b_c cB cC cI cJ cZ oA rA Γ ++ b_t cB cC cI cJ cZ oA rA Γ ++ b_d cB cC cI cJ cZ oA rA Γ) sz) (fun (_ : Unit) => (b_m cB cC cI cJ cZ oA rA res.2 ++ b_w cB cC cI cJ cZ oA rA res.2 ++ b_s cB cC cI cJ cZ oA rA res.2 ++ b_c cB cC cI cJ cZ oA rA res.2 ++ b_t cB cC cI cJ cZ oA rA res.2 ++ b_d cB cC cI cJ cZ oA rA res.2))) (va_A (b_m cB cC cI cJ cZ oA rA Γ ++ b_w cB cC cI cJ cZ oA rA Γ ++ b_s cB cC cI cJ cZ oA rA Γ ++ b_c cB cC cI cJ cZ oA rA Γ ++ b_t cB cC cI cJ cZ oA rA Γ ++ b_d cB cC cI cJ cZ oA rA Γ) sz)) 0 0 (va_A (b_m cB cC cI cJ cZ oA rA Γ ++ b_w cB cC cI cJ cZ oA rA Γ ++ b_s cB cC cI cJ cZ oA rA Γ ++ b_c cB cC cI cJ cZ oA rA Γ ++ b_t cB cC cI cJ cZ oA rA Γ ++ b_d cB cC cI cJ cZ oA rA Γ) sz) := by
  refine Met.ofW (cc := cX4_exitPart) (maxL := 2) (ret := none) (by decide) rfl ?_
  intro p e s m args below meth c s₁ B hml hv
  obtain ⟨rfl, hsz, hP, hK, hD0, hE, hX⟩ := hv
  have hx := B.exec
  have hb := B.bytes
  have hr := B.returns
  have hts0 := atoms_spec (ws := g_ws yX4_exitPart cX4_exitPart 2 none) B.pre
  have hts : ∀ w ∈ lw_good, w.before ([.ref (oA 3), .int p0] : List Value).toArray s = true := fun w z => hts0 w (List.mem_cons_of_mem _ z)
  have hown : s.vm.findClass RX4 = some m.cls := findClass_of_methodNamed B.named
  have hlocks := B.notSynchronized
  subst hsz
  have hD1 := hD0.self (sz := s.heap.size)
  generalize hAe : va_A (b_m cB cC cI cJ cZ oA rA Γ ++ b_w cB cC cI cJ cZ oA rA Γ ++ b_s cB cC cI cJ cZ oA rA Γ ++ b_c cB cC cI cJ cZ oA rA Γ ++ b_t cB cC cI cJ cZ oA rA Γ ++ b_d cB cC cI cJ cZ oA rA Γ) s.heap.size = A at hD1 hE hX ⊢
  have hA : ∀ q : Nat, s.heap.size ≤ q → A q := fun q z => by rw [← hAe]; exact Or.inr z
  have hDD : ∀ Γ : HS, va_D A (b_m cB cC cI cJ cZ oA rA Γ ++ b_w cB cC cI cJ cZ oA rA Γ ++ b_s cB cC cI cJ cZ oA rA Γ ++ b_c cB cC cI cJ cZ oA rA Γ ++ b_t cB cC cI cJ cZ oA rA Γ ++ b_d cB cC cI cJ cZ oA rA Γ) := fun Γ9 => va_D_fst (ws := (b_m cB cC cI cJ cZ oA rA Γ ++ b_w cB cC cI cJ cZ oA rA Γ ++ b_s cB cC cI cJ cZ oA rA Γ ++ b_c cB cC cI cJ cZ oA rA Γ ++ b_t cB cC cI cJ cZ oA rA Γ ++ b_d cB cC cI cJ cZ oA rA Γ)) (ws' := (b_m cB cC cI cJ cZ oA rA Γ9 ++ b_w cB cC cI cJ cZ oA rA Γ9 ++ b_s cB cC cI cJ cZ oA rA Γ9 ++ b_c cB cC cI cJ cZ oA rA Γ9 ++ b_t cB cC cI cJ cZ oA rA Γ9 ++ b_d cB cC cI cJ cZ oA rA Γ9)) rfl hD1
  have hN := hE.1
  have hS : va_S A s.heap s.heap [] := va_S.rf
  have hl := lv_entry ([.ref (oA 3), .int p0]) (n := 2) (Nat.le_of_ble_eq_true rfl)
  rw [lg_entry_eq]
  generalize (lg_sl ([.ref (oA 3), .int p0]) ++ List.replicate (2 - (lg_sl ([.ref (oA 3), .int p0])).length) Slot.unset).toArray = ls at hl ⊢
  have hl : lv_has ls 2 [(0, .ref (oA 3)), (1, .int p0)] := hl
  unfold F_X4_exitPart at hF
  refine lv_aload_n hx hb dX4_exitPart_0 rfl (lv_at hl 0 rfl) ?_
  refine lv_iload_n hx hb dX4_exitPart_1 rfl (lv_at hl 1 rfl) ?_
  refine lv_iconst (v := 2) hx hb dX4_exitPart_2 (by decide +kernel) ?_
  refine lv_iadd hx hb dX4_exitPart_3 ?_
  obtain ⟨u_1, hu_1, hF_2⟩ := Option.bind_eq_some_iff.mp hF
  clear hF
  have hPc := hP.sub (ws' := (b_m cB cC cI cJ cZ oA rA Γ ++ b_w cB cC cI cJ cZ oA rA Γ ++ b_s cB cC cI cJ cZ oA rA Γ ++ b_c cB cC cI cJ cZ oA rA Γ ++ b_t cB cC cI cJ cZ oA rA Γ ++ b_d cB cC cI cJ cZ oA rA Γ)) [0, 1, 2, 3, 4, 5, 6, 7, 8, 9, 10, 11, 12, 13, 14, 15, 16, 17, 18, 19, 20, 21, 22, 23, 24, 25, 26, 27, 28, 29, 30, 31, 32, 33, 34, 35, 36, 37, 38, 39, 40, 41, 42, 43, 44, 45, 46] rfl
  have hDc := (hDD Γ).sub (ws' := (b_m cB cC cI cJ cZ oA rA Γ ++ b_w cB cC cI cJ cZ oA rA Γ ++ b_s cB cC cI cJ cZ oA rA Γ ++ b_c cB cC cI cJ cZ oA rA Γ ++ b_t cB cC cI cJ cZ oA rA Γ ++ b_d cB cC cI cJ cZ oA rA Γ)) [0, 1, 2, 3, 4, 5, 6, 7, 8, 9, 10, 11, 12, 13, 14, 15, 16, 17, 18, 19, 20, 21, 22, 23, 24, 25, 26, 27, 28, 29, 30, 31, 32, 33, 34, 35, 36, 37, 38, 39, 40, 41, 42, 43, 44, 45, 46] (by decide +kernel) rfl
  have hFc := va_free (wc := (b_m cB cC cI cJ cZ oA rA Γ ++ b_w cB cC cI cJ cZ oA rA Γ ++ b_s cB cC cI cJ cZ oA rA Γ ++ b_c cB cC cI cJ cZ oA rA Γ ++ b_t cB cC cI cJ cZ oA rA Γ ++ b_d cB cC cI cJ cZ oA rA Γ)) (hDD Γ) hS hA [0, 1, 2, 3, 4, 5, 6, 7, 8, 9, 10, 11, 12, 13, 14, 15, 16, 17, 18, 19, 20, 21, 22, 23, 24, 25, 26, 27, 28, 29, 30, 31, 32, 33, 34, 35, 36, 37, 38, 39, 40, 41, 42, 43, 44, 45, 46] rfl
  refine g_ofi (wc := (b_m cB cC cI cJ cZ oA rA Γ ++ b_w cB cC cI cJ cZ oA rA Γ ++ b_s cB cC cI cJ cZ oA rA Γ ++ b_c cB cC cI cJ cZ oA rA Γ ++ b_t cB cC cI cJ cZ oA rA Γ ++ b_d cB cC cI cJ cZ oA rA Γ)) (wr := ([] : va_W)) hP (hDD Γ) hS hFc [0, 1, 2, 3, 4, 5, 6, 7, 8, 9, 10, 11, 12, 13, 14, 15, 16, 17, 18, 19, 20, 21, 22, 23, 24, 25, 26, 27, 28, 29, 30, 31, 32, 33, 34, 35, 36, 37, 38, 39, 40, 41, 42, 43, 44, 45, 46] [] rfl rfl (by decide +kernel) (by decide +kernel) (va_runV (As := [.int (p0 + 2)]) (rest := []) ⟨hx, hb, hml, hown, hts⟩ (k_X4_sortOf l dC dI cB cC cI cJ cZ cP oA rA s.heap.size  (p0 + 2) Γ _ hu_1) (cwV 1 hts (g_gV wq_766 wq_767 wq_2050 wq_4 wq_768) rfl rfl rfl (by decide +kernel) ⟨Nat.le_of_ble_eq_true rfl, Nat.le_of_ble_eq_true rfl⟩) (g_preV g_bl0 hK hPc hDc hS hE hFc g_to0 (q0 := 0) (ci := 4) rfl rfl) rfl rfl hl.1 rfl (lv_room (Nat.le_of_ble_eq_true rfl)) dX4_exitPart_4 ⟨Nat.le_of_ble_eq_true rfl, Nat.le_of_ble_eq_true rfl⟩) (fun r9 u9 H locs hw9 hP' hD' hS => ?_)
  clear hPc hDc hFc
  subst hw9
  have hP : va_P (dC, dI) vwCl (b_m cB cC cI cJ cZ oA rA u_1.2 ++ b_w cB cC cI cJ cZ oA rA u_1.2 ++ b_s cB cC cI cJ cZ oA rA u_1.2 ++ b_c cB cC cI cJ cZ oA rA u_1.2 ++ b_t cB cC cI cJ cZ oA rA u_1.2 ++ b_d cB cC cI cJ cZ oA rA u_1.2) H := hP'
  clear hP' hD'
  refine lv_iconst (v := 1) hx hb dX4_exitPart_7 (by decide +kernel) ?_
  obtain ⟨j_4, ej_4, hF_5⟩ := bnd_e hF_2
  clear hF_2
  have Jj_4 : ∀  (σ_3 : HS), j_4  σ_3 = some res → ∀ (H : Heap) (locs : List Loc), va_P (dC, dI) vwCl (b_m cB cC cI cJ cZ oA rA σ_3 ++ b_w cB cC cI cJ cZ oA rA σ_3 ++ b_s cB cC cI cJ cZ oA rA σ_3 ++ b_c cB cC cI cJ cZ oA rA σ_3 ++ b_t cB cC cI cJ cZ oA rA σ_3 ++ b_d cB cC cI cJ cZ oA rA σ_3) H → va_S A s.heap H locs → ∀ ls : Array Slot, lv_has ls 2 [(0, .ref (oA 3)), (1, .int p0)] → W p l e (headSpec (g_ws yX4_exitPart cX4_exitPart 2 none) { frames := 5, cells := 0, slots := 0, locals := 124 }).room s m ([.ref (oA 3), .int p0] : List Value).toArray below meth c H locs 0 0 (MQ below (va_Qv (fun (_ : Unit) => True) (g_Bo (dC, dI) A (fun (_ : Unit) => (b_m cB cC cI cJ cZ oA rA res.2 ++ b_w cB cC cI cJ cZ oA rA res.2 ++ b_s cB cC cI cJ cZ oA rA res.2 ++ b_c cB cC cI cJ cZ oA rA res.2 ++ b_t cB cC cI cJ cZ oA rA res.2 ++ b_d cB cC cI cJ cZ oA rA res.2))) A) ([.ref (oA 3), .int p0] : List Value).toArray s 0 0 A) (F0 m 19 ls []) := by
    intro  σ_3 hF0 H locs hP hS ls hl
    subst ej_4
    have hF_6 := hF0
    clear hF0
    refine lv_aload_n hx hb dX4_exitPart_19 rfl (lv_at hl 0 rfl) ?_
    refine va_get (D := (dC, dI)) (ci := 4) (v := .ref (oA 4)) (C := RX4) (T := TX4) (N := 18) hx hb hts ii_X4 hown hK hP 0 rfl rfl 1 (by decide) (hts (.fieldLink RX4 36 "StoryHouse$Meanings" "story" "LStoryHouse$Story;") wq_87) (fun _ h9 => h9) rfl dX4_exitPart_20 ?_
    refine va_get (D := (dC, dI)) (ci := 7) (v := .ref (rA 4 6)) (C := RX7) (T := TX7) (N := 19) hx hb hts ii_X7 hown hK hP 16 rfl rfl 6 (by decide) (hts (.fieldLink RX4 224 "StoryHouse$Story" "exits" "[I") wq_169) (fun _ h9 => h9) rfl dX4_exitPart_23 ?_
    refine lv_aload_n hx hb dX4_exitPart_26 rfl (lv_at hl 0 rfl) ?_
    refine va_get (D := (dC, dI)) (ci := 4) (v := .int ((σ_3 3).1 13)) (C := RX4) (T := TX4) (N := 18) hx hb hts ii_X4 hown hK hP 0 rfl rfl 13 (by decide) (hts (.fieldLink RX4 190 "StoryHouse$Meanings" "object" "I") wq_99) (fun _ h9 => h9) rfl dX4_exitPart_27 ?_
    refine lv_bipush (v := 6) hx hb dX4_exitPart_30 (by decide +kernel) ?_
    refine lv_imul hx hb dX4_exitPart_32 ?_
    refine lv_aload_n hx hb dX4_exitPart_33 rfl (lv_at hl 0 rfl) ?_
    refine va_get (D := (dC, dI)) (ci := 4) (v := .ref (oA 1)) (C := RX4) (T := TX4) (N := 18) hx hb hts ii_X4 hown hK hP 0 rfl rfl 0 (by decide) (hts (.fieldLink RX4 32 "StoryHouse$Meanings" "words" "LStoryHouse$Words;") wq_86) (fun _ h9 => h9) rfl dX4_exitPart_34 ?_
    refine lv_iload_n hx hb dX4_exitPart_37 rfl (lv_at hl 1 rfl) ?_
    refine lv_iconst (v := 1) hx hb dX4_exitPart_38 (by decide +kernel) ?_
    refine lv_iadd hx hb dX4_exitPart_39 ?_
    obtain ⟨u_7, hu_7, hF_8⟩ := Option.bind_eq_some_iff.mp hF_6
    clear hF_6
    have hPc := hP.sub (ws' := (b_w cB cC cI cJ cZ oA rA σ_3)) [7, 8, 9, 10, 11, 12, 13, 14, 15] rfl
    have hDc := (hDD σ_3).sub (ws' := (b_w cB cC cI cJ cZ oA rA σ_3)) [7, 8, 9, 10, 11, 12, 13, 14, 15] (by decide +kernel) rfl
    have hFc := va_free (wc := (b_w cB cC cI cJ cZ oA rA σ_3)) (hDD σ_3) hS hA [7, 8, 9, 10, 11, 12, 13, 14, 15] rfl
    refine g_ofi (wc := (b_w cB cC cI cJ cZ oA rA σ_3)) (wr := (b_m cB cC cI cJ cZ oA rA σ_3 ++ b_s cB cC cI cJ cZ oA rA σ_3 ++ b_c cB cC cI cJ cZ oA rA σ_3 ++ b_t cB cC cI cJ cZ oA rA σ_3 ++ b_d cB cC cI cJ cZ oA rA σ_3)) hP (hDD σ_3) hS hFc [7, 8, 9, 10, 11, 12, 13, 14, 15] [0, 1, 2, 3, 4, 5, 6, 16, 17, 18, 19, 20, 21, 22, 23, 24, 25, 26, 27, 28, 29, 30, 31, 32, 33, 34, 35, 36, 37, 38, 39, 40, 41, 42, 43, 44, 45, 46] rfl rfl (by decide +kernel) (by decide +kernel) (va_runV (As := [.int (p0 + 1)]) (rest := [.int (((σ_3 3).1 13) * 6), .ref (rA 4 6)]) ⟨hx, hb, hml, hown, hts⟩ (k_X10_kindOf l dC dI cB cC cI cJ cZ cP oA rA H.size  (p0 + 1) σ_3 _ hu_7) (cwV 1 hts (g_gV wq_714 wq_543 wq_544 wq_2 wq_545) rfl rfl rfl (by decide +kernel) ⟨Nat.le_of_ble_eq_true rfl, Nat.le_of_ble_eq_true rfl⟩) (g_preV g_bl0 hK hPc hDc hS hE hFc g_to0 (q0 := 0) (ci := 10) rfl rfl) rfl rfl hl.1 rfl (lv_room (Nat.le_of_ble_eq_true rfl)) dX4_exitPart_40 ⟨Nat.le_of_ble_eq_true rfl, Nat.le_of_ble_eq_true rfl⟩) (fun r9 u9 H locs hw9 hP' hD' hS => ?_)
    clear hPc hDc hFc
    subst hw9
    obtain ⟨σ_9, eσ_9, hF_10⟩ := bnd_e hF_8
    clear hF_8
    have hP : va_P (dC, dI) vwCl (b_m cB cC cI cJ cZ oA rA σ_9 ++ b_w cB cC cI cJ cZ oA rA σ_9 ++ b_s cB cC cI cJ cZ oA rA σ_9 ++ b_c cB cC cI cJ cZ oA rA σ_9 ++ b_t cB cC cI cJ cZ oA rA σ_9 ++ b_d cB cC cI cJ cZ oA rA σ_9) H := by rw [eσ_9]; exact hP'.sub [0, 1, 2, 3, 4, 5, 6, 38, 39, 40, 41, 42, 43, 44, 45, 46, 7, 8, 9, 10, 11, 12, 13, 14, 15, 16, 17, 18, 19, 20, 21, 22, 23, 24, 25, 26, 27, 28, 29, 30, 31, 32, 33, 34, 35, 36, 37] rfl
    clear hP' hD'
    refine lv_iadd hx hb dX4_exitPart_43 ?_
    refine lv_sipush (v := 200) hx hb dX4_exitPart_44 (by decide +kernel) ?_
    refine lv_isub hx hb dX4_exitPart_47 ?_
    refine lv_aload_n hx hb dX4_exitPart_48 rfl (lv_at hl 0 rfl) ?_
    refine lv_iload_n hx hb dX4_exitPart_49 rfl (lv_at hl 1 rfl) ?_
    refine lv_iconst (v := 2) hx hb dX4_exitPart_50 (by decide +kernel) ?_
    refine lv_iadd hx hb dX4_exitPart_51 ?_
    obtain ⟨u_11, hu_11, hF_12⟩ := Option.bind_eq_some_iff.mp hF_10
    clear hF_10
    have hPc := hP.sub (ws' := (b_m cB cC cI cJ cZ oA rA σ_9 ++ b_w cB cC cI cJ cZ oA rA σ_9 ++ b_s cB cC cI cJ cZ oA rA σ_9 ++ b_c cB cC cI cJ cZ oA rA σ_9 ++ b_t cB cC cI cJ cZ oA rA σ_9 ++ b_d cB cC cI cJ cZ oA rA σ_9)) [0, 1, 2, 3, 4, 5, 6, 7, 8, 9, 10, 11, 12, 13, 14, 15, 16, 17, 18, 19, 20, 21, 22, 23, 24, 25, 26, 27, 28, 29, 30, 31, 32, 33, 34, 35, 36, 37, 38, 39, 40, 41, 42, 43, 44, 45, 46] rfl
    have hDc := (hDD σ_9).sub (ws' := (b_m cB cC cI cJ cZ oA rA σ_9 ++ b_w cB cC cI cJ cZ oA rA σ_9 ++ b_s cB cC cI cJ cZ oA rA σ_9 ++ b_c cB cC cI cJ cZ oA rA σ_9 ++ b_t cB cC cI cJ cZ oA rA σ_9 ++ b_d cB cC cI cJ cZ oA rA σ_9)) [0, 1, 2, 3, 4, 5, 6, 7, 8, 9, 10, 11, 12, 13, 14, 15, 16, 17, 18, 19, 20, 21, 22, 23, 24, 25, 26, 27, 28, 29, 30, 31, 32, 33, 34, 35, 36, 37, 38, 39, 40, 41, 42, 43, 44, 45, 46] (by decide +kernel) rfl
    have hFc := va_free (wc := (b_m cB cC cI cJ cZ oA rA σ_9 ++ b_w cB cC cI cJ cZ oA rA σ_9 ++ b_s cB cC cI cJ cZ oA rA σ_9 ++ b_c cB cC cI cJ cZ oA rA σ_9 ++ b_t cB cC cI cJ cZ oA rA σ_9 ++ b_d cB cC cI cJ cZ oA rA σ_9)) (hDD σ_9) hS hA [0, 1, 2, 3, 4, 5, 6, 7, 8, 9, 10, 11, 12, 13, 14, 15, 16, 17, 18, 19, 20, 21, 22, 23, 24, 25, 26, 27, 28, 29, 30, 31, 32, 33, 34, 35, 36, 37, 38, 39, 40, 41, 42, 43, 44, 45, 46] rfl
    refine g_ofi (wc := (b_m cB cC cI cJ cZ oA rA σ_9 ++ b_w cB cC cI cJ cZ oA rA σ_9 ++ b_s cB cC cI cJ cZ oA rA σ_9 ++ b_c cB cC cI cJ cZ oA rA σ_9 ++ b_t cB cC cI cJ cZ oA rA σ_9 ++ b_d cB cC cI cJ cZ oA rA σ_9)) (wr := ([] : va_W)) hP (hDD σ_9) hS hFc [0, 1, 2, 3, 4, 5, 6, 7, 8, 9, 10, 11, 12, 13, 14, 15, 16, 17, 18, 19, 20, 21, 22, 23, 24, 25, 26, 27, 28, 29, 30, 31, 32, 33, 34, 35, 36, 37, 38, 39, 40, 41, 42, 43, 44, 45, 46] [] rfl rfl (by decide +kernel) (by decide +kernel) (va_runV (As := [.int (p0 + 2)]) (rest := [.int (((((σ_3 3).1 13) * 6) + u_7.1) - 200), .ref (rA 4 6)]) ⟨hx, hb, hml, hown, hts⟩ (k_X4_numberOf l dC dI cB cC cI cJ cZ cP oA rA H.size  (p0 + 2) σ_9 _ hu_11) (cwV 1 hts (g_gV wq_769 wq_770 wq_2051 wq_4 wq_771) rfl rfl rfl (by decide +kernel) ⟨Nat.le_of_ble_eq_true rfl, Nat.le_of_ble_eq_true rfl⟩) (g_preV g_bl0 hK hPc hDc hS hE hFc g_to0 (q0 := 0) (ci := 4) rfl rfl) rfl rfl hl.1 rfl (lv_room (Nat.le_of_ble_eq_true rfl)) dX4_exitPart_52 ⟨Nat.le_of_ble_eq_true rfl, Nat.le_of_ble_eq_true rfl⟩) (fun r9 u9 H locs hw9 hP' hD' hS => ?_)
    clear hPc hDc hFc
    subst hw9
    have hP : va_P (dC, dI) vwCl (b_m cB cC cI cJ cZ oA rA u_11.2 ++ b_w cB cC cI cJ cZ oA rA u_11.2 ++ b_s cB cC cI cJ cZ oA rA u_11.2 ++ b_c cB cC cI cJ cZ oA rA u_11.2 ++ b_t cB cC cI cJ cZ oA rA u_11.2 ++ b_d cB cC cI cJ cZ oA rA u_11.2) H := hP'
    clear hP' hD'
    have hPc := hP.sub (ws' := [(rA 4 6, .inl (cI, 726, .inl ((u_11.2 4).2.1 6)))]) [23] rfl
    have hDc := (hDD u_11.2).sub (ws' := [(rA 4 6, .inl (cI, 726, .inl ((u_11.2 4).2.1 6)))]) [23] (by decide +kernel) rfl
    have hFc := va_free (wc := [(rA 4 6, .inl (cI, 726, .inl ((u_11.2 4).2.1 6)))]) (hDD u_11.2) hS hA [23] rfl
    refine g_ofv (wc := [(rA 4 6, .inl (cI, 726, .inl ((u_11.2 4).2.1 6)))]) (wr := (((b_m cB cC cI cJ cZ oA rA u_11.2 ++ b_w cB cC cI cJ cZ oA rA u_11.2 ++ b_s cB cC cI cJ cZ oA rA u_11.2 ++ b_c cB cC cI cJ cZ oA rA u_11.2 ++ b_t cB cC cI cJ cZ oA rA u_11.2 ++ b_d cB cC cI cJ cZ oA rA u_11.2)).eraseIdx 23)) hP (hDD u_11.2) hS hFc [23] [0, 1, 2, 3, 4, 5, 6, 7, 8, 9, 10, 11, 12, 13, 14, 15, 16, 17, 18, 19, 20, 21, 22, 24, 25, 26, 27, 28, 29, 30, 31, 32, 33, 34, 35, 36, 37, 38, 39, 40, 41, 42, 43, 44, 45, 46] rfl rfl (by decide +kernel) (by decide +kernel) (va_runSN (As := [.ref (rA 4 6), .int (((((σ_3 3).1 13) * 6) + u_7.1) - 200), .int u_11.1]) (rest := []) ⟨hx, hb, hml, hown, hts⟩ (c_X11_put l dC dI cB cC cI cJ cZ cP H.size (rA 4 6) (((((σ_3 3).1 13) * 6) + u_7.1) - 200) u_11.1 726 ((u_11.2 4).2.1 6) (by decide)) ⟨va_cnB 3 hts (g_gA wq_412) rfl rfl rfl (hN.at 23 rfl) (hts (.initialized RX11) wq_1) (by decide +kernel) ⟨Nat.le_of_ble_eq_true rfl, Nat.le_of_ble_eq_true rfl⟩, (hts (.static yX11_put) wq_411), trivial⟩ (g_preS g_bl0 hK hPc hDc hS hE hFc g_to0) rfl rfl hl.1 rfl (lv_room (Nat.le_of_ble_eq_true rfl)) dX4_exitPart_55 ⟨Nat.le_of_ble_eq_true rfl, Nat.le_of_ble_eq_true rfl⟩) (fun g9 H locs hw9 hP' hD' hS => ?_)
    clear hPc hDc hFc hD'
    obtain ⟨σ_13, eσ_13, hF_14⟩ := bnd_e hF_12
    clear hF_12
    subst hw9
    have hP : va_P (dC, dI) vwCl (b_m cB cC cI cJ cZ oA rA σ_13 ++ b_w cB cC cI cJ cZ oA rA σ_13 ++ b_s cB cC cI cJ cZ oA rA σ_13 ++ b_c cB cC cI cJ cZ oA rA σ_13 ++ b_t cB cC cI cJ cZ oA rA σ_13 ++ b_d cB cC cI cJ cZ oA rA σ_13) H := by rw [eσ_13]; exact hP'.sub [0, 1, 2, 3, 4, 5, 6, 7, 8, 9, 10, 11, 12, 13, 14, 15, 16, 17, 18, 19, 20, 21, 22, 46, 23, 24, 25, 26, 27, 28, 29, 30, 31, 32, 33, 34, 35, 36, 37, 38, 39, 40, 41, 42, 43, 44, 45] rfl
    clear hP'
    have h9 := Option.some.inj hF_14
    subst h9
    exact W.vret hx hb hr (fun t ht hW => ⟨⟨(), rfl, trivial, m_end ht hP, hDD _⟩, hS.F ht⟩) hS.2.2 dX4_exitPart_58
  refine lv_icmp_eq (tgt := 19) hx hb dX4_exitPart_8 (by decide) (fun c_15 => ?_) (fun c_15 => ?_)
  · have hF_16 := ipos c_15 hF_5
    clear hF_5
    exact Jj_4  u_1.2 hF_16 _ _ hP hS ls (lv_sub hl [0, 1] rfl)
  · have hF_17 := ineg c_15 hF_5
    clear hF_5
    refine lv_aload_n hx hb dX4_exitPart_11 rfl (lv_at hl 0 rfl) ?_
    refine lv_iconst (v := 3) hx hb dX4_exitPart_12 (by decide +kernel) ?_
    refine lv_iload_n hx hb dX4_exitPart_13 rfl (lv_at hl 1 rfl) ?_
    refine lv_iconst (v := 2) hx hb dX4_exitPart_14 (by decide +kernel) ?_
    refine lv_iadd hx hb dX4_exitPart_15 ?_
    obtain ⟨u_18, hu_18, hF_19⟩ := Option.bind_eq_some_iff.mp hF_17
    clear hF_17
    have hPc := hP.sub (ws' := (b_m cB cC cI cJ cZ oA rA u_1.2 ++ b_w cB cC cI cJ cZ oA rA u_1.2 ++ b_s cB cC cI cJ cZ oA rA u_1.2 ++ b_c cB cC cI cJ cZ oA rA u_1.2 ++ b_t cB cC cI cJ cZ oA rA u_1.2 ++ b_d cB cC cI cJ cZ oA rA u_1.2)) [0, 1, 2, 3, 4, 5, 6, 7, 8, 9, 10, 11, 12, 13, 14, 15, 16, 17, 18, 19, 20, 21, 22, 23, 24, 25, 26, 27, 28, 29, 30, 31, 32, 33, 34, 35, 36, 37, 38, 39, 40, 41, 42, 43, 44, 45, 46] rfl
    have hDc := (hDD u_1.2).sub (ws' := (b_m cB cC cI cJ cZ oA rA u_1.2 ++ b_w cB cC cI cJ cZ oA rA u_1.2 ++ b_s cB cC cI cJ cZ oA rA u_1.2 ++ b_c cB cC cI cJ cZ oA rA u_1.2 ++ b_t cB cC cI cJ cZ oA rA u_1.2 ++ b_d cB cC cI cJ cZ oA rA u_1.2)) [0, 1, 2, 3, 4, 5, 6, 7, 8, 9, 10, 11, 12, 13, 14, 15, 16, 17, 18, 19, 20, 21, 22, 23, 24, 25, 26, 27, 28, 29, 30, 31, 32, 33, 34, 35, 36, 37, 38, 39, 40, 41, 42, 43, 44, 45, 46] (by decide +kernel) rfl
    have hFc := va_free (wc := (b_m cB cC cI cJ cZ oA rA u_1.2 ++ b_w cB cC cI cJ cZ oA rA u_1.2 ++ b_s cB cC cI cJ cZ oA rA u_1.2 ++ b_c cB cC cI cJ cZ oA rA u_1.2 ++ b_t cB cC cI cJ cZ oA rA u_1.2 ++ b_d cB cC cI cJ cZ oA rA u_1.2)) (hDD u_1.2) hS hA [0, 1, 2, 3, 4, 5, 6, 7, 8, 9, 10, 11, 12, 13, 14, 15, 16, 17, 18, 19, 20, 21, 22, 23, 24, 25, 26, 27, 28, 29, 30, 31, 32, 33, 34, 35, 36, 37, 38, 39, 40, 41, 42, 43, 44, 45, 46] rfl
    refine g_ofv (wc := (b_m cB cC cI cJ cZ oA rA u_1.2 ++ b_w cB cC cI cJ cZ oA rA u_1.2 ++ b_s cB cC cI cJ cZ oA rA u_1.2 ++ b_c cB cC cI cJ cZ oA rA u_1.2 ++ b_t cB cC cI cJ cZ oA rA u_1.2 ++ b_d cB cC cI cJ cZ oA rA u_1.2)) (wr := ([] : va_W)) hP (hDD u_1.2) hS hFc [0, 1, 2, 3, 4, 5, 6, 7, 8, 9, 10, 11, 12, 13, 14, 15, 16, 17, 18, 19, 20, 21, 22, 23, 24, 25, 26, 27, 28, 29, 30, 31, 32, 33, 34, 35, 36, 37, 38, 39, 40, 41, 42, 43, 44, 45, 46] [] rfl rfl (by decide +kernel) (by decide +kernel) (va_runV (As := [.int 3, .int (p0 + 2)]) (rest := []) ⟨hx, hb, hml, hown, hts⟩ (k_X4_fail l dC dI cB cC cI cJ cZ cP oA rA H.size  3 (p0 + 2) u_1.2 _ hu_18) (cwV 2 hts (g_gV wq_725 wq_726 wq_2037 wq_4 wq_727) rfl rfl rfl (by decide +kernel) ⟨Nat.le_of_ble_eq_true rfl, Nat.le_of_ble_eq_true rfl⟩) (g_preV g_bl0 hK hPc hDc hS hE hFc g_to0 (q0 := 0) (ci := 4) rfl rfl) rfl rfl hl.1 rfl (lv_room (Nat.le_of_ble_eq_true rfl)) dX4_exitPart_16 ⟨Nat.le_of_ble_eq_true rfl, Nat.le_of_ble_eq_true rfl⟩) (fun u9 H locs hw9 hP' hD' hS => ?_)
    clear hPc hDc hFc
    have hP : va_P (dC, dI) vwCl (b_m cB cC cI cJ cZ oA rA u_18.2 ++ b_w cB cC cI cJ cZ oA rA u_18.2 ++ b_s cB cC cI cJ cZ oA rA u_18.2 ++ b_c cB cC cI cJ cZ oA rA u_18.2 ++ b_t cB cC cI cJ cZ oA rA u_18.2 ++ b_d cB cC cI cJ cZ oA rA u_18.2) H := hP'
    clear hP' hD'
    exact Jj_4  u_18.2 hF_19 _ _ hP hS ls (lv_sub hl [0, 1] rfl)
theorem dX4_inPart_0 : decode cX4_inPart 0 = .ok (.aload_n 0, 1) := by decide +kernel
theorem dX4_inPart_1 : decode cX4_inPart 1 = .ok (.iload_n 1, 1) := by decide +kernel
theorem dX4_inPart_2 : decode cX4_inPart 2 = .ok (.invokevirtual 221, 3) := by decide +kernel
theorem dX4_inPart_5 : decode cX4_inPart 5 = .ok (.istore_n 2, 1) := by decide +kernel
theorem dX4_inPart_6 : decode cX4_inPart 6 = .ok (.aload_n 0, 1) := by decide +kernel
theorem dX4_inPart_7 : decode cX4_inPart 7 = .ok (.getfield 32, 3) := by decide +kernel
theorem dX4_inPart_10 : decode cX4_inPart 10 = .ok (.iload_n 1, 1) := by decide +kernel
theorem dX4_inPart_11 : decode cX4_inPart 11 = .ok (.invokevirtual 116, 3) := by decide +kernel
theorem dX4_inPart_14 : decode cX4_inPart 14 = .ok (.sipush 228, 3) := by decide +kernel
theorem dX4_inPart_17 : decode cX4_inPart 17 = .ok (.if_icmp .ne 7, 3) := by decide +kernel
theorem dX4_inPart_20 : decode cX4_inPart 20 = .ok (.iconst 1, 1) := by decide +kernel
theorem dX4_inPart_21 : decode cX4_inPart 21 = .ok (.goto 4, 3) := by decide +kernel
theorem dX4_inPart_24 : decode cX4_inPart 24 = .ok (.iconst 0, 1) := by decide +kernel
theorem dX4_inPart_25 : decode cX4_inPart 25 = .ok (.istore_n 3, 1) := by decide +kernel
theorem dX4_inPart_26 : decode cX4_inPart 26 = .ok (.iload_n 3, 1) := by decide +kernel
theorem dX4_inPart_27 : decode cX4_inPart 27 = .ok (.ifCond .ne 19, 3) := by decide +kernel
theorem dX4_inPart_30 : decode cX4_inPart 30 = .ok (.iload_n 2, 1) := by decide +kernel
theorem dX4_inPart_31 : decode cX4_inPart 31 = .ok (.iconst 1, 1) := by decide +kernel
theorem dX4_inPart_32 : decode cX4_inPart 32 = .ok (.if_icmp .eq 14, 3) := by decide +kernel
theorem dX4_inPart_35 : decode cX4_inPart 35 = .ok (.iload_n 2, 1) := by decide +kernel
theorem dX4_inPart_36 : decode cX4_inPart 36 = .ok (.iconst 2, 1) := by decide +kernel
theorem dX4_inPart_37 : decode cX4_inPart 37 = .ok (.if_icmp .eq 9, 3) := by decide +kernel
theorem dX4_inPart_40 : decode cX4_inPart 40 = .ok (.aload_n 0, 1) := by decide +kernel
theorem dX4_inPart_41 : decode cX4_inPart 41 = .ok (.iconst 3, 1) := by decide +kernel
theorem dX4_inPart_42 : decode cX4_inPart 42 = .ok (.iload_n 1, 1) := by decide +kernel
theorem dX4_inPart_43 : decode cX4_inPart 43 = .ok (.invokevirtual 84, 3) := by decide +kernel
theorem dX4_inPart_46 : decode cX4_inPart 46 = .ok (.aload_n 0, 1) := by decide +kernel
theorem dX4_inPart_47 : decode cX4_inPart 47 = .ok (.getfield 36, 3) := by decide +kernel
theorem dX4_inPart_50 : decode cX4_inPart 50 = .ok (.getfield 227, 3) := by decide +kernel
theorem dX4_inPart_53 : decode cX4_inPart 53 = .ok (.aload_n 0, 1) := by decide +kernel
theorem dX4_inPart_54 : decode cX4_inPart 54 = .ok (.getfield 190, 3) := by decide +kernel
theorem dX4_inPart_57 : decode cX4_inPart 57 = .ok (.iload_n 3, 1) := by decide +kernel
theorem dX4_inPart_58 : decode cX4_inPart 58 = .ok (.ifCond .eq 7, 3) := by decide +kernel
theorem dX4_inPart_61 : decode cX4_inPart 61 = .ok (.iconst 1, 1) := by decide +kernel
theorem dX4_inPart_62 : decode cX4_inPart 62 = .ok (.goto 8, 3) := by decide +kernel
theorem dX4_inPart_65 : decode cX4_inPart 65 = .ok (.aload_n 0, 1) := by decide +kernel
theorem dX4_inPart_66 : decode cX4_inPart 66 = .ok (.iload_n 1, 1) := by decide +kernel
theorem dX4_inPart_67 : decode cX4_inPart 67 = .ok (.invokevirtual 193, 3) := by decide +kernel
theorem dX4_inPart_70 : decode cX4_inPart 70 = .ok (.invokestatic 112, 3) := by decide +kernel
theorem dX4_inPart_73 : decode cX4_inPart 73 = .ok (.return_, 1) := by decide +kernel
def F_X4_inPart (p0 : Int32) (Γ : HS) : HR :=
  (F_X4_sortOf p0 Γ).bind fun u_1 =>
  (F_X10_kindOf p0 u_1.2).bind fun u_3 =>
  bnd (mrg (fun j => j == 1) u_1.2 u_3.2) fun σ_5 =>
  bnd (fun (t_7 : Int32) (σ_8 : HS) => (
    bnd (fun  (σ_12 : HS) => (
      bnd (fun (t_16 : Int32) (σ_17 : HS) => (
        bnd (cA' σ_17 4 4 (g_put 121 ((σ_17 4).2.1 4) ((σ_12 3).1 13) t_16)) fun σ_21 =>
        some (0, σ_21)
      ) : Int32 → HS → HR) fun j_18 =>
      if t_7 = 0 then (
        (F_X4_numberOf p0 σ_12).bind fun u_25 =>
        j_18 u_25.1 u_25.2
      ) else (
        j_18 1 σ_12
      )
    ) : HS → HR) fun j_13 =>
    if t_7 = 0 then (
      if u_1.1 = 1 then (
        j_13  σ_8
      ) else (
        if u_1.1 = 2 then (
          j_13  σ_8
        ) else (
          (F_X4_fail 3 p0 σ_8).bind fun u_36 =>
          j_13  u_36.2
        )
      )
    ) else (
      j_13  σ_8
    )
  ) : Int32 → HS → HR) fun j_9 =>
  if u_3.1 = 228 then (
    j_9 1 σ_5
  ) else (
    j_9 0 σ_5
  )
set_option maxHeartbeats 4000000 in
set_option maxRecDepth 100000 in
theorem k_X4_inPart (l : Launch) (dC : Nat → ClassId) (dI : Nat → Nat → Nat) (cB cC cI cJ cZ cP : ClassId) (oA : Nat → Nat) (rA : Nat → Nat → Nat) (sz : Nat)  (p0 : Int32) (Γ : HS) (res : Int32 × HS) (hF : F_X4_inPart p0 Γ = some res) : Met l yX4_inPart (g_ws yX4_inPart cX4_inPart 4 none) ({ frames := 5, cells := 0, slots := 0, locals := 124 }) (va_Pc [.ref (oA 3), .int p0] (g_B (dC, dI) [(cB, .byte), (cC, .char), (cI, .int), (cJ, .long), (cZ, .boolean), (cP, .object "StoryHouse$Play")] sz (b_m cB cC cI cJ cZ oA rA Γ ++ b_w cB cC cI cJ cZ oA rA Γ ++ b_s cB cC cI cJ cZ oA rA Γ ++ b_c cB cC cI cJ cZ oA rA Γ ++ b_t cB cC cI cJ cZ oA rA Γ ++ b_d cB cC cI cJ cZ oA rA Γ) g_0)) (va_Qv (fun (_ : Unit) => True) (g_Bo (dC, dI) (va_A (b_m cB cC cI cJ cZ oA rA Γ ++ b_w cB cC cI cJ cZ oA rA Γ ++ b_s cB cC cI cJ cZ oA rA Γ ++ b_c cB cC cI cJ cZ oA rA Γ ++ b_t cB cC cI cJ cZ oA rA Γ ++ b_d cB cC cI cJ cZ oA rA Γ) sz) (fun (_ : Unit) => (b_m cB cC cI cJ cZ oA rA res.2 ++ b_w cB cC cI cJ cZ oA rA res.2 ++ b_s cB cC cI cJ cZ oA rA res.2 ++ b_c cB cC cI cJ cZ oA rA res.2 ++ b_t cB cC cI cJ cZ oA rA res.2 ++ b_d cB cC cI cJ cZ oA rA res.2))) (va_A (b_m cB cC cI cJ cZ oA rA Γ ++ b_w cB cC cI cJ cZ oA rA Γ ++ b_s cB cC cI cJ cZ oA rA Γ ++ b_c cB cC cI cJ cZ oA rA Γ ++ b_t cB cC cI cJ cZ oA rA Γ ++ b_d cB cC cI cJ cZ oA rA Γ) sz)) 0 0 (va_A (b_m cB cC cI cJ cZ oA rA Γ ++ b_w cB cC cI cJ cZ oA rA Γ ++ b_s cB cC cI cJ cZ oA rA Γ ++ b_c cB cC cI cJ cZ oA rA Γ ++ b_t cB cC cI cJ cZ oA rA Γ ++ b_d cB cC cI cJ cZ oA rA Γ) sz) := by
  refine Met.ofW (cc := cX4_inPart) (maxL := 4) (ret := none) (by decide) rfl ?_
  intro p e s m args below meth c s₁ B hml hv
  obtain ⟨rfl, hsz, hP, hK, hD0, hE, hX⟩ := hv
  have hx := B.exec
  have hb := B.bytes
  have hr := B.returns
  have hts0 := atoms_spec (ws := g_ws yX4_inPart cX4_inPart 4 none) B.pre
  have hts : ∀ w ∈ lw_good, w.before ([.ref (oA 3), .int p0] : List Value).toArray s = true := fun w z => hts0 w (List.mem_cons_of_mem _ z)
  have hown : s.vm.findClass RX4 = some m.cls := findClass_of_methodNamed B.named
  have hlocks := B.notSynchronized
  subst hsz
  have hD1 := hD0.self (sz := s.heap.size)
  generalize hAe : va_A (b_m cB cC cI cJ cZ oA rA Γ ++ b_w cB cC cI cJ cZ oA rA Γ ++ b_s cB cC cI cJ cZ oA rA Γ ++ b_c cB cC cI cJ cZ oA rA Γ ++ b_t cB cC cI cJ cZ oA rA Γ ++ b_d cB cC cI cJ cZ oA rA Γ) s.heap.size = A at hD1 hE hX ⊢
  have hA : ∀ q : Nat, s.heap.size ≤ q → A q := fun q z => by rw [← hAe]; exact Or.inr z
  have hDD : ∀ Γ : HS, va_D A (b_m cB cC cI cJ cZ oA rA Γ ++ b_w cB cC cI cJ cZ oA rA Γ ++ b_s cB cC cI cJ cZ oA rA Γ ++ b_c cB cC cI cJ cZ oA rA Γ ++ b_t cB cC cI cJ cZ oA rA Γ ++ b_d cB cC cI cJ cZ oA rA Γ) := fun Γ9 => va_D_fst (ws := (b_m cB cC cI cJ cZ oA rA Γ ++ b_w cB cC cI cJ cZ oA rA Γ ++ b_s cB cC cI cJ cZ oA rA Γ ++ b_c cB cC cI cJ cZ oA rA Γ ++ b_t cB cC cI cJ cZ oA rA Γ ++ b_d cB cC cI cJ cZ oA rA Γ)) (ws' := (b_m cB cC cI cJ cZ oA rA Γ9 ++ b_w cB cC cI cJ cZ oA rA Γ9 ++ b_s cB cC cI cJ cZ oA rA Γ9 ++ b_c cB cC cI cJ cZ oA rA Γ9 ++ b_t cB cC cI cJ cZ oA rA Γ9 ++ b_d cB cC cI cJ cZ oA rA Γ9)) rfl hD1
  have hN := hE.1
  have hS : va_S A s.heap s.heap [] := va_S.rf
  have hl := lv_entry ([.ref (oA 3), .int p0]) (n := 4) (Nat.le_of_ble_eq_true rfl)
  rw [lg_entry_eq]
  generalize (lg_sl ([.ref (oA 3), .int p0]) ++ List.replicate (4 - (lg_sl ([.ref (oA 3), .int p0])).length) Slot.unset).toArray = ls at hl ⊢
  have hl : lv_has ls 4 [(0, .ref (oA 3)), (1, .int p0)] := hl
  unfold F_X4_inPart at hF
  refine lv_aload_n hx hb dX4_inPart_0 rfl (lv_at hl 0 rfl) ?_
  refine lv_iload_n hx hb dX4_inPart_1 rfl (lv_at hl 1 rfl) ?_
  obtain ⟨u_1, hu_1, hF_2⟩ := Option.bind_eq_some_iff.mp hF
  clear hF
  have hPc := hP.sub (ws' := (b_m cB cC cI cJ cZ oA rA Γ ++ b_w cB cC cI cJ cZ oA rA Γ ++ b_s cB cC cI cJ cZ oA rA Γ ++ b_c cB cC cI cJ cZ oA rA Γ ++ b_t cB cC cI cJ cZ oA rA Γ ++ b_d cB cC cI cJ cZ oA rA Γ)) [0, 1, 2, 3, 4, 5, 6, 7, 8, 9, 10, 11, 12, 13, 14, 15, 16, 17, 18, 19, 20, 21, 22, 23, 24, 25, 26, 27, 28, 29, 30, 31, 32, 33, 34, 35, 36, 37, 38, 39, 40, 41, 42, 43, 44, 45, 46] rfl
  have hDc := (hDD Γ).sub (ws' := (b_m cB cC cI cJ cZ oA rA Γ ++ b_w cB cC cI cJ cZ oA rA Γ ++ b_s cB cC cI cJ cZ oA rA Γ ++ b_c cB cC cI cJ cZ oA rA Γ ++ b_t cB cC cI cJ cZ oA rA Γ ++ b_d cB cC cI cJ cZ oA rA Γ)) [0, 1, 2, 3, 4, 5, 6, 7, 8, 9, 10, 11, 12, 13, 14, 15, 16, 17, 18, 19, 20, 21, 22, 23, 24, 25, 26, 27, 28, 29, 30, 31, 32, 33, 34, 35, 36, 37, 38, 39, 40, 41, 42, 43, 44, 45, 46] (by decide +kernel) rfl
  have hFc := va_free (wc := (b_m cB cC cI cJ cZ oA rA Γ ++ b_w cB cC cI cJ cZ oA rA Γ ++ b_s cB cC cI cJ cZ oA rA Γ ++ b_c cB cC cI cJ cZ oA rA Γ ++ b_t cB cC cI cJ cZ oA rA Γ ++ b_d cB cC cI cJ cZ oA rA Γ)) (hDD Γ) hS hA [0, 1, 2, 3, 4, 5, 6, 7, 8, 9, 10, 11, 12, 13, 14, 15, 16, 17, 18, 19, 20, 21, 22, 23, 24, 25, 26, 27, 28, 29, 30, 31, 32, 33, 34, 35, 36, 37, 38, 39, 40, 41, 42, 43, 44, 45, 46] rfl
  refine g_ofi (wc := (b_m cB cC cI cJ cZ oA rA Γ ++ b_w cB cC cI cJ cZ oA rA Γ ++ b_s cB cC cI cJ cZ oA rA Γ ++ b_c cB cC cI cJ cZ oA rA Γ ++ b_t cB cC cI cJ cZ oA rA Γ ++ b_d cB cC cI cJ cZ oA rA Γ)) (wr := ([] : va_W)) hP (hDD Γ) hS hFc [0, 1, 2, 3, 4, 5, 6, 7, 8, 9, 10, 11, 12, 13, 14, 15, 16, 17, 18, 19, 20, 21, 22, 23, 24, 25, 26, 27, 28, 29, 30, 31, 32, 33, 34, 35, 36, 37, 38, 39, 40, 41, 42, 43, 44, 45, 46] [] rfl rfl (by decide +kernel) (by decide +kernel) (va_runV (As := [.int p0]) (rest := []) ⟨hx, hb, hml, hown, hts⟩ (k_X4_sortOf l dC dI cB cC cI cJ cZ cP oA rA s.heap.size  p0 Γ _ hu_1) (cwV 1 hts (g_gV wq_766 wq_767 wq_2050 wq_4 wq_768) rfl rfl rfl (by decide +kernel) ⟨Nat.le_of_ble_eq_true rfl, Nat.le_of_ble_eq_true rfl⟩) (g_preV g_bl0 hK hPc hDc hS hE hFc g_to0 (q0 := 0) (ci := 4) rfl rfl) rfl rfl hl.1 rfl (lv_room (Nat.le_of_ble_eq_true rfl)) dX4_inPart_2 ⟨Nat.le_of_ble_eq_true rfl, Nat.le_of_ble_eq_true rfl⟩) (fun r9 u9 H locs hw9 hP' hD' hS => ?_)
  clear hPc hDc hFc
  subst hw9
  have hP : va_P (dC, dI) vwCl (b_m cB cC cI cJ cZ oA rA u_1.2 ++ b_w cB cC cI cJ cZ oA rA u_1.2 ++ b_s cB cC cI cJ cZ oA rA u_1.2 ++ b_c cB cC cI cJ cZ oA rA u_1.2 ++ b_t cB cC cI cJ cZ oA rA u_1.2 ++ b_d cB cC cI cJ cZ oA rA u_1.2) H := hP'
  clear hP' hD'
  refine lv_istore_n (lv' := [(2, .int u_1.1), (0, .ref (oA 3)), (1, .int p0)]) hx hb dX4_inPart_5 rfl hl (by decide) rfl (fun ls hl => ?_)
  refine lv_aload_n hx hb dX4_inPart_6 rfl (lv_at hl 1 rfl) ?_
  refine va_get (D := (dC, dI)) (ci := 4) (v := .ref (oA 1)) (C := RX4) (T := TX4) (N := 18) hx hb hts ii_X4 hown hK hP 0 rfl rfl 0 (by decide) (hts (.fieldLink RX4 32 "StoryHouse$Meanings" "words" "LStoryHouse$Words;") wq_86) (fun _ h9 => h9) rfl dX4_inPart_7 ?_
  refine lv_iload_n hx hb dX4_inPart_10 rfl (lv_at hl 2 rfl) ?_
  obtain ⟨u_3, hu_3, hF_4⟩ := Option.bind_eq_some_iff.mp hF_2
  clear hF_2
  have hPc := hP.sub (ws' := (b_w cB cC cI cJ cZ oA rA u_1.2)) [7, 8, 9, 10, 11, 12, 13, 14, 15] rfl
  have hDc := (hDD u_1.2).sub (ws' := (b_w cB cC cI cJ cZ oA rA u_1.2)) [7, 8, 9, 10, 11, 12, 13, 14, 15] (by decide +kernel) rfl
  have hFc := va_free (wc := (b_w cB cC cI cJ cZ oA rA u_1.2)) (hDD u_1.2) hS hA [7, 8, 9, 10, 11, 12, 13, 14, 15] rfl
  refine g_ofi (wc := (b_w cB cC cI cJ cZ oA rA u_1.2)) (wr := (b_m cB cC cI cJ cZ oA rA u_1.2 ++ b_s cB cC cI cJ cZ oA rA u_1.2 ++ b_c cB cC cI cJ cZ oA rA u_1.2 ++ b_t cB cC cI cJ cZ oA rA u_1.2 ++ b_d cB cC cI cJ cZ oA rA u_1.2)) hP (hDD u_1.2) hS hFc [7, 8, 9, 10, 11, 12, 13, 14, 15] [0, 1, 2, 3, 4, 5, 6, 16, 17, 18, 19, 20, 21, 22, 23, 24, 25, 26, 27, 28, 29, 30, 31, 32, 33, 34, 35, 36, 37, 38, 39, 40, 41, 42, 43, 44, 45, 46] rfl rfl (by decide +kernel) (by decide +kernel) (va_runV (As := [.int p0]) (rest := []) ⟨hx, hb, hml, hown, hts⟩ (k_X10_kindOf l dC dI cB cC cI cJ cZ cP oA rA H.size  p0 u_1.2 _ hu_3) (cwV 1 hts (g_gV wq_714 wq_543 wq_544 wq_2 wq_545) rfl rfl rfl (by decide +kernel) ⟨Nat.le_of_ble_eq_true rfl, Nat.le_of_ble_eq_true rfl⟩) (g_preV g_bl0 hK hPc hDc hS hE hFc g_to0 (q0 := 0) (ci := 10) rfl rfl) rfl rfl hl.1 rfl (lv_room (Nat.le_of_ble_eq_true rfl)) dX4_inPart_11 ⟨Nat.le_of_ble_eq_true rfl, Nat.le_of_ble_eq_true rfl⟩) (fun r9 u9 H locs hw9 hP' hD' hS => ?_)
  clear hPc hDc hFc
  subst hw9
  obtain ⟨σ_5, eσ_5, hF_6⟩ := bnd_e hF_4
  clear hF_4
  have hP : va_P (dC, dI) vwCl (b_m cB cC cI cJ cZ oA rA σ_5 ++ b_w cB cC cI cJ cZ oA rA σ_5 ++ b_s cB cC cI cJ cZ oA rA σ_5 ++ b_c cB cC cI cJ cZ oA rA σ_5 ++ b_t cB cC cI cJ cZ oA rA σ_5 ++ b_d cB cC cI cJ cZ oA rA σ_5) H := by rw [eσ_5]; exact hP'.sub [0, 1, 2, 3, 4, 5, 6, 38, 39, 40, 41, 42, 43, 44, 45, 46, 7, 8, 9, 10, 11, 12, 13, 14, 15, 16, 17, 18, 19, 20, 21, 22, 23, 24, 25, 26, 27, 28, 29, 30, 31, 32, 33, 34, 35, 36, 37] rfl
  clear hP' hD'
  refine lv_sipush (v := 228) hx hb dX4_inPart_14 (by decide +kernel) ?_
  obtain ⟨j_9, ej_9, hF_10⟩ := bnd_e hF_6
  clear hF_6
  have Jj_9 : ∀ (t_7 : Int32) (σ_8 : HS), j_9 t_7 σ_8 = some res → ∀ (H : Heap) (locs : List Loc), va_P (dC, dI) vwCl (b_m cB cC cI cJ cZ oA rA σ_8 ++ b_w cB cC cI cJ cZ oA rA σ_8 ++ b_s cB cC cI cJ cZ oA rA σ_8 ++ b_c cB cC cI cJ cZ oA rA σ_8 ++ b_t cB cC cI cJ cZ oA rA σ_8 ++ b_d cB cC cI cJ cZ oA rA σ_8) H → va_S A s.heap H locs → ∀ ls : Array Slot, lv_has ls 4 [(0, .ref (oA 3)), (1, .int p0), (2, .int u_1.1)] → W p l e (headSpec (g_ws yX4_inPart cX4_inPart 4 none) { frames := 5, cells := 0, slots := 0, locals := 124 }).room s m ([.ref (oA 3), .int p0] : List Value).toArray below meth c H locs 0 0 (MQ below (va_Qv (fun (_ : Unit) => True) (g_Bo (dC, dI) A (fun (_ : Unit) => (b_m cB cC cI cJ cZ oA rA res.2 ++ b_w cB cC cI cJ cZ oA rA res.2 ++ b_s cB cC cI cJ cZ oA rA res.2 ++ b_c cB cC cI cJ cZ oA rA res.2 ++ b_t cB cC cI cJ cZ oA rA res.2 ++ b_d cB cC cI cJ cZ oA rA res.2))) A) ([.ref (oA 3), .int p0] : List Value).toArray s 0 0 A) (F0 m 25 ls [.int t_7]) := by
    intro t_7 σ_8 hF0 H locs hP hS ls hl
    subst ej_9
    have hF_11 := hF0
    clear hF0
    refine lv_istore_n (lv' := [(3, .int t_7), (0, .ref (oA 3)), (1, .int p0), (2, .int u_1.1)]) hx hb dX4_inPart_25 rfl hl (by decide) rfl (fun ls hl => ?_)
    refine lv_iload_n hx hb dX4_inPart_26 rfl (lv_at hl 0 rfl) ?_
    obtain ⟨j_13, ej_13, hF_14⟩ := bnd_e hF_11
    clear hF_11
    have Jj_13 : ∀  (σ_12 : HS), j_13  σ_12 = some res → ∀ (H : Heap) (locs : List Loc), va_P (dC, dI) vwCl (b_m cB cC cI cJ cZ oA rA σ_12 ++ b_w cB cC cI cJ cZ oA rA σ_12 ++ b_s cB cC cI cJ cZ oA rA σ_12 ++ b_c cB cC cI cJ cZ oA rA σ_12 ++ b_t cB cC cI cJ cZ oA rA σ_12 ++ b_d cB cC cI cJ cZ oA rA σ_12) H → va_S A s.heap H locs → ∀ ls : Array Slot, lv_has ls 4 [(0, .ref (oA 3)), (1, .int p0), (3, .int t_7)] → W p l e (headSpec (g_ws yX4_inPart cX4_inPart 4 none) { frames := 5, cells := 0, slots := 0, locals := 124 }).room s m ([.ref (oA 3), .int p0] : List Value).toArray below meth c H locs 0 0 (MQ below (va_Qv (fun (_ : Unit) => True) (g_Bo (dC, dI) A (fun (_ : Unit) => (b_m cB cC cI cJ cZ oA rA res.2 ++ b_w cB cC cI cJ cZ oA rA res.2 ++ b_s cB cC cI cJ cZ oA rA res.2 ++ b_c cB cC cI cJ cZ oA rA res.2 ++ b_t cB cC cI cJ cZ oA rA res.2 ++ b_d cB cC cI cJ cZ oA rA res.2))) A) ([.ref (oA 3), .int p0] : List Value).toArray s 0 0 A) (F0 m 46 ls []) := by
      intro  σ_12 hF0 H locs hP hS ls hl
      subst ej_13
      have hF_15 := hF0
      clear hF0
      refine lv_aload_n hx hb dX4_inPart_46 rfl (lv_at hl 0 rfl) ?_
      refine va_get (D := (dC, dI)) (ci := 4) (v := .ref (oA 4)) (C := RX4) (T := TX4) (N := 18) hx hb hts ii_X4 hown hK hP 0 rfl rfl 1 (by decide) (hts (.fieldLink RX4 36 "StoryHouse$Meanings" "story" "LStoryHouse$Story;") wq_87) (fun _ h9 => h9) rfl dX4_inPart_47 ?_
      refine va_get (D := (dC, dI)) (ci := 7) (v := .ref (rA 4 4)) (C := RX7) (T := TX7) (N := 19) hx hb hts ii_X7 hown hK hP 16 rfl rfl 4 (by decide) (hts (.fieldLink RX4 227 "StoryHouse$Story" "starts" "[I") wq_164) (fun _ h9 => h9) rfl dX4_inPart_50 ?_
      refine lv_aload_n hx hb dX4_inPart_53 rfl (lv_at hl 0 rfl) ?_
      refine va_get (D := (dC, dI)) (ci := 4) (v := .int ((σ_12 3).1 13)) (C := RX4) (T := TX4) (N := 18) hx hb hts ii_X4 hown hK hP 0 rfl rfl 13 (by decide) (hts (.fieldLink RX4 190 "StoryHouse$Meanings" "object" "I") wq_99) (fun _ h9 => h9) rfl dX4_inPart_54 ?_
      refine lv_iload_n hx hb dX4_inPart_57 rfl (lv_at hl 2 rfl) ?_
      obtain ⟨j_18, ej_18, hF_19⟩ := bnd_e hF_15
      clear hF_15
      have Jj_18 : ∀ (t_16 : Int32) (σ_17 : HS), j_18 t_16 σ_17 = some res → ∀ (H : Heap) (locs : List Loc), va_P (dC, dI) vwCl (b_m cB cC cI cJ cZ oA rA σ_17 ++ b_w cB cC cI cJ cZ oA rA σ_17 ++ b_s cB cC cI cJ cZ oA rA σ_17 ++ b_c cB cC cI cJ cZ oA rA σ_17 ++ b_t cB cC cI cJ cZ oA rA σ_17 ++ b_d cB cC cI cJ cZ oA rA σ_17) H → va_S A s.heap H locs → ∀ ls : Array Slot, lv_has ls 4 [] → W p l e (headSpec (g_ws yX4_inPart cX4_inPart 4 none) { frames := 5, cells := 0, slots := 0, locals := 124 }).room s m ([.ref (oA 3), .int p0] : List Value).toArray below meth c H locs 0 0 (MQ below (va_Qv (fun (_ : Unit) => True) (g_Bo (dC, dI) A (fun (_ : Unit) => (b_m cB cC cI cJ cZ oA rA res.2 ++ b_w cB cC cI cJ cZ oA rA res.2 ++ b_s cB cC cI cJ cZ oA rA res.2 ++ b_c cB cC cI cJ cZ oA rA res.2 ++ b_t cB cC cI cJ cZ oA rA res.2 ++ b_d cB cC cI cJ cZ oA rA res.2))) A) ([.ref (oA 3), .int p0] : List Value).toArray s 0 0 A) (F0 m 70 ls [.int t_16, .int ((σ_12 3).1 13), .ref (rA 4 4)]) := by
        intro t_16 σ_17 hF0 H locs hP hS ls hl
        subst ej_18
        have hF_20 := hF0
        clear hF0
        have hPc := hP.sub (ws' := [(rA 4 4, .inl (cI, 121, .inl ((σ_17 4).2.1 4)))]) [21] rfl
        have hDc := (hDD σ_17).sub (ws' := [(rA 4 4, .inl (cI, 121, .inl ((σ_17 4).2.1 4)))]) [21] (by decide +kernel) rfl
        have hFc := va_free (wc := [(rA 4 4, .inl (cI, 121, .inl ((σ_17 4).2.1 4)))]) (hDD σ_17) hS hA [21] rfl
        refine g_ofv (wc := [(rA 4 4, .inl (cI, 121, .inl ((σ_17 4).2.1 4)))]) (wr := (((b_m cB cC cI cJ cZ oA rA σ_17 ++ b_w cB cC cI cJ cZ oA rA σ_17 ++ b_s cB cC cI cJ cZ oA rA σ_17 ++ b_c cB cC cI cJ cZ oA rA σ_17 ++ b_t cB cC cI cJ cZ oA rA σ_17 ++ b_d cB cC cI cJ cZ oA rA σ_17)).eraseIdx 21)) hP (hDD σ_17) hS hFc [21] [0, 1, 2, 3, 4, 5, 6, 7, 8, 9, 10, 11, 12, 13, 14, 15, 16, 17, 18, 19, 20, 22, 23, 24, 25, 26, 27, 28, 29, 30, 31, 32, 33, 34, 35, 36, 37, 38, 39, 40, 41, 42, 43, 44, 45, 46] rfl rfl (by decide +kernel) (by decide +kernel) (va_runSN (As := [.ref (rA 4 4), .int ((σ_12 3).1 13), .int t_16]) (rest := []) ⟨hx, hb, hml, hown, hts⟩ (c_X11_put l dC dI cB cC cI cJ cZ cP H.size (rA 4 4) ((σ_12 3).1 13) t_16 121 ((σ_17 4).2.1 4) (by decide)) ⟨va_cnB 3 hts (g_gA wq_412) rfl rfl rfl (hN.at 23 rfl) (hts (.initialized RX11) wq_1) (by decide +kernel) ⟨Nat.le_of_ble_eq_true rfl, Nat.le_of_ble_eq_true rfl⟩, (hts (.static yX11_put) wq_411), trivial⟩ (g_preS g_bl0 hK hPc hDc hS hE hFc g_to0) rfl rfl hl.1 rfl (lv_room (Nat.le_of_ble_eq_true rfl)) dX4_inPart_70 ⟨Nat.le_of_ble_eq_true rfl, Nat.le_of_ble_eq_true rfl⟩) (fun g9 H locs hw9 hP' hD' hS => ?_)
        clear hPc hDc hFc hD'
        obtain ⟨σ_21, eσ_21, hF_22⟩ := bnd_e hF_20
        clear hF_20
        subst hw9
        have hP : va_P (dC, dI) vwCl (b_m cB cC cI cJ cZ oA rA σ_21 ++ b_w cB cC cI cJ cZ oA rA σ_21 ++ b_s cB cC cI cJ cZ oA rA σ_21 ++ b_c cB cC cI cJ cZ oA rA σ_21 ++ b_t cB cC cI cJ cZ oA rA σ_21 ++ b_d cB cC cI cJ cZ oA rA σ_21) H := by rw [eσ_21]; exact hP'.sub [0, 1, 2, 3, 4, 5, 6, 7, 8, 9, 10, 11, 12, 13, 14, 15, 16, 17, 18, 19, 20, 46, 21, 22, 23, 24, 25, 26, 27, 28, 29, 30, 31, 32, 33, 34, 35, 36, 37, 38, 39, 40, 41, 42, 43, 44, 45] rfl
        clear hP'
        have h9 := Option.some.inj hF_22
        subst h9
        exact W.vret hx hb hr (fun t ht hW => ⟨⟨(), rfl, trivial, m_end ht hP, hDD _⟩, hS.F ht⟩) hS.2.2 dX4_inPart_73
      refine lv_if_eq (tgt := 65) hx hb dX4_inPart_58 (by decide) (fun c_23 => ?_) (fun c_23 => ?_)
      · have hF_24 := ipos c_23 hF_19
        clear hF_19
        refine lv_aload_n hx hb dX4_inPart_65 rfl (lv_at hl 0 rfl) ?_
        refine lv_iload_n hx hb dX4_inPart_66 rfl (lv_at hl 1 rfl) ?_
        obtain ⟨u_25, hu_25, hF_26⟩ := Option.bind_eq_some_iff.mp hF_24
        clear hF_24
        have hPc := hP.sub (ws' := (b_m cB cC cI cJ cZ oA rA σ_12 ++ b_w cB cC cI cJ cZ oA rA σ_12 ++ b_s cB cC cI cJ cZ oA rA σ_12 ++ b_c cB cC cI cJ cZ oA rA σ_12 ++ b_t cB cC cI cJ cZ oA rA σ_12 ++ b_d cB cC cI cJ cZ oA rA σ_12)) [0, 1, 2, 3, 4, 5, 6, 7, 8, 9, 10, 11, 12, 13, 14, 15, 16, 17, 18, 19, 20, 21, 22, 23, 24, 25, 26, 27, 28, 29, 30, 31, 32, 33, 34, 35, 36, 37, 38, 39, 40, 41, 42, 43, 44, 45, 46] rfl
        have hDc := (hDD σ_12).sub (ws' := (b_m cB cC cI cJ cZ oA rA σ_12 ++ b_w cB cC cI cJ cZ oA rA σ_12 ++ b_s cB cC cI cJ cZ oA rA σ_12 ++ b_c cB cC cI cJ cZ oA rA σ_12 ++ b_t cB cC cI cJ cZ oA rA σ_12 ++ b_d cB cC cI cJ cZ oA rA σ_12)) [0, 1, 2, 3, 4, 5, 6, 7, 8, 9, 10, 11, 12, 13, 14, 15, 16, 17, 18, 19, 20, 21, 22, 23, 24, 25, 26, 27, 28, 29, 30, 31, 32, 33, 34, 35, 36, 37, 38, 39, 40, 41, 42, 43, 44, 45, 46] (by decide +kernel) rfl
        have hFc := va_free (wc := (b_m cB cC cI cJ cZ oA rA σ_12 ++ b_w cB cC cI cJ cZ oA rA σ_12 ++ b_s cB cC cI cJ cZ oA rA σ_12 ++ b_c cB cC cI cJ cZ oA rA σ_12 ++ b_t cB cC cI cJ cZ oA rA σ_12 ++ b_d cB cC cI cJ cZ oA rA σ_12)) (hDD σ_12) hS hA [0, 1, 2, 3, 4, 5, 6, 7, 8, 9, 10, 11, 12, 13, 14, 15, 16, 17, 18, 19, 20, 21, 22, 23, 24, 25, 26, 27, 28, 29, 30, 31, 32, 33, 34, 35, 36, 37, 38, 39, 40, 41, 42, 43, 44, 45, 46] rfl
        refine g_ofi (wc := (b_m cB cC cI cJ cZ oA rA σ_12 ++ b_w cB cC cI cJ cZ oA rA σ_12 ++ b_s cB cC cI cJ cZ oA rA σ_12 ++ b_c cB cC cI cJ cZ oA rA σ_12 ++ b_t cB cC cI cJ cZ oA rA σ_12 ++ b_d cB cC cI cJ cZ oA rA σ_12)) (wr := ([] : va_W)) hP (hDD σ_12) hS hFc [0, 1, 2, 3, 4, 5, 6, 7, 8, 9, 10, 11, 12, 13, 14, 15, 16, 17, 18, 19, 20, 21, 22, 23, 24, 25, 26, 27, 28, 29, 30, 31, 32, 33, 34, 35, 36, 37, 38, 39, 40, 41, 42, 43, 44, 45, 46] [] rfl rfl (by decide +kernel) (by decide +kernel) (va_runV (As := [.int p0]) (rest := [.int ((σ_12 3).1 13), .ref (rA 4 4)]) ⟨hx, hb, hml, hown, hts⟩ (k_X4_numberOf l dC dI cB cC cI cJ cZ cP oA rA H.size  p0 σ_12 _ hu_25) (cwV 1 hts (g_gV wq_769 wq_770 wq_2051 wq_4 wq_771) rfl rfl rfl (by decide +kernel) ⟨Nat.le_of_ble_eq_true rfl, Nat.le_of_ble_eq_true rfl⟩) (g_preV g_bl0 hK hPc hDc hS hE hFc g_to0 (q0 := 0) (ci := 4) rfl rfl) rfl rfl hl.1 rfl (lv_room (Nat.le_of_ble_eq_true rfl)) dX4_inPart_67 ⟨Nat.le_of_ble_eq_true rfl, Nat.le_of_ble_eq_true rfl⟩) (fun r9 u9 H locs hw9 hP' hD' hS => ?_)
        clear hPc hDc hFc
        subst hw9
        have hP : va_P (dC, dI) vwCl (b_m cB cC cI cJ cZ oA rA u_25.2 ++ b_w cB cC cI cJ cZ oA rA u_25.2 ++ b_s cB cC cI cJ cZ oA rA u_25.2 ++ b_c cB cC cI cJ cZ oA rA u_25.2 ++ b_t cB cC cI cJ cZ oA rA u_25.2 ++ b_d cB cC cI cJ cZ oA rA u_25.2) H := hP'
        clear hP' hD'
        exact Jj_18 u_25.1 u_25.2 hF_26 _ _ hP hS ls (lv_sub hl [] rfl)
      · have hF_27 := ineg c_23 hF_19
        clear hF_19
        refine lv_iconst (v := 1) hx hb dX4_inPart_61 (by decide +kernel) ?_
        refine lv_goto (tgt := 70) hx hb dX4_inPart_62 (by decide) ?_
        exact Jj_18 1 σ_12 hF_27 _ _ hP hS ls (lv_sub hl [] rfl)
    refine lv_if_ne (tgt := 46) hx hb dX4_inPart_27 (by decide) (fun c_28 => ?_) (fun c_28 => ?_)
    · have hF_38 := ineg c_28 hF_14
      clear hF_14
      exact Jj_13  σ_8 hF_38 _ _ hP hS ls (lv_sub hl [1, 2, 0] rfl)
    · have hF_29 := ipos c_28 hF_14
      clear hF_14
      refine lv_iload_n hx hb dX4_inPart_30 rfl (lv_at hl 3 rfl) ?_
      refine lv_iconst (v := 1) hx hb dX4_inPart_31 (by decide +kernel) ?_
      refine lv_icmp_eq (tgt := 46) hx hb dX4_inPart_32 (by decide) (fun c_30 => ?_) (fun c_30 => ?_)
      · have hF_31 := ipos c_30 hF_29
        clear hF_29
        exact Jj_13  σ_8 hF_31 _ _ hP hS ls (lv_sub hl [1, 2, 0] rfl)
      · have hF_32 := ineg c_30 hF_29
        clear hF_29
        refine lv_iload_n hx hb dX4_inPart_35 rfl (lv_at hl 3 rfl) ?_
        refine lv_iconst (v := 2) hx hb dX4_inPart_36 (by decide +kernel) ?_
        refine lv_icmp_eq (tgt := 46) hx hb dX4_inPart_37 (by decide) (fun c_33 => ?_) (fun c_33 => ?_)
        · have hF_34 := ipos c_33 hF_32
          clear hF_32
          exact Jj_13  σ_8 hF_34 _ _ hP hS ls (lv_sub hl [1, 2, 0] rfl)
        · have hF_35 := ineg c_33 hF_32
          clear hF_32
          refine lv_aload_n hx hb dX4_inPart_40 rfl (lv_at hl 1 rfl) ?_
          refine lv_iconst (v := 3) hx hb dX4_inPart_41 (by decide +kernel) ?_
          refine lv_iload_n hx hb dX4_inPart_42 rfl (lv_at hl 2 rfl) ?_
          obtain ⟨u_36, hu_36, hF_37⟩ := Option.bind_eq_some_iff.mp hF_35
          clear hF_35
          have hPc := hP.sub (ws' := (b_m cB cC cI cJ cZ oA rA σ_8 ++ b_w cB cC cI cJ cZ oA rA σ_8 ++ b_s cB cC cI cJ cZ oA rA σ_8 ++ b_c cB cC cI cJ cZ oA rA σ_8 ++ b_t cB cC cI cJ cZ oA rA σ_8 ++ b_d cB cC cI cJ cZ oA rA σ_8)) [0, 1, 2, 3, 4, 5, 6, 7, 8, 9, 10, 11, 12, 13, 14, 15, 16, 17, 18, 19, 20, 21, 22, 23, 24, 25, 26, 27, 28, 29, 30, 31, 32, 33, 34, 35, 36, 37, 38, 39, 40, 41, 42, 43, 44, 45, 46] rfl
          have hDc := (hDD σ_8).sub (ws' := (b_m cB cC cI cJ cZ oA rA σ_8 ++ b_w cB cC cI cJ cZ oA rA σ_8 ++ b_s cB cC cI cJ cZ oA rA σ_8 ++ b_c cB cC cI cJ cZ oA rA σ_8 ++ b_t cB cC cI cJ cZ oA rA σ_8 ++ b_d cB cC cI cJ cZ oA rA σ_8)) [0, 1, 2, 3, 4, 5, 6, 7, 8, 9, 10, 11, 12, 13, 14, 15, 16, 17, 18, 19, 20, 21, 22, 23, 24, 25, 26, 27, 28, 29, 30, 31, 32, 33, 34, 35, 36, 37, 38, 39, 40, 41, 42, 43, 44, 45, 46] (by decide +kernel) rfl
          have hFc := va_free (wc := (b_m cB cC cI cJ cZ oA rA σ_8 ++ b_w cB cC cI cJ cZ oA rA σ_8 ++ b_s cB cC cI cJ cZ oA rA σ_8 ++ b_c cB cC cI cJ cZ oA rA σ_8 ++ b_t cB cC cI cJ cZ oA rA σ_8 ++ b_d cB cC cI cJ cZ oA rA σ_8)) (hDD σ_8) hS hA [0, 1, 2, 3, 4, 5, 6, 7, 8, 9, 10, 11, 12, 13, 14, 15, 16, 17, 18, 19, 20, 21, 22, 23, 24, 25, 26, 27, 28, 29, 30, 31, 32, 33, 34, 35, 36, 37, 38, 39, 40, 41, 42, 43, 44, 45, 46] rfl
          refine g_ofv (wc := (b_m cB cC cI cJ cZ oA rA σ_8 ++ b_w cB cC cI cJ cZ oA rA σ_8 ++ b_s cB cC cI cJ cZ oA rA σ_8 ++ b_c cB cC cI cJ cZ oA rA σ_8 ++ b_t cB cC cI cJ cZ oA rA σ_8 ++ b_d cB cC cI cJ cZ oA rA σ_8)) (wr := ([] : va_W)) hP (hDD σ_8) hS hFc [0, 1, 2, 3, 4, 5, 6, 7, 8, 9, 10, 11, 12, 13, 14, 15, 16, 17, 18, 19, 20, 21, 22, 23, 24, 25, 26, 27, 28, 29, 30, 31, 32, 33, 34, 35, 36, 37, 38, 39, 40, 41, 42, 43, 44, 45, 46] [] rfl rfl (by decide +kernel) (by decide +kernel) (va_runV (As := [.int 3, .int p0]) (rest := []) ⟨hx, hb, hml, hown, hts⟩ (k_X4_fail l dC dI cB cC cI cJ cZ cP oA rA H.size  3 p0 σ_8 _ hu_36) (cwV 2 hts (g_gV wq_725 wq_726 wq_2037 wq_4 wq_727) rfl rfl rfl (by decide +kernel) ⟨Nat.le_of_ble_eq_true rfl, Nat.le_of_ble_eq_true rfl⟩) (g_preV g_bl0 hK hPc hDc hS hE hFc g_to0 (q0 := 0) (ci := 4) rfl rfl) rfl rfl hl.1 rfl (lv_room (Nat.le_of_ble_eq_true rfl)) dX4_inPart_43 ⟨Nat.le_of_ble_eq_true rfl, Nat.le_of_ble_eq_true rfl⟩) (fun u9 H locs hw9 hP' hD' hS => ?_)
          clear hPc hDc hFc
          have hP : va_P (dC, dI) vwCl (b_m cB cC cI cJ cZ oA rA u_36.2 ++ b_w cB cC cI cJ cZ oA rA u_36.2 ++ b_s cB cC cI cJ cZ oA rA u_36.2 ++ b_c cB cC cI cJ cZ oA rA u_36.2 ++ b_t cB cC cI cJ cZ oA rA u_36.2 ++ b_d cB cC cI cJ cZ oA rA u_36.2) H := hP'
          clear hP' hD'
          exact Jj_13  u_36.2 hF_37 _ _ hP hS ls (lv_sub hl [1, 2, 0] rfl)
  refine lv_icmp_ne (tgt := 24) hx hb dX4_inPart_17 (by decide) (fun c_39 => ?_) (fun c_39 => ?_)
  · have hF_41 := ineg c_39 hF_10
    clear hF_10
    refine lv_iconst (v := 0) hx hb dX4_inPart_24 (by decide +kernel) ?_
    exact Jj_9 0 σ_5 hF_41 _ _ hP hS ls (lv_sub hl [1, 2, 0] rfl)
  · have hF_40 := ipos c_39 hF_10
    clear hF_10
    refine lv_iconst (v := 1) hx hb dX4_inPart_20 (by decide +kernel) ?_
    refine lv_goto (tgt := 25) hx hb dX4_inPart_21 (by decide) ?_
    exact Jj_9 1 σ_5 hF_40 _ _ hP hS ls (lv_sub hl [1, 2, 0] rfl)
theorem dX4_whatOf_0 : decode cX4_whatOf 0 = .ok (.aload_n 0, 1) := by decide +kernel
theorem dX4_whatOf_1 : decode cX4_whatOf 1 = .ok (.getfield 32, 3) := by decide +kernel
theorem dX4_whatOf_4 : decode cX4_whatOf 4 = .ok (.iload_n 2, 1) := by decide +kernel
theorem dX4_whatOf_5 : decode cX4_whatOf 5 = .ok (.invokevirtual 116, 3) := by decide +kernel
theorem dX4_whatOf_8 : decode cX4_whatOf 8 = .ok (.istore 4, 2) := by decide +kernel
theorem dX4_whatOf_10 : decode cX4_whatOf 10 = .ok (.iload 4, 2) := by decide +kernel
theorem dX4_whatOf_12 : decode cX4_whatOf 12 = .ok (.bipush 123, 2) := by decide +kernel
theorem dX4_whatOf_14 : decode cX4_whatOf 14 = .ok (.if_icmp .ne 5, 3) := by decide +kernel
theorem dX4_whatOf_17 : decode cX4_whatOf 17 = .ok (.iconst (-1), 1) := by decide +kernel
theorem dX4_whatOf_18 : decode cX4_whatOf 18 = .ok (.ireturn, 1) := by decide +kernel
theorem dX4_whatOf_19 : decode cX4_whatOf 19 = .ok (.iload_n 3, 1) := by decide +kernel
theorem dX4_whatOf_20 : decode cX4_whatOf 20 = .ok (.aload_n 0, 1) := by decide +kernel
theorem dX4_whatOf_21 : decode cX4_whatOf 21 = .ok (.getfield 36, 3) := by decide +kernel
theorem dX4_whatOf_24 : decode cX4_whatOf 24 = .ok (.getfield 168, 3) := by decide +kernel
theorem dX4_whatOf_27 : decode cX4_whatOf 27 = .ok (.iload_n 1, 1) := by decide +kernel
theorem dX4_whatOf_28 : decode cX4_whatOf 28 = .ok (.invokestatic 122, 3) := by decide +kernel
theorem dX4_whatOf_31 : decode cX4_whatOf 31 = .ok (.if_icmp .le 9, 3) := by decide +kernel
theorem dX4_whatOf_34 : decode cX4_whatOf 34 = .ok (.aload_n 0, 1) := by decide +kernel
theorem dX4_whatOf_35 : decode cX4_whatOf 35 = .ok (.iconst 3, 1) := by decide +kernel
theorem dX4_whatOf_36 : decode cX4_whatOf 36 = .ok (.iload_n 2, 1) := by decide +kernel
theorem dX4_whatOf_37 : decode cX4_whatOf 37 = .ok (.invokevirtual 84, 3) := by decide +kernel
theorem dX4_whatOf_40 : decode cX4_whatOf 40 = .ok (.iload 4, 2) := by decide +kernel
theorem dX4_whatOf_42 : decode cX4_whatOf 42 = .ok (.sipush 255, 3) := by decide +kernel
theorem dX4_whatOf_45 : decode cX4_whatOf 45 = .ok (.if_icmp .ne 5, 3) := by decide +kernel
theorem dX4_whatOf_48 : decode cX4_whatOf 48 = .ok (.iconst 0, 1) := by decide +kernel
theorem dX4_whatOf_49 : decode cX4_whatOf 49 = .ok (.ireturn, 1) := by decide +kernel
theorem dX4_whatOf_50 : decode cX4_whatOf 50 = .ok (.iload_n 1, 1) := by decide +kernel
theorem dX4_whatOf_51 : decode cX4_whatOf 51 = .ok (.bipush 11, 2) := by decide +kernel
theorem dX4_whatOf_53 : decode cX4_whatOf 53 = .ok (.if_icmp .ne 28, 3) := by decide +kernel
theorem dX4_whatOf_56 : decode cX4_whatOf 56 = .ok (.iload 4, 2) := by decide +kernel
theorem dX4_whatOf_58 : decode cX4_whatOf 58 = .ok (.sipush 200, 3) := by decide +kernel
theorem dX4_whatOf_61 : decode cX4_whatOf 61 = .ok (.if_icmp .lt 20, 3) := by decide +kernel
theorem dX4_whatOf_64 : decode cX4_whatOf 64 = .ok (.iload 4, 2) := by decide +kernel
theorem dX4_whatOf_66 : decode cX4_whatOf 66 = .ok (.sipush 205, 3) := by decide +kernel
theorem dX4_whatOf_69 : decode cX4_whatOf 69 = .ok (.if_icmp .gt 12, 3) := by decide +kernel
theorem dX4_whatOf_72 : decode cX4_whatOf 72 = .ok (.iload 4, 2) := by decide +kernel
theorem dX4_whatOf_74 : decode cX4_whatOf 74 = .ok (.sipush 200, 3) := by decide +kernel
theorem dX4_whatOf_77 : decode cX4_whatOf 77 = .ok (.isub, 1) := by decide +kernel
theorem dX4_whatOf_78 : decode cX4_whatOf 78 = .ok (.iconst 1, 1) := by decide +kernel
theorem dX4_whatOf_79 : decode cX4_whatOf 79 = .ok (.iadd, 1) := by decide +kernel
theorem dX4_whatOf_80 : decode cX4_whatOf 80 = .ok (.ireturn, 1) := by decide +kernel
theorem dX4_whatOf_81 : decode cX4_whatOf 81 = .ok (.iload_n 1, 1) := by decide +kernel
theorem dX4_whatOf_82 : decode cX4_whatOf 82 = .ok (.bipush 11, 2) := by decide +kernel
theorem dX4_whatOf_84 : decode cX4_whatOf 84 = .ok (.if_icmp .eq 13, 3) := by decide +kernel
theorem dX4_whatOf_87 : decode cX4_whatOf 87 = .ok (.iload 4, 2) := by decide +kernel
theorem dX4_whatOf_89 : decode cX4_whatOf 89 = .ok (.sipush 228, 3) := by decide +kernel
theorem dX4_whatOf_92 : decode cX4_whatOf 92 = .ok (.if_icmp .ne 5, 3) := by decide +kernel
theorem dX4_whatOf_95 : decode cX4_whatOf 95 = .ok (.iconst 1, 1) := by decide +kernel
theorem dX4_whatOf_96 : decode cX4_whatOf 96 = .ok (.ireturn, 1) := by decide +kernel
theorem dX4_whatOf_97 : decode cX4_whatOf 97 = .ok (.iload_n 1, 1) := by decide +kernel
theorem dX4_whatOf_98 : decode cX4_whatOf 98 = .ok (.bipush 11, 2) := by decide +kernel
theorem dX4_whatOf_100 : decode cX4_whatOf 100 = .ok (.if_icmp .eq 12, 3) := by decide +kernel
theorem dX4_whatOf_103 : decode cX4_whatOf 103 = .ok (.aload_n 0, 1) := by decide +kernel
theorem dX4_whatOf_104 : decode cX4_whatOf 104 = .ok (.iload_n 2, 1) := by decide +kernel
theorem dX4_whatOf_105 : decode cX4_whatOf 105 = .ok (.invokevirtual 221, 3) := by decide +kernel
theorem dX4_whatOf_108 : decode cX4_whatOf 108 = .ok (.iconst 2, 1) := by decide +kernel
theorem dX4_whatOf_109 : decode cX4_whatOf 109 = .ok (.if_icmp .eq 9, 3) := by decide +kernel
theorem dX4_whatOf_112 : decode cX4_whatOf 112 = .ok (.aload_n 0, 1) := by decide +kernel
theorem dX4_whatOf_113 : decode cX4_whatOf 113 = .ok (.iconst 3, 1) := by decide +kernel
theorem dX4_whatOf_114 : decode cX4_whatOf 114 = .ok (.iload_n 2, 1) := by decide +kernel
theorem dX4_whatOf_115 : decode cX4_whatOf 115 = .ok (.invokevirtual 84, 3) := by decide +kernel
theorem dX4_whatOf_118 : decode cX4_whatOf 118 = .ok (.aload_n 0, 1) := by decide +kernel
theorem dX4_whatOf_119 : decode cX4_whatOf 119 = .ok (.iload_n 2, 1) := by decide +kernel
theorem dX4_whatOf_120 : decode cX4_whatOf 120 = .ok (.invokevirtual 193, 3) := by decide +kernel
theorem dX4_whatOf_123 : decode cX4_whatOf 123 = .ok (.ireturn, 1) := by decide +kernel
def F_X4_whatOf (p0 : Int32) (p1 : Int32) (p2 : Int32) (Γ : HS) : HR :=
  (F_X10_kindOf p1 Γ).bind fun u_1 =>
  bnd (mrg (fun j => j == 1) Γ u_1.2) fun σ_3 =>
  if u_1.1 = 123 then (
    some ((-1), σ_3)
  ) else (
    bnd ((g_at 61 ((σ_3 4).2.1 7) p0)) fun (x_8 : Int32) =>
    bnd (fun  (σ_10 : HS) => (
      if u_1.1 = 255 then (
        some (0, σ_10)
      ) else (
        bnd (fun  (σ_17 : HS) => (
          bnd (fun  (σ_21 : HS) => (
            bnd (fun  (σ_25 : HS) => (
              (F_X4_numberOf p1 σ_25).bind fun u_29 =>
              some (u_29.1, u_29.2)
            ) : HS → HR) fun j_26 =>
            bnd (fun  (σ_31 : HS) => (
              (F_X4_fail 3 p1 σ_31).bind fun u_35 =>
              j_26  u_35.2
            ) : HS → HR) fun j_32 =>
            if p0 = 11 then (
              j_32  σ_21
            ) else (
              (F_X4_sortOf p1 σ_21).bind fun u_40 =>
              if u_40.1 = 2 then (
                j_26  u_40.2
              ) else (
                j_32  u_40.2
              )
            )
          ) : HS → HR) fun j_22 =>
          if p0 = 11 then (
            j_22  σ_17
          ) else (
            if u_1.1 = 228 then (
              some (1, σ_17)
            ) else (
              j_22  σ_17
            )
          )
        ) : HS → HR) fun j_18 =>
        if p0 = 11 then (
          if u_1.1 < 200 then (
            j_18  σ_10
          ) else (
            if 205 < u_1.1 then (
              j_18  σ_10
            ) else (
              some (((u_1.1 - 200) + 1), σ_10)
            )
          )
        ) else (
          j_18  σ_10
        )
      )
    ) : HS → HR) fun j_11 =>
    if p2 ≤ x_8 then (
      j_11  σ_3
    ) else (
      (F_X4_fail 3 p1 σ_3).bind fun u_63 =>
      j_11  u_63.2
    )
  )
set_option maxHeartbeats 4000000 in
set_option maxRecDepth 100000 in
theorem k_X4_whatOf (l : Launch) (dC : Nat → ClassId) (dI : Nat → Nat → Nat) (cB cC cI cJ cZ cP : ClassId) (oA : Nat → Nat) (rA : Nat → Nat → Nat) (sz : Nat)  (p0 : Int32) (p1 : Int32) (p2 : Int32) (Γ : HS) (res : Int32 × HS) (hF : F_X4_whatOf p0 p1 p2 Γ = some res) : Met l yX4_whatOf (g_ws yX4_whatOf cX4_whatOf 5 (some .int)) ({ frames := 5, cells := 0, slots := 0, locals := 124 }) (va_Pc [.ref (oA 3), .int p0, .int p1, .int p2] (g_B (dC, dI) [(cB, .byte), (cC, .char), (cI, .int), (cJ, .long), (cZ, .boolean), (cP, .object "StoryHouse$Play")] sz (b_m cB cC cI cJ cZ oA rA Γ ++ b_w cB cC cI cJ cZ oA rA Γ ++ b_s cB cC cI cJ cZ oA rA Γ ++ b_c cB cC cI cJ cZ oA rA Γ ++ b_t cB cC cI cJ cZ oA rA Γ ++ b_d cB cC cI cJ cZ oA rA Γ) g_0)) (va_Qi (fun r (_ : Unit) => r = res.1) (g_Bo (dC, dI) (va_A (b_m cB cC cI cJ cZ oA rA Γ ++ b_w cB cC cI cJ cZ oA rA Γ ++ b_s cB cC cI cJ cZ oA rA Γ ++ b_c cB cC cI cJ cZ oA rA Γ ++ b_t cB cC cI cJ cZ oA rA Γ ++ b_d cB cC cI cJ cZ oA rA Γ) sz) (fun (_ : Unit) => (b_m cB cC cI cJ cZ oA rA res.2 ++ b_w cB cC cI cJ cZ oA rA res.2 ++ b_s cB cC cI cJ cZ oA rA res.2 ++ b_c cB cC cI cJ cZ oA rA res.2 ++ b_t cB cC cI cJ cZ oA rA res.2 ++ b_d cB cC cI cJ cZ oA rA res.2))) (va_A (b_m cB cC cI cJ cZ oA rA Γ ++ b_w cB cC cI cJ cZ oA rA Γ ++ b_s cB cC cI cJ cZ oA rA Γ ++ b_c cB cC cI cJ cZ oA rA Γ ++ b_t cB cC cI cJ cZ oA rA Γ ++ b_d cB cC cI cJ cZ oA rA Γ) sz)) 0 0 (va_A (b_m cB cC cI cJ cZ oA rA Γ ++ b_w cB cC cI cJ cZ oA rA Γ ++ b_s cB cC cI cJ cZ oA rA Γ ++ b_c cB cC cI cJ cZ oA rA Γ ++ b_t cB cC cI cJ cZ oA rA Γ ++ b_d cB cC cI cJ cZ oA rA Γ) sz) := by
  refine Met.ofW (cc := cX4_whatOf) (maxL := 5) (ret := (some .int)) (by decide) rfl ?_
  intro p e s m args below meth c s₁ B hml hv
  obtain ⟨rfl, hsz, hP, hK, hD0, hE, hX⟩ := hv
  have hx := B.exec
  have hb := B.bytes
  have hr := B.returns
  have hts0 := atoms_spec (ws := g_ws yX4_whatOf cX4_whatOf 5 (some .int)) B.pre
  have hts : ∀ w ∈ lw_good, w.before ([.ref (oA 3), .int p0, .int p1, .int p2] : List Value).toArray s = true := fun w z => hts0 w (List.mem_cons_of_mem _ z)
  have hown : s.vm.findClass RX4 = some m.cls := findClass_of_methodNamed B.named
  have hlocks := B.notSynchronized
  subst hsz
  have hD1 := hD0.self (sz := s.heap.size)
  generalize hAe : va_A (b_m cB cC cI cJ cZ oA rA Γ ++ b_w cB cC cI cJ cZ oA rA Γ ++ b_s cB cC cI cJ cZ oA rA Γ ++ b_c cB cC cI cJ cZ oA rA Γ ++ b_t cB cC cI cJ cZ oA rA Γ ++ b_d cB cC cI cJ cZ oA rA Γ) s.heap.size = A at hD1 hE hX ⊢
  have hA : ∀ q : Nat, s.heap.size ≤ q → A q := fun q z => by rw [← hAe]; exact Or.inr z
  have hDD : ∀ Γ : HS, va_D A (b_m cB cC cI cJ cZ oA rA Γ ++ b_w cB cC cI cJ cZ oA rA Γ ++ b_s cB cC cI cJ cZ oA rA Γ ++ b_c cB cC cI cJ cZ oA rA Γ ++ b_t cB cC cI cJ cZ oA rA Γ ++ b_d cB cC cI cJ cZ oA rA Γ) := fun Γ9 => va_D_fst (ws := (b_m cB cC cI cJ cZ oA rA Γ ++ b_w cB cC cI cJ cZ oA rA Γ ++ b_s cB cC cI cJ cZ oA rA Γ ++ b_c cB cC cI cJ cZ oA rA Γ ++ b_t cB cC cI cJ cZ oA rA Γ ++ b_d cB cC cI cJ cZ oA rA Γ)) (ws' := (b_m cB cC cI cJ cZ oA rA Γ9 ++ b_w cB cC cI cJ cZ oA rA Γ9 ++ b_s cB cC cI cJ cZ oA rA Γ9 ++ b_c cB cC cI cJ cZ oA rA Γ9 ++ b_t cB cC cI cJ cZ oA rA Γ9 ++ b_d cB cC cI cJ cZ oA rA Γ9)) rfl hD1
  have hN := hE.1
  have hS : va_S A s.heap s.heap [] := va_S.rf
  have hl := lv_entry ([.ref (oA 3), .int p0, .int p1, .int p2]) (n := 5) (Nat.le_of_ble_eq_true rfl)
  rw [lg_entry_eq]
  generalize (lg_sl ([.ref (oA 3), .int p0, .int p1, .int p2]) ++ List.replicate (5 - (lg_sl ([.ref (oA 3), .int p0, .int p1, .int p2])).length) Slot.unset).toArray = ls at hl ⊢
  have hl : lv_has ls 5 [(0, .ref (oA 3)), (1, .int p0), (2, .int p1), (3, .int p2)] := hl
  unfold F_X4_whatOf at hF
  refine lv_aload_n hx hb dX4_whatOf_0 rfl (lv_at hl 0 rfl) ?_
  refine va_get (D := (dC, dI)) (ci := 4) (v := .ref (oA 1)) (C := RX4) (T := TX4) (N := 18) hx hb hts ii_X4 hown hK hP 0 rfl rfl 0 (by decide) (hts (.fieldLink RX4 32 "StoryHouse$Meanings" "words" "LStoryHouse$Words;") wq_86) (fun _ h9 => h9) rfl dX4_whatOf_1 ?_
  refine lv_iload_n hx hb dX4_whatOf_4 rfl (lv_at hl 2 rfl) ?_
  obtain ⟨u_1, hu_1, hF_2⟩ := Option.bind_eq_some_iff.mp hF
  clear hF
  have hPc := hP.sub (ws' := (b_w cB cC cI cJ cZ oA rA Γ)) [7, 8, 9, 10, 11, 12, 13, 14, 15] rfl
  have hDc := (hDD Γ).sub (ws' := (b_w cB cC cI cJ cZ oA rA Γ)) [7, 8, 9, 10, 11, 12, 13, 14, 15] (by decide +kernel) rfl
  have hFc := va_free (wc := (b_w cB cC cI cJ cZ oA rA Γ)) (hDD Γ) hS hA [7, 8, 9, 10, 11, 12, 13, 14, 15] rfl
  refine g_ofi (wc := (b_w cB cC cI cJ cZ oA rA Γ)) (wr := (b_m cB cC cI cJ cZ oA rA Γ ++ b_s cB cC cI cJ cZ oA rA Γ ++ b_c cB cC cI cJ cZ oA rA Γ ++ b_t cB cC cI cJ cZ oA rA Γ ++ b_d cB cC cI cJ cZ oA rA Γ)) hP (hDD Γ) hS hFc [7, 8, 9, 10, 11, 12, 13, 14, 15] [0, 1, 2, 3, 4, 5, 6, 16, 17, 18, 19, 20, 21, 22, 23, 24, 25, 26, 27, 28, 29, 30, 31, 32, 33, 34, 35, 36, 37, 38, 39, 40, 41, 42, 43, 44, 45, 46] rfl rfl (by decide +kernel) (by decide +kernel) (va_runV (As := [.int p1]) (rest := []) ⟨hx, hb, hml, hown, hts⟩ (k_X10_kindOf l dC dI cB cC cI cJ cZ cP oA rA s.heap.size  p1 Γ _ hu_1) (cwV 1 hts (g_gV wq_714 wq_543 wq_544 wq_2 wq_545) rfl rfl rfl (by decide +kernel) ⟨Nat.le_of_ble_eq_true rfl, Nat.le_of_ble_eq_true rfl⟩) (g_preV g_bl0 hK hPc hDc hS hE hFc g_to0 (q0 := 0) (ci := 10) rfl rfl) rfl rfl hl.1 rfl (lv_room (Nat.le_of_ble_eq_true rfl)) dX4_whatOf_5 ⟨Nat.le_of_ble_eq_true rfl, Nat.le_of_ble_eq_true rfl⟩) (fun r9 u9 H locs hw9 hP' hD' hS => ?_)
  clear hPc hDc hFc
  subst hw9
  obtain ⟨σ_3, eσ_3, hF_4⟩ := bnd_e hF_2
  clear hF_2
  have hP : va_P (dC, dI) vwCl (b_m cB cC cI cJ cZ oA rA σ_3 ++ b_w cB cC cI cJ cZ oA rA σ_3 ++ b_s cB cC cI cJ cZ oA rA σ_3 ++ b_c cB cC cI cJ cZ oA rA σ_3 ++ b_t cB cC cI cJ cZ oA rA σ_3 ++ b_d cB cC cI cJ cZ oA rA σ_3) H := by rw [eσ_3]; exact hP'.sub [0, 1, 2, 3, 4, 5, 6, 38, 39, 40, 41, 42, 43, 44, 45, 46, 7, 8, 9, 10, 11, 12, 13, 14, 15, 16, 17, 18, 19, 20, 21, 22, 23, 24, 25, 26, 27, 28, 29, 30, 31, 32, 33, 34, 35, 36, 37] rfl
  clear hP' hD'
  refine lv_istore (lv' := [(4, .int u_1.1), (0, .ref (oA 3)), (1, .int p0), (2, .int p1), (3, .int p2)]) hx hb dX4_whatOf_8 hl (by decide) rfl (fun ls hl => ?_)
  refine lv_iload hx hb dX4_whatOf_10 (lv_at hl 0 rfl) ?_
  refine lv_bipush (v := 123) hx hb dX4_whatOf_12 (by decide +kernel) ?_
  refine lv_icmp_ne (tgt := 19) hx hb dX4_whatOf_14 (by decide) (fun c_5 => ?_) (fun c_5 => ?_)
  · have hF_7 := ineg c_5 hF_4
    clear hF_4
    refine lv_iload_n hx hb dX4_whatOf_19 rfl (lv_at hl 4 rfl) ?_
    refine lv_aload_n hx hb dX4_whatOf_20 rfl (lv_at hl 1 rfl) ?_
    refine va_get (D := (dC, dI)) (ci := 4) (v := .ref (oA 4)) (C := RX4) (T := TX4) (N := 18) hx hb hts ii_X4 hown hK hP 0 rfl rfl 1 (by decide) (hts (.fieldLink RX4 36 "StoryHouse$Meanings" "story" "LStoryHouse$Story;") wq_87) (fun _ h9 => h9) rfl dX4_whatOf_21 ?_
    refine va_get (D := (dC, dI)) (ci := 7) (v := .ref (rA 4 7)) (C := RX7) (T := TX7) (N := 19) hx hb hts ii_X7 hown hK hP 16 rfl rfl 7 (by decide) (hts (.fieldLink RX4 168 "StoryHouse$Story" "forms" "[I") wq_171) (fun _ h9 => h9) rfl dX4_whatOf_24 ?_
    refine lv_iload_n hx hb dX4_whatOf_27 rfl (lv_at hl 2 rfl) ?_
    have hPc := hP.sub (ws' := [(rA 4 7, .inl (cI, 61, .inl ((σ_3 4).2.1 7)))]) [24] rfl
    have hDc := (hDD σ_3).sub (ws' := [(rA 4 7, .inl (cI, 61, .inl ((σ_3 4).2.1 7)))]) [24] (by decide +kernel) rfl
    have hFc := va_free (wc := [(rA 4 7, .inl (cI, 61, .inl ((σ_3 4).2.1 7)))]) (hDD σ_3) hS hA [24] rfl
    refine g_ofi (wc := [(rA 4 7, .inl (cI, 61, .inl ((σ_3 4).2.1 7)))]) (wr := (((b_m cB cC cI cJ cZ oA rA σ_3 ++ b_w cB cC cI cJ cZ oA rA σ_3 ++ b_s cB cC cI cJ cZ oA rA σ_3 ++ b_c cB cC cI cJ cZ oA rA σ_3 ++ b_t cB cC cI cJ cZ oA rA σ_3 ++ b_d cB cC cI cJ cZ oA rA σ_3)).eraseIdx 24)) hP (hDD σ_3) hS hFc [24] [0, 1, 2, 3, 4, 5, 6, 7, 8, 9, 10, 11, 12, 13, 14, 15, 16, 17, 18, 19, 20, 21, 22, 23, 25, 26, 27, 28, 29, 30, 31, 32, 33, 34, 35, 36, 37, 38, 39, 40, 41, 42, 43, 44, 45, 46] rfl rfl (by decide +kernel) (by decide +kernel) (va_runSN (As := [.ref (rA 4 7), .int p0]) (rest := [.int p2]) ⟨hx, hb, hml, hown, hts⟩ (c_X11_at l dC dI cB cC cI cJ cZ cP H.size (rA 4 7) p0 61 ((σ_3 4).2.1 7) (by decide)) ⟨va_cnB 2 hts (g_gA wq_407) rfl rfl rfl (hN.at 24 rfl) (hts (.initialized RX11) wq_1) (by decide +kernel) ⟨Nat.le_of_ble_eq_true rfl, Nat.le_of_ble_eq_true rfl⟩, (hts (.static yX11_at) wq_406), trivial⟩ (g_preS g_bl0 hK hPc hDc hS hE hFc g_to0) rfl rfl hl.1 rfl (lv_room (Nat.le_of_ble_eq_true rfl)) dX4_whatOf_28 ⟨Nat.le_of_ble_eq_true rfl, Nat.le_of_ble_eq_true rfl⟩) (fun r9 u9 H locs hw9 hP' hD' hS => ?_)
    clear hPc hDc hFc hD'
    have hP : va_P (dC, dI) vwCl (b_m cB cC cI cJ cZ oA rA σ_3 ++ b_w cB cC cI cJ cZ oA rA σ_3 ++ b_s cB cC cI cJ cZ oA rA σ_3 ++ b_c cB cC cI cJ cZ oA rA σ_3 ++ b_t cB cC cI cJ cZ oA rA σ_3 ++ b_d cB cC cI cJ cZ oA rA σ_3) H := hP'.sub [0, 1, 2, 3, 4, 5, 6, 7, 8, 9, 10, 11, 12, 13, 14, 15, 16, 17, 18, 19, 20, 21, 22, 23, 46, 24, 25, 26, 27, 28, 29, 30, 31, 32, 33, 34, 35, 36, 37, 38, 39, 40, 41, 42, 43, 44, 45] rfl
    clear hP'
    subst hw9
    obtain ⟨x_8, ex_8, hF_9⟩ := bnd_e hF_7
    clear hF_7
    refine m_top ex_8 ?_
    obtain ⟨j_11, ej_11, hF_12⟩ := bnd_e hF_9
    clear hF_9
    have Jj_11 : ∀  (σ_10 : HS), j_11  σ_10 = some res → ∀ (H : Heap) (locs : List Loc), va_P (dC, dI) vwCl (b_m cB cC cI cJ cZ oA rA σ_10 ++ b_w cB cC cI cJ cZ oA rA σ_10 ++ b_s cB cC cI cJ cZ oA rA σ_10 ++ b_c cB cC cI cJ cZ oA rA σ_10 ++ b_t cB cC cI cJ cZ oA rA σ_10 ++ b_d cB cC cI cJ cZ oA rA σ_10) H → va_S A s.heap H locs → ∀ ls : Array Slot, lv_has ls 5 [(0, .ref (oA 3)), (1, .int p0), (2, .int p1), (4, .int u_1.1)] → W p l e (headSpec (g_ws yX4_whatOf cX4_whatOf 5 (some .int)) { frames := 5, cells := 0, slots := 0, locals := 124 }).room s m ([.ref (oA 3), .int p0, .int p1, .int p2] : List Value).toArray below meth c H locs 0 0 (MQ below (va_Qi (fun r (_ : Unit) => r = res.1) (g_Bo (dC, dI) A (fun (_ : Unit) => (b_m cB cC cI cJ cZ oA rA res.2 ++ b_w cB cC cI cJ cZ oA rA res.2 ++ b_s cB cC cI cJ cZ oA rA res.2 ++ b_c cB cC cI cJ cZ oA rA res.2 ++ b_t cB cC cI cJ cZ oA rA res.2 ++ b_d cB cC cI cJ cZ oA rA res.2))) A) ([.ref (oA 3), .int p0, .int p1, .int p2] : List Value).toArray s 0 0 A) (F0 m 40 ls []) := by
      intro  σ_10 hF0 H locs hP hS ls hl
      subst ej_11
      have hF_13 := hF0
      clear hF0
      refine lv_iload hx hb dX4_whatOf_40 (lv_at hl 3 rfl) ?_
      refine lv_sipush (v := 255) hx hb dX4_whatOf_42 (by decide +kernel) ?_
      refine lv_icmp_ne (tgt := 50) hx hb dX4_whatOf_45 (by decide) (fun c_14 => ?_) (fun c_14 => ?_)
      · have hF_16 := ineg c_14 hF_13
        clear hF_13
        refine lv_iload_n hx hb dX4_whatOf_50 rfl (lv_at hl 1 rfl) ?_
        refine lv_bipush (v := 11) hx hb dX4_whatOf_51 (by decide +kernel) ?_
        obtain ⟨j_18, ej_18, hF_19⟩ := bnd_e hF_16
        clear hF_16
        have Jj_18 : ∀  (σ_17 : HS), j_18  σ_17 = some res → ∀ (H : Heap) (locs : List Loc), va_P (dC, dI) vwCl (b_m cB cC cI cJ cZ oA rA σ_17 ++ b_w cB cC cI cJ cZ oA rA σ_17 ++ b_s cB cC cI cJ cZ oA rA σ_17 ++ b_c cB cC cI cJ cZ oA rA σ_17 ++ b_t cB cC cI cJ cZ oA rA σ_17 ++ b_d cB cC cI cJ cZ oA rA σ_17) H → va_S A s.heap H locs → ∀ ls : Array Slot, lv_has ls 5 [(0, .ref (oA 3)), (1, .int p0), (2, .int p1), (4, .int u_1.1)] → W p l e (headSpec (g_ws yX4_whatOf cX4_whatOf 5 (some .int)) { frames := 5, cells := 0, slots := 0, locals := 124 }).room s m ([.ref (oA 3), .int p0, .int p1, .int p2] : List Value).toArray below meth c H locs 0 0 (MQ below (va_Qi (fun r (_ : Unit) => r = res.1) (g_Bo (dC, dI) A (fun (_ : Unit) => (b_m cB cC cI cJ cZ oA rA res.2 ++ b_w cB cC cI cJ cZ oA rA res.2 ++ b_s cB cC cI cJ cZ oA rA res.2 ++ b_c cB cC cI cJ cZ oA rA res.2 ++ b_t cB cC cI cJ cZ oA rA res.2 ++ b_d cB cC cI cJ cZ oA rA res.2))) A) ([.ref (oA 3), .int p0, .int p1, .int p2] : List Value).toArray s 0 0 A) (F0 m 81 ls []) := by
          intro  σ_17 hF0 H locs hP hS ls hl
          subst ej_18
          have hF_20 := hF0
          clear hF0
          refine lv_iload_n hx hb dX4_whatOf_81 rfl (lv_at hl 1 rfl) ?_
          refine lv_bipush (v := 11) hx hb dX4_whatOf_82 (by decide +kernel) ?_
          obtain ⟨j_22, ej_22, hF_23⟩ := bnd_e hF_20
          clear hF_20
          have Jj_22 : ∀  (σ_21 : HS), j_22  σ_21 = some res → ∀ (H : Heap) (locs : List Loc), va_P (dC, dI) vwCl (b_m cB cC cI cJ cZ oA rA σ_21 ++ b_w cB cC cI cJ cZ oA rA σ_21 ++ b_s cB cC cI cJ cZ oA rA σ_21 ++ b_c cB cC cI cJ cZ oA rA σ_21 ++ b_t cB cC cI cJ cZ oA rA σ_21 ++ b_d cB cC cI cJ cZ oA rA σ_21) H → va_S A s.heap H locs → ∀ ls : Array Slot, lv_has ls 5 [(0, .ref (oA 3)), (1, .int p0), (2, .int p1)] → W p l e (headSpec (g_ws yX4_whatOf cX4_whatOf 5 (some .int)) { frames := 5, cells := 0, slots := 0, locals := 124 }).room s m ([.ref (oA 3), .int p0, .int p1, .int p2] : List Value).toArray below meth c H locs 0 0 (MQ below (va_Qi (fun r (_ : Unit) => r = res.1) (g_Bo (dC, dI) A (fun (_ : Unit) => (b_m cB cC cI cJ cZ oA rA res.2 ++ b_w cB cC cI cJ cZ oA rA res.2 ++ b_s cB cC cI cJ cZ oA rA res.2 ++ b_c cB cC cI cJ cZ oA rA res.2 ++ b_t cB cC cI cJ cZ oA rA res.2 ++ b_d cB cC cI cJ cZ oA rA res.2))) A) ([.ref (oA 3), .int p0, .int p1, .int p2] : List Value).toArray s 0 0 A) (F0 m 97 ls []) := by
            intro  σ_21 hF0 H locs hP hS ls hl
            subst ej_22
            have hF_24 := hF0
            clear hF0
            refine lv_iload_n hx hb dX4_whatOf_97 rfl (lv_at hl 1 rfl) ?_
            refine lv_bipush (v := 11) hx hb dX4_whatOf_98 (by decide +kernel) ?_
            obtain ⟨j_26, ej_26, hF_27⟩ := bnd_e hF_24
            clear hF_24
            have Jj_26 : ∀  (σ_25 : HS), j_26  σ_25 = some res → ∀ (H : Heap) (locs : List Loc), va_P (dC, dI) vwCl (b_m cB cC cI cJ cZ oA rA σ_25 ++ b_w cB cC cI cJ cZ oA rA σ_25 ++ b_s cB cC cI cJ cZ oA rA σ_25 ++ b_c cB cC cI cJ cZ oA rA σ_25 ++ b_t cB cC cI cJ cZ oA rA σ_25 ++ b_d cB cC cI cJ cZ oA rA σ_25) H → va_S A s.heap H locs → ∀ ls : Array Slot, lv_has ls 5 [(0, .ref (oA 3)), (2, .int p1)] → W p l e (headSpec (g_ws yX4_whatOf cX4_whatOf 5 (some .int)) { frames := 5, cells := 0, slots := 0, locals := 124 }).room s m ([.ref (oA 3), .int p0, .int p1, .int p2] : List Value).toArray below meth c H locs 0 0 (MQ below (va_Qi (fun r (_ : Unit) => r = res.1) (g_Bo (dC, dI) A (fun (_ : Unit) => (b_m cB cC cI cJ cZ oA rA res.2 ++ b_w cB cC cI cJ cZ oA rA res.2 ++ b_s cB cC cI cJ cZ oA rA res.2 ++ b_c cB cC cI cJ cZ oA rA res.2 ++ b_t cB cC cI cJ cZ oA rA res.2 ++ b_d cB cC cI cJ cZ oA rA res.2))) A) ([.ref (oA 3), .int p0, .int p1, .int p2] : List Value).toArray s 0 0 A) (F0 m 118 ls []) := by
              intro  σ_25 hF0 H locs hP hS ls hl
              subst ej_26
              have hF_28 := hF0
              clear hF0
              refine lv_aload_n hx hb dX4_whatOf_118 rfl (lv_at hl 0 rfl) ?_
              refine lv_iload_n hx hb dX4_whatOf_119 rfl (lv_at hl 1 rfl) ?_
              obtain ⟨u_29, hu_29, hF_30⟩ := Option.bind_eq_some_iff.mp hF_28
              clear hF_28
              have hPc := hP.sub (ws' := (b_m cB cC cI cJ cZ oA rA σ_25 ++ b_w cB cC cI cJ cZ oA rA σ_25 ++ b_s cB cC cI cJ cZ oA rA σ_25 ++ b_c cB cC cI cJ cZ oA rA σ_25 ++ b_t cB cC cI cJ cZ oA rA σ_25 ++ b_d cB cC cI cJ cZ oA rA σ_25)) [0, 1, 2, 3, 4, 5, 6, 7, 8, 9, 10, 11, 12, 13, 14, 15, 16, 17, 18, 19, 20, 21, 22, 23, 24, 25, 26, 27, 28, 29, 30, 31, 32, 33, 34, 35, 36, 37, 38, 39, 40, 41, 42, 43, 44, 45, 46] rfl
              have hDc := (hDD σ_25).sub (ws' := (b_m cB cC cI cJ cZ oA rA σ_25 ++ b_w cB cC cI cJ cZ oA rA σ_25 ++ b_s cB cC cI cJ cZ oA rA σ_25 ++ b_c cB cC cI cJ cZ oA rA σ_25 ++ b_t cB cC cI cJ cZ oA rA σ_25 ++ b_d cB cC cI cJ cZ oA rA σ_25)) [0, 1, 2, 3, 4, 5, 6, 7, 8, 9, 10, 11, 12, 13, 14, 15, 16, 17, 18, 19, 20, 21, 22, 23, 24, 25, 26, 27, 28, 29, 30, 31, 32, 33, 34, 35, 36, 37, 38, 39, 40, 41, 42, 43, 44, 45, 46] (by decide +kernel) rfl
              have hFc := va_free (wc := (b_m cB cC cI cJ cZ oA rA σ_25 ++ b_w cB cC cI cJ cZ oA rA σ_25 ++ b_s cB cC cI cJ cZ oA rA σ_25 ++ b_c cB cC cI cJ cZ oA rA σ_25 ++ b_t cB cC cI cJ cZ oA rA σ_25 ++ b_d cB cC cI cJ cZ oA rA σ_25)) (hDD σ_25) hS hA [0, 1, 2, 3, 4, 5, 6, 7, 8, 9, 10, 11, 12, 13, 14, 15, 16, 17, 18, 19, 20, 21, 22, 23, 24, 25, 26, 27, 28, 29, 30, 31, 32, 33, 34, 35, 36, 37, 38, 39, 40, 41, 42, 43, 44, 45, 46] rfl
              refine g_ofi (wc := (b_m cB cC cI cJ cZ oA rA σ_25 ++ b_w cB cC cI cJ cZ oA rA σ_25 ++ b_s cB cC cI cJ cZ oA rA σ_25 ++ b_c cB cC cI cJ cZ oA rA σ_25 ++ b_t cB cC cI cJ cZ oA rA σ_25 ++ b_d cB cC cI cJ cZ oA rA σ_25)) (wr := ([] : va_W)) hP (hDD σ_25) hS hFc [0, 1, 2, 3, 4, 5, 6, 7, 8, 9, 10, 11, 12, 13, 14, 15, 16, 17, 18, 19, 20, 21, 22, 23, 24, 25, 26, 27, 28, 29, 30, 31, 32, 33, 34, 35, 36, 37, 38, 39, 40, 41, 42, 43, 44, 45, 46] [] rfl rfl (by decide +kernel) (by decide +kernel) (va_runV (As := [.int p1]) (rest := []) ⟨hx, hb, hml, hown, hts⟩ (k_X4_numberOf l dC dI cB cC cI cJ cZ cP oA rA H.size  p1 σ_25 _ hu_29) (cwV 1 hts (g_gV wq_769 wq_770 wq_2051 wq_4 wq_771) rfl rfl rfl (by decide +kernel) ⟨Nat.le_of_ble_eq_true rfl, Nat.le_of_ble_eq_true rfl⟩) (g_preV g_bl0 hK hPc hDc hS hE hFc g_to0 (q0 := 0) (ci := 4) rfl rfl) rfl rfl hl.1 rfl (lv_room (Nat.le_of_ble_eq_true rfl)) dX4_whatOf_120 ⟨Nat.le_of_ble_eq_true rfl, Nat.le_of_ble_eq_true rfl⟩) (fun r9 u9 H locs hw9 hP' hD' hS => ?_)
              clear hPc hDc hFc
              subst hw9
              have hP : va_P (dC, dI) vwCl (b_m cB cC cI cJ cZ oA rA u_29.2 ++ b_w cB cC cI cJ cZ oA rA u_29.2 ++ b_s cB cC cI cJ cZ oA rA u_29.2 ++ b_c cB cC cI cJ cZ oA rA u_29.2 ++ b_t cB cC cI cJ cZ oA rA u_29.2 ++ b_d cB cC cI cJ cZ oA rA u_29.2) H := hP'
              clear hP' hD'
              have h9 := Option.some.inj hF_30
              subst h9
              exact W.iret (v := u_29.1) hx hb hr (fun t ht hW => ⟨⟨u_29.1, (), rfl, rfl, m_end ht hP, hDD _⟩, hS.F ht⟩) hS.2.2 dX4_whatOf_123
            obtain ⟨j_32, ej_32, hF_33⟩ := bnd_e hF_27
            clear hF_27
            have Jj_32 : ∀  (σ_31 : HS), j_32  σ_31 = some res → ∀ (H : Heap) (locs : List Loc), va_P (dC, dI) vwCl (b_m cB cC cI cJ cZ oA rA σ_31 ++ b_w cB cC cI cJ cZ oA rA σ_31 ++ b_s cB cC cI cJ cZ oA rA σ_31 ++ b_c cB cC cI cJ cZ oA rA σ_31 ++ b_t cB cC cI cJ cZ oA rA σ_31 ++ b_d cB cC cI cJ cZ oA rA σ_31) H → va_S A s.heap H locs → ∀ ls : Array Slot, lv_has ls 5 [(0, .ref (oA 3)), (2, .int p1)] → W p l e (headSpec (g_ws yX4_whatOf cX4_whatOf 5 (some .int)) { frames := 5, cells := 0, slots := 0, locals := 124 }).room s m ([.ref (oA 3), .int p0, .int p1, .int p2] : List Value).toArray below meth c H locs 0 0 (MQ below (va_Qi (fun r (_ : Unit) => r = res.1) (g_Bo (dC, dI) A (fun (_ : Unit) => (b_m cB cC cI cJ cZ oA rA res.2 ++ b_w cB cC cI cJ cZ oA rA res.2 ++ b_s cB cC cI cJ cZ oA rA res.2 ++ b_c cB cC cI cJ cZ oA rA res.2 ++ b_t cB cC cI cJ cZ oA rA res.2 ++ b_d cB cC cI cJ cZ oA rA res.2))) A) ([.ref (oA 3), .int p0, .int p1, .int p2] : List Value).toArray s 0 0 A) (F0 m 112 ls []) := by
              intro  σ_31 hF0 H locs hP hS ls hl
              subst ej_32
              have hF_34 := hF0
              clear hF0
              refine lv_aload_n hx hb dX4_whatOf_112 rfl (lv_at hl 0 rfl) ?_
              refine lv_iconst (v := 3) hx hb dX4_whatOf_113 (by decide +kernel) ?_
              refine lv_iload_n hx hb dX4_whatOf_114 rfl (lv_at hl 1 rfl) ?_
              obtain ⟨u_35, hu_35, hF_36⟩ := Option.bind_eq_some_iff.mp hF_34
              clear hF_34
              have hPc := hP.sub (ws' := (b_m cB cC cI cJ cZ oA rA σ_31 ++ b_w cB cC cI cJ cZ oA rA σ_31 ++ b_s cB cC cI cJ cZ oA rA σ_31 ++ b_c cB cC cI cJ cZ oA rA σ_31 ++ b_t cB cC cI cJ cZ oA rA σ_31 ++ b_d cB cC cI cJ cZ oA rA σ_31)) [0, 1, 2, 3, 4, 5, 6, 7, 8, 9, 10, 11, 12, 13, 14, 15, 16, 17, 18, 19, 20, 21, 22, 23, 24, 25, 26, 27, 28, 29, 30, 31, 32, 33, 34, 35, 36, 37, 38, 39, 40, 41, 42, 43, 44, 45, 46] rfl
              have hDc := (hDD σ_31).sub (ws' := (b_m cB cC cI cJ cZ oA rA σ_31 ++ b_w cB cC cI cJ cZ oA rA σ_31 ++ b_s cB cC cI cJ cZ oA rA σ_31 ++ b_c cB cC cI cJ cZ oA rA σ_31 ++ b_t cB cC cI cJ cZ oA rA σ_31 ++ b_d cB cC cI cJ cZ oA rA σ_31)) [0, 1, 2, 3, 4, 5, 6, 7, 8, 9, 10, 11, 12, 13, 14, 15, 16, 17, 18, 19, 20, 21, 22, 23, 24, 25, 26, 27, 28, 29, 30, 31, 32, 33, 34, 35, 36, 37, 38, 39, 40, 41, 42, 43, 44, 45, 46] (by decide +kernel) rfl
              have hFc := va_free (wc := (b_m cB cC cI cJ cZ oA rA σ_31 ++ b_w cB cC cI cJ cZ oA rA σ_31 ++ b_s cB cC cI cJ cZ oA rA σ_31 ++ b_c cB cC cI cJ cZ oA rA σ_31 ++ b_t cB cC cI cJ cZ oA rA σ_31 ++ b_d cB cC cI cJ cZ oA rA σ_31)) (hDD σ_31) hS hA [0, 1, 2, 3, 4, 5, 6, 7, 8, 9, 10, 11, 12, 13, 14, 15, 16, 17, 18, 19, 20, 21, 22, 23, 24, 25, 26, 27, 28, 29, 30, 31, 32, 33, 34, 35, 36, 37, 38, 39, 40, 41, 42, 43, 44, 45, 46] rfl
              refine g_ofv (wc := (b_m cB cC cI cJ cZ oA rA σ_31 ++ b_w cB cC cI cJ cZ oA rA σ_31 ++ b_s cB cC cI cJ cZ oA rA σ_31 ++ b_c cB cC cI cJ cZ oA rA σ_31 ++ b_t cB cC cI cJ cZ oA rA σ_31 ++ b_d cB cC cI cJ cZ oA rA σ_31)) (wr := ([] : va_W)) hP (hDD σ_31) hS hFc [0, 1, 2, 3, 4, 5, 6, 7, 8, 9, 10, 11, 12, 13, 14, 15, 16, 17, 18, 19, 20, 21, 22, 23, 24, 25, 26, 27, 28, 29, 30, 31, 32, 33, 34, 35, 36, 37, 38, 39, 40, 41, 42, 43, 44, 45, 46] [] rfl rfl (by decide +kernel) (by decide +kernel) (va_runV (As := [.int 3, .int p1]) (rest := []) ⟨hx, hb, hml, hown, hts⟩ (k_X4_fail l dC dI cB cC cI cJ cZ cP oA rA H.size  3 p1 σ_31 _ hu_35) (cwV 2 hts (g_gV wq_725 wq_726 wq_2037 wq_4 wq_727) rfl rfl rfl (by decide +kernel) ⟨Nat.le_of_ble_eq_true rfl, Nat.le_of_ble_eq_true rfl⟩) (g_preV g_bl0 hK hPc hDc hS hE hFc g_to0 (q0 := 0) (ci := 4) rfl rfl) rfl rfl hl.1 rfl (lv_room (Nat.le_of_ble_eq_true rfl)) dX4_whatOf_115 ⟨Nat.le_of_ble_eq_true rfl, Nat.le_of_ble_eq_true rfl⟩) (fun u9 H locs hw9 hP' hD' hS => ?_)
              clear hPc hDc hFc
              have hP : va_P (dC, dI) vwCl (b_m cB cC cI cJ cZ oA rA u_35.2 ++ b_w cB cC cI cJ cZ oA rA u_35.2 ++ b_s cB cC cI cJ cZ oA rA u_35.2 ++ b_c cB cC cI cJ cZ oA rA u_35.2 ++ b_t cB cC cI cJ cZ oA rA u_35.2 ++ b_d cB cC cI cJ cZ oA rA u_35.2) H := hP'
              clear hP' hD'
              exact Jj_26  u_35.2 hF_36 _ _ hP hS ls (lv_sub hl [0, 1] rfl)
            refine lv_icmp_eq (tgt := 112) hx hb dX4_whatOf_100 (by decide) (fun c_37 => ?_) (fun c_37 => ?_)
            · have hF_38 := ipos c_37 hF_33
              clear hF_33
              exact Jj_32  σ_21 hF_38 _ _ hP hS ls (lv_sub hl [0, 2] rfl)
            · have hF_39 := ineg c_37 hF_33
              clear hF_33
              refine lv_aload_n hx hb dX4_whatOf_103 rfl (lv_at hl 0 rfl) ?_
              refine lv_iload_n hx hb dX4_whatOf_104 rfl (lv_at hl 2 rfl) ?_
              obtain ⟨u_40, hu_40, hF_41⟩ := Option.bind_eq_some_iff.mp hF_39
              clear hF_39
              have hPc := hP.sub (ws' := (b_m cB cC cI cJ cZ oA rA σ_21 ++ b_w cB cC cI cJ cZ oA rA σ_21 ++ b_s cB cC cI cJ cZ oA rA σ_21 ++ b_c cB cC cI cJ cZ oA rA σ_21 ++ b_t cB cC cI cJ cZ oA rA σ_21 ++ b_d cB cC cI cJ cZ oA rA σ_21)) [0, 1, 2, 3, 4, 5, 6, 7, 8, 9, 10, 11, 12, 13, 14, 15, 16, 17, 18, 19, 20, 21, 22, 23, 24, 25, 26, 27, 28, 29, 30, 31, 32, 33, 34, 35, 36, 37, 38, 39, 40, 41, 42, 43, 44, 45, 46] rfl
              have hDc := (hDD σ_21).sub (ws' := (b_m cB cC cI cJ cZ oA rA σ_21 ++ b_w cB cC cI cJ cZ oA rA σ_21 ++ b_s cB cC cI cJ cZ oA rA σ_21 ++ b_c cB cC cI cJ cZ oA rA σ_21 ++ b_t cB cC cI cJ cZ oA rA σ_21 ++ b_d cB cC cI cJ cZ oA rA σ_21)) [0, 1, 2, 3, 4, 5, 6, 7, 8, 9, 10, 11, 12, 13, 14, 15, 16, 17, 18, 19, 20, 21, 22, 23, 24, 25, 26, 27, 28, 29, 30, 31, 32, 33, 34, 35, 36, 37, 38, 39, 40, 41, 42, 43, 44, 45, 46] (by decide +kernel) rfl
              have hFc := va_free (wc := (b_m cB cC cI cJ cZ oA rA σ_21 ++ b_w cB cC cI cJ cZ oA rA σ_21 ++ b_s cB cC cI cJ cZ oA rA σ_21 ++ b_c cB cC cI cJ cZ oA rA σ_21 ++ b_t cB cC cI cJ cZ oA rA σ_21 ++ b_d cB cC cI cJ cZ oA rA σ_21)) (hDD σ_21) hS hA [0, 1, 2, 3, 4, 5, 6, 7, 8, 9, 10, 11, 12, 13, 14, 15, 16, 17, 18, 19, 20, 21, 22, 23, 24, 25, 26, 27, 28, 29, 30, 31, 32, 33, 34, 35, 36, 37, 38, 39, 40, 41, 42, 43, 44, 45, 46] rfl
              refine g_ofi (wc := (b_m cB cC cI cJ cZ oA rA σ_21 ++ b_w cB cC cI cJ cZ oA rA σ_21 ++ b_s cB cC cI cJ cZ oA rA σ_21 ++ b_c cB cC cI cJ cZ oA rA σ_21 ++ b_t cB cC cI cJ cZ oA rA σ_21 ++ b_d cB cC cI cJ cZ oA rA σ_21)) (wr := ([] : va_W)) hP (hDD σ_21) hS hFc [0, 1, 2, 3, 4, 5, 6, 7, 8, 9, 10, 11, 12, 13, 14, 15, 16, 17, 18, 19, 20, 21, 22, 23, 24, 25, 26, 27, 28, 29, 30, 31, 32, 33, 34, 35, 36, 37, 38, 39, 40, 41, 42, 43, 44, 45, 46] [] rfl rfl (by decide +kernel) (by decide +kernel) (va_runV (As := [.int p1]) (rest := []) ⟨hx, hb, hml, hown, hts⟩ (k_X4_sortOf l dC dI cB cC cI cJ cZ cP oA rA H.size  p1 σ_21 _ hu_40) (cwV 1 hts (g_gV wq_766 wq_767 wq_2050 wq_4 wq_768) rfl rfl rfl (by decide +kernel) ⟨Nat.le_of_ble_eq_true rfl, Nat.le_of_ble_eq_true rfl⟩) (g_preV g_bl0 hK hPc hDc hS hE hFc g_to0 (q0 := 0) (ci := 4) rfl rfl) rfl rfl hl.1 rfl (lv_room (Nat.le_of_ble_eq_true rfl)) dX4_whatOf_105 ⟨Nat.le_of_ble_eq_true rfl, Nat.le_of_ble_eq_true rfl⟩) (fun r9 u9 H locs hw9 hP' hD' hS => ?_)
              clear hPc hDc hFc
              subst hw9
              have hP : va_P (dC, dI) vwCl (b_m cB cC cI cJ cZ oA rA u_40.2 ++ b_w cB cC cI cJ cZ oA rA u_40.2 ++ b_s cB cC cI cJ cZ oA rA u_40.2 ++ b_c cB cC cI cJ cZ oA rA u_40.2 ++ b_t cB cC cI cJ cZ oA rA u_40.2 ++ b_d cB cC cI cJ cZ oA rA u_40.2) H := hP'
              clear hP' hD'
              refine lv_iconst (v := 2) hx hb dX4_whatOf_108 (by decide +kernel) ?_
              refine lv_icmp_eq (tgt := 118) hx hb dX4_whatOf_109 (by decide) (fun c_42 => ?_) (fun c_42 => ?_)
              · have hF_43 := ipos c_42 hF_41
                clear hF_41
                exact Jj_26  u_40.2 hF_43 _ _ hP hS ls (lv_sub hl [0, 2] rfl)
              · have hF_44 := ineg c_42 hF_41
                clear hF_41
                exact Jj_32  u_40.2 hF_44 _ _ hP hS ls (lv_sub hl [0, 2] rfl)
          refine lv_icmp_eq (tgt := 97) hx hb dX4_whatOf_84 (by decide) (fun c_45 => ?_) (fun c_45 => ?_)
          · have hF_46 := ipos c_45 hF_23
            clear hF_23
            exact Jj_22  σ_17 hF_46 _ _ hP hS ls (lv_sub hl [0, 1, 2] rfl)
          · have hF_47 := ineg c_45 hF_23
            clear hF_23
            refine lv_iload hx hb dX4_whatOf_87 (lv_at hl 3 rfl) ?_
            refine lv_sipush (v := 228) hx hb dX4_whatOf_89 (by decide +kernel) ?_
            refine lv_icmp_ne (tgt := 97) hx hb dX4_whatOf_92 (by decide) (fun c_48 => ?_) (fun c_48 => ?_)
            · have hF_50 := ineg c_48 hF_47
              clear hF_47
              exact Jj_22  σ_17 hF_50 _ _ hP hS ls (lv_sub hl [0, 1, 2] rfl)
            · have hF_49 := ipos c_48 hF_47
              clear hF_47
              refine lv_iconst (v := 1) hx hb dX4_whatOf_95 (by decide +kernel) ?_
              have h9 := Option.some.inj hF_49
              subst h9
              exact W.iret (v := 1) hx hb hr (fun t ht hW => ⟨⟨1, (), rfl, rfl, m_end ht hP, hDD _⟩, hS.F ht⟩) hS.2.2 dX4_whatOf_96
        refine lv_icmp_ne (tgt := 81) hx hb dX4_whatOf_53 (by decide) (fun c_51 => ?_) (fun c_51 => ?_)
        · have hF_59 := ineg c_51 hF_19
          clear hF_19
          exact Jj_18  σ_10 hF_59 _ _ hP hS ls (lv_sub hl [0, 1, 2, 3] rfl)
        · have hF_52 := ipos c_51 hF_19
          clear hF_19
          refine lv_iload hx hb dX4_whatOf_56 (lv_at hl 3 rfl) ?_
          refine lv_sipush (v := 200) hx hb dX4_whatOf_58 (by decide +kernel) ?_
          refine lv_icmp_lt (tgt := 81) hx hb dX4_whatOf_61 (by decide) (fun c_53 => ?_) (fun c_53 => ?_)
          · have hF_54 := ipos c_53 hF_52
            clear hF_52
            exact Jj_18  σ_10 hF_54 _ _ hP hS ls (lv_sub hl [0, 1, 2, 3] rfl)
          · have hF_55 := ineg c_53 hF_52
            clear hF_52
            refine lv_iload hx hb dX4_whatOf_64 (lv_at hl 3 rfl) ?_
            refine lv_sipush (v := 205) hx hb dX4_whatOf_66 (by decide +kernel) ?_
            refine lv_icmp_gt (tgt := 81) hx hb dX4_whatOf_69 (by decide) (fun c_56 => ?_) (fun c_56 => ?_)
            · have hF_57 := ipos c_56 hF_55
              clear hF_55
              exact Jj_18  σ_10 hF_57 _ _ hP hS ls (lv_sub hl [0, 1, 2, 3] rfl)
            · have hF_58 := ineg c_56 hF_55
              clear hF_55
              refine lv_iload hx hb dX4_whatOf_72 (lv_at hl 3 rfl) ?_
              refine lv_sipush (v := 200) hx hb dX4_whatOf_74 (by decide +kernel) ?_
              refine lv_isub hx hb dX4_whatOf_77 ?_
              refine lv_iconst (v := 1) hx hb dX4_whatOf_78 (by decide +kernel) ?_
              refine lv_iadd hx hb dX4_whatOf_79 ?_
              have h9 := Option.some.inj hF_58
              subst h9
              exact W.iret (v := ((u_1.1 - 200) + 1)) hx hb hr (fun t ht hW => ⟨⟨((u_1.1 - 200) + 1), (), rfl, rfl, m_end ht hP, hDD _⟩, hS.F ht⟩) hS.2.2 dX4_whatOf_80
      · have hF_15 := ipos c_14 hF_13
        clear hF_13
        refine lv_iconst (v := 0) hx hb dX4_whatOf_48 (by decide +kernel) ?_
        have h9 := Option.some.inj hF_15
        subst h9
        exact W.iret (v := 0) hx hb hr (fun t ht hW => ⟨⟨0, (), rfl, rfl, m_end ht hP, hDD _⟩, hS.F ht⟩) hS.2.2 dX4_whatOf_49
    refine lv_icmp_le (tgt := 40) hx hb dX4_whatOf_31 (by decide) (fun c_60 => ?_) (fun c_60 => ?_)
    · have hF_61 := ipos c_60 hF_12
      clear hF_12
      exact Jj_11  σ_3 hF_61 _ _ hP hS ls (lv_sub hl [1, 2, 3, 0] rfl)
    · have hF_62 := ineg c_60 hF_12
      clear hF_12
      refine lv_aload_n hx hb dX4_whatOf_34 rfl (lv_at hl 1 rfl) ?_
      refine lv_iconst (v := 3) hx hb dX4_whatOf_35 (by decide +kernel) ?_
      refine lv_iload_n hx hb dX4_whatOf_36 rfl (lv_at hl 3 rfl) ?_
      obtain ⟨u_63, hu_63, hF_64⟩ := Option.bind_eq_some_iff.mp hF_62
      clear hF_62
      have hPc := hP.sub (ws' := (b_m cB cC cI cJ cZ oA rA σ_3 ++ b_w cB cC cI cJ cZ oA rA σ_3 ++ b_s cB cC cI cJ cZ oA rA σ_3 ++ b_c cB cC cI cJ cZ oA rA σ_3 ++ b_t cB cC cI cJ cZ oA rA σ_3 ++ b_d cB cC cI cJ cZ oA rA σ_3)) [0, 1, 2, 3, 4, 5, 6, 7, 8, 9, 10, 11, 12, 13, 14, 15, 16, 17, 18, 19, 20, 21, 22, 23, 24, 25, 26, 27, 28, 29, 30, 31, 32, 33, 34, 35, 36, 37, 38, 39, 40, 41, 42, 43, 44, 45, 46] rfl
      have hDc := (hDD σ_3).sub (ws' := (b_m cB cC cI cJ cZ oA rA σ_3 ++ b_w cB cC cI cJ cZ oA rA σ_3 ++ b_s cB cC cI cJ cZ oA rA σ_3 ++ b_c cB cC cI cJ cZ oA rA σ_3 ++ b_t cB cC cI cJ cZ oA rA σ_3 ++ b_d cB cC cI cJ cZ oA rA σ_3)) [0, 1, 2, 3, 4, 5, 6, 7, 8, 9, 10, 11, 12, 13, 14, 15, 16, 17, 18, 19, 20, 21, 22, 23, 24, 25, 26, 27, 28, 29, 30, 31, 32, 33, 34, 35, 36, 37, 38, 39, 40, 41, 42, 43, 44, 45, 46] (by decide +kernel) rfl
      have hFc := va_free (wc := (b_m cB cC cI cJ cZ oA rA σ_3 ++ b_w cB cC cI cJ cZ oA rA σ_3 ++ b_s cB cC cI cJ cZ oA rA σ_3 ++ b_c cB cC cI cJ cZ oA rA σ_3 ++ b_t cB cC cI cJ cZ oA rA σ_3 ++ b_d cB cC cI cJ cZ oA rA σ_3)) (hDD σ_3) hS hA [0, 1, 2, 3, 4, 5, 6, 7, 8, 9, 10, 11, 12, 13, 14, 15, 16, 17, 18, 19, 20, 21, 22, 23, 24, 25, 26, 27, 28, 29, 30, 31, 32, 33, 34, 35, 36, 37, 38, 39, 40, 41, 42, 43, 44, 45, 46] rfl
      refine g_ofv (wc := (b_m cB cC cI cJ cZ oA rA σ_3 ++ b_w cB cC cI cJ cZ oA rA σ_3 ++ b_s cB cC cI cJ cZ oA rA σ_3 ++ b_c cB cC cI cJ cZ oA rA σ_3 ++ b_t cB cC cI cJ cZ oA rA σ_3 ++ b_d cB cC cI cJ cZ oA rA σ_3)) (wr := ([] : va_W)) hP (hDD σ_3) hS hFc [0, 1, 2, 3, 4, 5, 6, 7, 8, 9, 10, 11, 12, 13, 14, 15, 16, 17, 18, 19, 20, 21, 22, 23, 24, 25, 26, 27, 28, 29, 30, 31, 32, 33, 34, 35, 36, 37, 38, 39, 40, 41, 42, 43, 44, 45, 46] [] rfl rfl (by decide +kernel) (by decide +kernel) (va_runV (As := [.int 3, .int p1]) (rest := []) ⟨hx, hb, hml, hown, hts⟩ (k_X4_fail l dC dI cB cC cI cJ cZ cP oA rA H.size  3 p1 σ_3 _ hu_63) (cwV 2 hts (g_gV wq_725 wq_726 wq_2037 wq_4 wq_727) rfl rfl rfl (by decide +kernel) ⟨Nat.le_of_ble_eq_true rfl, Nat.le_of_ble_eq_true rfl⟩) (g_preV g_bl0 hK hPc hDc hS hE hFc g_to0 (q0 := 0) (ci := 4) rfl rfl) rfl rfl hl.1 rfl (lv_room (Nat.le_of_ble_eq_true rfl)) dX4_whatOf_37 ⟨Nat.le_of_ble_eq_true rfl, Nat.le_of_ble_eq_true rfl⟩) (fun u9 H locs hw9 hP' hD' hS => ?_)
      clear hPc hDc hFc
      have hP : va_P (dC, dI) vwCl (b_m cB cC cI cJ cZ oA rA u_63.2 ++ b_w cB cC cI cJ cZ oA rA u_63.2 ++ b_s cB cC cI cJ cZ oA rA u_63.2 ++ b_c cB cC cI cJ cZ oA rA u_63.2 ++ b_t cB cC cI cJ cZ oA rA u_63.2 ++ b_d cB cC cI cJ cZ oA rA u_63.2) H := hP'
      clear hP' hD'
      exact Jj_11  u_63.2 hF_64 _ _ hP hS ls (lv_sub hl [1, 2, 3, 0] rfl)
  · have hF_6 := ipos c_5 hF_4
    clear hF_4
    refine lv_iconst (v := (-1)) hx hb dX4_whatOf_17 (by decide +kernel) ?_
    have h9 := Option.some.inj hF_6
    subst h9
    exact W.iret (v := (-1)) hx hb hr (fun t ht hW => ⟨⟨(-1), (), rfl, rfl, m_end ht hP, hDD _⟩, hS.F ht⟩) hS.2.2 dX4_whatOf_18
theorem dX4_onItem_0 : decode cX4_onItem 0 = .ok (.aload_n 0, 1) := by decide +kernel
theorem dX4_onItem_1 : decode cX4_onItem 1 = .ok (.iload_n 1, 1) := by decide +kernel
theorem dX4_onItem_2 : decode cX4_onItem 2 = .ok (.iconst 1, 1) := by decide +kernel
theorem dX4_onItem_3 : decode cX4_onItem 3 = .ok (.iadd, 1) := by decide +kernel
theorem dX4_onItem_4 : decode cX4_onItem 4 = .ok (.invokevirtual 221, 3) := by decide +kernel
theorem dX4_onItem_7 : decode cX4_onItem 7 = .ok (.iconst 3, 1) := by decide +kernel
theorem dX4_onItem_8 : decode cX4_onItem 8 = .ok (.if_icmp .eq 12, 3) := by decide +kernel
theorem dX4_onItem_11 : decode cX4_onItem 11 = .ok (.aload_n 0, 1) := by decide +kernel
theorem dX4_onItem_12 : decode cX4_onItem 12 = .ok (.iconst 3, 1) := by decide +kernel
theorem dX4_onItem_13 : decode cX4_onItem 13 = .ok (.iload_n 1, 1) := by decide +kernel
theorem dX4_onItem_14 : decode cX4_onItem 14 = .ok (.iconst 1, 1) := by decide +kernel
theorem dX4_onItem_15 : decode cX4_onItem 15 = .ok (.iadd, 1) := by decide +kernel
theorem dX4_onItem_16 : decode cX4_onItem 16 = .ok (.invokevirtual 84, 3) := by decide +kernel
theorem dX4_onItem_19 : decode cX4_onItem 19 = .ok (.return_, 1) := by decide +kernel
theorem dX4_onItem_20 : decode cX4_onItem 20 = .ok (.aload_n 0, 1) := by decide +kernel
theorem dX4_onItem_21 : decode cX4_onItem 21 = .ok (.iload_n 1, 1) := by decide +kernel
theorem dX4_onItem_22 : decode cX4_onItem 22 = .ok (.iconst 1, 1) := by decide +kernel
theorem dX4_onItem_23 : decode cX4_onItem 23 = .ok (.iadd, 1) := by decide +kernel
theorem dX4_onItem_24 : decode cX4_onItem 24 = .ok (.invokevirtual 193, 3) := by decide +kernel
theorem dX4_onItem_27 : decode cX4_onItem 27 = .ok (.istore_n 2, 1) := by decide +kernel
theorem dX4_onItem_28 : decode cX4_onItem 28 = .ok (.aload_n 0, 1) := by decide +kernel
theorem dX4_onItem_29 : decode cX4_onItem 29 = .ok (.getfield 36, 3) := by decide +kernel
theorem dX4_onItem_32 : decode cX4_onItem 32 = .ok (.getfield 253, 3) := by decide +kernel
theorem dX4_onItem_35 : decode cX4_onItem 35 = .ok (.aload_n 0, 1) := by decide +kernel
theorem dX4_onItem_36 : decode cX4_onItem 36 = .ok (.getfield 135, 3) := by decide +kernel
theorem dX4_onItem_39 : decode cX4_onItem 39 = .ok (.iload_n 2, 1) := by decide +kernel
theorem dX4_onItem_40 : decode cX4_onItem 40 = .ok (.invokestatic 112, 3) := by decide +kernel
theorem dX4_onItem_43 : decode cX4_onItem 43 = .ok (.aload_n 0, 1) := by decide +kernel
theorem dX4_onItem_44 : decode cX4_onItem 44 = .ok (.getfield 36, 3) := by decide +kernel
theorem dX4_onItem_47 : decode cX4_onItem 47 = .ok (.getfield 256, 3) := by decide +kernel
theorem dX4_onItem_50 : decode cX4_onItem 50 = .ok (.aload_n 0, 1) := by decide +kernel
theorem dX4_onItem_51 : decode cX4_onItem 51 = .ok (.getfield 135, 3) := by decide +kernel
theorem dX4_onItem_54 : decode cX4_onItem 54 = .ok (.aload_n 0, 1) := by decide +kernel
theorem dX4_onItem_55 : decode cX4_onItem 55 = .ok (.iload_n 2, 1) := by decide +kernel
theorem dX4_onItem_56 : decode cX4_onItem 56 = .ok (.iload_n 1, 1) := by decide +kernel
theorem dX4_onItem_57 : decode cX4_onItem 57 = .ok (.iconst 2, 1) := by decide +kernel
theorem dX4_onItem_58 : decode cX4_onItem 58 = .ok (.iadd, 1) := by decide +kernel
theorem dX4_onItem_59 : decode cX4_onItem 59 = .ok (.iconst 1, 1) := by decide +kernel
theorem dX4_onItem_60 : decode cX4_onItem 60 = .ok (.invokevirtual 259, 3) := by decide +kernel
theorem dX4_onItem_63 : decode cX4_onItem 63 = .ok (.invokestatic 112, 3) := by decide +kernel
theorem dX4_onItem_66 : decode cX4_onItem 66 = .ok (.aload_n 0, 1) := by decide +kernel
theorem dX4_onItem_67 : decode cX4_onItem 67 = .ok (.getfield 36, 3) := by decide +kernel
theorem dX4_onItem_70 : decode cX4_onItem 70 = .ok (.getfield 263, 3) := by decide +kernel
theorem dX4_onItem_73 : decode cX4_onItem 73 = .ok (.aload_n 0, 1) := by decide +kernel
theorem dX4_onItem_74 : decode cX4_onItem 74 = .ok (.getfield 135, 3) := by decide +kernel
theorem dX4_onItem_77 : decode cX4_onItem 77 = .ok (.aload_n 0, 1) := by decide +kernel
theorem dX4_onItem_78 : decode cX4_onItem 78 = .ok (.getfield 32, 3) := by decide +kernel
theorem dX4_onItem_81 : decode cX4_onItem 81 = .ok (.iload_n 1, 1) := by decide +kernel
theorem dX4_onItem_82 : decode cX4_onItem 82 = .ok (.iconst 2, 1) := by decide +kernel
theorem dX4_onItem_83 : decode cX4_onItem 83 = .ok (.iadd, 1) := by decide +kernel
theorem dX4_onItem_84 : decode cX4_onItem 84 = .ok (.invokevirtual 116, 3) := by decide +kernel
theorem dX4_onItem_87 : decode cX4_onItem 87 = .ok (.bipush 123, 2) := by decide +kernel
theorem dX4_onItem_89 : decode cX4_onItem 89 = .ok (.if_icmp .ne 7, 3) := by decide +kernel
theorem dX4_onItem_92 : decode cX4_onItem 92 = .ok (.iconst (-1), 1) := by decide +kernel
theorem dX4_onItem_93 : decode cX4_onItem 93 = .ok (.goto 12, 3) := by decide +kernel
theorem dX4_onItem_96 : decode cX4_onItem 96 = .ok (.aload_n 0, 1) := by decide +kernel
theorem dX4_onItem_97 : decode cX4_onItem 97 = .ok (.iload_n 2, 1) := by decide +kernel
theorem dX4_onItem_98 : decode cX4_onItem 98 = .ok (.iload_n 1, 1) := by decide +kernel
theorem dX4_onItem_99 : decode cX4_onItem 99 = .ok (.iconst 3, 1) := by decide +kernel
theorem dX4_onItem_100 : decode cX4_onItem 100 = .ok (.iadd, 1) := by decide +kernel
theorem dX4_onItem_101 : decode cX4_onItem 101 = .ok (.iconst 2, 1) := by decide +kernel
theorem dX4_onItem_102 : decode cX4_onItem 102 = .ok (.invokevirtual 259, 3) := by decide +kernel
theorem dX4_onItem_105 : decode cX4_onItem 105 = .ok (.invokestatic 112, 3) := by decide +kernel
theorem dX4_onItem_108 : decode cX4_onItem 108 = .ok (.aload_n 0, 1) := by decide +kernel
theorem dX4_onItem_109 : decode cX4_onItem 109 = .ok (.dup, 1) := by decide +kernel
theorem dX4_onItem_110 : decode cX4_onItem 110 = .ok (.getfield 135, 3) := by decide +kernel
theorem dX4_onItem_113 : decode cX4_onItem 113 = .ok (.iconst 1, 1) := by decide +kernel
theorem dX4_onItem_114 : decode cX4_onItem 114 = .ok (.iadd, 1) := by decide +kernel
theorem dX4_onItem_115 : decode cX4_onItem 115 = .ok (.putfield 135, 3) := by decide +kernel
theorem dX4_onItem_118 : decode cX4_onItem 118 = .ok (.return_, 1) := by decide +kernel
def F_X4_onItem (p0 : Int32) (Γ : HS) : HR :=
  (F_X4_sortOf (p0 + 1) Γ).bind fun u_1 =>
  if u_1.1 = 3 then (
    (F_X4_numberOf (p0 + 1) u_1.2).bind fun u_5 =>
    bnd (cA' u_5.2 4 13 (g_put 200 ((u_5.2 4).2.1 13) ((u_5.2 3).1 15) u_5.1)) fun σ_7 =>
    (F_X4_whatOf u_5.1 (p0 + 2) 1 σ_7).bind fun u_9 =>
    bnd (cA' u_9.2 4 14 (g_put 200 ((u_9.2 4).2.1 14) ((σ_7 3).1 15) u_9.1)) fun σ_11 =>
    (F_X10_kindOf (p0 + 2) σ_11).bind fun u_13 =>
    bnd (mrg (fun j => j == 1) σ_11 u_13.2) fun σ_15 =>
    bnd (fun (t_17 : Int32) (σ_18 : HS) => (
      bnd (cA' σ_18 4 15 (g_put 200 ((σ_18 4).2.1 15) ((σ_11 3).1 15) t_17)) fun σ_22 =>
      bnd (cI' σ_22 3 15 (((σ_22 3).1 15) + 1)) fun σ_24 =>
      some (0, σ_24)
    ) : Int32 → HS → HR) fun j_19 =>
    if u_13.1 = 123 then (
      j_19 (-1) σ_15
    ) else (
      (F_X4_whatOf u_5.1 (p0 + 3) 2 σ_15).bind fun u_29 =>
      j_19 u_29.1 u_29.2
    )
  ) else (
    (F_X4_fail 3 (p0 + 1) u_1.2).bind fun u_32 =>
    some (0, u_32.2)
  )
set_option maxHeartbeats 4000000 in
set_option maxRecDepth 100000 in
theorem k_X4_onItem (l : Launch) (dC : Nat → ClassId) (dI : Nat → Nat → Nat) (cB cC cI cJ cZ cP : ClassId) (oA : Nat → Nat) (rA : Nat → Nat → Nat) (sz : Nat)  (p0 : Int32) (Γ : HS) (res : Int32 × HS) (hF : F_X4_onItem p0 Γ = some res) : Met l yX4_onItem (g_ws yX4_onItem cX4_onItem 3 none) ({ frames := 6, cells := 0, slots := 0, locals := 148 }) (va_Pc [.ref (oA 3), .int p0] (g_B (dC, dI) [(cB, .byte), (cC, .char), (cI, .int), (cJ, .long), (cZ, .boolean), (cP, .object "StoryHouse$Play")] sz (b_m cB cC cI cJ cZ oA rA Γ ++ b_w cB cC cI cJ cZ oA rA Γ ++ b_s cB cC cI cJ cZ oA rA Γ ++ b_c cB cC cI cJ cZ oA rA Γ ++ b_t cB cC cI cJ cZ oA rA Γ ++ b_d cB cC cI cJ cZ oA rA Γ) g_0)) (va_Qv (fun (_ : Unit) => True) (g_Bo (dC, dI) (va_A (b_m cB cC cI cJ cZ oA rA Γ ++ b_w cB cC cI cJ cZ oA rA Γ ++ b_s cB cC cI cJ cZ oA rA Γ ++ b_c cB cC cI cJ cZ oA rA Γ ++ b_t cB cC cI cJ cZ oA rA Γ ++ b_d cB cC cI cJ cZ oA rA Γ) sz) (fun (_ : Unit) => (b_m cB cC cI cJ cZ oA rA res.2 ++ b_w cB cC cI cJ cZ oA rA res.2 ++ b_s cB cC cI cJ cZ oA rA res.2 ++ b_c cB cC cI cJ cZ oA rA res.2 ++ b_t cB cC cI cJ cZ oA rA res.2 ++ b_d cB cC cI cJ cZ oA rA res.2))) (va_A (b_m cB cC cI cJ cZ oA rA Γ ++ b_w cB cC cI cJ cZ oA rA Γ ++ b_s cB cC cI cJ cZ oA rA Γ ++ b_c cB cC cI cJ cZ oA rA Γ ++ b_t cB cC cI cJ cZ oA rA Γ ++ b_d cB cC cI cJ cZ oA rA Γ) sz)) 0 0 (va_A (b_m cB cC cI cJ cZ oA rA Γ ++ b_w cB cC cI cJ cZ oA rA Γ ++ b_s cB cC cI cJ cZ oA rA Γ ++ b_c cB cC cI cJ cZ oA rA Γ ++ b_t cB cC cI cJ cZ oA rA Γ ++ b_d cB cC cI cJ cZ oA rA Γ) sz) := by
  refine Met.ofW (cc := cX4_onItem) (maxL := 3) (ret := none) (by decide) rfl ?_
  intro p e s m args below meth c s₁ B hml hv
  obtain ⟨rfl, hsz, hP, hK, hD0, hE, hX⟩ := hv
  have hx := B.exec
  have hb := B.bytes
  have hr := B.returns
  have hts0 := atoms_spec (ws := g_ws yX4_onItem cX4_onItem 3 none) B.pre
  have hts : ∀ w ∈ lw_good, w.before ([.ref (oA 3), .int p0] : List Value).toArray s = true := fun w z => hts0 w (List.mem_cons_of_mem _ z)
  have hown : s.vm.findClass RX4 = some m.cls := findClass_of_methodNamed B.named
  have hlocks := B.notSynchronized
  subst hsz
  have hD1 := hD0.self (sz := s.heap.size)
  generalize hAe : va_A (b_m cB cC cI cJ cZ oA rA Γ ++ b_w cB cC cI cJ cZ oA rA Γ ++ b_s cB cC cI cJ cZ oA rA Γ ++ b_c cB cC cI cJ cZ oA rA Γ ++ b_t cB cC cI cJ cZ oA rA Γ ++ b_d cB cC cI cJ cZ oA rA Γ) s.heap.size = A at hD1 hE hX ⊢
  have hA : ∀ q : Nat, s.heap.size ≤ q → A q := fun q z => by rw [← hAe]; exact Or.inr z
  have hDD : ∀ Γ : HS, va_D A (b_m cB cC cI cJ cZ oA rA Γ ++ b_w cB cC cI cJ cZ oA rA Γ ++ b_s cB cC cI cJ cZ oA rA Γ ++ b_c cB cC cI cJ cZ oA rA Γ ++ b_t cB cC cI cJ cZ oA rA Γ ++ b_d cB cC cI cJ cZ oA rA Γ) := fun Γ9 => va_D_fst (ws := (b_m cB cC cI cJ cZ oA rA Γ ++ b_w cB cC cI cJ cZ oA rA Γ ++ b_s cB cC cI cJ cZ oA rA Γ ++ b_c cB cC cI cJ cZ oA rA Γ ++ b_t cB cC cI cJ cZ oA rA Γ ++ b_d cB cC cI cJ cZ oA rA Γ)) (ws' := (b_m cB cC cI cJ cZ oA rA Γ9 ++ b_w cB cC cI cJ cZ oA rA Γ9 ++ b_s cB cC cI cJ cZ oA rA Γ9 ++ b_c cB cC cI cJ cZ oA rA Γ9 ++ b_t cB cC cI cJ cZ oA rA Γ9 ++ b_d cB cC cI cJ cZ oA rA Γ9)) rfl hD1
  have hN := hE.1
  have hS : va_S A s.heap s.heap [] := va_S.rf
  have hl := lv_entry ([.ref (oA 3), .int p0]) (n := 3) (Nat.le_of_ble_eq_true rfl)
  rw [lg_entry_eq]
  generalize (lg_sl ([.ref (oA 3), .int p0]) ++ List.replicate (3 - (lg_sl ([.ref (oA 3), .int p0])).length) Slot.unset).toArray = ls at hl ⊢
  have hl : lv_has ls 3 [(0, .ref (oA 3)), (1, .int p0)] := hl
  unfold F_X4_onItem at hF
  refine lv_aload_n hx hb dX4_onItem_0 rfl (lv_at hl 0 rfl) ?_
  refine lv_iload_n hx hb dX4_onItem_1 rfl (lv_at hl 1 rfl) ?_
  refine lv_iconst (v := 1) hx hb dX4_onItem_2 (by decide +kernel) ?_
  refine lv_iadd hx hb dX4_onItem_3 ?_
  obtain ⟨u_1, hu_1, hF_2⟩ := Option.bind_eq_some_iff.mp hF
  clear hF
  have hPc := hP.sub (ws' := (b_m cB cC cI cJ cZ oA rA Γ ++ b_w cB cC cI cJ cZ oA rA Γ ++ b_s cB cC cI cJ cZ oA rA Γ ++ b_c cB cC cI cJ cZ oA rA Γ ++ b_t cB cC cI cJ cZ oA rA Γ ++ b_d cB cC cI cJ cZ oA rA Γ)) [0, 1, 2, 3, 4, 5, 6, 7, 8, 9, 10, 11, 12, 13, 14, 15, 16, 17, 18, 19, 20, 21, 22, 23, 24, 25, 26, 27, 28, 29, 30, 31, 32, 33, 34, 35, 36, 37, 38, 39, 40, 41, 42, 43, 44, 45, 46] rfl
  have hDc := (hDD Γ).sub (ws' := (b_m cB cC cI cJ cZ oA rA Γ ++ b_w cB cC cI cJ cZ oA rA Γ ++ b_s cB cC cI cJ cZ oA rA Γ ++ b_c cB cC cI cJ cZ oA rA Γ ++ b_t cB cC cI cJ cZ oA rA Γ ++ b_d cB cC cI cJ cZ oA rA Γ)) [0, 1, 2, 3, 4, 5, 6, 7, 8, 9, 10, 11, 12, 13, 14, 15, 16, 17, 18, 19, 20, 21, 22, 23, 24, 25, 26, 27, 28, 29, 30, 31, 32, 33, 34, 35, 36, 37, 38, 39, 40, 41, 42, 43, 44, 45, 46] (by decide +kernel) rfl
  have hFc := va_free (wc := (b_m cB cC cI cJ cZ oA rA Γ ++ b_w cB cC cI cJ cZ oA rA Γ ++ b_s cB cC cI cJ cZ oA rA Γ ++ b_c cB cC cI cJ cZ oA rA Γ ++ b_t cB cC cI cJ cZ oA rA Γ ++ b_d cB cC cI cJ cZ oA rA Γ)) (hDD Γ) hS hA [0, 1, 2, 3, 4, 5, 6, 7, 8, 9, 10, 11, 12, 13, 14, 15, 16, 17, 18, 19, 20, 21, 22, 23, 24, 25, 26, 27, 28, 29, 30, 31, 32, 33, 34, 35, 36, 37, 38, 39, 40, 41, 42, 43, 44, 45, 46] rfl
  refine g_ofi (wc := (b_m cB cC cI cJ cZ oA rA Γ ++ b_w cB cC cI cJ cZ oA rA Γ ++ b_s cB cC cI cJ cZ oA rA Γ ++ b_c cB cC cI cJ cZ oA rA Γ ++ b_t cB cC cI cJ cZ oA rA Γ ++ b_d cB cC cI cJ cZ oA rA Γ)) (wr := ([] : va_W)) hP (hDD Γ) hS hFc [0, 1, 2, 3, 4, 5, 6, 7, 8, 9, 10, 11, 12, 13, 14, 15, 16, 17, 18, 19, 20, 21, 22, 23, 24, 25, 26, 27, 28, 29, 30, 31, 32, 33, 34, 35, 36, 37, 38, 39, 40, 41, 42, 43, 44, 45, 46] [] rfl rfl (by decide +kernel) (by decide +kernel) (va_runV (As := [.int (p0 + 1)]) (rest := []) ⟨hx, hb, hml, hown, hts⟩ (k_X4_sortOf l dC dI cB cC cI cJ cZ cP oA rA s.heap.size  (p0 + 1) Γ _ hu_1) (cwV 1 hts (g_gV wq_766 wq_767 wq_2050 wq_4 wq_768) rfl rfl rfl (by decide +kernel) ⟨Nat.le_of_ble_eq_true rfl, Nat.le_of_ble_eq_true rfl⟩) (g_preV g_bl0 hK hPc hDc hS hE hFc g_to0 (q0 := 0) (ci := 4) rfl rfl) rfl rfl hl.1 rfl (lv_room (Nat.le_of_ble_eq_true rfl)) dX4_onItem_4 ⟨Nat.le_of_ble_eq_true rfl, Nat.le_of_ble_eq_true rfl⟩) (fun r9 u9 H locs hw9 hP' hD' hS => ?_)
  clear hPc hDc hFc
  subst hw9
  have hP : va_P (dC, dI) vwCl (b_m cB cC cI cJ cZ oA rA u_1.2 ++ b_w cB cC cI cJ cZ oA rA u_1.2 ++ b_s cB cC cI cJ cZ oA rA u_1.2 ++ b_c cB cC cI cJ cZ oA rA u_1.2 ++ b_t cB cC cI cJ cZ oA rA u_1.2 ++ b_d cB cC cI cJ cZ oA rA u_1.2) H := hP'
  clear hP' hD'
  refine lv_iconst (v := 3) hx hb dX4_onItem_7 (by decide +kernel) ?_
  refine lv_icmp_eq (tgt := 20) hx hb dX4_onItem_8 (by decide) (fun c_3 => ?_) (fun c_3 => ?_)
  · have hF_4 := ipos c_3 hF_2
    clear hF_2
    refine lv_aload_n hx hb dX4_onItem_20 rfl (lv_at hl 0 rfl) ?_
    refine lv_iload_n hx hb dX4_onItem_21 rfl (lv_at hl 1 rfl) ?_
    refine lv_iconst (v := 1) hx hb dX4_onItem_22 (by decide +kernel) ?_
    refine lv_iadd hx hb dX4_onItem_23 ?_
    obtain ⟨u_5, hu_5, hF_6⟩ := Option.bind_eq_some_iff.mp hF_4
    clear hF_4
    have hPc := hP.sub (ws' := (b_m cB cC cI cJ cZ oA rA u_1.2 ++ b_w cB cC cI cJ cZ oA rA u_1.2 ++ b_s cB cC cI cJ cZ oA rA u_1.2 ++ b_c cB cC cI cJ cZ oA rA u_1.2 ++ b_t cB cC cI cJ cZ oA rA u_1.2 ++ b_d cB cC cI cJ cZ oA rA u_1.2)) [0, 1, 2, 3, 4, 5, 6, 7, 8, 9, 10, 11, 12, 13, 14, 15, 16, 17, 18, 19, 20, 21, 22, 23, 24, 25, 26, 27, 28, 29, 30, 31, 32, 33, 34, 35, 36, 37, 38, 39, 40, 41, 42, 43, 44, 45, 46] rfl
    have hDc := (hDD u_1.2).sub (ws' := (b_m cB cC cI cJ cZ oA rA u_1.2 ++ b_w cB cC cI cJ cZ oA rA u_1.2 ++ b_s cB cC cI cJ cZ oA rA u_1.2 ++ b_c cB cC cI cJ cZ oA rA u_1.2 ++ b_t cB cC cI cJ cZ oA rA u_1.2 ++ b_d cB cC cI cJ cZ oA rA u_1.2)) [0, 1, 2, 3, 4, 5, 6, 7, 8, 9, 10, 11, 12, 13, 14, 15, 16, 17, 18, 19, 20, 21, 22, 23, 24, 25, 26, 27, 28, 29, 30, 31, 32, 33, 34, 35, 36, 37, 38, 39, 40, 41, 42, 43, 44, 45, 46] (by decide +kernel) rfl
    have hFc := va_free (wc := (b_m cB cC cI cJ cZ oA rA u_1.2 ++ b_w cB cC cI cJ cZ oA rA u_1.2 ++ b_s cB cC cI cJ cZ oA rA u_1.2 ++ b_c cB cC cI cJ cZ oA rA u_1.2 ++ b_t cB cC cI cJ cZ oA rA u_1.2 ++ b_d cB cC cI cJ cZ oA rA u_1.2)) (hDD u_1.2) hS hA [0, 1, 2, 3, 4, 5, 6, 7, 8, 9, 10, 11, 12, 13, 14, 15, 16, 17, 18, 19, 20, 21, 22, 23, 24, 25, 26, 27, 28, 29, 30, 31, 32, 33, 34, 35, 36, 37, 38, 39, 40, 41, 42, 43, 44, 45, 46] rfl
    refine g_ofi (wc := (b_m cB cC cI cJ cZ oA rA u_1.2 ++ b_w cB cC cI cJ cZ oA rA u_1.2 ++ b_s cB cC cI cJ cZ oA rA u_1.2 ++ b_c cB cC cI cJ cZ oA rA u_1.2 ++ b_t cB cC cI cJ cZ oA rA u_1.2 ++ b_d cB cC cI cJ cZ oA rA u_1.2)) (wr := ([] : va_W)) hP (hDD u_1.2) hS hFc [0, 1, 2, 3, 4, 5, 6, 7, 8, 9, 10, 11, 12, 13, 14, 15, 16, 17, 18, 19, 20, 21, 22, 23, 24, 25, 26, 27, 28, 29, 30, 31, 32, 33, 34, 35, 36, 37, 38, 39, 40, 41, 42, 43, 44, 45, 46] [] rfl rfl (by decide +kernel) (by decide +kernel) (va_runV (As := [.int (p0 + 1)]) (rest := []) ⟨hx, hb, hml, hown, hts⟩ (k_X4_numberOf l dC dI cB cC cI cJ cZ cP oA rA H.size  (p0 + 1) u_1.2 _ hu_5) (cwV 1 hts (g_gV wq_769 wq_770 wq_2051 wq_4 wq_771) rfl rfl rfl (by decide +kernel) ⟨Nat.le_of_ble_eq_true rfl, Nat.le_of_ble_eq_true rfl⟩) (g_preV g_bl0 hK hPc hDc hS hE hFc g_to0 (q0 := 0) (ci := 4) rfl rfl) rfl rfl hl.1 rfl (lv_room (Nat.le_of_ble_eq_true rfl)) dX4_onItem_24 ⟨Nat.le_of_ble_eq_true rfl, Nat.le_of_ble_eq_true rfl⟩) (fun r9 u9 H locs hw9 hP' hD' hS => ?_)
    clear hPc hDc hFc
    subst hw9
    have hP : va_P (dC, dI) vwCl (b_m cB cC cI cJ cZ oA rA u_5.2 ++ b_w cB cC cI cJ cZ oA rA u_5.2 ++ b_s cB cC cI cJ cZ oA rA u_5.2 ++ b_c cB cC cI cJ cZ oA rA u_5.2 ++ b_t cB cC cI cJ cZ oA rA u_5.2 ++ b_d cB cC cI cJ cZ oA rA u_5.2) H := hP'
    clear hP' hD'
    refine lv_istore_n (lv' := [(2, .int u_5.1), (0, .ref (oA 3)), (1, .int p0)]) hx hb dX4_onItem_27 rfl hl (by decide) rfl (fun ls hl => ?_)
    refine lv_aload_n hx hb dX4_onItem_28 rfl (lv_at hl 1 rfl) ?_
    refine va_get (D := (dC, dI)) (ci := 4) (v := .ref (oA 4)) (C := RX4) (T := TX4) (N := 18) hx hb hts ii_X4 hown hK hP 0 rfl rfl 1 (by decide) (hts (.fieldLink RX4 36 "StoryHouse$Meanings" "story" "LStoryHouse$Story;") wq_87) (fun _ h9 => h9) rfl dX4_onItem_29 ?_
    refine va_get (D := (dC, dI)) (ci := 7) (v := .ref (rA 4 13)) (C := RX7) (T := TX7) (N := 19) hx hb hts ii_X7 hown hK hP 16 rfl rfl 13 (by decide) (hts (.fieldLink RX4 253 "StoryHouse$Story" "onVerbs" "[I") wq_185) (fun _ h9 => h9) rfl dX4_onItem_32 ?_
    refine lv_aload_n hx hb dX4_onItem_35 rfl (lv_at hl 1 rfl) ?_
    refine va_get (D := (dC, dI)) (ci := 4) (v := .int ((u_5.2 3).1 15)) (C := RX4) (T := TX4) (N := 18) hx hb hts ii_X4 hown hK hP 0 rfl rfl 15 (by decide) (hts (.fieldLink RX4 135 "StoryHouse$Meanings" "ons" "I") wq_101) (fun _ h9 => h9) rfl dX4_onItem_36 ?_
    refine lv_iload_n hx hb dX4_onItem_39 rfl (lv_at hl 0 rfl) ?_
    have hPc := hP.sub (ws' := [(rA 4 13, .inl (cI, 200, .inl ((u_5.2 4).2.1 13)))]) [30] rfl
    have hDc := (hDD u_5.2).sub (ws' := [(rA 4 13, .inl (cI, 200, .inl ((u_5.2 4).2.1 13)))]) [30] (by decide +kernel) rfl
    have hFc := va_free (wc := [(rA 4 13, .inl (cI, 200, .inl ((u_5.2 4).2.1 13)))]) (hDD u_5.2) hS hA [30] rfl
    refine g_ofv (wc := [(rA 4 13, .inl (cI, 200, .inl ((u_5.2 4).2.1 13)))]) (wr := (((b_m cB cC cI cJ cZ oA rA u_5.2 ++ b_w cB cC cI cJ cZ oA rA u_5.2 ++ b_s cB cC cI cJ cZ oA rA u_5.2 ++ b_c cB cC cI cJ cZ oA rA u_5.2 ++ b_t cB cC cI cJ cZ oA rA u_5.2 ++ b_d cB cC cI cJ cZ oA rA u_5.2)).eraseIdx 30)) hP (hDD u_5.2) hS hFc [30] [0, 1, 2, 3, 4, 5, 6, 7, 8, 9, 10, 11, 12, 13, 14, 15, 16, 17, 18, 19, 20, 21, 22, 23, 24, 25, 26, 27, 28, 29, 31, 32, 33, 34, 35, 36, 37, 38, 39, 40, 41, 42, 43, 44, 45, 46] rfl rfl (by decide +kernel) (by decide +kernel) (va_runSN (As := [.ref (rA 4 13), .int ((u_5.2 3).1 15), .int u_5.1]) (rest := []) ⟨hx, hb, hml, hown, hts⟩ (c_X11_put l dC dI cB cC cI cJ cZ cP H.size (rA 4 13) ((u_5.2 3).1 15) u_5.1 200 ((u_5.2 4).2.1 13) (by decide)) ⟨va_cnB 3 hts (g_gA wq_412) rfl rfl rfl (hN.at 23 rfl) (hts (.initialized RX11) wq_1) (by decide +kernel) ⟨Nat.le_of_ble_eq_true rfl, Nat.le_of_ble_eq_true rfl⟩, (hts (.static yX11_put) wq_411), trivial⟩ (g_preS g_bl0 hK hPc hDc hS hE hFc g_to0) rfl rfl hl.1 rfl (lv_room (Nat.le_of_ble_eq_true rfl)) dX4_onItem_40 ⟨Nat.le_of_ble_eq_true rfl, Nat.le_of_ble_eq_true rfl⟩) (fun g9 H locs hw9 hP' hD' hS => ?_)
    clear hPc hDc hFc hD'
    obtain ⟨σ_7, eσ_7, hF_8⟩ := bnd_e hF_6
    clear hF_6
    subst hw9
    have hP : va_P (dC, dI) vwCl (b_m cB cC cI cJ cZ oA rA σ_7 ++ b_w cB cC cI cJ cZ oA rA σ_7 ++ b_s cB cC cI cJ cZ oA rA σ_7 ++ b_c cB cC cI cJ cZ oA rA σ_7 ++ b_t cB cC cI cJ cZ oA rA σ_7 ++ b_d cB cC cI cJ cZ oA rA σ_7) H := by rw [eσ_7]; exact hP'.sub [0, 1, 2, 3, 4, 5, 6, 7, 8, 9, 10, 11, 12, 13, 14, 15, 16, 17, 18, 19, 20, 21, 22, 23, 24, 25, 26, 27, 28, 29, 46, 30, 31, 32, 33, 34, 35, 36, 37, 38, 39, 40, 41, 42, 43, 44, 45] rfl
    clear hP'
    refine lv_aload_n hx hb dX4_onItem_43 rfl (lv_at hl 1 rfl) ?_
    refine va_get (D := (dC, dI)) (ci := 4) (v := .ref (oA 4)) (C := RX4) (T := TX4) (N := 18) hx hb hts ii_X4 hown hK hP 0 rfl rfl 1 (by decide) (hts (.fieldLink RX4 36 "StoryHouse$Meanings" "story" "LStoryHouse$Story;") wq_87) (fun _ h9 => h9) rfl dX4_onItem_44 ?_
    refine va_get (D := (dC, dI)) (ci := 7) (v := .ref (rA 4 14)) (C := RX7) (T := TX7) (N := 19) hx hb hts ii_X7 hown hK hP 16 rfl rfl 14 (by decide) (hts (.fieldLink RX4 256 "StoryHouse$Story" "onFirsts" "[I") wq_188) (fun _ h9 => h9) rfl dX4_onItem_47 ?_
    refine lv_aload_n hx hb dX4_onItem_50 rfl (lv_at hl 1 rfl) ?_
    refine va_get (D := (dC, dI)) (ci := 4) (v := .int ((σ_7 3).1 15)) (C := RX4) (T := TX4) (N := 18) hx hb hts ii_X4 hown hK hP 0 rfl rfl 15 (by decide) (hts (.fieldLink RX4 135 "StoryHouse$Meanings" "ons" "I") wq_101) (fun _ h9 => h9) rfl dX4_onItem_51 ?_
    refine lv_aload_n hx hb dX4_onItem_54 rfl (lv_at hl 1 rfl) ?_
    refine lv_iload_n hx hb dX4_onItem_55 rfl (lv_at hl 0 rfl) ?_
    refine lv_iload_n hx hb dX4_onItem_56 rfl (lv_at hl 2 rfl) ?_
    refine lv_iconst (v := 2) hx hb dX4_onItem_57 (by decide +kernel) ?_
    refine lv_iadd hx hb dX4_onItem_58 ?_
    refine lv_iconst (v := 1) hx hb dX4_onItem_59 (by decide +kernel) ?_
    obtain ⟨u_9, hu_9, hF_10⟩ := Option.bind_eq_some_iff.mp hF_8
    clear hF_8
    have hPc := hP.sub (ws' := (b_m cB cC cI cJ cZ oA rA σ_7 ++ b_w cB cC cI cJ cZ oA rA σ_7 ++ b_s cB cC cI cJ cZ oA rA σ_7 ++ b_c cB cC cI cJ cZ oA rA σ_7 ++ b_t cB cC cI cJ cZ oA rA σ_7 ++ b_d cB cC cI cJ cZ oA rA σ_7)) [0, 1, 2, 3, 4, 5, 6, 7, 8, 9, 10, 11, 12, 13, 14, 15, 16, 17, 18, 19, 20, 21, 22, 23, 24, 25, 26, 27, 28, 29, 30, 31, 32, 33, 34, 35, 36, 37, 38, 39, 40, 41, 42, 43, 44, 45, 46] rfl
    have hDc := (hDD σ_7).sub (ws' := (b_m cB cC cI cJ cZ oA rA σ_7 ++ b_w cB cC cI cJ cZ oA rA σ_7 ++ b_s cB cC cI cJ cZ oA rA σ_7 ++ b_c cB cC cI cJ cZ oA rA σ_7 ++ b_t cB cC cI cJ cZ oA rA σ_7 ++ b_d cB cC cI cJ cZ oA rA σ_7)) [0, 1, 2, 3, 4, 5, 6, 7, 8, 9, 10, 11, 12, 13, 14, 15, 16, 17, 18, 19, 20, 21, 22, 23, 24, 25, 26, 27, 28, 29, 30, 31, 32, 33, 34, 35, 36, 37, 38, 39, 40, 41, 42, 43, 44, 45, 46] (by decide +kernel) rfl
    have hFc := va_free (wc := (b_m cB cC cI cJ cZ oA rA σ_7 ++ b_w cB cC cI cJ cZ oA rA σ_7 ++ b_s cB cC cI cJ cZ oA rA σ_7 ++ b_c cB cC cI cJ cZ oA rA σ_7 ++ b_t cB cC cI cJ cZ oA rA σ_7 ++ b_d cB cC cI cJ cZ oA rA σ_7)) (hDD σ_7) hS hA [0, 1, 2, 3, 4, 5, 6, 7, 8, 9, 10, 11, 12, 13, 14, 15, 16, 17, 18, 19, 20, 21, 22, 23, 24, 25, 26, 27, 28, 29, 30, 31, 32, 33, 34, 35, 36, 37, 38, 39, 40, 41, 42, 43, 44, 45, 46] rfl
    refine g_ofi (wc := (b_m cB cC cI cJ cZ oA rA σ_7 ++ b_w cB cC cI cJ cZ oA rA σ_7 ++ b_s cB cC cI cJ cZ oA rA σ_7 ++ b_c cB cC cI cJ cZ oA rA σ_7 ++ b_t cB cC cI cJ cZ oA rA σ_7 ++ b_d cB cC cI cJ cZ oA rA σ_7)) (wr := ([] : va_W)) hP (hDD σ_7) hS hFc [0, 1, 2, 3, 4, 5, 6, 7, 8, 9, 10, 11, 12, 13, 14, 15, 16, 17, 18, 19, 20, 21, 22, 23, 24, 25, 26, 27, 28, 29, 30, 31, 32, 33, 34, 35, 36, 37, 38, 39, 40, 41, 42, 43, 44, 45, 46] [] rfl rfl (by decide +kernel) (by decide +kernel) (va_runV (As := [.int u_5.1, .int (p0 + 2), .int 1]) (rest := [.int ((σ_7 3).1 15), .ref (rA 4 14)]) ⟨hx, hb, hml, hown, hts⟩ (k_X4_whatOf l dC dI cB cC cI cJ cZ cP oA rA H.size  u_5.1 (p0 + 2) 1 σ_7 _ hu_9) (cwV 3 hts (g_gV wq_804 wq_805 wq_2059 wq_4 wq_806) rfl rfl rfl (by decide +kernel) ⟨Nat.le_of_ble_eq_true rfl, Nat.le_of_ble_eq_true rfl⟩) (g_preV g_bl0 hK hPc hDc hS hE hFc g_to0 (q0 := 0) (ci := 4) rfl rfl) rfl rfl hl.1 rfl (lv_room (Nat.le_of_ble_eq_true rfl)) dX4_onItem_60 ⟨Nat.le_of_ble_eq_true rfl, Nat.le_of_ble_eq_true rfl⟩) (fun r9 u9 H locs hw9 hP' hD' hS => ?_)
    clear hPc hDc hFc
    subst hw9
    have hP : va_P (dC, dI) vwCl (b_m cB cC cI cJ cZ oA rA u_9.2 ++ b_w cB cC cI cJ cZ oA rA u_9.2 ++ b_s cB cC cI cJ cZ oA rA u_9.2 ++ b_c cB cC cI cJ cZ oA rA u_9.2 ++ b_t cB cC cI cJ cZ oA rA u_9.2 ++ b_d cB cC cI cJ cZ oA rA u_9.2) H := hP'
    clear hP' hD'
    have hPc := hP.sub (ws' := [(rA 4 14, .inl (cI, 200, .inl ((u_9.2 4).2.1 14)))]) [31] rfl
    have hDc := (hDD u_9.2).sub (ws' := [(rA 4 14, .inl (cI, 200, .inl ((u_9.2 4).2.1 14)))]) [31] (by decide +kernel) rfl
    have hFc := va_free (wc := [(rA 4 14, .inl (cI, 200, .inl ((u_9.2 4).2.1 14)))]) (hDD u_9.2) hS hA [31] rfl
    refine g_ofv (wc := [(rA 4 14, .inl (cI, 200, .inl ((u_9.2 4).2.1 14)))]) (wr := (((b_m cB cC cI cJ cZ oA rA u_9.2 ++ b_w cB cC cI cJ cZ oA rA u_9.2 ++ b_s cB cC cI cJ cZ oA rA u_9.2 ++ b_c cB cC cI cJ cZ oA rA u_9.2 ++ b_t cB cC cI cJ cZ oA rA u_9.2 ++ b_d cB cC cI cJ cZ oA rA u_9.2)).eraseIdx 31)) hP (hDD u_9.2) hS hFc [31] [0, 1, 2, 3, 4, 5, 6, 7, 8, 9, 10, 11, 12, 13, 14, 15, 16, 17, 18, 19, 20, 21, 22, 23, 24, 25, 26, 27, 28, 29, 30, 32, 33, 34, 35, 36, 37, 38, 39, 40, 41, 42, 43, 44, 45, 46] rfl rfl (by decide +kernel) (by decide +kernel) (va_runSN (As := [.ref (rA 4 14), .int ((σ_7 3).1 15), .int u_9.1]) (rest := []) ⟨hx, hb, hml, hown, hts⟩ (c_X11_put l dC dI cB cC cI cJ cZ cP H.size (rA 4 14) ((σ_7 3).1 15) u_9.1 200 ((u_9.2 4).2.1 14) (by decide)) ⟨va_cnB 3 hts (g_gA wq_412) rfl rfl rfl (hN.at 23 rfl) (hts (.initialized RX11) wq_1) (by decide +kernel) ⟨Nat.le_of_ble_eq_true rfl, Nat.le_of_ble_eq_true rfl⟩, (hts (.static yX11_put) wq_411), trivial⟩ (g_preS g_bl0 hK hPc hDc hS hE hFc g_to0) rfl rfl hl.1 rfl (lv_room (Nat.le_of_ble_eq_true rfl)) dX4_onItem_63 ⟨Nat.le_of_ble_eq_true rfl, Nat.le_of_ble_eq_true rfl⟩) (fun g9 H locs hw9 hP' hD' hS => ?_)
    clear hPc hDc hFc hD'
    obtain ⟨σ_11, eσ_11, hF_12⟩ := bnd_e hF_10
    clear hF_10
    subst hw9
    have hP : va_P (dC, dI) vwCl (b_m cB cC cI cJ cZ oA rA σ_11 ++ b_w cB cC cI cJ cZ oA rA σ_11 ++ b_s cB cC cI cJ cZ oA rA σ_11 ++ b_c cB cC cI cJ cZ oA rA σ_11 ++ b_t cB cC cI cJ cZ oA rA σ_11 ++ b_d cB cC cI cJ cZ oA rA σ_11) H := by rw [eσ_11]; exact hP'.sub [0, 1, 2, 3, 4, 5, 6, 7, 8, 9, 10, 11, 12, 13, 14, 15, 16, 17, 18, 19, 20, 21, 22, 23, 24, 25, 26, 27, 28, 29, 30, 46, 31, 32, 33, 34, 35, 36, 37, 38, 39, 40, 41, 42, 43, 44, 45] rfl
    clear hP'
    refine lv_aload_n hx hb dX4_onItem_66 rfl (lv_at hl 1 rfl) ?_
    refine va_get (D := (dC, dI)) (ci := 4) (v := .ref (oA 4)) (C := RX4) (T := TX4) (N := 18) hx hb hts ii_X4 hown hK hP 0 rfl rfl 1 (by decide) (hts (.fieldLink RX4 36 "StoryHouse$Meanings" "story" "LStoryHouse$Story;") wq_87) (fun _ h9 => h9) rfl dX4_onItem_67 ?_
    refine va_get (D := (dC, dI)) (ci := 7) (v := .ref (rA 4 15)) (C := RX7) (T := TX7) (N := 19) hx hb hts ii_X7 hown hK hP 16 rfl rfl 15 (by decide) (hts (.fieldLink RX4 263 "StoryHouse$Story" "onSeconds" "[I") wq_191) (fun _ h9 => h9) rfl dX4_onItem_70 ?_
    refine lv_aload_n hx hb dX4_onItem_73 rfl (lv_at hl 1 rfl) ?_
    refine va_get (D := (dC, dI)) (ci := 4) (v := .int ((σ_11 3).1 15)) (C := RX4) (T := TX4) (N := 18) hx hb hts ii_X4 hown hK hP 0 rfl rfl 15 (by decide) (hts (.fieldLink RX4 135 "StoryHouse$Meanings" "ons" "I") wq_101) (fun _ h9 => h9) rfl dX4_onItem_74 ?_
    refine lv_aload_n hx hb dX4_onItem_77 rfl (lv_at hl 1 rfl) ?_
    refine va_get (D := (dC, dI)) (ci := 4) (v := .ref (oA 1)) (C := RX4) (T := TX4) (N := 18) hx hb hts ii_X4 hown hK hP 0 rfl rfl 0 (by decide) (hts (.fieldLink RX4 32 "StoryHouse$Meanings" "words" "LStoryHouse$Words;") wq_86) (fun _ h9 => h9) rfl dX4_onItem_78 ?_
    refine lv_iload_n hx hb dX4_onItem_81 rfl (lv_at hl 2 rfl) ?_
    refine lv_iconst (v := 2) hx hb dX4_onItem_82 (by decide +kernel) ?_
    refine lv_iadd hx hb dX4_onItem_83 ?_
    obtain ⟨u_13, hu_13, hF_14⟩ := Option.bind_eq_some_iff.mp hF_12
    clear hF_12
    have hPc := hP.sub (ws' := (b_w cB cC cI cJ cZ oA rA σ_11)) [7, 8, 9, 10, 11, 12, 13, 14, 15] rfl
    have hDc := (hDD σ_11).sub (ws' := (b_w cB cC cI cJ cZ oA rA σ_11)) [7, 8, 9, 10, 11, 12, 13, 14, 15] (by decide +kernel) rfl
    have hFc := va_free (wc := (b_w cB cC cI cJ cZ oA rA σ_11)) (hDD σ_11) hS hA [7, 8, 9, 10, 11, 12, 13, 14, 15] rfl
    refine g_ofi (wc := (b_w cB cC cI cJ cZ oA rA σ_11)) (wr := (b_m cB cC cI cJ cZ oA rA σ_11 ++ b_s cB cC cI cJ cZ oA rA σ_11 ++ b_c cB cC cI cJ cZ oA rA σ_11 ++ b_t cB cC cI cJ cZ oA rA σ_11 ++ b_d cB cC cI cJ cZ oA rA σ_11)) hP (hDD σ_11) hS hFc [7, 8, 9, 10, 11, 12, 13, 14, 15] [0, 1, 2, 3, 4, 5, 6, 16, 17, 18, 19, 20, 21, 22, 23, 24, 25, 26, 27, 28, 29, 30, 31, 32, 33, 34, 35, 36, 37, 38, 39, 40, 41, 42, 43, 44, 45, 46] rfl rfl (by decide +kernel) (by decide +kernel) (va_runV (As := [.int (p0 + 2)]) (rest := [.int ((σ_11 3).1 15), .ref (rA 4 15)]) ⟨hx, hb, hml, hown, hts⟩ (k_X10_kindOf l dC dI cB cC cI cJ cZ cP oA rA H.size  (p0 + 2) σ_11 _ hu_13) (cwV 1 hts (g_gV wq_714 wq_543 wq_544 wq_2 wq_545) rfl rfl rfl (by decide +kernel) ⟨Nat.le_of_ble_eq_true rfl, Nat.le_of_ble_eq_true rfl⟩) (g_preV g_bl0 hK hPc hDc hS hE hFc g_to0 (q0 := 0) (ci := 10) rfl rfl) rfl rfl hl.1 rfl (lv_room (Nat.le_of_ble_eq_true rfl)) dX4_onItem_84 ⟨Nat.le_of_ble_eq_true rfl, Nat.le_of_ble_eq_true rfl⟩) (fun r9 u9 H locs hw9 hP' hD' hS => ?_)
    clear hPc hDc hFc
    subst hw9
    obtain ⟨σ_15, eσ_15, hF_16⟩ := bnd_e hF_14
    clear hF_14
    have hP : va_P (dC, dI) vwCl (b_m cB cC cI cJ cZ oA rA σ_15 ++ b_w cB cC cI cJ cZ oA rA σ_15 ++ b_s cB cC cI cJ cZ oA rA σ_15 ++ b_c cB cC cI cJ cZ oA rA σ_15 ++ b_t cB cC cI cJ cZ oA rA σ_15 ++ b_d cB cC cI cJ cZ oA rA σ_15) H := by rw [eσ_15]; exact hP'.sub [0, 1, 2, 3, 4, 5, 6, 38, 39, 40, 41, 42, 43, 44, 45, 46, 7, 8, 9, 10, 11, 12, 13, 14, 15, 16, 17, 18, 19, 20, 21, 22, 23, 24, 25, 26, 27, 28, 29, 30, 31, 32, 33, 34, 35, 36, 37] rfl
    clear hP' hD'
    refine lv_bipush (v := 123) hx hb dX4_onItem_87 (by decide +kernel) ?_
    obtain ⟨j_19, ej_19, hF_20⟩ := bnd_e hF_16
    clear hF_16
    have Jj_19 : ∀ (t_17 : Int32) (σ_18 : HS), j_19 t_17 σ_18 = some res → ∀ (H : Heap) (locs : List Loc), va_P (dC, dI) vwCl (b_m cB cC cI cJ cZ oA rA σ_18 ++ b_w cB cC cI cJ cZ oA rA σ_18 ++ b_s cB cC cI cJ cZ oA rA σ_18 ++ b_c cB cC cI cJ cZ oA rA σ_18 ++ b_t cB cC cI cJ cZ oA rA σ_18 ++ b_d cB cC cI cJ cZ oA rA σ_18) H → va_S A s.heap H locs → ∀ ls : Array Slot, lv_has ls 3 [(0, .ref (oA 3))] → W p l e (headSpec (g_ws yX4_onItem cX4_onItem 3 none) { frames := 6, cells := 0, slots := 0, locals := 148 }).room s m ([.ref (oA 3), .int p0] : List Value).toArray below meth c H locs 0 0 (MQ below (va_Qv (fun (_ : Unit) => True) (g_Bo (dC, dI) A (fun (_ : Unit) => (b_m cB cC cI cJ cZ oA rA res.2 ++ b_w cB cC cI cJ cZ oA rA res.2 ++ b_s cB cC cI cJ cZ oA rA res.2 ++ b_c cB cC cI cJ cZ oA rA res.2 ++ b_t cB cC cI cJ cZ oA rA res.2 ++ b_d cB cC cI cJ cZ oA rA res.2))) A) ([.ref (oA 3), .int p0] : List Value).toArray s 0 0 A) (F0 m 105 ls [.int t_17, .int ((σ_11 3).1 15), .ref (rA 4 15)]) := by
      intro t_17 σ_18 hF0 H locs hP hS ls hl
      subst ej_19
      have hF_21 := hF0
      clear hF0
      have hPc := hP.sub (ws' := [(rA 4 15, .inl (cI, 200, .inl ((σ_18 4).2.1 15)))]) [32] rfl
      have hDc := (hDD σ_18).sub (ws' := [(rA 4 15, .inl (cI, 200, .inl ((σ_18 4).2.1 15)))]) [32] (by decide +kernel) rfl
      have hFc := va_free (wc := [(rA 4 15, .inl (cI, 200, .inl ((σ_18 4).2.1 15)))]) (hDD σ_18) hS hA [32] rfl
      refine g_ofv (wc := [(rA 4 15, .inl (cI, 200, .inl ((σ_18 4).2.1 15)))]) (wr := (((b_m cB cC cI cJ cZ oA rA σ_18 ++ b_w cB cC cI cJ cZ oA rA σ_18 ++ b_s cB cC cI cJ cZ oA rA σ_18 ++ b_c cB cC cI cJ cZ oA rA σ_18 ++ b_t cB cC cI cJ cZ oA rA σ_18 ++ b_d cB cC cI cJ cZ oA rA σ_18)).eraseIdx 32)) hP (hDD σ_18) hS hFc [32] [0, 1, 2, 3, 4, 5, 6, 7, 8, 9, 10, 11, 12, 13, 14, 15, 16, 17, 18, 19, 20, 21, 22, 23, 24, 25, 26, 27, 28, 29, 30, 31, 33, 34, 35, 36, 37, 38, 39, 40, 41, 42, 43, 44, 45, 46] rfl rfl (by decide +kernel) (by decide +kernel) (va_runSN (As := [.ref (rA 4 15), .int ((σ_11 3).1 15), .int t_17]) (rest := []) ⟨hx, hb, hml, hown, hts⟩ (c_X11_put l dC dI cB cC cI cJ cZ cP H.size (rA 4 15) ((σ_11 3).1 15) t_17 200 ((σ_18 4).2.1 15) (by decide)) ⟨va_cnB 3 hts (g_gA wq_412) rfl rfl rfl (hN.at 23 rfl) (hts (.initialized RX11) wq_1) (by decide +kernel) ⟨Nat.le_of_ble_eq_true rfl, Nat.le_of_ble_eq_true rfl⟩, (hts (.static yX11_put) wq_411), trivial⟩ (g_preS g_bl0 hK hPc hDc hS hE hFc g_to0) rfl rfl hl.1 rfl (lv_room (Nat.le_of_ble_eq_true rfl)) dX4_onItem_105 ⟨Nat.le_of_ble_eq_true rfl, Nat.le_of_ble_eq_true rfl⟩) (fun g9 H locs hw9 hP' hD' hS => ?_)
      clear hPc hDc hFc hD'
      obtain ⟨σ_22, eσ_22, hF_23⟩ := bnd_e hF_21
      clear hF_21
      subst hw9
      have hP : va_P (dC, dI) vwCl (b_m cB cC cI cJ cZ oA rA σ_22 ++ b_w cB cC cI cJ cZ oA rA σ_22 ++ b_s cB cC cI cJ cZ oA rA σ_22 ++ b_c cB cC cI cJ cZ oA rA σ_22 ++ b_t cB cC cI cJ cZ oA rA σ_22 ++ b_d cB cC cI cJ cZ oA rA σ_22) H := by rw [eσ_22]; exact hP'.sub [0, 1, 2, 3, 4, 5, 6, 7, 8, 9, 10, 11, 12, 13, 14, 15, 16, 17, 18, 19, 20, 21, 22, 23, 24, 25, 26, 27, 28, 29, 30, 31, 46, 32, 33, 34, 35, 36, 37, 38, 39, 40, 41, 42, 43, 44, 45] rfl
      clear hP'
      refine lv_aload_n hx hb dX4_onItem_108 rfl (lv_at hl 0 rfl) ?_
      refine lv_dup hx hb dX4_onItem_109 rfl ?_
      refine va_get (D := (dC, dI)) (ci := 4) (v := .int ((σ_22 3).1 15)) (C := RX4) (T := TX4) (N := 18) hx hb hts ii_X4 hown hK hP 0 rfl rfl 15 (by decide) (hts (.fieldLink RX4 135 "StoryHouse$Meanings" "ons" "I") wq_101) (fun _ h9 => h9) rfl dX4_onItem_110 ?_
      refine lv_iconst (v := 1) hx hb dX4_onItem_113 (by decide +kernel) ?_
      refine lv_iadd hx hb dX4_onItem_114 ?_
      obtain ⟨σ_24, eσ_24, hF_25⟩ := bnd_e hF_23
      clear hF_23
      refine va_put (D := (dC, dI)) (ci := 4) (v := .int (((σ_22 3).1 15) + 1)) (ty := .int) (C := RX4) (T := TX4) (N := 18) hx hb hts ii_X4 tyX4 tyX4_ok nmX4 hown hK hP (hDD _) hS 0 rfl rfl 15 (by decide) (hts (.fieldLink RX4 135 "StoryHouse$Meanings" "ons" "I") wq_101) (fun _ h9 => h9) rfl (by decide +kernel) rfl rfl (Nat.le_of_ble_eq_true rfl) dX4_onItem_115 (fun H locs hP' _ hS => ?_)
      have hP : va_P (dC, dI) vwCl (b_m cB cC cI cJ cZ oA rA σ_24 ++ b_w cB cC cI cJ cZ oA rA σ_24 ++ b_s cB cC cI cJ cZ oA rA σ_24 ++ b_c cB cC cI cJ cZ oA rA σ_24 ++ b_t cB cC cI cJ cZ oA rA σ_24 ++ b_d cB cC cI cJ cZ oA rA σ_24) H := by rw [eσ_24]; exact cs_mwsctd_m_15 ▸ hP'
      clear hP'
      have h9 := Option.some.inj hF_25
      subst h9
      exact W.vret hx hb hr (fun t ht hW => ⟨⟨(), rfl, trivial, m_end ht hP, hDD _⟩, hS.F ht⟩) hS.2.2 dX4_onItem_118
    refine lv_icmp_ne (tgt := 96) hx hb dX4_onItem_89 (by decide) (fun c_26 => ?_) (fun c_26 => ?_)
    · have hF_28 := ineg c_26 hF_20
      clear hF_20
      refine lv_aload_n hx hb dX4_onItem_96 rfl (lv_at hl 1 rfl) ?_
      refine lv_iload_n hx hb dX4_onItem_97 rfl (lv_at hl 0 rfl) ?_
      refine lv_iload_n hx hb dX4_onItem_98 rfl (lv_at hl 2 rfl) ?_
      refine lv_iconst (v := 3) hx hb dX4_onItem_99 (by decide +kernel) ?_
      refine lv_iadd hx hb dX4_onItem_100 ?_
      refine lv_iconst (v := 2) hx hb dX4_onItem_101 (by decide +kernel) ?_
      obtain ⟨u_29, hu_29, hF_30⟩ := Option.bind_eq_some_iff.mp hF_28
      clear hF_28
      have hPc := hP.sub (ws' := (b_m cB cC cI cJ cZ oA rA σ_15 ++ b_w cB cC cI cJ cZ oA rA σ_15 ++ b_s cB cC cI cJ cZ oA rA σ_15 ++ b_c cB cC cI cJ cZ oA rA σ_15 ++ b_t cB cC cI cJ cZ oA rA σ_15 ++ b_d cB cC cI cJ cZ oA rA σ_15)) [0, 1, 2, 3, 4, 5, 6, 7, 8, 9, 10, 11, 12, 13, 14, 15, 16, 17, 18, 19, 20, 21, 22, 23, 24, 25, 26, 27, 28, 29, 30, 31, 32, 33, 34, 35, 36, 37, 38, 39, 40, 41, 42, 43, 44, 45, 46] rfl
      have hDc := (hDD σ_15).sub (ws' := (b_m cB cC cI cJ cZ oA rA σ_15 ++ b_w cB cC cI cJ cZ oA rA σ_15 ++ b_s cB cC cI cJ cZ oA rA σ_15 ++ b_c cB cC cI cJ cZ oA rA σ_15 ++ b_t cB cC cI cJ cZ oA rA σ_15 ++ b_d cB cC cI cJ cZ oA rA σ_15)) [0, 1, 2, 3, 4, 5, 6, 7, 8, 9, 10, 11, 12, 13, 14, 15, 16, 17, 18, 19, 20, 21, 22, 23, 24, 25, 26, 27, 28, 29, 30, 31, 32, 33, 34, 35, 36, 37, 38, 39, 40, 41, 42, 43, 44, 45, 46] (by decide +kernel) rfl
      have hFc := va_free (wc := (b_m cB cC cI cJ cZ oA rA σ_15 ++ b_w cB cC cI cJ cZ oA rA σ_15 ++ b_s cB cC cI cJ cZ oA rA σ_15 ++ b_c cB cC cI cJ cZ oA rA σ_15 ++ b_t cB cC cI cJ cZ oA rA σ_15 ++ b_d cB cC cI cJ cZ oA rA σ_15)) (hDD σ_15) hS hA [0, 1, 2, 3, 4, 5, 6, 7, 8, 9, 10, 11, 12, 13, 14, 15, 16, 17, 18, 19, 20, 21, 22, 23, 24, 25, 26, 27, 28, 29, 30, 31, 32, 33, 34, 35, 36, 37, 38, 39, 40, 41, 42, 43, 44, 45, 46] rfl
      refine g_ofi (wc := (b_m cB cC cI cJ cZ oA rA σ_15 ++ b_w cB cC cI cJ cZ oA rA σ_15 ++ b_s cB cC cI cJ cZ oA rA σ_15 ++ b_c cB cC cI cJ cZ oA rA σ_15 ++ b_t cB cC cI cJ cZ oA rA σ_15 ++ b_d cB cC cI cJ cZ oA rA σ_15)) (wr := ([] : va_W)) hP (hDD σ_15) hS hFc [0, 1, 2, 3, 4, 5, 6, 7, 8, 9, 10, 11, 12, 13, 14, 15, 16, 17, 18, 19, 20, 21, 22, 23, 24, 25, 26, 27, 28, 29, 30, 31, 32, 33, 34, 35, 36, 37, 38, 39, 40, 41, 42, 43, 44, 45, 46] [] rfl rfl (by decide +kernel) (by decide +kernel) (va_runV (As := [.int u_5.1, .int (p0 + 3), .int 2]) (rest := [.int ((σ_11 3).1 15), .ref (rA 4 15)]) ⟨hx, hb, hml, hown, hts⟩ (k_X4_whatOf l dC dI cB cC cI cJ cZ cP oA rA H.size  u_5.1 (p0 + 3) 2 σ_15 _ hu_29) (cwV 3 hts (g_gV wq_804 wq_805 wq_2059 wq_4 wq_806) rfl rfl rfl (by decide +kernel) ⟨Nat.le_of_ble_eq_true rfl, Nat.le_of_ble_eq_true rfl⟩) (g_preV g_bl0 hK hPc hDc hS hE hFc g_to0 (q0 := 0) (ci := 4) rfl rfl) rfl rfl hl.1 rfl (lv_room (Nat.le_of_ble_eq_true rfl)) dX4_onItem_102 ⟨Nat.le_of_ble_eq_true rfl, Nat.le_of_ble_eq_true rfl⟩) (fun r9 u9 H locs hw9 hP' hD' hS => ?_)
      clear hPc hDc hFc
      subst hw9
      have hP : va_P (dC, dI) vwCl (b_m cB cC cI cJ cZ oA rA u_29.2 ++ b_w cB cC cI cJ cZ oA rA u_29.2 ++ b_s cB cC cI cJ cZ oA rA u_29.2 ++ b_c cB cC cI cJ cZ oA rA u_29.2 ++ b_t cB cC cI cJ cZ oA rA u_29.2 ++ b_d cB cC cI cJ cZ oA rA u_29.2) H := hP'
      clear hP' hD'
      exact Jj_19 u_29.1 u_29.2 hF_30 _ _ hP hS ls (lv_sub hl [1] rfl)
    · have hF_27 := ipos c_26 hF_20
      clear hF_20
      refine lv_iconst (v := (-1)) hx hb dX4_onItem_92 (by decide +kernel) ?_
      refine lv_goto (tgt := 105) hx hb dX4_onItem_93 (by decide) ?_
      exact Jj_19 (-1) σ_15 hF_27 _ _ hP hS ls (lv_sub hl [1] rfl)
  · have hF_31 := ineg c_3 hF_2
    clear hF_2
    refine lv_aload_n hx hb dX4_onItem_11 rfl (lv_at hl 0 rfl) ?_
    refine lv_iconst (v := 3) hx hb dX4_onItem_12 (by decide +kernel) ?_
    refine lv_iload_n hx hb dX4_onItem_13 rfl (lv_at hl 1 rfl) ?_
    refine lv_iconst (v := 1) hx hb dX4_onItem_14 (by decide +kernel) ?_
    refine lv_iadd hx hb dX4_onItem_15 ?_
    obtain ⟨u_32, hu_32, hF_33⟩ := Option.bind_eq_some_iff.mp hF_31
    clear hF_31
    have hPc := hP.sub (ws' := (b_m cB cC cI cJ cZ oA rA u_1.2 ++ b_w cB cC cI cJ cZ oA rA u_1.2 ++ b_s cB cC cI cJ cZ oA rA u_1.2 ++ b_c cB cC cI cJ cZ oA rA u_1.2 ++ b_t cB cC cI cJ cZ oA rA u_1.2 ++ b_d cB cC cI cJ cZ oA rA u_1.2)) [0, 1, 2, 3, 4, 5, 6, 7, 8, 9, 10, 11, 12, 13, 14, 15, 16, 17, 18, 19, 20, 21, 22, 23, 24, 25, 26, 27, 28, 29, 30, 31, 32, 33, 34, 35, 36, 37, 38, 39, 40, 41, 42, 43, 44, 45, 46] rfl
    have hDc := (hDD u_1.2).sub (ws' := (b_m cB cC cI cJ cZ oA rA u_1.2 ++ b_w cB cC cI cJ cZ oA rA u_1.2 ++ b_s cB cC cI cJ cZ oA rA u_1.2 ++ b_c cB cC cI cJ cZ oA rA u_1.2 ++ b_t cB cC cI cJ cZ oA rA u_1.2 ++ b_d cB cC cI cJ cZ oA rA u_1.2)) [0, 1, 2, 3, 4, 5, 6, 7, 8, 9, 10, 11, 12, 13, 14, 15, 16, 17, 18, 19, 20, 21, 22, 23, 24, 25, 26, 27, 28, 29, 30, 31, 32, 33, 34, 35, 36, 37, 38, 39, 40, 41, 42, 43, 44, 45, 46] (by decide +kernel) rfl
    have hFc := va_free (wc := (b_m cB cC cI cJ cZ oA rA u_1.2 ++ b_w cB cC cI cJ cZ oA rA u_1.2 ++ b_s cB cC cI cJ cZ oA rA u_1.2 ++ b_c cB cC cI cJ cZ oA rA u_1.2 ++ b_t cB cC cI cJ cZ oA rA u_1.2 ++ b_d cB cC cI cJ cZ oA rA u_1.2)) (hDD u_1.2) hS hA [0, 1, 2, 3, 4, 5, 6, 7, 8, 9, 10, 11, 12, 13, 14, 15, 16, 17, 18, 19, 20, 21, 22, 23, 24, 25, 26, 27, 28, 29, 30, 31, 32, 33, 34, 35, 36, 37, 38, 39, 40, 41, 42, 43, 44, 45, 46] rfl
    refine g_ofv (wc := (b_m cB cC cI cJ cZ oA rA u_1.2 ++ b_w cB cC cI cJ cZ oA rA u_1.2 ++ b_s cB cC cI cJ cZ oA rA u_1.2 ++ b_c cB cC cI cJ cZ oA rA u_1.2 ++ b_t cB cC cI cJ cZ oA rA u_1.2 ++ b_d cB cC cI cJ cZ oA rA u_1.2)) (wr := ([] : va_W)) hP (hDD u_1.2) hS hFc [0, 1, 2, 3, 4, 5, 6, 7, 8, 9, 10, 11, 12, 13, 14, 15, 16, 17, 18, 19, 20, 21, 22, 23, 24, 25, 26, 27, 28, 29, 30, 31, 32, 33, 34, 35, 36, 37, 38, 39, 40, 41, 42, 43, 44, 45, 46] [] rfl rfl (by decide +kernel) (by decide +kernel) (va_runV (As := [.int 3, .int (p0 + 1)]) (rest := []) ⟨hx, hb, hml, hown, hts⟩ (k_X4_fail l dC dI cB cC cI cJ cZ cP oA rA H.size  3 (p0 + 1) u_1.2 _ hu_32) (cwV 2 hts (g_gV wq_725 wq_726 wq_2037 wq_4 wq_727) rfl rfl rfl (by decide +kernel) ⟨Nat.le_of_ble_eq_true rfl, Nat.le_of_ble_eq_true rfl⟩) (g_preV g_bl0 hK hPc hDc hS hE hFc g_to0 (q0 := 0) (ci := 4) rfl rfl) rfl rfl hl.1 rfl (lv_room (Nat.le_of_ble_eq_true rfl)) dX4_onItem_16 ⟨Nat.le_of_ble_eq_true rfl, Nat.le_of_ble_eq_true rfl⟩) (fun u9 H locs hw9 hP' hD' hS => ?_)
    clear hPc hDc hFc
    have hP : va_P (dC, dI) vwCl (b_m cB cC cI cJ cZ oA rA u_32.2 ++ b_w cB cC cI cJ cZ oA rA u_32.2 ++ b_s cB cC cI cJ cZ oA rA u_32.2 ++ b_c cB cC cI cJ cZ oA rA u_32.2 ++ b_t cB cC cI cJ cZ oA rA u_32.2 ++ b_d cB cC cI cJ cZ oA rA u_32.2) H := hP'
    clear hP' hD'
    have h9 := Option.some.inj hF_33
    subst h9
    exact W.vret hx hb hr (fun t ht hW => ⟨⟨(), rfl, trivial, m_end ht hP, hDD _⟩, hS.F ht⟩) hS.2.2 dX4_onItem_19
theorem dX10_termOf_0 : decode cX10_termOf 0 = .ok (.iload_n 1, 1) := by decide +kernel
theorem dX10_termOf_1 : decode cX10_termOf 1 = .ok (.ifCond .lt 29, 3) := by decide +kernel
theorem dX10_termOf_4 : decode cX10_termOf 4 = .ok (.iload_n 1, 1) := by decide +kernel
theorem dX10_termOf_5 : decode cX10_termOf 5 = .ok (.aload_n 0, 1) := by decide +kernel
theorem dX10_termOf_6 : decode cX10_termOf 6 = .ok (.getfield 63, 3) := by decide +kernel
theorem dX10_termOf_9 : decode cX10_termOf 9 = .ok (.if_icmp .ge 21, 3) := by decide +kernel
theorem dX10_termOf_12 : decode cX10_termOf 12 = .ok (.iload_n 1, 1) := by decide +kernel
theorem dX10_termOf_13 : decode cX10_termOf 13 = .ok (.aload_n 0, 1) := by decide +kernel
theorem dX10_termOf_14 : decode cX10_termOf 14 = .ok (.getfield 31, 3) := by decide +kernel
theorem dX10_termOf_17 : decode cX10_termOf 17 = .ok (.arraylength, 1) := by decide +kernel
theorem dX10_termOf_18 : decode cX10_termOf 18 = .ok (.if_icmp .ge 12, 3) := by decide +kernel
theorem dX10_termOf_21 : decode cX10_termOf 21 = .ok (.aload_n 0, 1) := by decide +kernel
theorem dX10_termOf_22 : decode cX10_termOf 22 = .ok (.getfield 31, 3) := by decide +kernel
theorem dX10_termOf_25 : decode cX10_termOf 25 = .ok (.iload_n 1, 1) := by decide +kernel
theorem dX10_termOf_26 : decode cX10_termOf 26 = .ok (.laload, 1) := by decide +kernel
theorem dX10_termOf_27 : decode cX10_termOf 27 = .ok (.goto 4, 3) := by decide +kernel
theorem dX10_termOf_30 : decode cX10_termOf 30 = .ok (.lconst 0, 1) := by decide +kernel
theorem dX10_termOf_31 : decode cX10_termOf 31 = .ok (.lstore_n 2, 1) := by decide +kernel
theorem dX10_termOf_32 : decode cX10_termOf 32 = .ok (.lload_n 2, 1) := by decide +kernel
theorem dX10_termOf_33 : decode cX10_termOf 33 = .ok (.ldc2_w 101, 3) := by decide +kernel
theorem dX10_termOf_36 : decode cX10_termOf 36 = .ok (.ldiv, 1) := by decide +kernel
theorem dX10_termOf_37 : decode cX10_termOf 37 = .ok (.lreturn, 1) := by decide +kernel
def F_X10_termOf (p0 : Int32) (Γ : HS) : HJ :=
  bnd (fun (t_1 : Int64) (σ_2 : HS) => (
    some ((t_1 / 50653), σ_2)
  ) : Int64 → HS → HJ) fun j_3 =>
  bnd (fun  (σ_6 : HS) => (
    j_3 0 σ_6
  ) : HS → HJ) fun j_7 =>
  if p0 < 0 then (
    j_7  Γ
  ) else (
    if ((Γ 1).1 10) ≤ p0 then (
      j_7  Γ
    ) else (
      if 4500 ≤ p0 then (
        j_7  Γ
      ) else (
        if p0 < 0 ∨ 4500 ≤ p0.toNatClampNeg then none else
        j_3 ((Γ 1).2.2 8 p0.toNatClampNeg) Γ
      )
    )
  )
set_option maxHeartbeats 4000000 in
set_option maxRecDepth 100000 in
theorem k_X10_termOf (l : Launch) (dC : Nat → ClassId) (dI : Nat → Nat → Nat) (cB cC cI cJ cZ cP : ClassId) (oA : Nat → Nat) (rA : Nat → Nat → Nat) (sz : Nat)  (p0 : Int32) (Γ : HS) (res : Int64 × HS) (hF : F_X10_termOf p0 Γ = some res) : Met l yX10_termOf (g_ws yX10_termOf cX10_termOf 4 (some .long)) ({ frames := 1, cells := 0, slots := 0, locals := 40 }) (va_Pc [.ref (oA 1), .int p0] (g_B (dC, dI) [(cB, .byte), (cC, .char), (cI, .int), (cJ, .long), (cZ, .boolean), (cP, .object "StoryHouse$Play")] sz (b_w cB cC cI cJ cZ oA rA Γ) g_0)) (va_Ql (fun r (_ : Unit) => r = res.1) (g_Bo (dC, dI) (va_A (b_w cB cC cI cJ cZ oA rA Γ) sz) (fun (_ : Unit) => (b_w cB cC cI cJ cZ oA rA res.2))) (va_A (b_w cB cC cI cJ cZ oA rA Γ) sz)) 0 0 (va_A (b_w cB cC cI cJ cZ oA rA Γ) sz) := by
  refine Met.ofW (cc := cX10_termOf) (maxL := 4) (ret := (some .long)) (by decide) rfl ?_
  intro p e s m args below meth c s₁ B hml hv
  obtain ⟨rfl, hsz, hP, hK, hD0, hE, hX⟩ := hv
  have hx := B.exec
  have hb := B.bytes
  have hr := B.returns
  have hts0 := atoms_spec (ws := g_ws yX10_termOf cX10_termOf 4 (some .long)) B.pre
  have hts : ∀ w ∈ lw_good, w.before ([.ref (oA 1), .int p0] : List Value).toArray s = true := fun w z => hts0 w (List.mem_cons_of_mem _ z)
  have hown : s.vm.findClass RX10 = some m.cls := findClass_of_methodNamed B.named
  have hlocks := B.notSynchronized
  subst hsz
  have hD1 := hD0.self (sz := s.heap.size)
  generalize hAe : va_A (b_w cB cC cI cJ cZ oA rA Γ) s.heap.size = A at hD1 hE hX ⊢
  have hA : ∀ q : Nat, s.heap.size ≤ q → A q := fun q z => by rw [← hAe]; exact Or.inr z
  have hDD : ∀ Γ : HS, va_D A (b_w cB cC cI cJ cZ oA rA Γ) := fun Γ9 => va_D_fst (ws := (b_w cB cC cI cJ cZ oA rA Γ)) (ws' := (b_w cB cC cI cJ cZ oA rA Γ9)) rfl hD1
  have hN := hE.1
  have hS : va_S A s.heap s.heap [] := va_S.rf
  have hl := lv_entry ([.ref (oA 1), .int p0]) (n := 4) (Nat.le_of_ble_eq_true rfl)
  rw [lg_entry_eq]
  generalize (lg_sl ([.ref (oA 1), .int p0]) ++ List.replicate (4 - (lg_sl ([.ref (oA 1), .int p0])).length) Slot.unset).toArray = ls at hl ⊢
  have hl : lv_has ls 4 [(0, .ref (oA 1)), (1, .int p0)] := hl
  unfold F_X10_termOf at hF
  refine lv_iload_n hx hb dX10_termOf_0 rfl (lv_at hl 1 rfl) ?_
  obtain ⟨j_3, ej_3, hF_4⟩ := bnd_e hF
  clear hF
  have Jj_3 : ∀ (t_1 : Int64) (σ_2 : HS), j_3 t_1 σ_2 = some res → ∀ (H : Heap) (locs : List Loc), va_P (dC, dI) vwCl (b_w cB cC cI cJ cZ oA rA σ_2) H → va_S A s.heap H locs → ∀ ls : Array Slot, lv_has ls 4 [] → W p l e (headSpec (g_ws yX10_termOf cX10_termOf 4 (some .long)) { frames := 1, cells := 0, slots := 0, locals := 40 }).room s m ([.ref (oA 1), .int p0] : List Value).toArray below meth c H locs 0 0 (MQ below (va_Ql (fun r (_ : Unit) => r = res.1) (g_Bo (dC, dI) A (fun (_ : Unit) => (b_w cB cC cI cJ cZ oA rA res.2))) A) ([.ref (oA 1), .int p0] : List Value).toArray s 0 0 A) (F0 m 31 ls [.long t_1]) := by
    intro t_1 σ_2 hF0 H locs hP hS ls hl
    subst ej_3
    have hF_5 := hF0
    clear hF0
    refine lv_lstore_n (lv' := [(2, .long t_1)]) hx hb dX10_termOf_31 rfl hl (by decide) rfl (fun ls hl => ?_)
    refine lv_lload_n hx hb dX10_termOf_32 rfl (lv_at hl 0 rfl) ?_
    refine lv_ldc2 (v := 50653) hx hb hown (hts (.constantLong RX10 101 (50653)) wq_792) dX10_termOf_33 ?_
    refine lv_ldiv hx hb dX10_termOf_36 (by decide +kernel) ?_
    have h9 := Option.some.inj hF_5
    subst h9
    exact W.lret (v := (t_1 / 50653)) hx hb hr (fun t ht hW => ⟨⟨(t_1 / 50653), (), rfl, rfl, m_end ht hP, hDD _⟩, hS.F ht⟩) hS.2.2 dX10_termOf_37
  obtain ⟨j_7, ej_7, hF_8⟩ := bnd_e hF_4
  clear hF_4
  have Jj_7 : ∀  (σ_6 : HS), j_7  σ_6 = some res → ∀ (H : Heap) (locs : List Loc), va_P (dC, dI) vwCl (b_w cB cC cI cJ cZ oA rA σ_6) H → va_S A s.heap H locs → ∀ ls : Array Slot, lv_has ls 4 [] → W p l e (headSpec (g_ws yX10_termOf cX10_termOf 4 (some .long)) { frames := 1, cells := 0, slots := 0, locals := 40 }).room s m ([.ref (oA 1), .int p0] : List Value).toArray below meth c H locs 0 0 (MQ below (va_Ql (fun r (_ : Unit) => r = res.1) (g_Bo (dC, dI) A (fun (_ : Unit) => (b_w cB cC cI cJ cZ oA rA res.2))) A) ([.ref (oA 1), .int p0] : List Value).toArray s 0 0 A) (F0 m 30 ls []) := by
    intro  σ_6 hF0 H locs hP hS ls hl
    subst ej_7
    have hF_9 := hF0
    clear hF0
    refine lv_lconst (v := 0) hx hb dX10_termOf_30 (by decide +kernel) ?_
    exact Jj_3 0 σ_6 hF_9 _ _ hP hS ls (lv_sub hl [] rfl)
  refine lv_if_lt (tgt := 30) hx hb dX10_termOf_1 (by decide) (fun c_10 => ?_) (fun c_10 => ?_)
  · have hF_11 := ipos c_10 hF_8
    clear hF_8
    exact Jj_7  Γ hF_11 _ _ hP hS ls (lv_sub hl [] rfl)
  · have hF_12 := ineg c_10 hF_8
    clear hF_8
    refine lv_iload_n hx hb dX10_termOf_4 rfl (lv_at hl 1 rfl) ?_
    refine lv_aload_n hx hb dX10_termOf_5 rfl (lv_at hl 0 rfl) ?_
    refine va_get (D := (dC, dI)) (ci := 10) (v := .int ((Γ 1).1 10)) (C := RX10) (T := TX10) (N := 12) hx hb hts ii_X10 hown hK hP 0 rfl rfl 10 (by decide) (hts (.fieldLink RX10 63 "StoryHouse$Words" "named" "I") wq_60) (fun _ h9 => h9) rfl dX10_termOf_6 ?_
    refine lv_icmp_ge (tgt := 30) hx hb dX10_termOf_9 (by decide) (fun c_13 => ?_) (fun c_13 => ?_)
    · have hF_14 := ipos c_13 hF_12
      clear hF_12
      exact Jj_7  Γ hF_14 _ _ hP hS ls (lv_sub hl [] rfl)
    · have hF_15 := ineg c_13 hF_12
      clear hF_12
      refine lv_iload_n hx hb dX10_termOf_12 rfl (lv_at hl 1 rfl) ?_
      refine lv_aload_n hx hb dX10_termOf_13 rfl (lv_at hl 0 rfl) ?_
      refine va_get (D := (dC, dI)) (ci := 10) (v := .ref (rA 1 8)) (C := RX10) (T := TX10) (N := 12) hx hb hts ii_X10 hown hK hP 0 rfl rfl 8 (by decide) (hts (.fieldLink RX10 31 "StoryHouse$Words" "names" "[J") wq_58) (fun _ h9 => h9) rfl dX10_termOf_14 ?_
      refine va_alen (v := 4500) hx hb hK hP 7 3 rfl rfl (by first | rfl | decide +kernel) dX10_termOf_17 ?_
      refine lv_icmp_ge (tgt := 30) hx hb dX10_termOf_18 (by decide) (fun c_16 => ?_) (fun c_16 => ?_)
      · have hF_17 := ipos c_16 hF_15
        clear hF_15
        exact Jj_7  Γ hF_17 _ _ hP hS ls (lv_sub hl [] rfl)
      · have hF_18 := ineg c_16 hF_15
        clear hF_15
        refine lv_aload_n hx hb dX10_termOf_21 rfl (lv_at hl 0 rfl) ?_
        refine va_get (D := (dC, dI)) (ci := 10) (v := .ref (rA 1 8)) (C := RX10) (T := TX10) (N := 12) hx hb hts ii_X10 hown hK hP 0 rfl rfl 8 (by decide) (hts (.fieldLink RX10 31 "StoryHouse$Words" "names" "[J") wq_58) (fun _ h9 => h9) rfl dX10_termOf_22 ?_
        refine lv_iload_n hx hb dX10_termOf_25 rfl (lv_at hl 1 rfl) ?_
        obtain ⟨g_19, hF_20⟩ := nif_e hF_18
        clear hF_18
        refine va_lald (f := (Γ 1).2.2 8) hx hb hK hP 7 3 rfl rfl g_19 dX10_termOf_26 ?_
        refine lv_goto (tgt := 31) hx hb dX10_termOf_27 (by decide) ?_
        exact Jj_3 ((Γ 1).2.2 8 p0.toNatClampNeg) Γ hF_20 _ _ hP hS ls (lv_sub hl [] rfl)
theorem dX7_addWord_0 : decode cX7_addWord 0 = .ok (.aload_n 0, 1) := by decide +kernel
theorem dX7_addWord_1 : decode cX7_addWord 1 = .ok (.getfield 78, 3) := by decide +kernel
theorem dX7_addWord_4 : decode cX7_addWord 4 = .ok (.lload_n 2, 1) := by decide +kernel
theorem dX7_addWord_5 : decode cX7_addWord 5 = .ok (.invokevirtual 133, 3) := by decide +kernel
theorem dX7_addWord_8 : decode cX7_addWord 8 = .ok (.istore 4, 2) := by decide +kernel
theorem dX7_addWord_10 : decode cX7_addWord 10 = .ok (.aload_n 0, 1) := by decide +kernel
theorem dX7_addWord_11 : decode cX7_addWord 11 = .ok (.getfield 43, 3) := by decide +kernel
theorem dX7_addWord_14 : decode cX7_addWord 14 = .ok (.iload_n 1, 1) := by decide +kernel
theorem dX7_addWord_15 : decode cX7_addWord 15 = .ok (.invokestatic 155, 3) := by decide +kernel
theorem dX7_addWord_18 : decode cX7_addWord 18 = .ok (.istore 5, 2) := by decide +kernel
theorem dX7_addWord_20 : decode cX7_addWord 20 = .ok (.iload_n 1, 1) := by decide +kernel
theorem dX7_addWord_21 : decode cX7_addWord 21 = .ok (.ifCond .le 38, 3) := by decide +kernel
theorem dX7_addWord_24 : decode cX7_addWord 24 = .ok (.iload 5, 2) := by decide +kernel
theorem dX7_addWord_26 : decode cX7_addWord 26 = .ok (.bipush 10, 2) := by decide +kernel
theorem dX7_addWord_28 : decode cX7_addWord 28 = .ok (.if_icmp .ge 31, 3) := by decide +kernel
theorem dX7_addWord_31 : decode cX7_addWord 31 = .ok (.aload_n 0, 1) := by decide +kernel
theorem dX7_addWord_32 : decode cX7_addWord 32 = .ok (.getfield 40, 3) := by decide +kernel
theorem dX7_addWord_35 : decode cX7_addWord 35 = .ok (.iload_n 1, 1) := by decide +kernel
theorem dX7_addWord_36 : decode cX7_addWord 36 = .ok (.bipush 10, 2) := by decide +kernel
theorem dX7_addWord_38 : decode cX7_addWord 38 = .ok (.imul, 1) := by decide +kernel
theorem dX7_addWord_39 : decode cX7_addWord 39 = .ok (.iload 5, 2) := by decide +kernel
theorem dX7_addWord_41 : decode cX7_addWord 41 = .ok (.iadd, 1) := by decide +kernel
theorem dX7_addWord_42 : decode cX7_addWord 42 = .ok (.iload 4, 2) := by decide +kernel
theorem dX7_addWord_44 : decode cX7_addWord 44 = .ok (.invokestatic 141, 3) := by decide +kernel
theorem dX7_addWord_47 : decode cX7_addWord 47 = .ok (.aload_n 0, 1) := by decide +kernel
theorem dX7_addWord_48 : decode cX7_addWord 48 = .ok (.getfield 43, 3) := by decide +kernel
theorem dX7_addWord_51 : decode cX7_addWord 51 = .ok (.iload_n 1, 1) := by decide +kernel
theorem dX7_addWord_52 : decode cX7_addWord 52 = .ok (.iload 5, 2) := by decide +kernel
theorem dX7_addWord_54 : decode cX7_addWord 54 = .ok (.iconst 1, 1) := by decide +kernel
theorem dX7_addWord_55 : decode cX7_addWord 55 = .ok (.iadd, 1) := by decide +kernel
theorem dX7_addWord_56 : decode cX7_addWord 56 = .ok (.invokestatic 141, 3) := by decide +kernel
theorem dX7_addWord_59 : decode cX7_addWord 59 = .ok (.return_, 1) := by decide +kernel
def F_X7_addWord (p0 : Int32) (p1 : Int64) (Γ : HS) : HR :=
  (F_X1_learn p1 Γ).bind fun u_1 =>
  bnd (mrg (fun j => j == 7) Γ u_1.2) fun σ_3 =>
  bnd ((g_at 181 ((σ_3 4).2.1 10) p0)) fun (x_5 : Int32) =>
  if p0 ≤ 0 then (
    some (0, σ_3)
  ) else (
    if 10 ≤ x_5 then (
      some (0, σ_3)
    ) else (
      bnd (cA' σ_3 4 9 (g_put 1810 ((σ_3 4).2.1 9) ((p0 * 10) + x_5) u_1.1)) fun σ_13 =>
      bnd ((x_5 + 1)) fun (x_15 : Int32) =>
      bnd (cA' σ_13 4 10 (g_put 181 ((σ_13 4).2.1 10) p0 x_15)) fun σ_17 =>
      some (0, σ_17)
    )
  )
set_option maxHeartbeats 4000000 in
set_option maxRecDepth 100000 in
theorem k_X7_addWord (l : Launch) (dC : Nat → ClassId) (dI : Nat → Nat → Nat) (cB cC cI cJ cZ cP : ClassId) (oA : Nat → Nat) (rA : Nat → Nat → Nat) (sz : Nat)  (p0 : Int32) (p1 : Int64) (Γ : HS) (res : Int32 × HS) (hF : F_X7_addWord p0 p1 Γ = some res) : Met l yX7_addWord (g_ws yX7_addWord cX7_addWord 6 none) ({ frames := 4, cells := 0, slots := 0, locals := 104 }) (va_Pc [.ref (oA 4), .int p0, .long p1] (g_B (dC, dI) [(cB, .byte), (cC, .char), (cI, .int), (cJ, .long), (cZ, .boolean), (cP, .object "StoryHouse$Play")] sz (b_s cB cC cI cJ cZ oA rA Γ ++ b_c cB cC cI cJ cZ oA rA Γ ++ b_t cB cC cI cJ cZ oA rA Γ ++ b_d cB cC cI cJ cZ oA rA Γ) g_0)) (va_Qv (fun (_ : Unit) => True) (g_Bo (dC, dI) (va_A (b_s cB cC cI cJ cZ oA rA Γ ++ b_c cB cC cI cJ cZ oA rA Γ ++ b_t cB cC cI cJ cZ oA rA Γ ++ b_d cB cC cI cJ cZ oA rA Γ) sz) (fun (_ : Unit) => (b_s cB cC cI cJ cZ oA rA res.2 ++ b_c cB cC cI cJ cZ oA rA res.2 ++ b_t cB cC cI cJ cZ oA rA res.2 ++ b_d cB cC cI cJ cZ oA rA res.2))) (va_A (b_s cB cC cI cJ cZ oA rA Γ ++ b_c cB cC cI cJ cZ oA rA Γ ++ b_t cB cC cI cJ cZ oA rA Γ ++ b_d cB cC cI cJ cZ oA rA Γ) sz)) 0 0 (va_A (b_s cB cC cI cJ cZ oA rA Γ ++ b_c cB cC cI cJ cZ oA rA Γ ++ b_t cB cC cI cJ cZ oA rA Γ ++ b_d cB cC cI cJ cZ oA rA Γ) sz) := by
  refine Met.ofW (cc := cX7_addWord) (maxL := 6) (ret := none) (by decide) rfl ?_
  intro p e s m args below meth c s₁ B hml hv
  obtain ⟨rfl, hsz, hP, hK, hD0, hE, hX⟩ := hv
  have hx := B.exec
  have hb := B.bytes
  have hr := B.returns
  have hts0 := atoms_spec (ws := g_ws yX7_addWord cX7_addWord 6 none) B.pre
  have hts : ∀ w ∈ lw_good, w.before ([.ref (oA 4), .int p0, .long p1] : List Value).toArray s = true := fun w z => hts0 w (List.mem_cons_of_mem _ z)
  have hown : s.vm.findClass RX7 = some m.cls := findClass_of_methodNamed B.named
  have hlocks := B.notSynchronized
  subst hsz
  have hD1 := hD0.self (sz := s.heap.size)
  generalize hAe : va_A (b_s cB cC cI cJ cZ oA rA Γ ++ b_c cB cC cI cJ cZ oA rA Γ ++ b_t cB cC cI cJ cZ oA rA Γ ++ b_d cB cC cI cJ cZ oA rA Γ) s.heap.size = A at hD1 hE hX ⊢
  have hA : ∀ q : Nat, s.heap.size ≤ q → A q := fun q z => by rw [← hAe]; exact Or.inr z
  have hDD : ∀ Γ : HS, va_D A (b_s cB cC cI cJ cZ oA rA Γ ++ b_c cB cC cI cJ cZ oA rA Γ ++ b_t cB cC cI cJ cZ oA rA Γ ++ b_d cB cC cI cJ cZ oA rA Γ) := fun Γ9 => va_D_fst (ws := (b_s cB cC cI cJ cZ oA rA Γ ++ b_c cB cC cI cJ cZ oA rA Γ ++ b_t cB cC cI cJ cZ oA rA Γ ++ b_d cB cC cI cJ cZ oA rA Γ)) (ws' := (b_s cB cC cI cJ cZ oA rA Γ9 ++ b_c cB cC cI cJ cZ oA rA Γ9 ++ b_t cB cC cI cJ cZ oA rA Γ9 ++ b_d cB cC cI cJ cZ oA rA Γ9)) rfl hD1
  have hN := hE.1
  have hS : va_S A s.heap s.heap [] := va_S.rf
  have hl := lv_entry ([.ref (oA 4), .int p0, .long p1]) (n := 6) (Nat.le_of_ble_eq_true rfl)
  rw [lg_entry_eq]
  generalize (lg_sl ([.ref (oA 4), .int p0, .long p1]) ++ List.replicate (6 - (lg_sl ([.ref (oA 4), .int p0, .long p1])).length) Slot.unset).toArray = ls at hl ⊢
  have hl : lv_has ls 6 [(0, .ref (oA 4)), (1, .int p0), (2, .long p1)] := hl
  unfold F_X7_addWord at hF
  refine lv_aload_n hx hb dX7_addWord_0 rfl (lv_at hl 0 rfl) ?_
  refine va_get (D := (dC, dI)) (ci := 7) (v := .ref (oA 7)) (C := RX7) (T := TX7) (N := 19) hx hb hts ii_X7 hown hK hP 0 rfl rfl 18 (by decide) (hts (.fieldLink RX7 78 "StoryHouse$Story" "dictionary" "LStoryHouse$Dictionary;") wq_199) (fun _ h9 => h9) rfl dX7_addWord_1 ?_
  refine lv_lload_n hx hb dX7_addWord_4 rfl (lv_at hl 2 rfl) ?_
  obtain ⟨u_1, hu_1, hF_2⟩ := Option.bind_eq_some_iff.mp hF
  clear hF
  have hPc := hP.sub (ws' := (b_d cB cC cI cJ cZ oA rA Γ)) [28, 29, 30] rfl
  have hDc := (hDD Γ).sub (ws' := (b_d cB cC cI cJ cZ oA rA Γ)) [28, 29, 30] (by decide +kernel) rfl
  have hFc := va_free (wc := (b_d cB cC cI cJ cZ oA rA Γ)) (hDD Γ) hS hA [28, 29, 30] rfl
  refine g_ofi (wc := (b_d cB cC cI cJ cZ oA rA Γ)) (wr := (b_s cB cC cI cJ cZ oA rA Γ ++ b_c cB cC cI cJ cZ oA rA Γ ++ b_t cB cC cI cJ cZ oA rA Γ)) hP (hDD Γ) hS hFc [28, 29, 30] [0, 1, 2, 3, 4, 5, 6, 7, 8, 9, 10, 11, 12, 13, 14, 15, 16, 17, 18, 19, 20, 21, 22, 23, 24, 25, 26, 27] rfl rfl (by decide +kernel) (by decide +kernel) (va_runV (As := [.long p1]) (rest := []) ⟨hx, hb, hml, hown, hts⟩ (k_X1_learn l dC dI cB cC cI cJ cZ cP oA rA s.heap.size  p1 Γ _ hu_1) (cwV 1 hts (g_gV wq_524 wq_525 wq_526 wq_8 wq_527) rfl rfl rfl (by decide +kernel) ⟨Nat.le_of_ble_eq_true rfl, Nat.le_of_ble_eq_true rfl⟩) (g_preV g_bl0 hK hPc hDc hS hE hFc g_to0 (q0 := 0) (ci := 1) rfl rfl) rfl rfl hl.1 rfl (lv_room (Nat.le_of_ble_eq_true rfl)) dX7_addWord_5 ⟨Nat.le_of_ble_eq_true rfl, Nat.le_of_ble_eq_true rfl⟩) (fun r9 u9 H locs hw9 hP' hD' hS => ?_)
  clear hPc hDc hFc
  subst hw9
  obtain ⟨σ_3, eσ_3, hF_4⟩ := bnd_e hF_2
  clear hF_2
  have hP : va_P (dC, dI) vwCl (b_s cB cC cI cJ cZ oA rA σ_3 ++ b_c cB cC cI cJ cZ oA rA σ_3 ++ b_t cB cC cI cJ cZ oA rA σ_3 ++ b_d cB cC cI cJ cZ oA rA σ_3) H := by rw [eσ_3]; exact hP'.sub [0, 1, 2, 3, 4, 5, 6, 7, 8, 9, 10, 11, 12, 13, 14, 15, 16, 17, 18, 19, 20, 21, 22, 23, 24, 25, 26, 27, 28, 29, 30] rfl
  clear hP' hD'
  refine lv_istore (lv' := [(4, .int u_1.1), (0, .ref (oA 4)), (1, .int p0), (2, .long p1)]) hx hb dX7_addWord_8 hl (by decide) rfl (fun ls hl => ?_)
  refine lv_aload_n hx hb dX7_addWord_10 rfl (lv_at hl 1 rfl) ?_
  refine va_get (D := (dC, dI)) (ci := 7) (v := .ref (rA 4 10)) (C := RX7) (T := TX7) (N := 19) hx hb hts ii_X7 hown hK hP 0 rfl rfl 10 (by decide) (hts (.fieldLink RX7 43 "StoryHouse$Story" "ownedCounts" "[I") wq_177) (fun _ h9 => h9) rfl dX7_addWord_11 ?_
  refine lv_iload_n hx hb dX7_addWord_14 rfl (lv_at hl 2 rfl) ?_
  have hPc := hP.sub (ws' := [(rA 4 10, .inl (cI, 181, .inl ((σ_3 4).2.1 10)))]) [11] rfl
  have hDc := (hDD σ_3).sub (ws' := [(rA 4 10, .inl (cI, 181, .inl ((σ_3 4).2.1 10)))]) [11] (by decide +kernel) rfl
  have hFc := va_free (wc := [(rA 4 10, .inl (cI, 181, .inl ((σ_3 4).2.1 10)))]) (hDD σ_3) hS hA [11] rfl
  refine g_ofi (wc := [(rA 4 10, .inl (cI, 181, .inl ((σ_3 4).2.1 10)))]) (wr := (((b_s cB cC cI cJ cZ oA rA σ_3 ++ b_c cB cC cI cJ cZ oA rA σ_3 ++ b_t cB cC cI cJ cZ oA rA σ_3 ++ b_d cB cC cI cJ cZ oA rA σ_3)).eraseIdx 11)) hP (hDD σ_3) hS hFc [11] [0, 1, 2, 3, 4, 5, 6, 7, 8, 9, 10, 12, 13, 14, 15, 16, 17, 18, 19, 20, 21, 22, 23, 24, 25, 26, 27, 28, 29, 30] rfl rfl (by decide +kernel) (by decide +kernel) (va_runSN (As := [.ref (rA 4 10), .int p0]) (rest := []) ⟨hx, hb, hml, hown, hts⟩ (c_X11_at l dC dI cB cC cI cJ cZ cP H.size (rA 4 10) p0 181 ((σ_3 4).2.1 10) (by decide)) ⟨va_cnB 2 hts (g_gA wq_407) rfl rfl rfl (hN.at 17 rfl) (hts (.initialized RX11) wq_1) (by decide +kernel) ⟨Nat.le_of_ble_eq_true rfl, Nat.le_of_ble_eq_true rfl⟩, (hts (.static yX11_at) wq_406), trivial⟩ (g_preS g_bl0 hK hPc hDc hS hE hFc g_to0) rfl rfl hl.1 rfl (lv_room (Nat.le_of_ble_eq_true rfl)) dX7_addWord_15 ⟨Nat.le_of_ble_eq_true rfl, Nat.le_of_ble_eq_true rfl⟩) (fun r9 u9 H locs hw9 hP' hD' hS => ?_)
  clear hPc hDc hFc hD'
  have hP : va_P (dC, dI) vwCl (b_s cB cC cI cJ cZ oA rA σ_3 ++ b_c cB cC cI cJ cZ oA rA σ_3 ++ b_t cB cC cI cJ cZ oA rA σ_3 ++ b_d cB cC cI cJ cZ oA rA σ_3) H := hP'.sub [0, 1, 2, 3, 4, 5, 6, 7, 8, 9, 10, 30, 11, 12, 13, 14, 15, 16, 17, 18, 19, 20, 21, 22, 23, 24, 25, 26, 27, 28, 29] rfl
  clear hP'
  subst hw9
  obtain ⟨x_5, ex_5, hF_6⟩ := bnd_e hF_4
  clear hF_4
  refine m_top ex_5 ?_
  refine lv_istore (lv' := [(5, .int x_5), (4, .int u_1.1), (0, .ref (oA 4)), (1, .int p0), (2, .long p1)]) hx hb dX7_addWord_18 hl (by decide) rfl (fun ls hl => ?_)
  refine lv_iload_n hx hb dX7_addWord_20 rfl (lv_at hl 3 rfl) ?_
  refine lv_if_le (tgt := 59) hx hb dX7_addWord_21 (by decide) (fun c_7 => ?_) (fun c_7 => ?_)
  · have hF_8 := ipos c_7 hF_6
    clear hF_6
    have h9 := Option.some.inj hF_8
    subst h9
    exact W.vret hx hb hr (fun t ht hW => ⟨⟨(), rfl, trivial, m_end ht hP, hDD _⟩, hS.F ht⟩) hS.2.2 dX7_addWord_59
  · have hF_9 := ineg c_7 hF_6
    clear hF_6
    refine lv_iload hx hb dX7_addWord_24 (lv_at hl 0 rfl) ?_
    refine lv_bipush (v := 10) hx hb dX7_addWord_26 (by decide +kernel) ?_
    refine lv_icmp_ge (tgt := 59) hx hb dX7_addWord_28 (by decide) (fun c_10 => ?_) (fun c_10 => ?_)
    · have hF_11 := ipos c_10 hF_9
      clear hF_9
      have h9 := Option.some.inj hF_11
      subst h9
      exact W.vret hx hb hr (fun t ht hW => ⟨⟨(), rfl, trivial, m_end ht hP, hDD _⟩, hS.F ht⟩) hS.2.2 dX7_addWord_59
    · have hF_12 := ineg c_10 hF_9
      clear hF_9
      refine lv_aload_n hx hb dX7_addWord_31 rfl (lv_at hl 2 rfl) ?_
      refine va_get (D := (dC, dI)) (ci := 7) (v := .ref (rA 4 9)) (C := RX7) (T := TX7) (N := 19) hx hb hts ii_X7 hown hK hP 0 rfl rfl 9 (by decide) (hts (.fieldLink RX7 40 "StoryHouse$Story" "owned" "[I") wq_176) (fun _ h9 => h9) rfl dX7_addWord_32 ?_
      refine lv_iload_n hx hb dX7_addWord_35 rfl (lv_at hl 3 rfl) ?_
      refine lv_bipush (v := 10) hx hb dX7_addWord_36 (by decide +kernel) ?_
      refine lv_imul hx hb dX7_addWord_38 ?_
      refine lv_iload hx hb dX7_addWord_39 (lv_at hl 0 rfl) ?_
      refine lv_iadd hx hb dX7_addWord_41 ?_
      refine lv_iload hx hb dX7_addWord_42 (lv_at hl 1 rfl) ?_
      have hPc := hP.sub (ws' := [(rA 4 9, .inl (cI, 1810, .inl ((σ_3 4).2.1 9)))]) [10] rfl
      have hDc := (hDD σ_3).sub (ws' := [(rA 4 9, .inl (cI, 1810, .inl ((σ_3 4).2.1 9)))]) [10] (by decide +kernel) rfl
      have hFc := va_free (wc := [(rA 4 9, .inl (cI, 1810, .inl ((σ_3 4).2.1 9)))]) (hDD σ_3) hS hA [10] rfl
      refine g_ofv (wc := [(rA 4 9, .inl (cI, 1810, .inl ((σ_3 4).2.1 9)))]) (wr := (((b_s cB cC cI cJ cZ oA rA σ_3 ++ b_c cB cC cI cJ cZ oA rA σ_3 ++ b_t cB cC cI cJ cZ oA rA σ_3 ++ b_d cB cC cI cJ cZ oA rA σ_3)).eraseIdx 10)) hP (hDD σ_3) hS hFc [10] [0, 1, 2, 3, 4, 5, 6, 7, 8, 9, 11, 12, 13, 14, 15, 16, 17, 18, 19, 20, 21, 22, 23, 24, 25, 26, 27, 28, 29, 30] rfl rfl (by decide +kernel) (by decide +kernel) (va_runSN (As := [.ref (rA 4 9), .int ((p0 * 10) + x_5), .int u_1.1]) (rest := []) ⟨hx, hb, hml, hown, hts⟩ (c_X11_put l dC dI cB cC cI cJ cZ cP H.size (rA 4 9) ((p0 * 10) + x_5) u_1.1 1810 ((σ_3 4).2.1 9) (by decide)) ⟨va_cnB 3 hts (g_gA wq_412) rfl rfl rfl (hN.at 18 rfl) (hts (.initialized RX11) wq_1) (by decide +kernel) ⟨Nat.le_of_ble_eq_true rfl, Nat.le_of_ble_eq_true rfl⟩, (hts (.static yX11_put) wq_411), trivial⟩ (g_preS g_bl0 hK hPc hDc hS hE hFc g_to0) rfl rfl hl.1 rfl (lv_room (Nat.le_of_ble_eq_true rfl)) dX7_addWord_44 ⟨Nat.le_of_ble_eq_true rfl, Nat.le_of_ble_eq_true rfl⟩) (fun g9 H locs hw9 hP' hD' hS => ?_)
      clear hPc hDc hFc hD'
      obtain ⟨σ_13, eσ_13, hF_14⟩ := bnd_e hF_12
      clear hF_12
      subst hw9
      have hP : va_P (dC, dI) vwCl (b_s cB cC cI cJ cZ oA rA σ_13 ++ b_c cB cC cI cJ cZ oA rA σ_13 ++ b_t cB cC cI cJ cZ oA rA σ_13 ++ b_d cB cC cI cJ cZ oA rA σ_13) H := by rw [eσ_13]; exact hP'.sub [0, 1, 2, 3, 4, 5, 6, 7, 8, 9, 30, 10, 11, 12, 13, 14, 15, 16, 17, 18, 19, 20, 21, 22, 23, 24, 25, 26, 27, 28, 29] rfl
      clear hP'
      refine lv_aload_n hx hb dX7_addWord_47 rfl (lv_at hl 2 rfl) ?_
      refine va_get (D := (dC, dI)) (ci := 7) (v := .ref (rA 4 10)) (C := RX7) (T := TX7) (N := 19) hx hb hts ii_X7 hown hK hP 0 rfl rfl 10 (by decide) (hts (.fieldLink RX7 43 "StoryHouse$Story" "ownedCounts" "[I") wq_177) (fun _ h9 => h9) rfl dX7_addWord_48 ?_
      refine lv_iload_n hx hb dX7_addWord_51 rfl (lv_at hl 3 rfl) ?_
      refine lv_iload hx hb dX7_addWord_52 (lv_at hl 0 rfl) ?_
      refine lv_iconst (v := 1) hx hb dX7_addWord_54 (by decide +kernel) ?_
      refine lv_iadd hx hb dX7_addWord_55 ?_
      obtain ⟨x_15, ex_15, hF_16⟩ := bnd_e hF_14
      clear hF_14
      refine m_top ex_15 ?_
      have hPc := hP.sub (ws' := [(rA 4 10, .inl (cI, 181, .inl ((σ_13 4).2.1 10)))]) [11] rfl
      have hDc := (hDD σ_13).sub (ws' := [(rA 4 10, .inl (cI, 181, .inl ((σ_13 4).2.1 10)))]) [11] (by decide +kernel) rfl
      have hFc := va_free (wc := [(rA 4 10, .inl (cI, 181, .inl ((σ_13 4).2.1 10)))]) (hDD σ_13) hS hA [11] rfl
      refine g_ofv (wc := [(rA 4 10, .inl (cI, 181, .inl ((σ_13 4).2.1 10)))]) (wr := (((b_s cB cC cI cJ cZ oA rA σ_13 ++ b_c cB cC cI cJ cZ oA rA σ_13 ++ b_t cB cC cI cJ cZ oA rA σ_13 ++ b_d cB cC cI cJ cZ oA rA σ_13)).eraseIdx 11)) hP (hDD σ_13) hS hFc [11] [0, 1, 2, 3, 4, 5, 6, 7, 8, 9, 10, 12, 13, 14, 15, 16, 17, 18, 19, 20, 21, 22, 23, 24, 25, 26, 27, 28, 29, 30] rfl rfl (by decide +kernel) (by decide +kernel) (va_runSN (As := [.ref (rA 4 10), .int p0, .int x_15]) (rest := []) ⟨hx, hb, hml, hown, hts⟩ (c_X11_put l dC dI cB cC cI cJ cZ cP H.size (rA 4 10) p0 x_15 181 ((σ_13 4).2.1 10) (by decide)) ⟨va_cnB 3 hts (g_gA wq_412) rfl rfl rfl (hN.at 18 rfl) (hts (.initialized RX11) wq_1) (by decide +kernel) ⟨Nat.le_of_ble_eq_true rfl, Nat.le_of_ble_eq_true rfl⟩, (hts (.static yX11_put) wq_411), trivial⟩ (g_preS g_bl0 hK hPc hDc hS hE hFc g_to0) rfl rfl hl.1 rfl (lv_room (Nat.le_of_ble_eq_true rfl)) dX7_addWord_56 ⟨Nat.le_of_ble_eq_true rfl, Nat.le_of_ble_eq_true rfl⟩) (fun g9 H locs hw9 hP' hD' hS => ?_)
      clear hPc hDc hFc hD'
      obtain ⟨σ_17, eσ_17, hF_18⟩ := bnd_e hF_16
      clear hF_16
      subst hw9
      have hP : va_P (dC, dI) vwCl (b_s cB cC cI cJ cZ oA rA σ_17 ++ b_c cB cC cI cJ cZ oA rA σ_17 ++ b_t cB cC cI cJ cZ oA rA σ_17 ++ b_d cB cC cI cJ cZ oA rA σ_17) H := by rw [eσ_17]; exact hP'.sub [0, 1, 2, 3, 4, 5, 6, 7, 8, 9, 10, 30, 11, 12, 13, 14, 15, 16, 17, 18, 19, 20, 21, 22, 23, 24, 25, 26, 27, 28, 29] rfl
      clear hP'
      have h9 := Option.some.inj hF_18
      subst h9
      exact W.vret hx hb hr (fun t ht hW => ⟨⟨(), rfl, trivial, m_end ht hP, hDD _⟩, hS.F ht⟩) hS.2.2 dX7_addWord_59
theorem dX4_ownWords_0 : decode cX4_ownWords 0 = .ok (.iload_n 2, 1) := by decide +kernel
theorem dX4_ownWords_1 : decode cX4_ownWords 1 = .ok (.istore_n 3, 1) := by decide +kernel
theorem dX4_ownWords_2 : decode cX4_ownWords 2 = .ok (.iload_n 3, 1) := by decide +kernel
theorem dX4_ownWords_3 : decode cX4_ownWords 3 = .ok (.aload_n 0, 1) := by decide +kernel
theorem dX4_ownWords_4 : decode cX4_ownWords 4 = .ok (.getfield 32, 3) := by decide +kernel
theorem dX4_ownWords_7 : decode cX4_ownWords 7 = .ok (.getfield 53, 3) := by decide +kernel
theorem dX4_ownWords_10 : decode cX4_ownWords 10 = .ok (.if_icmp .ge 69, 3) := by decide +kernel
theorem dX4_ownWords_13 : decode cX4_ownWords 13 = .ok (.aload_n 0, 1) := by decide +kernel
theorem dX4_ownWords_14 : decode cX4_ownWords 14 = .ok (.getfield 32, 3) := by decide +kernel
theorem dX4_ownWords_17 : decode cX4_ownWords 17 = .ok (.iload_n 3, 1) := by decide +kernel
theorem dX4_ownWords_18 : decode cX4_ownWords 18 = .ok (.invokevirtual 116, 3) := by decide +kernel
theorem dX4_ownWords_21 : decode cX4_ownWords 21 = .ok (.iconst 2, 1) := by decide +kernel
theorem dX4_ownWords_22 : decode cX4_ownWords 22 = .ok (.if_icmp .eq 16, 3) := by decide +kernel
theorem dX4_ownWords_25 : decode cX4_ownWords 25 = .ok (.aload_n 0, 1) := by decide +kernel
theorem dX4_ownWords_26 : decode cX4_ownWords 26 = .ok (.getfield 32, 3) := by decide +kernel
theorem dX4_ownWords_29 : decode cX4_ownWords 29 = .ok (.iload_n 3, 1) := by decide +kernel
theorem dX4_ownWords_30 : decode cX4_ownWords 30 = .ok (.invokevirtual 116, 3) := by decide +kernel
theorem dX4_ownWords_33 : decode cX4_ownWords 33 = .ok (.bipush 44, 2) := by decide +kernel
theorem dX4_ownWords_35 : decode cX4_ownWords 35 = .ok (.if_icmp .ne 44, 3) := by decide +kernel
theorem dX4_ownWords_38 : decode cX4_ownWords 38 = .ok (.aload_n 0, 1) := by decide +kernel
theorem dX4_ownWords_39 : decode cX4_ownWords 39 = .ok (.getfield 32, 3) := by decide +kernel
theorem dX4_ownWords_42 : decode cX4_ownWords 42 = .ok (.iload_n 3, 1) := by decide +kernel
theorem dX4_ownWords_43 : decode cX4_ownWords 43 = .ok (.invokevirtual 116, 3) := by decide +kernel
theorem dX4_ownWords_46 : decode cX4_ownWords 46 = .ok (.iconst 2, 1) := by decide +kernel
theorem dX4_ownWords_47 : decode cX4_ownWords 47 = .ok (.if_icmp .ne 26, 3) := by decide +kernel
theorem dX4_ownWords_50 : decode cX4_ownWords 50 = .ok (.aload_n 0, 1) := by decide +kernel
theorem dX4_ownWords_51 : decode cX4_ownWords 51 = .ok (.getfield 36, 3) := by decide +kernel
theorem dX4_ownWords_54 : decode cX4_ownWords 54 = .ok (.iload_n 1, 1) := by decide +kernel
theorem dX4_ownWords_55 : decode cX4_ownWords 55 = .ok (.aload_n 0, 1) := by decide +kernel
theorem dX4_ownWords_56 : decode cX4_ownWords 56 = .ok (.getfield 32, 3) := by decide +kernel
theorem dX4_ownWords_59 : decode cX4_ownWords 59 = .ok (.aload_n 0, 1) := by decide +kernel
theorem dX4_ownWords_60 : decode cX4_ownWords 60 = .ok (.getfield 32, 3) := by decide +kernel
theorem dX4_ownWords_63 : decode cX4_ownWords 63 = .ok (.iload_n 3, 1) := by decide +kernel
theorem dX4_ownWords_64 : decode cX4_ownWords 64 = .ok (.invokevirtual 119, 3) := by decide +kernel
theorem dX4_ownWords_67 : decode cX4_ownWords 67 = .ok (.invokevirtual 230, 3) := by decide +kernel
theorem dX4_ownWords_70 : decode cX4_ownWords 70 = .ok (.invokevirtual 234, 3) := by decide +kernel
theorem dX4_ownWords_73 : decode cX4_ownWords 73 = .ok (.iinc 3 1, 3) := by decide +kernel
theorem dX4_ownWords_76 : decode cX4_ownWords 76 = .ok (.goto (-74), 3) := by decide +kernel
theorem dX4_ownWords_79 : decode cX4_ownWords 79 = .ok (.iload_n 3, 1) := by decide +kernel
theorem dX4_ownWords_80 : decode cX4_ownWords 80 = .ok (.ireturn, 1) := by decide +kernel
def F_X4_ownWords (p0 : Int32) (p1 : Int32) (Γ : HS) : HR :=
  loopF (fun (again_2 : (Int32 × HS) → HR) (s_1 : Int32 × HS) => (
    if ((s_1.2 1).1 2) ≤ s_1.1 then (
      some (s_1.1, s_1.2)
    ) else (
      (F_X10_kindOf s_1.1 s_1.2).bind fun u_8 =>
      bnd (mrg (fun j => j == 1) s_1.2 u_8.2) fun σ_10 =>
      bnd (fun  (σ_12 : HS) => (
        (F_X10_kindOf s_1.1 σ_12).bind fun u_16 =>
        bnd (mrg (fun j => j == 1) σ_12 u_16.2) fun σ_18 =>
        bnd (fun  (σ_20 : HS) => (
          bnd (s_1.1 + 1) fun (x_24 : Int32) =>
          again_2 (x_24, σ_20)
        ) : HS → HR) fun j_21 =>
        if u_16.1 = 2 then (
          (F_X10_worthOf s_1.1 σ_18).bind fun u_28 =>
          bnd (mrg (fun j => j == 1) σ_18 u_28.2) fun σ_30 =>
          (F_X10_termOf u_28.1 σ_30).bind fun u_32 =>
          bnd (mrg (fun j => j == 1) σ_30 u_32.2) fun σ_34 =>
          (F_X7_addWord p0 u_32.1 σ_34).bind fun u_36 =>
          bnd (mrg (fun j => j == 4 || j == 5 || j == 6 || j == 7) σ_34 u_36.2) fun σ_38 =>
          j_21  σ_38
        ) else (
          j_21  σ_18
        )
      ) : HS → HR) fun j_13 =>
      if u_8.1 = 2 then (
        j_13  σ_10
      ) else (
        (F_X10_kindOf s_1.1 σ_10).bind fun u_44 =>
        bnd (mrg (fun j => j == 1) σ_10 u_44.2) fun σ_46 =>
        if u_44.1 = 44 then (
          j_13  σ_46
        ) else (
          some (s_1.1, σ_46)
        )
      )
    )
  )) FU (p1, Γ)
set_option maxHeartbeats 4000000 in
set_option maxRecDepth 100000 in
theorem k_X4_ownWords (l : Launch) (dC : Nat → ClassId) (dI : Nat → Nat → Nat) (cB cC cI cJ cZ cP : ClassId) (oA : Nat → Nat) (rA : Nat → Nat → Nat) (sz : Nat)  (p0 : Int32) (p1 : Int32) (Γ : HS) (res : Int32 × HS) (hF : F_X4_ownWords p0 p1 Γ = some res) : Met l yX4_ownWords (g_ws yX4_ownWords cX4_ownWords 4 (some .int)) ({ frames := 5, cells := 0, slots := 0, locals := 129 }) (va_Pc [.ref (oA 3), .int p0, .int p1] (g_B (dC, dI) [(cB, .byte), (cC, .char), (cI, .int), (cJ, .long), (cZ, .boolean), (cP, .object "StoryHouse$Play")] sz (b_m cB cC cI cJ cZ oA rA Γ ++ b_w cB cC cI cJ cZ oA rA Γ ++ b_s cB cC cI cJ cZ oA rA Γ ++ b_c cB cC cI cJ cZ oA rA Γ ++ b_t cB cC cI cJ cZ oA rA Γ ++ b_d cB cC cI cJ cZ oA rA Γ) g_0)) (va_Qi (fun r (_ : Unit) => r = res.1) (g_Bo (dC, dI) (va_A (b_m cB cC cI cJ cZ oA rA Γ ++ b_w cB cC cI cJ cZ oA rA Γ ++ b_s cB cC cI cJ cZ oA rA Γ ++ b_c cB cC cI cJ cZ oA rA Γ ++ b_t cB cC cI cJ cZ oA rA Γ ++ b_d cB cC cI cJ cZ oA rA Γ) sz) (fun (_ : Unit) => (b_m cB cC cI cJ cZ oA rA res.2 ++ b_w cB cC cI cJ cZ oA rA res.2 ++ b_s cB cC cI cJ cZ oA rA res.2 ++ b_c cB cC cI cJ cZ oA rA res.2 ++ b_t cB cC cI cJ cZ oA rA res.2 ++ b_d cB cC cI cJ cZ oA rA res.2))) (va_A (b_m cB cC cI cJ cZ oA rA Γ ++ b_w cB cC cI cJ cZ oA rA Γ ++ b_s cB cC cI cJ cZ oA rA Γ ++ b_c cB cC cI cJ cZ oA rA Γ ++ b_t cB cC cI cJ cZ oA rA Γ ++ b_d cB cC cI cJ cZ oA rA Γ) sz)) 0 0 (va_A (b_m cB cC cI cJ cZ oA rA Γ ++ b_w cB cC cI cJ cZ oA rA Γ ++ b_s cB cC cI cJ cZ oA rA Γ ++ b_c cB cC cI cJ cZ oA rA Γ ++ b_t cB cC cI cJ cZ oA rA Γ ++ b_d cB cC cI cJ cZ oA rA Γ) sz) := by
  refine Met.ofW (cc := cX4_ownWords) (maxL := 4) (ret := (some .int)) (by decide) rfl ?_
  intro p e s m args below meth c s₁ B hml hv
  obtain ⟨rfl, hsz, hP, hK, hD0, hE, hX⟩ := hv
  have hx := B.exec
  have hb := B.bytes
  have hr := B.returns
  have hts0 := atoms_spec (ws := g_ws yX4_ownWords cX4_ownWords 4 (some .int)) B.pre
  have hts : ∀ w ∈ lw_good, w.before ([.ref (oA 3), .int p0, .int p1] : List Value).toArray s = true := fun w z => hts0 w (List.mem_cons_of_mem _ z)
  have hown : s.vm.findClass RX4 = some m.cls := findClass_of_methodNamed B.named
  have hlocks := B.notSynchronized
  subst hsz
  have hD1 := hD0.self (sz := s.heap.size)
  generalize hAe : va_A (b_m cB cC cI cJ cZ oA rA Γ ++ b_w cB cC cI cJ cZ oA rA Γ ++ b_s cB cC cI cJ cZ oA rA Γ ++ b_c cB cC cI cJ cZ oA rA Γ ++ b_t cB cC cI cJ cZ oA rA Γ ++ b_d cB cC cI cJ cZ oA rA Γ) s.heap.size = A at hD1 hE hX ⊢
  have hA : ∀ q : Nat, s.heap.size ≤ q → A q := fun q z => by rw [← hAe]; exact Or.inr z
  have hDD : ∀ Γ : HS, va_D A (b_m cB cC cI cJ cZ oA rA Γ ++ b_w cB cC cI cJ cZ oA rA Γ ++ b_s cB cC cI cJ cZ oA rA Γ ++ b_c cB cC cI cJ cZ oA rA Γ ++ b_t cB cC cI cJ cZ oA rA Γ ++ b_d cB cC cI cJ cZ oA rA Γ) := fun Γ9 => va_D_fst (ws := (b_m cB cC cI cJ cZ oA rA Γ ++ b_w cB cC cI cJ cZ oA rA Γ ++ b_s cB cC cI cJ cZ oA rA Γ ++ b_c cB cC cI cJ cZ oA rA Γ ++ b_t cB cC cI cJ cZ oA rA Γ ++ b_d cB cC cI cJ cZ oA rA Γ)) (ws' := (b_m cB cC cI cJ cZ oA rA Γ9 ++ b_w cB cC cI cJ cZ oA rA Γ9 ++ b_s cB cC cI cJ cZ oA rA Γ9 ++ b_c cB cC cI cJ cZ oA rA Γ9 ++ b_t cB cC cI cJ cZ oA rA Γ9 ++ b_d cB cC cI cJ cZ oA rA Γ9)) rfl hD1
  have hN := hE.1
  have hS : va_S A s.heap s.heap [] := va_S.rf
  have hl := lv_entry ([.ref (oA 3), .int p0, .int p1]) (n := 4) (Nat.le_of_ble_eq_true rfl)
  rw [lg_entry_eq]
  generalize (lg_sl ([.ref (oA 3), .int p0, .int p1]) ++ List.replicate (4 - (lg_sl ([.ref (oA 3), .int p0, .int p1])).length) Slot.unset).toArray = ls at hl ⊢
  have hl : lv_has ls 4 [(0, .ref (oA 3)), (1, .int p0), (2, .int p1)] := hl
  unfold F_X4_ownWords at hF
  refine lv_iload_n hx hb dX4_ownWords_0 rfl (lv_at hl 2 rfl) ?_
  refine lv_istore_n (lv' := [(3, .int p1), (0, .ref (oA 3)), (1, .int p0), (2, .int p1)]) hx hb dX4_ownWords_1 rfl hl (by decide) rfl (fun ls hl => ?_)
  refine loopF_ind (P := fun (s_1 : Int32 × HS) => ∀ (H : Heap) (locs : List Loc), va_P (dC, dI) vwCl (b_m cB cC cI cJ cZ oA rA s_1.2 ++ b_w cB cC cI cJ cZ oA rA s_1.2 ++ b_s cB cC cI cJ cZ oA rA s_1.2 ++ b_c cB cC cI cJ cZ oA rA s_1.2 ++ b_t cB cC cI cJ cZ oA rA s_1.2 ++ b_d cB cC cI cJ cZ oA rA s_1.2) H → va_S A s.heap H locs → ∀ ls : Array Slot, lv_has ls 4 [(0, .ref (oA 3)), (1, .int p0), (3, .int s_1.1)] → W p l e (headSpec (g_ws yX4_ownWords cX4_ownWords 4 (some .int)) { frames := 5, cells := 0, slots := 0, locals := 129 }).room s m ([.ref (oA 3), .int p0, .int p1] : List Value).toArray below meth c H locs 0 0 (MQ below (va_Qi (fun r (_ : Unit) => r = res.1) (g_Bo (dC, dI) A (fun (_ : Unit) => (b_m cB cC cI cJ cZ oA rA res.2 ++ b_w cB cC cI cJ cZ oA rA res.2 ++ b_s cB cC cI cJ cZ oA rA res.2 ++ b_c cB cC cI cJ cZ oA rA res.2 ++ b_t cB cC cI cJ cZ oA rA res.2 ++ b_d cB cC cI cJ cZ oA rA res.2))) A) ([.ref (oA 3), .int p0, .int p1] : List Value).toArray s 0 0 A) (F0 m 2 ls [])) ?_ _ _ hF _ _ hP hS ls (lv_sub hl [1, 2, 0] rfl)
  intro again_2 s_1 ih_3 hF_4
  intro H locs hP hS ls hl
  refine lv_iload_n hx hb dX4_ownWords_2 rfl (lv_at hl 2 rfl) ?_
  refine lv_aload_n hx hb dX4_ownWords_3 rfl (lv_at hl 0 rfl) ?_
  refine va_get (D := (dC, dI)) (ci := 4) (v := .ref (oA 1)) (C := RX4) (T := TX4) (N := 18) hx hb hts ii_X4 hown hK hP 0 rfl rfl 0 (by decide) (hts (.fieldLink RX4 32 "StoryHouse$Meanings" "words" "LStoryHouse$Words;") wq_86) (fun _ h9 => h9) rfl dX4_ownWords_4 ?_
  refine va_get (D := (dC, dI)) (ci := 10) (v := .int ((s_1.2 1).1 2)) (C := RX10) (T := TX10) (N := 12) hx hb hts ii_X10 hown hK hP 7 rfl rfl 2 (by decide) (hts (.fieldLink RX4 53 "StoryHouse$Words" "count" "I") wq_45) (fun _ h9 => h9) rfl dX4_ownWords_7 ?_
  refine lv_icmp_ge (tgt := 79) hx hb dX4_ownWords_10 (by decide) (fun c_5 => ?_) (fun c_5 => ?_)
  · have hF_6 := ipos c_5 hF_4
    clear hF_4
    refine lv_iload_n hx hb dX4_ownWords_79 rfl (lv_at hl 2 rfl) ?_
    have h9 := Option.some.inj hF_6
    subst h9
    exact W.iret (v := s_1.1) hx hb hr (fun t ht hW => ⟨⟨s_1.1, (), rfl, rfl, m_end ht hP, hDD _⟩, hS.F ht⟩) hS.2.2 dX4_ownWords_80
  · have hF_7 := ineg c_5 hF_4
    clear hF_4
    refine lv_aload_n hx hb dX4_ownWords_13 rfl (lv_at hl 0 rfl) ?_
    refine va_get (D := (dC, dI)) (ci := 4) (v := .ref (oA 1)) (C := RX4) (T := TX4) (N := 18) hx hb hts ii_X4 hown hK hP 0 rfl rfl 0 (by decide) (hts (.fieldLink RX4 32 "StoryHouse$Meanings" "words" "LStoryHouse$Words;") wq_86) (fun _ h9 => h9) rfl dX4_ownWords_14 ?_
    refine lv_iload_n hx hb dX4_ownWords_17 rfl (lv_at hl 2 rfl) ?_
    obtain ⟨u_8, hu_8, hF_9⟩ := Option.bind_eq_some_iff.mp hF_7
    clear hF_7
    have hPc := hP.sub (ws' := (b_w cB cC cI cJ cZ oA rA s_1.2)) [7, 8, 9, 10, 11, 12, 13, 14, 15] rfl
    have hDc := (hDD s_1.2).sub (ws' := (b_w cB cC cI cJ cZ oA rA s_1.2)) [7, 8, 9, 10, 11, 12, 13, 14, 15] (by decide +kernel) rfl
    have hFc := va_free (wc := (b_w cB cC cI cJ cZ oA rA s_1.2)) (hDD s_1.2) hS hA [7, 8, 9, 10, 11, 12, 13, 14, 15] rfl
    refine g_ofi (wc := (b_w cB cC cI cJ cZ oA rA s_1.2)) (wr := (b_m cB cC cI cJ cZ oA rA s_1.2 ++ b_s cB cC cI cJ cZ oA rA s_1.2 ++ b_c cB cC cI cJ cZ oA rA s_1.2 ++ b_t cB cC cI cJ cZ oA rA s_1.2 ++ b_d cB cC cI cJ cZ oA rA s_1.2)) hP (hDD s_1.2) hS hFc [7, 8, 9, 10, 11, 12, 13, 14, 15] [0, 1, 2, 3, 4, 5, 6, 16, 17, 18, 19, 20, 21, 22, 23, 24, 25, 26, 27, 28, 29, 30, 31, 32, 33, 34, 35, 36, 37, 38, 39, 40, 41, 42, 43, 44, 45, 46] rfl rfl (by decide +kernel) (by decide +kernel) (va_runV (As := [.int s_1.1]) (rest := []) ⟨hx, hb, hml, hown, hts⟩ (k_X10_kindOf l dC dI cB cC cI cJ cZ cP oA rA H.size  s_1.1 s_1.2 _ hu_8) (cwV 1 hts (g_gV wq_714 wq_543 wq_544 wq_2 wq_545) rfl rfl rfl (by decide +kernel) ⟨Nat.le_of_ble_eq_true rfl, Nat.le_of_ble_eq_true rfl⟩) (g_preV g_bl0 hK hPc hDc hS hE hFc g_to0 (q0 := 0) (ci := 10) rfl rfl) rfl rfl hl.1 rfl (lv_room (Nat.le_of_ble_eq_true rfl)) dX4_ownWords_18 ⟨Nat.le_of_ble_eq_true rfl, Nat.le_of_ble_eq_true rfl⟩) (fun r9 u9 H locs hw9 hP' hD' hS => ?_)
    clear hPc hDc hFc
    subst hw9
    obtain ⟨σ_10, eσ_10, hF_11⟩ := bnd_e hF_9
    clear hF_9
    have hP : va_P (dC, dI) vwCl (b_m cB cC cI cJ cZ oA rA σ_10 ++ b_w cB cC cI cJ cZ oA rA σ_10 ++ b_s cB cC cI cJ cZ oA rA σ_10 ++ b_c cB cC cI cJ cZ oA rA σ_10 ++ b_t cB cC cI cJ cZ oA rA σ_10 ++ b_d cB cC cI cJ cZ oA rA σ_10) H := by rw [eσ_10]; exact hP'.sub [0, 1, 2, 3, 4, 5, 6, 38, 39, 40, 41, 42, 43, 44, 45, 46, 7, 8, 9, 10, 11, 12, 13, 14, 15, 16, 17, 18, 19, 20, 21, 22, 23, 24, 25, 26, 27, 28, 29, 30, 31, 32, 33, 34, 35, 36, 37] rfl
    clear hP' hD'
    refine lv_iconst (v := 2) hx hb dX4_ownWords_21 (by decide +kernel) ?_
    obtain ⟨j_13, ej_13, hF_14⟩ := bnd_e hF_11
    clear hF_11
    have Jj_13 : ∀  (σ_12 : HS), j_13  σ_12 = some res → ∀ (H : Heap) (locs : List Loc), va_P (dC, dI) vwCl (b_m cB cC cI cJ cZ oA rA σ_12 ++ b_w cB cC cI cJ cZ oA rA σ_12 ++ b_s cB cC cI cJ cZ oA rA σ_12 ++ b_c cB cC cI cJ cZ oA rA σ_12 ++ b_t cB cC cI cJ cZ oA rA σ_12 ++ b_d cB cC cI cJ cZ oA rA σ_12) H → va_S A s.heap H locs → ∀ ls : Array Slot, lv_has ls 4 [(0, .ref (oA 3)), (1, .int p0), (3, .int s_1.1)] → W p l e (headSpec (g_ws yX4_ownWords cX4_ownWords 4 (some .int)) { frames := 5, cells := 0, slots := 0, locals := 129 }).room s m ([.ref (oA 3), .int p0, .int p1] : List Value).toArray below meth c H locs 0 0 (MQ below (va_Qi (fun r (_ : Unit) => r = res.1) (g_Bo (dC, dI) A (fun (_ : Unit) => (b_m cB cC cI cJ cZ oA rA res.2 ++ b_w cB cC cI cJ cZ oA rA res.2 ++ b_s cB cC cI cJ cZ oA rA res.2 ++ b_c cB cC cI cJ cZ oA rA res.2 ++ b_t cB cC cI cJ cZ oA rA res.2 ++ b_d cB cC cI cJ cZ oA rA res.2))) A) ([.ref (oA 3), .int p0, .int p1] : List Value).toArray s 0 0 A) (F0 m 38 ls []) := by
      intro  σ_12 hF0 H locs hP hS ls hl
      subst ej_13
      have hF_15 := hF0
      clear hF0
      refine lv_aload_n hx hb dX4_ownWords_38 rfl (lv_at hl 0 rfl) ?_
      refine va_get (D := (dC, dI)) (ci := 4) (v := .ref (oA 1)) (C := RX4) (T := TX4) (N := 18) hx hb hts ii_X4 hown hK hP 0 rfl rfl 0 (by decide) (hts (.fieldLink RX4 32 "StoryHouse$Meanings" "words" "LStoryHouse$Words;") wq_86) (fun _ h9 => h9) rfl dX4_ownWords_39 ?_
      refine lv_iload_n hx hb dX4_ownWords_42 rfl (lv_at hl 2 rfl) ?_
      obtain ⟨u_16, hu_16, hF_17⟩ := Option.bind_eq_some_iff.mp hF_15
      clear hF_15
      have hPc := hP.sub (ws' := (b_w cB cC cI cJ cZ oA rA σ_12)) [7, 8, 9, 10, 11, 12, 13, 14, 15] rfl
      have hDc := (hDD σ_12).sub (ws' := (b_w cB cC cI cJ cZ oA rA σ_12)) [7, 8, 9, 10, 11, 12, 13, 14, 15] (by decide +kernel) rfl
      have hFc := va_free (wc := (b_w cB cC cI cJ cZ oA rA σ_12)) (hDD σ_12) hS hA [7, 8, 9, 10, 11, 12, 13, 14, 15] rfl
      refine g_ofi (wc := (b_w cB cC cI cJ cZ oA rA σ_12)) (wr := (b_m cB cC cI cJ cZ oA rA σ_12 ++ b_s cB cC cI cJ cZ oA rA σ_12 ++ b_c cB cC cI cJ cZ oA rA σ_12 ++ b_t cB cC cI cJ cZ oA rA σ_12 ++ b_d cB cC cI cJ cZ oA rA σ_12)) hP (hDD σ_12) hS hFc [7, 8, 9, 10, 11, 12, 13, 14, 15] [0, 1, 2, 3, 4, 5, 6, 16, 17, 18, 19, 20, 21, 22, 23, 24, 25, 26, 27, 28, 29, 30, 31, 32, 33, 34, 35, 36, 37, 38, 39, 40, 41, 42, 43, 44, 45, 46] rfl rfl (by decide +kernel) (by decide +kernel) (va_runV (As := [.int s_1.1]) (rest := []) ⟨hx, hb, hml, hown, hts⟩ (k_X10_kindOf l dC dI cB cC cI cJ cZ cP oA rA H.size  s_1.1 σ_12 _ hu_16) (cwV 1 hts (g_gV wq_714 wq_543 wq_544 wq_2 wq_545) rfl rfl rfl (by decide +kernel) ⟨Nat.le_of_ble_eq_true rfl, Nat.le_of_ble_eq_true rfl⟩) (g_preV g_bl0 hK hPc hDc hS hE hFc g_to0 (q0 := 0) (ci := 10) rfl rfl) rfl rfl hl.1 rfl (lv_room (Nat.le_of_ble_eq_true rfl)) dX4_ownWords_43 ⟨Nat.le_of_ble_eq_true rfl, Nat.le_of_ble_eq_true rfl⟩) (fun r9 u9 H locs hw9 hP' hD' hS => ?_)
      clear hPc hDc hFc
      subst hw9
      obtain ⟨σ_18, eσ_18, hF_19⟩ := bnd_e hF_17
      clear hF_17
      have hP : va_P (dC, dI) vwCl (b_m cB cC cI cJ cZ oA rA σ_18 ++ b_w cB cC cI cJ cZ oA rA σ_18 ++ b_s cB cC cI cJ cZ oA rA σ_18 ++ b_c cB cC cI cJ cZ oA rA σ_18 ++ b_t cB cC cI cJ cZ oA rA σ_18 ++ b_d cB cC cI cJ cZ oA rA σ_18) H := by rw [eσ_18]; exact hP'.sub [0, 1, 2, 3, 4, 5, 6, 38, 39, 40, 41, 42, 43, 44, 45, 46, 7, 8, 9, 10, 11, 12, 13, 14, 15, 16, 17, 18, 19, 20, 21, 22, 23, 24, 25, 26, 27, 28, 29, 30, 31, 32, 33, 34, 35, 36, 37] rfl
      clear hP' hD'
      refine lv_iconst (v := 2) hx hb dX4_ownWords_46 (by decide +kernel) ?_
      obtain ⟨j_21, ej_21, hF_22⟩ := bnd_e hF_19
      clear hF_19
      have Jj_21 : ∀  (σ_20 : HS), j_21  σ_20 = some res → ∀ (H : Heap) (locs : List Loc), va_P (dC, dI) vwCl (b_m cB cC cI cJ cZ oA rA σ_20 ++ b_w cB cC cI cJ cZ oA rA σ_20 ++ b_s cB cC cI cJ cZ oA rA σ_20 ++ b_c cB cC cI cJ cZ oA rA σ_20 ++ b_t cB cC cI cJ cZ oA rA σ_20 ++ b_d cB cC cI cJ cZ oA rA σ_20) H → va_S A s.heap H locs → ∀ ls : Array Slot, lv_has ls 4 [(0, .ref (oA 3)), (1, .int p0), (3, .int s_1.1)] → W p l e (headSpec (g_ws yX4_ownWords cX4_ownWords 4 (some .int)) { frames := 5, cells := 0, slots := 0, locals := 129 }).room s m ([.ref (oA 3), .int p0, .int p1] : List Value).toArray below meth c H locs 0 0 (MQ below (va_Qi (fun r (_ : Unit) => r = res.1) (g_Bo (dC, dI) A (fun (_ : Unit) => (b_m cB cC cI cJ cZ oA rA res.2 ++ b_w cB cC cI cJ cZ oA rA res.2 ++ b_s cB cC cI cJ cZ oA rA res.2 ++ b_c cB cC cI cJ cZ oA rA res.2 ++ b_t cB cC cI cJ cZ oA rA res.2 ++ b_d cB cC cI cJ cZ oA rA res.2))) A) ([.ref (oA 3), .int p0, .int p1] : List Value).toArray s 0 0 A) (F0 m 73 ls []) := by
        intro  σ_20 hF0 H locs hP hS ls hl
        subst ej_21
        have hF_23 := hF0
        clear hF0
        obtain ⟨x_24, ex_24, hF_25⟩ := bnd_e hF_23
        clear hF_23
        refine lv_iinc (v := x_24) (lv' := [(3, .int x_24), (0, .ref (oA 3)), (1, .int p0)]) hx hb dX4_ownWords_73 hl (k := 2) rfl (by rw [ex_24]; rfl) (by decide) rfl (fun ls hl => ?_)
        refine lv_goto (tgt := 2) hx hb dX4_ownWords_76 (by decide) ?_
        exact ih_3 (x_24, σ_20) hF_25 _ _ hP hS ls (lv_sub hl [1, 2, 0] rfl)
      refine lv_icmp_ne (tgt := 73) hx hb dX4_ownWords_47 (by decide) (fun c_26 => ?_) (fun c_26 => ?_)
      · have hF_40 := ineg c_26 hF_22
        clear hF_22
        exact Jj_21  σ_18 hF_40 _ _ hP hS ls (lv_sub hl [0, 1, 2] rfl)
      · have hF_27 := ipos c_26 hF_22
        clear hF_22
        refine lv_aload_n hx hb dX4_ownWords_50 rfl (lv_at hl 0 rfl) ?_
        refine va_get (D := (dC, dI)) (ci := 4) (v := .ref (oA 4)) (C := RX4) (T := TX4) (N := 18) hx hb hts ii_X4 hown hK hP 0 rfl rfl 1 (by decide) (hts (.fieldLink RX4 36 "StoryHouse$Meanings" "story" "LStoryHouse$Story;") wq_87) (fun _ h9 => h9) rfl dX4_ownWords_51 ?_
        refine lv_iload_n hx hb dX4_ownWords_54 rfl (lv_at hl 1 rfl) ?_
        refine lv_aload_n hx hb dX4_ownWords_55 rfl (lv_at hl 0 rfl) ?_
        refine va_get (D := (dC, dI)) (ci := 4) (v := .ref (oA 1)) (C := RX4) (T := TX4) (N := 18) hx hb hts ii_X4 hown hK hP 0 rfl rfl 0 (by decide) (hts (.fieldLink RX4 32 "StoryHouse$Meanings" "words" "LStoryHouse$Words;") wq_86) (fun _ h9 => h9) rfl dX4_ownWords_56 ?_
        refine lv_aload_n hx hb dX4_ownWords_59 rfl (lv_at hl 0 rfl) ?_
        refine va_get (D := (dC, dI)) (ci := 4) (v := .ref (oA 1)) (C := RX4) (T := TX4) (N := 18) hx hb hts ii_X4 hown hK hP 0 rfl rfl 0 (by decide) (hts (.fieldLink RX4 32 "StoryHouse$Meanings" "words" "LStoryHouse$Words;") wq_86) (fun _ h9 => h9) rfl dX4_ownWords_60 ?_
        refine lv_iload_n hx hb dX4_ownWords_63 rfl (lv_at hl 2 rfl) ?_
        obtain ⟨u_28, hu_28, hF_29⟩ := Option.bind_eq_some_iff.mp hF_27
        clear hF_27
        have hPc := hP.sub (ws' := (b_w cB cC cI cJ cZ oA rA σ_18)) [7, 8, 9, 10, 11, 12, 13, 14, 15] rfl
        have hDc := (hDD σ_18).sub (ws' := (b_w cB cC cI cJ cZ oA rA σ_18)) [7, 8, 9, 10, 11, 12, 13, 14, 15] (by decide +kernel) rfl
        have hFc := va_free (wc := (b_w cB cC cI cJ cZ oA rA σ_18)) (hDD σ_18) hS hA [7, 8, 9, 10, 11, 12, 13, 14, 15] rfl
        refine g_ofi (wc := (b_w cB cC cI cJ cZ oA rA σ_18)) (wr := (b_m cB cC cI cJ cZ oA rA σ_18 ++ b_s cB cC cI cJ cZ oA rA σ_18 ++ b_c cB cC cI cJ cZ oA rA σ_18 ++ b_t cB cC cI cJ cZ oA rA σ_18 ++ b_d cB cC cI cJ cZ oA rA σ_18)) hP (hDD σ_18) hS hFc [7, 8, 9, 10, 11, 12, 13, 14, 15] [0, 1, 2, 3, 4, 5, 6, 16, 17, 18, 19, 20, 21, 22, 23, 24, 25, 26, 27, 28, 29, 30, 31, 32, 33, 34, 35, 36, 37, 38, 39, 40, 41, 42, 43, 44, 45, 46] rfl rfl (by decide +kernel) (by decide +kernel) (va_runV (As := [.int s_1.1]) (rest := [.ref (oA 1), .int p0, .ref (oA 4)]) ⟨hx, hb, hml, hown, hts⟩ (k_X10_worthOf l dC dI cB cC cI cJ cZ cP oA rA H.size  s_1.1 σ_18 _ hu_28) (cwV 1 hts (g_gV wq_715 wq_653 wq_654 wq_2 wq_655) rfl rfl rfl (by decide +kernel) ⟨Nat.le_of_ble_eq_true rfl, Nat.le_of_ble_eq_true rfl⟩) (g_preV g_bl0 hK hPc hDc hS hE hFc g_to0 (q0 := 0) (ci := 10) rfl rfl) rfl rfl hl.1 rfl (lv_room (Nat.le_of_ble_eq_true rfl)) dX4_ownWords_64 ⟨Nat.le_of_ble_eq_true rfl, Nat.le_of_ble_eq_true rfl⟩) (fun r9 u9 H locs hw9 hP' hD' hS => ?_)
        clear hPc hDc hFc
        subst hw9
        obtain ⟨σ_30, eσ_30, hF_31⟩ := bnd_e hF_29
        clear hF_29
        have hP : va_P (dC, dI) vwCl (b_m cB cC cI cJ cZ oA rA σ_30 ++ b_w cB cC cI cJ cZ oA rA σ_30 ++ b_s cB cC cI cJ cZ oA rA σ_30 ++ b_c cB cC cI cJ cZ oA rA σ_30 ++ b_t cB cC cI cJ cZ oA rA σ_30 ++ b_d cB cC cI cJ cZ oA rA σ_30) H := by rw [eσ_30]; exact hP'.sub [0, 1, 2, 3, 4, 5, 6, 38, 39, 40, 41, 42, 43, 44, 45, 46, 7, 8, 9, 10, 11, 12, 13, 14, 15, 16, 17, 18, 19, 20, 21, 22, 23, 24, 25, 26, 27, 28, 29, 30, 31, 32, 33, 34, 35, 36, 37] rfl
        clear hP' hD'
        obtain ⟨u_32, hu_32, hF_33⟩ := Option.bind_eq_some_iff.mp hF_31
        clear hF_31
        have hPc := hP.sub (ws' := (b_w cB cC cI cJ cZ oA rA σ_30)) [7, 8, 9, 10, 11, 12, 13, 14, 15] rfl
        have hDc := (hDD σ_30).sub (ws' := (b_w cB cC cI cJ cZ oA rA σ_30)) [7, 8, 9, 10, 11, 12, 13, 14, 15] (by decide +kernel) rfl
        have hFc := va_free (wc := (b_w cB cC cI cJ cZ oA rA σ_30)) (hDD σ_30) hS hA [7, 8, 9, 10, 11, 12, 13, 14, 15] rfl
        refine g_ofl (wc := (b_w cB cC cI cJ cZ oA rA σ_30)) (wr := (b_m cB cC cI cJ cZ oA rA σ_30 ++ b_s cB cC cI cJ cZ oA rA σ_30 ++ b_c cB cC cI cJ cZ oA rA σ_30 ++ b_t cB cC cI cJ cZ oA rA σ_30 ++ b_d cB cC cI cJ cZ oA rA σ_30)) hP (hDD σ_30) hS hFc [7, 8, 9, 10, 11, 12, 13, 14, 15] [0, 1, 2, 3, 4, 5, 6, 16, 17, 18, 19, 20, 21, 22, 23, 24, 25, 26, 27, 28, 29, 30, 31, 32, 33, 34, 35, 36, 37, 38, 39, 40, 41, 42, 43, 44, 45, 46] rfl rfl (by decide +kernel) (by decide +kernel) (va_runV (As := [.int u_28.1]) (rest := [.int p0, .ref (oA 4)]) ⟨hx, hb, hml, hown, hts⟩ (k_X10_termOf l dC dI cB cC cI cJ cZ cP oA rA H.size  u_28.1 σ_30 _ hu_32) (cwV 1 hts (g_gV wq_788 wq_789 wq_790 wq_2 wq_791) rfl rfl rfl (by decide +kernel) ⟨Nat.le_of_ble_eq_true rfl, Nat.le_of_ble_eq_true rfl⟩) (g_preV g_bl0 hK hPc hDc hS hE hFc g_to0 (q0 := 0) (ci := 10) rfl rfl) rfl rfl hl.1 rfl (lv_room (Nat.le_of_ble_eq_true rfl)) dX4_ownWords_67 ⟨Nat.le_of_ble_eq_true rfl, Nat.le_of_ble_eq_true rfl⟩) (fun r9 u9 H locs hw9 hP' hD' hS => ?_)
        clear hPc hDc hFc
        subst hw9
        obtain ⟨σ_34, eσ_34, hF_35⟩ := bnd_e hF_33
        clear hF_33
        have hP : va_P (dC, dI) vwCl (b_m cB cC cI cJ cZ oA rA σ_34 ++ b_w cB cC cI cJ cZ oA rA σ_34 ++ b_s cB cC cI cJ cZ oA rA σ_34 ++ b_c cB cC cI cJ cZ oA rA σ_34 ++ b_t cB cC cI cJ cZ oA rA σ_34 ++ b_d cB cC cI cJ cZ oA rA σ_34) H := by rw [eσ_34]; exact hP'.sub [0, 1, 2, 3, 4, 5, 6, 38, 39, 40, 41, 42, 43, 44, 45, 46, 7, 8, 9, 10, 11, 12, 13, 14, 15, 16, 17, 18, 19, 20, 21, 22, 23, 24, 25, 26, 27, 28, 29, 30, 31, 32, 33, 34, 35, 36, 37] rfl
        clear hP' hD'
        obtain ⟨u_36, hu_36, hF_37⟩ := Option.bind_eq_some_iff.mp hF_35
        clear hF_35
        have hPc := hP.sub (ws' := (b_s cB cC cI cJ cZ oA rA σ_34 ++ b_c cB cC cI cJ cZ oA rA σ_34 ++ b_t cB cC cI cJ cZ oA rA σ_34 ++ b_d cB cC cI cJ cZ oA rA σ_34)) [16, 17, 18, 19, 20, 21, 22, 23, 24, 25, 26, 27, 28, 29, 30, 31, 32, 33, 34, 35, 36, 37, 38, 39, 40, 41, 42, 43, 44, 45, 46] rfl
        have hDc := (hDD σ_34).sub (ws' := (b_s cB cC cI cJ cZ oA rA σ_34 ++ b_c cB cC cI cJ cZ oA rA σ_34 ++ b_t cB cC cI cJ cZ oA rA σ_34 ++ b_d cB cC cI cJ cZ oA rA σ_34)) [16, 17, 18, 19, 20, 21, 22, 23, 24, 25, 26, 27, 28, 29, 30, 31, 32, 33, 34, 35, 36, 37, 38, 39, 40, 41, 42, 43, 44, 45, 46] (by decide +kernel) rfl
        have hFc := va_free (wc := (b_s cB cC cI cJ cZ oA rA σ_34 ++ b_c cB cC cI cJ cZ oA rA σ_34 ++ b_t cB cC cI cJ cZ oA rA σ_34 ++ b_d cB cC cI cJ cZ oA rA σ_34)) (hDD σ_34) hS hA [16, 17, 18, 19, 20, 21, 22, 23, 24, 25, 26, 27, 28, 29, 30, 31, 32, 33, 34, 35, 36, 37, 38, 39, 40, 41, 42, 43, 44, 45, 46] rfl
        refine g_ofv (wc := (b_s cB cC cI cJ cZ oA rA σ_34 ++ b_c cB cC cI cJ cZ oA rA σ_34 ++ b_t cB cC cI cJ cZ oA rA σ_34 ++ b_d cB cC cI cJ cZ oA rA σ_34)) (wr := (b_m cB cC cI cJ cZ oA rA σ_34 ++ b_w cB cC cI cJ cZ oA rA σ_34)) hP (hDD σ_34) hS hFc [16, 17, 18, 19, 20, 21, 22, 23, 24, 25, 26, 27, 28, 29, 30, 31, 32, 33, 34, 35, 36, 37, 38, 39, 40, 41, 42, 43, 44, 45, 46] [0, 1, 2, 3, 4, 5, 6, 7, 8, 9, 10, 11, 12, 13, 14, 15] rfl rfl (by decide +kernel) (by decide +kernel) (va_runV (As := [.int p0, .long u_32.1]) (rest := []) ⟨hx, hb, hml, hown, hts⟩ (k_X7_addWord l dC dI cB cC cI cJ cZ cP oA rA H.size  p0 u_32.1 σ_34 _ hu_36) (cwV 2 hts (g_gV wq_793 wq_521 wq_522 wq_5 wq_523) rfl rfl rfl (by decide +kernel) ⟨Nat.le_of_ble_eq_true rfl, Nat.le_of_ble_eq_true rfl⟩) (g_preV g_bl0 hK hPc hDc hS hE hFc g_to0 (q0 := 0) (ci := 7) rfl rfl) rfl rfl hl.1 rfl (lv_room (Nat.le_of_ble_eq_true rfl)) dX4_ownWords_70 ⟨Nat.le_of_ble_eq_true rfl, Nat.le_of_ble_eq_true rfl⟩) (fun u9 H locs hw9 hP' hD' hS => ?_)
        clear hPc hDc hFc
        obtain ⟨σ_38, eσ_38, hF_39⟩ := bnd_e hF_37
        clear hF_37
        have hP : va_P (dC, dI) vwCl (b_m cB cC cI cJ cZ oA rA σ_38 ++ b_w cB cC cI cJ cZ oA rA σ_38 ++ b_s cB cC cI cJ cZ oA rA σ_38 ++ b_c cB cC cI cJ cZ oA rA σ_38 ++ b_t cB cC cI cJ cZ oA rA σ_38 ++ b_d cB cC cI cJ cZ oA rA σ_38) H := by rw [eσ_38]; exact hP'.sub [0, 1, 2, 3, 4, 5, 6, 7, 8, 9, 10, 11, 12, 13, 14, 15, 16, 17, 18, 19, 20, 21, 22, 23, 24, 25, 26, 27, 28, 29, 30, 31, 32, 33, 34, 35, 36, 37, 38, 39, 40, 41, 42, 43, 44, 45, 46] rfl
        clear hP' hD'
        exact Jj_21  σ_38 hF_39 _ _ hP hS ls (lv_sub hl [0, 1, 2] rfl)
    refine lv_icmp_eq (tgt := 38) hx hb dX4_ownWords_22 (by decide) (fun c_41 => ?_) (fun c_41 => ?_)
    · have hF_42 := ipos c_41 hF_14
      clear hF_14
      exact Jj_13  σ_10 hF_42 _ _ hP hS ls (lv_sub hl [0, 1, 2] rfl)
    · have hF_43 := ineg c_41 hF_14
      clear hF_14
      refine lv_aload_n hx hb dX4_ownWords_25 rfl (lv_at hl 0 rfl) ?_
      refine va_get (D := (dC, dI)) (ci := 4) (v := .ref (oA 1)) (C := RX4) (T := TX4) (N := 18) hx hb hts ii_X4 hown hK hP 0 rfl rfl 0 (by decide) (hts (.fieldLink RX4 32 "StoryHouse$Meanings" "words" "LStoryHouse$Words;") wq_86) (fun _ h9 => h9) rfl dX4_ownWords_26 ?_
      refine lv_iload_n hx hb dX4_ownWords_29 rfl (lv_at hl 2 rfl) ?_
      obtain ⟨u_44, hu_44, hF_45⟩ := Option.bind_eq_some_iff.mp hF_43
      clear hF_43
      have hPc := hP.sub (ws' := (b_w cB cC cI cJ cZ oA rA σ_10)) [7, 8, 9, 10, 11, 12, 13, 14, 15] rfl
      have hDc := (hDD σ_10).sub (ws' := (b_w cB cC cI cJ cZ oA rA σ_10)) [7, 8, 9, 10, 11, 12, 13, 14, 15] (by decide +kernel) rfl
      have hFc := va_free (wc := (b_w cB cC cI cJ cZ oA rA σ_10)) (hDD σ_10) hS hA [7, 8, 9, 10, 11, 12, 13, 14, 15] rfl
      refine g_ofi (wc := (b_w cB cC cI cJ cZ oA rA σ_10)) (wr := (b_m cB cC cI cJ cZ oA rA σ_10 ++ b_s cB cC cI cJ cZ oA rA σ_10 ++ b_c cB cC cI cJ cZ oA rA σ_10 ++ b_t cB cC cI cJ cZ oA rA σ_10 ++ b_d cB cC cI cJ cZ oA rA σ_10)) hP (hDD σ_10) hS hFc [7, 8, 9, 10, 11, 12, 13, 14, 15] [0, 1, 2, 3, 4, 5, 6, 16, 17, 18, 19, 20, 21, 22, 23, 24, 25, 26, 27, 28, 29, 30, 31, 32, 33, 34, 35, 36, 37, 38, 39, 40, 41, 42, 43, 44, 45, 46] rfl rfl (by decide +kernel) (by decide +kernel) (va_runV (As := [.int s_1.1]) (rest := []) ⟨hx, hb, hml, hown, hts⟩ (k_X10_kindOf l dC dI cB cC cI cJ cZ cP oA rA H.size  s_1.1 σ_10 _ hu_44) (cwV 1 hts (g_gV wq_714 wq_543 wq_544 wq_2 wq_545) rfl rfl rfl (by decide +kernel) ⟨Nat.le_of_ble_eq_true rfl, Nat.le_of_ble_eq_true rfl⟩) (g_preV g_bl0 hK hPc hDc hS hE hFc g_to0 (q0 := 0) (ci := 10) rfl rfl) rfl rfl hl.1 rfl (lv_room (Nat.le_of_ble_eq_true rfl)) dX4_ownWords_30 ⟨Nat.le_of_ble_eq_true rfl, Nat.le_of_ble_eq_true rfl⟩) (fun r9 u9 H locs hw9 hP' hD' hS => ?_)
      clear hPc hDc hFc
      subst hw9
      obtain ⟨σ_46, eσ_46, hF_47⟩ := bnd_e hF_45
      clear hF_45
      have hP : va_P (dC, dI) vwCl (b_m cB cC cI cJ cZ oA rA σ_46 ++ b_w cB cC cI cJ cZ oA rA σ_46 ++ b_s cB cC cI cJ cZ oA rA σ_46 ++ b_c cB cC cI cJ cZ oA rA σ_46 ++ b_t cB cC cI cJ cZ oA rA σ_46 ++ b_d cB cC cI cJ cZ oA rA σ_46) H := by rw [eσ_46]; exact hP'.sub [0, 1, 2, 3, 4, 5, 6, 38, 39, 40, 41, 42, 43, 44, 45, 46, 7, 8, 9, 10, 11, 12, 13, 14, 15, 16, 17, 18, 19, 20, 21, 22, 23, 24, 25, 26, 27, 28, 29, 30, 31, 32, 33, 34, 35, 36, 37] rfl
      clear hP' hD'
      refine lv_bipush (v := 44) hx hb dX4_ownWords_33 (by decide +kernel) ?_
      refine lv_icmp_ne (tgt := 79) hx hb dX4_ownWords_35 (by decide) (fun c_48 => ?_) (fun c_48 => ?_)
      · have hF_50 := ineg c_48 hF_47
        clear hF_47
        refine lv_iload_n hx hb dX4_ownWords_79 rfl (lv_at hl 2 rfl) ?_
        have h9 := Option.some.inj hF_50
        subst h9
        exact W.iret (v := s_1.1) hx hb hr (fun t ht hW => ⟨⟨s_1.1, (), rfl, rfl, m_end ht hP, hDD _⟩, hS.F ht⟩) hS.2.2 dX4_ownWords_80
      · have hF_49 := ipos c_48 hF_47
        clear hF_47
        exact Jj_13  σ_46 hF_49 _ _ hP hS ls (lv_sub hl [0, 1, 2] rfl)
theorem dX4_varItem_0 : decode cX4_varItem 0 = .ok (.aload_n 0, 1) := by decide +kernel
theorem dX4_varItem_1 : decode cX4_varItem 1 = .ok (.getfield 32, 3) := by decide +kernel
theorem dX4_varItem_4 : decode cX4_varItem 4 = .ok (.iload_n 1, 1) := by decide +kernel
theorem dX4_varItem_5 : decode cX4_varItem 5 = .ok (.iconst 3, 1) := by decide +kernel
theorem dX4_varItem_6 : decode cX4_varItem 6 = .ok (.iadd, 1) := by decide +kernel
theorem dX4_varItem_7 : decode cX4_varItem 7 = .ok (.invokevirtual 116, 3) := by decide +kernel
theorem dX4_varItem_10 : decode cX4_varItem 10 = .ok (.bipush 45, 2) := by decide +kernel
theorem dX4_varItem_12 : decode cX4_varItem 12 = .ok (.if_icmp .ne 7, 3) := by decide +kernel
theorem dX4_varItem_15 : decode cX4_varItem 15 = .ok (.iconst 1, 1) := by decide +kernel
theorem dX4_varItem_16 : decode cX4_varItem 16 = .ok (.goto 4, 3) := by decide +kernel
theorem dX4_varItem_19 : decode cX4_varItem 19 = .ok (.iconst 0, 1) := by decide +kernel
theorem dX4_varItem_20 : decode cX4_varItem 20 = .ok (.istore_n 2, 1) := by decide +kernel
theorem dX4_varItem_21 : decode cX4_varItem 21 = .ok (.aload_n 0, 1) := by decide +kernel
theorem dX4_varItem_22 : decode cX4_varItem 22 = .ok (.getfield 32, 3) := by decide +kernel
theorem dX4_varItem_25 : decode cX4_varItem 25 = .ok (.iload_n 2, 1) := by decide +kernel
theorem dX4_varItem_26 : decode cX4_varItem 26 = .ok (.ifCond .eq 9, 3) := by decide +kernel
theorem dX4_varItem_29 : decode cX4_varItem 29 = .ok (.iload_n 1, 1) := by decide +kernel
theorem dX4_varItem_30 : decode cX4_varItem 30 = .ok (.iconst 4, 1) := by decide +kernel
theorem dX4_varItem_31 : decode cX4_varItem 31 = .ok (.iadd, 1) := by decide +kernel
theorem dX4_varItem_32 : decode cX4_varItem 32 = .ok (.goto 6, 3) := by decide +kernel
theorem dX4_varItem_35 : decode cX4_varItem 35 = .ok (.iload_n 1, 1) := by decide +kernel
theorem dX4_varItem_36 : decode cX4_varItem 36 = .ok (.iconst 3, 1) := by decide +kernel
theorem dX4_varItem_37 : decode cX4_varItem 37 = .ok (.iadd, 1) := by decide +kernel
theorem dX4_varItem_38 : decode cX4_varItem 38 = .ok (.invokevirtual 119, 3) := by decide +kernel
theorem dX4_varItem_41 : decode cX4_varItem 41 = .ok (.istore_n 3, 1) := by decide +kernel
theorem dX4_varItem_42 : decode cX4_varItem 42 = .ok (.aload_n 0, 1) := by decide +kernel
theorem dX4_varItem_43 : decode cX4_varItem 43 = .ok (.getfield 36, 3) := by decide +kernel
theorem dX4_varItem_46 : decode cX4_varItem 46 = .ok (.getfield 250, 3) := by decide +kernel
theorem dX4_varItem_49 : decode cX4_varItem 49 = .ok (.aload_n 0, 1) := by decide +kernel
theorem dX4_varItem_50 : decode cX4_varItem 50 = .ok (.iload_n 1, 1) := by decide +kernel
theorem dX4_varItem_51 : decode cX4_varItem 51 = .ok (.iconst 1, 1) := by decide +kernel
theorem dX4_varItem_52 : decode cX4_varItem 52 = .ok (.iadd, 1) := by decide +kernel
theorem dX4_varItem_53 : decode cX4_varItem 53 = .ok (.invokevirtual 193, 3) := by decide +kernel
theorem dX4_varItem_56 : decode cX4_varItem 56 = .ok (.iload_n 2, 1) := by decide +kernel
theorem dX4_varItem_57 : decode cX4_varItem 57 = .ok (.ifCond .eq 8, 3) := by decide +kernel
theorem dX4_varItem_60 : decode cX4_varItem 60 = .ok (.iload_n 3, 1) := by decide +kernel
theorem dX4_varItem_61 : decode cX4_varItem 61 = .ok (.ineg, 1) := by decide +kernel
theorem dX4_varItem_62 : decode cX4_varItem 62 = .ok (.goto 4, 3) := by decide +kernel
theorem dX4_varItem_65 : decode cX4_varItem 65 = .ok (.iload_n 3, 1) := by decide +kernel
theorem dX4_varItem_66 : decode cX4_varItem 66 = .ok (.invokestatic 112, 3) := by decide +kernel
theorem dX4_varItem_69 : decode cX4_varItem 69 = .ok (.return_, 1) := by decide +kernel
def F_X4_varItem (p0 : Int32) (Γ : HS) : HR :=
  (F_X10_kindOf (p0 + 3) Γ).bind fun u_1 =>
  bnd (mrg (fun j => j == 1) Γ u_1.2) fun σ_3 =>
  bnd (fun (t_5 : Int32) (σ_6 : HS) => (
    bnd (fun (t_10 : Int32) (σ_11 : HS) => (
      (F_X10_worthOf t_10 σ_11).bind fun u_15 =>
      bnd (mrg (fun j => j == 1) σ_11 u_15.2) fun σ_17 =>
      (F_X4_numberOf (p0 + 1) σ_17).bind fun u_19 =>
      bnd (fun (t_21 : Int32) (σ_22 : HS) => (
        bnd (cA' σ_22 4 11 (g_put 100 ((σ_22 4).2.1 11) u_19.1 t_21)) fun σ_26 =>
        some (0, σ_26)
      ) : Int32 → HS → HR) fun j_23 =>
      if t_5 = 0 then (
        j_23 u_15.1 u_19.2
      ) else (
        j_23 (-u_15.1) u_19.2
      )
    ) : Int32 → HS → HR) fun j_12 =>
    if t_5 = 0 then (
      j_12 (p0 + 3) σ_6
    ) else (
      j_12 (p0 + 4) σ_6
    )
  ) : Int32 → HS → HR) fun j_7 =>
  if u_1.1 = 45 then (
    j_7 1 σ_3
  ) else (
    j_7 0 σ_3
  )
set_option maxHeartbeats 4000000 in
set_option maxRecDepth 100000 in
theorem k_X4_varItem (l : Launch) (dC : Nat → ClassId) (dI : Nat → Nat → Nat) (cB cC cI cJ cZ cP : ClassId) (oA : Nat → Nat) (rA : Nat → Nat → Nat) (sz : Nat)  (p0 : Int32) (Γ : HS) (res : Int32 × HS) (hF : F_X4_varItem p0 Γ = some res) : Met l yX4_varItem (g_ws yX4_varItem cX4_varItem 4 none) ({ frames := 5, cells := 0, slots := 0, locals := 124 }) (va_Pc [.ref (oA 3), .int p0] (g_B (dC, dI) [(cB, .byte), (cC, .char), (cI, .int), (cJ, .long), (cZ, .boolean), (cP, .object "StoryHouse$Play")] sz (b_m cB cC cI cJ cZ oA rA Γ ++ b_w cB cC cI cJ cZ oA rA Γ ++ b_s cB cC cI cJ cZ oA rA Γ ++ b_c cB cC cI cJ cZ oA rA Γ ++ b_t cB cC cI cJ cZ oA rA Γ ++ b_d cB cC cI cJ cZ oA rA Γ) g_0)) (va_Qv (fun (_ : Unit) => True) (g_Bo (dC, dI) (va_A (b_m cB cC cI cJ cZ oA rA Γ ++ b_w cB cC cI cJ cZ oA rA Γ ++ b_s cB cC cI cJ cZ oA rA Γ ++ b_c cB cC cI cJ cZ oA rA Γ ++ b_t cB cC cI cJ cZ oA rA Γ ++ b_d cB cC cI cJ cZ oA rA Γ) sz) (fun (_ : Unit) => (b_m cB cC cI cJ cZ oA rA res.2 ++ b_w cB cC cI cJ cZ oA rA res.2 ++ b_s cB cC cI cJ cZ oA rA res.2 ++ b_c cB cC cI cJ cZ oA rA res.2 ++ b_t cB cC cI cJ cZ oA rA res.2 ++ b_d cB cC cI cJ cZ oA rA res.2))) (va_A (b_m cB cC cI cJ cZ oA rA Γ ++ b_w cB cC cI cJ cZ oA rA Γ ++ b_s cB cC cI cJ cZ oA rA Γ ++ b_c cB cC cI cJ cZ oA rA Γ ++ b_t cB cC cI cJ cZ oA rA Γ ++ b_d cB cC cI cJ cZ oA rA Γ) sz)) 0 0 (va_A (b_m cB cC cI cJ cZ oA rA Γ ++ b_w cB cC cI cJ cZ oA rA Γ ++ b_s cB cC cI cJ cZ oA rA Γ ++ b_c cB cC cI cJ cZ oA rA Γ ++ b_t cB cC cI cJ cZ oA rA Γ ++ b_d cB cC cI cJ cZ oA rA Γ) sz) := by
  refine Met.ofW (cc := cX4_varItem) (maxL := 4) (ret := none) (by decide) rfl ?_
  intro p e s m args below meth c s₁ B hml hv
  obtain ⟨rfl, hsz, hP, hK, hD0, hE, hX⟩ := hv
  have hx := B.exec
  have hb := B.bytes
  have hr := B.returns
  have hts0 := atoms_spec (ws := g_ws yX4_varItem cX4_varItem 4 none) B.pre
  have hts : ∀ w ∈ lw_good, w.before ([.ref (oA 3), .int p0] : List Value).toArray s = true := fun w z => hts0 w (List.mem_cons_of_mem _ z)
  have hown : s.vm.findClass RX4 = some m.cls := findClass_of_methodNamed B.named
  have hlocks := B.notSynchronized
  subst hsz
  have hD1 := hD0.self (sz := s.heap.size)
  generalize hAe : va_A (b_m cB cC cI cJ cZ oA rA Γ ++ b_w cB cC cI cJ cZ oA rA Γ ++ b_s cB cC cI cJ cZ oA rA Γ ++ b_c cB cC cI cJ cZ oA rA Γ ++ b_t cB cC cI cJ cZ oA rA Γ ++ b_d cB cC cI cJ cZ oA rA Γ) s.heap.size = A at hD1 hE hX ⊢
  have hA : ∀ q : Nat, s.heap.size ≤ q → A q := fun q z => by rw [← hAe]; exact Or.inr z
  have hDD : ∀ Γ : HS, va_D A (b_m cB cC cI cJ cZ oA rA Γ ++ b_w cB cC cI cJ cZ oA rA Γ ++ b_s cB cC cI cJ cZ oA rA Γ ++ b_c cB cC cI cJ cZ oA rA Γ ++ b_t cB cC cI cJ cZ oA rA Γ ++ b_d cB cC cI cJ cZ oA rA Γ) := fun Γ9 => va_D_fst (ws := (b_m cB cC cI cJ cZ oA rA Γ ++ b_w cB cC cI cJ cZ oA rA Γ ++ b_s cB cC cI cJ cZ oA rA Γ ++ b_c cB cC cI cJ cZ oA rA Γ ++ b_t cB cC cI cJ cZ oA rA Γ ++ b_d cB cC cI cJ cZ oA rA Γ)) (ws' := (b_m cB cC cI cJ cZ oA rA Γ9 ++ b_w cB cC cI cJ cZ oA rA Γ9 ++ b_s cB cC cI cJ cZ oA rA Γ9 ++ b_c cB cC cI cJ cZ oA rA Γ9 ++ b_t cB cC cI cJ cZ oA rA Γ9 ++ b_d cB cC cI cJ cZ oA rA Γ9)) rfl hD1
  have hN := hE.1
  have hS : va_S A s.heap s.heap [] := va_S.rf
  have hl := lv_entry ([.ref (oA 3), .int p0]) (n := 4) (Nat.le_of_ble_eq_true rfl)
  rw [lg_entry_eq]
  generalize (lg_sl ([.ref (oA 3), .int p0]) ++ List.replicate (4 - (lg_sl ([.ref (oA 3), .int p0])).length) Slot.unset).toArray = ls at hl ⊢
  have hl : lv_has ls 4 [(0, .ref (oA 3)), (1, .int p0)] := hl
  unfold F_X4_varItem at hF
  refine lv_aload_n hx hb dX4_varItem_0 rfl (lv_at hl 0 rfl) ?_
  refine va_get (D := (dC, dI)) (ci := 4) (v := .ref (oA 1)) (C := RX4) (T := TX4) (N := 18) hx hb hts ii_X4 hown hK hP 0 rfl rfl 0 (by decide) (hts (.fieldLink RX4 32 "StoryHouse$Meanings" "words" "LStoryHouse$Words;") wq_86) (fun _ h9 => h9) rfl dX4_varItem_1 ?_
  refine lv_iload_n hx hb dX4_varItem_4 rfl (lv_at hl 1 rfl) ?_
  refine lv_iconst (v := 3) hx hb dX4_varItem_5 (by decide +kernel) ?_
  refine lv_iadd hx hb dX4_varItem_6 ?_
  obtain ⟨u_1, hu_1, hF_2⟩ := Option.bind_eq_some_iff.mp hF
  clear hF
  have hPc := hP.sub (ws' := (b_w cB cC cI cJ cZ oA rA Γ)) [7, 8, 9, 10, 11, 12, 13, 14, 15] rfl
  have hDc := (hDD Γ).sub (ws' := (b_w cB cC cI cJ cZ oA rA Γ)) [7, 8, 9, 10, 11, 12, 13, 14, 15] (by decide +kernel) rfl
  have hFc := va_free (wc := (b_w cB cC cI cJ cZ oA rA Γ)) (hDD Γ) hS hA [7, 8, 9, 10, 11, 12, 13, 14, 15] rfl
  refine g_ofi (wc := (b_w cB cC cI cJ cZ oA rA Γ)) (wr := (b_m cB cC cI cJ cZ oA rA Γ ++ b_s cB cC cI cJ cZ oA rA Γ ++ b_c cB cC cI cJ cZ oA rA Γ ++ b_t cB cC cI cJ cZ oA rA Γ ++ b_d cB cC cI cJ cZ oA rA Γ)) hP (hDD Γ) hS hFc [7, 8, 9, 10, 11, 12, 13, 14, 15] [0, 1, 2, 3, 4, 5, 6, 16, 17, 18, 19, 20, 21, 22, 23, 24, 25, 26, 27, 28, 29, 30, 31, 32, 33, 34, 35, 36, 37, 38, 39, 40, 41, 42, 43, 44, 45, 46] rfl rfl (by decide +kernel) (by decide +kernel) (va_runV (As := [.int (p0 + 3)]) (rest := []) ⟨hx, hb, hml, hown, hts⟩ (k_X10_kindOf l dC dI cB cC cI cJ cZ cP oA rA s.heap.size  (p0 + 3) Γ _ hu_1) (cwV 1 hts (g_gV wq_714 wq_543 wq_544 wq_2 wq_545) rfl rfl rfl (by decide +kernel) ⟨Nat.le_of_ble_eq_true rfl, Nat.le_of_ble_eq_true rfl⟩) (g_preV g_bl0 hK hPc hDc hS hE hFc g_to0 (q0 := 0) (ci := 10) rfl rfl) rfl rfl hl.1 rfl (lv_room (Nat.le_of_ble_eq_true rfl)) dX4_varItem_7 ⟨Nat.le_of_ble_eq_true rfl, Nat.le_of_ble_eq_true rfl⟩) (fun r9 u9 H locs hw9 hP' hD' hS => ?_)
  clear hPc hDc hFc
  subst hw9
  obtain ⟨σ_3, eσ_3, hF_4⟩ := bnd_e hF_2
  clear hF_2
  have hP : va_P (dC, dI) vwCl (b_m cB cC cI cJ cZ oA rA σ_3 ++ b_w cB cC cI cJ cZ oA rA σ_3 ++ b_s cB cC cI cJ cZ oA rA σ_3 ++ b_c cB cC cI cJ cZ oA rA σ_3 ++ b_t cB cC cI cJ cZ oA rA σ_3 ++ b_d cB cC cI cJ cZ oA rA σ_3) H := by rw [eσ_3]; exact hP'.sub [0, 1, 2, 3, 4, 5, 6, 38, 39, 40, 41, 42, 43, 44, 45, 46, 7, 8, 9, 10, 11, 12, 13, 14, 15, 16, 17, 18, 19, 20, 21, 22, 23, 24, 25, 26, 27, 28, 29, 30, 31, 32, 33, 34, 35, 36, 37] rfl
  clear hP' hD'
  refine lv_bipush (v := 45) hx hb dX4_varItem_10 (by decide +kernel) ?_
  obtain ⟨j_7, ej_7, hF_8⟩ := bnd_e hF_4
  clear hF_4
  have Jj_7 : ∀ (t_5 : Int32) (σ_6 : HS), j_7 t_5 σ_6 = some res → ∀ (H : Heap) (locs : List Loc), va_P (dC, dI) vwCl (b_m cB cC cI cJ cZ oA rA σ_6 ++ b_w cB cC cI cJ cZ oA rA σ_6 ++ b_s cB cC cI cJ cZ oA rA σ_6 ++ b_c cB cC cI cJ cZ oA rA σ_6 ++ b_t cB cC cI cJ cZ oA rA σ_6 ++ b_d cB cC cI cJ cZ oA rA σ_6) H → va_S A s.heap H locs → ∀ ls : Array Slot, lv_has ls 4 [(0, .ref (oA 3)), (1, .int p0)] → W p l e (headSpec (g_ws yX4_varItem cX4_varItem 4 none) { frames := 5, cells := 0, slots := 0, locals := 124 }).room s m ([.ref (oA 3), .int p0] : List Value).toArray below meth c H locs 0 0 (MQ below (va_Qv (fun (_ : Unit) => True) (g_Bo (dC, dI) A (fun (_ : Unit) => (b_m cB cC cI cJ cZ oA rA res.2 ++ b_w cB cC cI cJ cZ oA rA res.2 ++ b_s cB cC cI cJ cZ oA rA res.2 ++ b_c cB cC cI cJ cZ oA rA res.2 ++ b_t cB cC cI cJ cZ oA rA res.2 ++ b_d cB cC cI cJ cZ oA rA res.2))) A) ([.ref (oA 3), .int p0] : List Value).toArray s 0 0 A) (F0 m 20 ls [.int t_5]) := by
    intro t_5 σ_6 hF0 H locs hP hS ls hl
    subst ej_7
    have hF_9 := hF0
    clear hF0
    refine lv_istore_n (lv' := [(2, .int t_5), (0, .ref (oA 3)), (1, .int p0)]) hx hb dX4_varItem_20 rfl hl (by decide) rfl (fun ls hl => ?_)
    refine lv_aload_n hx hb dX4_varItem_21 rfl (lv_at hl 1 rfl) ?_
    refine va_get (D := (dC, dI)) (ci := 4) (v := .ref (oA 1)) (C := RX4) (T := TX4) (N := 18) hx hb hts ii_X4 hown hK hP 0 rfl rfl 0 (by decide) (hts (.fieldLink RX4 32 "StoryHouse$Meanings" "words" "LStoryHouse$Words;") wq_86) (fun _ h9 => h9) rfl dX4_varItem_22 ?_
    refine lv_iload_n hx hb dX4_varItem_25 rfl (lv_at hl 0 rfl) ?_
    obtain ⟨j_12, ej_12, hF_13⟩ := bnd_e hF_9
    clear hF_9
    have Jj_12 : ∀ (t_10 : Int32) (σ_11 : HS), j_12 t_10 σ_11 = some res → ∀ (H : Heap) (locs : List Loc), va_P (dC, dI) vwCl (b_m cB cC cI cJ cZ oA rA σ_11 ++ b_w cB cC cI cJ cZ oA rA σ_11 ++ b_s cB cC cI cJ cZ oA rA σ_11 ++ b_c cB cC cI cJ cZ oA rA σ_11 ++ b_t cB cC cI cJ cZ oA rA σ_11 ++ b_d cB cC cI cJ cZ oA rA σ_11) H → va_S A s.heap H locs → ∀ ls : Array Slot, lv_has ls 4 [(0, .ref (oA 3)), (1, .int p0), (2, .int t_5)] → W p l e (headSpec (g_ws yX4_varItem cX4_varItem 4 none) { frames := 5, cells := 0, slots := 0, locals := 124 }).room s m ([.ref (oA 3), .int p0] : List Value).toArray below meth c H locs 0 0 (MQ below (va_Qv (fun (_ : Unit) => True) (g_Bo (dC, dI) A (fun (_ : Unit) => (b_m cB cC cI cJ cZ oA rA res.2 ++ b_w cB cC cI cJ cZ oA rA res.2 ++ b_s cB cC cI cJ cZ oA rA res.2 ++ b_c cB cC cI cJ cZ oA rA res.2 ++ b_t cB cC cI cJ cZ oA rA res.2 ++ b_d cB cC cI cJ cZ oA rA res.2))) A) ([.ref (oA 3), .int p0] : List Value).toArray s 0 0 A) (F0 m 38 ls [.int t_10, .ref (oA 1)]) := by
      intro t_10 σ_11 hF0 H locs hP hS ls hl
      subst ej_12
      have hF_14 := hF0
      clear hF0
      obtain ⟨u_15, hu_15, hF_16⟩ := Option.bind_eq_some_iff.mp hF_14
      clear hF_14
      have hPc := hP.sub (ws' := (b_w cB cC cI cJ cZ oA rA σ_11)) [7, 8, 9, 10, 11, 12, 13, 14, 15] rfl
      have hDc := (hDD σ_11).sub (ws' := (b_w cB cC cI cJ cZ oA rA σ_11)) [7, 8, 9, 10, 11, 12, 13, 14, 15] (by decide +kernel) rfl
      have hFc := va_free (wc := (b_w cB cC cI cJ cZ oA rA σ_11)) (hDD σ_11) hS hA [7, 8, 9, 10, 11, 12, 13, 14, 15] rfl
      refine g_ofi (wc := (b_w cB cC cI cJ cZ oA rA σ_11)) (wr := (b_m cB cC cI cJ cZ oA rA σ_11 ++ b_s cB cC cI cJ cZ oA rA σ_11 ++ b_c cB cC cI cJ cZ oA rA σ_11 ++ b_t cB cC cI cJ cZ oA rA σ_11 ++ b_d cB cC cI cJ cZ oA rA σ_11)) hP (hDD σ_11) hS hFc [7, 8, 9, 10, 11, 12, 13, 14, 15] [0, 1, 2, 3, 4, 5, 6, 16, 17, 18, 19, 20, 21, 22, 23, 24, 25, 26, 27, 28, 29, 30, 31, 32, 33, 34, 35, 36, 37, 38, 39, 40, 41, 42, 43, 44, 45, 46] rfl rfl (by decide +kernel) (by decide +kernel) (va_runV (As := [.int t_10]) (rest := []) ⟨hx, hb, hml, hown, hts⟩ (k_X10_worthOf l dC dI cB cC cI cJ cZ cP oA rA H.size  t_10 σ_11 _ hu_15) (cwV 1 hts (g_gV wq_715 wq_653 wq_654 wq_2 wq_655) rfl rfl rfl (by decide +kernel) ⟨Nat.le_of_ble_eq_true rfl, Nat.le_of_ble_eq_true rfl⟩) (g_preV g_bl0 hK hPc hDc hS hE hFc g_to0 (q0 := 0) (ci := 10) rfl rfl) rfl rfl hl.1 rfl (lv_room (Nat.le_of_ble_eq_true rfl)) dX4_varItem_38 ⟨Nat.le_of_ble_eq_true rfl, Nat.le_of_ble_eq_true rfl⟩) (fun r9 u9 H locs hw9 hP' hD' hS => ?_)
      clear hPc hDc hFc
      subst hw9
      obtain ⟨σ_17, eσ_17, hF_18⟩ := bnd_e hF_16
      clear hF_16
      have hP : va_P (dC, dI) vwCl (b_m cB cC cI cJ cZ oA rA σ_17 ++ b_w cB cC cI cJ cZ oA rA σ_17 ++ b_s cB cC cI cJ cZ oA rA σ_17 ++ b_c cB cC cI cJ cZ oA rA σ_17 ++ b_t cB cC cI cJ cZ oA rA σ_17 ++ b_d cB cC cI cJ cZ oA rA σ_17) H := by rw [eσ_17]; exact hP'.sub [0, 1, 2, 3, 4, 5, 6, 38, 39, 40, 41, 42, 43, 44, 45, 46, 7, 8, 9, 10, 11, 12, 13, 14, 15, 16, 17, 18, 19, 20, 21, 22, 23, 24, 25, 26, 27, 28, 29, 30, 31, 32, 33, 34, 35, 36, 37] rfl
      clear hP' hD'
      refine lv_istore_n (lv' := [(3, .int u_15.1), (0, .ref (oA 3)), (1, .int p0), (2, .int t_5)]) hx hb dX4_varItem_41 rfl hl (by decide) rfl (fun ls hl => ?_)
      refine lv_aload_n hx hb dX4_varItem_42 rfl (lv_at hl 1 rfl) ?_
      refine va_get (D := (dC, dI)) (ci := 4) (v := .ref (oA 4)) (C := RX4) (T := TX4) (N := 18) hx hb hts ii_X4 hown hK hP 0 rfl rfl 1 (by decide) (hts (.fieldLink RX4 36 "StoryHouse$Meanings" "story" "LStoryHouse$Story;") wq_87) (fun _ h9 => h9) rfl dX4_varItem_43 ?_
      refine va_get (D := (dC, dI)) (ci := 7) (v := .ref (rA 4 11)) (C := RX7) (T := TX7) (N := 19) hx hb hts ii_X7 hown hK hP 16 rfl rfl 11 (by decide) (hts (.fieldLink RX4 250 "StoryHouse$Story" "initials" "[I") wq_180) (fun _ h9 => h9) rfl dX4_varItem_46 ?_
      refine lv_aload_n hx hb dX4_varItem_49 rfl (lv_at hl 1 rfl) ?_
      refine lv_iload_n hx hb dX4_varItem_50 rfl (lv_at hl 2 rfl) ?_
      refine lv_iconst (v := 1) hx hb dX4_varItem_51 (by decide +kernel) ?_
      refine lv_iadd hx hb dX4_varItem_52 ?_
      obtain ⟨u_19, hu_19, hF_20⟩ := Option.bind_eq_some_iff.mp hF_18
      clear hF_18
      have hPc := hP.sub (ws' := (b_m cB cC cI cJ cZ oA rA σ_17 ++ b_w cB cC cI cJ cZ oA rA σ_17 ++ b_s cB cC cI cJ cZ oA rA σ_17 ++ b_c cB cC cI cJ cZ oA rA σ_17 ++ b_t cB cC cI cJ cZ oA rA σ_17 ++ b_d cB cC cI cJ cZ oA rA σ_17)) [0, 1, 2, 3, 4, 5, 6, 7, 8, 9, 10, 11, 12, 13, 14, 15, 16, 17, 18, 19, 20, 21, 22, 23, 24, 25, 26, 27, 28, 29, 30, 31, 32, 33, 34, 35, 36, 37, 38, 39, 40, 41, 42, 43, 44, 45, 46] rfl
      have hDc := (hDD σ_17).sub (ws' := (b_m cB cC cI cJ cZ oA rA σ_17 ++ b_w cB cC cI cJ cZ oA rA σ_17 ++ b_s cB cC cI cJ cZ oA rA σ_17 ++ b_c cB cC cI cJ cZ oA rA σ_17 ++ b_t cB cC cI cJ cZ oA rA σ_17 ++ b_d cB cC cI cJ cZ oA rA σ_17)) [0, 1, 2, 3, 4, 5, 6, 7, 8, 9, 10, 11, 12, 13, 14, 15, 16, 17, 18, 19, 20, 21, 22, 23, 24, 25, 26, 27, 28, 29, 30, 31, 32, 33, 34, 35, 36, 37, 38, 39, 40, 41, 42, 43, 44, 45, 46] (by decide +kernel) rfl
      have hFc := va_free (wc := (b_m cB cC cI cJ cZ oA rA σ_17 ++ b_w cB cC cI cJ cZ oA rA σ_17 ++ b_s cB cC cI cJ cZ oA rA σ_17 ++ b_c cB cC cI cJ cZ oA rA σ_17 ++ b_t cB cC cI cJ cZ oA rA σ_17 ++ b_d cB cC cI cJ cZ oA rA σ_17)) (hDD σ_17) hS hA [0, 1, 2, 3, 4, 5, 6, 7, 8, 9, 10, 11, 12, 13, 14, 15, 16, 17, 18, 19, 20, 21, 22, 23, 24, 25, 26, 27, 28, 29, 30, 31, 32, 33, 34, 35, 36, 37, 38, 39, 40, 41, 42, 43, 44, 45, 46] rfl
      refine g_ofi (wc := (b_m cB cC cI cJ cZ oA rA σ_17 ++ b_w cB cC cI cJ cZ oA rA σ_17 ++ b_s cB cC cI cJ cZ oA rA σ_17 ++ b_c cB cC cI cJ cZ oA rA σ_17 ++ b_t cB cC cI cJ cZ oA rA σ_17 ++ b_d cB cC cI cJ cZ oA rA σ_17)) (wr := ([] : va_W)) hP (hDD σ_17) hS hFc [0, 1, 2, 3, 4, 5, 6, 7, 8, 9, 10, 11, 12, 13, 14, 15, 16, 17, 18, 19, 20, 21, 22, 23, 24, 25, 26, 27, 28, 29, 30, 31, 32, 33, 34, 35, 36, 37, 38, 39, 40, 41, 42, 43, 44, 45, 46] [] rfl rfl (by decide +kernel) (by decide +kernel) (va_runV (As := [.int (p0 + 1)]) (rest := [.ref (rA 4 11)]) ⟨hx, hb, hml, hown, hts⟩ (k_X4_numberOf l dC dI cB cC cI cJ cZ cP oA rA H.size  (p0 + 1) σ_17 _ hu_19) (cwV 1 hts (g_gV wq_769 wq_770 wq_2051 wq_4 wq_771) rfl rfl rfl (by decide +kernel) ⟨Nat.le_of_ble_eq_true rfl, Nat.le_of_ble_eq_true rfl⟩) (g_preV g_bl0 hK hPc hDc hS hE hFc g_to0 (q0 := 0) (ci := 4) rfl rfl) rfl rfl hl.1 rfl (lv_room (Nat.le_of_ble_eq_true rfl)) dX4_varItem_53 ⟨Nat.le_of_ble_eq_true rfl, Nat.le_of_ble_eq_true rfl⟩) (fun r9 u9 H locs hw9 hP' hD' hS => ?_)
      clear hPc hDc hFc
      subst hw9
      have hP : va_P (dC, dI) vwCl (b_m cB cC cI cJ cZ oA rA u_19.2 ++ b_w cB cC cI cJ cZ oA rA u_19.2 ++ b_s cB cC cI cJ cZ oA rA u_19.2 ++ b_c cB cC cI cJ cZ oA rA u_19.2 ++ b_t cB cC cI cJ cZ oA rA u_19.2 ++ b_d cB cC cI cJ cZ oA rA u_19.2) H := hP'
      clear hP' hD'
      refine lv_iload_n hx hb dX4_varItem_56 rfl (lv_at hl 3 rfl) ?_
      obtain ⟨j_23, ej_23, hF_24⟩ := bnd_e hF_20
      clear hF_20
      have Jj_23 : ∀ (t_21 : Int32) (σ_22 : HS), j_23 t_21 σ_22 = some res → ∀ (H : Heap) (locs : List Loc), va_P (dC, dI) vwCl (b_m cB cC cI cJ cZ oA rA σ_22 ++ b_w cB cC cI cJ cZ oA rA σ_22 ++ b_s cB cC cI cJ cZ oA rA σ_22 ++ b_c cB cC cI cJ cZ oA rA σ_22 ++ b_t cB cC cI cJ cZ oA rA σ_22 ++ b_d cB cC cI cJ cZ oA rA σ_22) H → va_S A s.heap H locs → ∀ ls : Array Slot, lv_has ls 4 [] → W p l e (headSpec (g_ws yX4_varItem cX4_varItem 4 none) { frames := 5, cells := 0, slots := 0, locals := 124 }).room s m ([.ref (oA 3), .int p0] : List Value).toArray below meth c H locs 0 0 (MQ below (va_Qv (fun (_ : Unit) => True) (g_Bo (dC, dI) A (fun (_ : Unit) => (b_m cB cC cI cJ cZ oA rA res.2 ++ b_w cB cC cI cJ cZ oA rA res.2 ++ b_s cB cC cI cJ cZ oA rA res.2 ++ b_c cB cC cI cJ cZ oA rA res.2 ++ b_t cB cC cI cJ cZ oA rA res.2 ++ b_d cB cC cI cJ cZ oA rA res.2))) A) ([.ref (oA 3), .int p0] : List Value).toArray s 0 0 A) (F0 m 66 ls [.int t_21, .int u_19.1, .ref (rA 4 11)]) := by
        intro t_21 σ_22 hF0 H locs hP hS ls hl
        subst ej_23
        have hF_25 := hF0
        clear hF0
        have hPc := hP.sub (ws' := [(rA 4 11, .inl (cI, 100, .inl ((σ_22 4).2.1 11)))]) [28] rfl
        have hDc := (hDD σ_22).sub (ws' := [(rA 4 11, .inl (cI, 100, .inl ((σ_22 4).2.1 11)))]) [28] (by decide +kernel) rfl
        have hFc := va_free (wc := [(rA 4 11, .inl (cI, 100, .inl ((σ_22 4).2.1 11)))]) (hDD σ_22) hS hA [28] rfl
        refine g_ofv (wc := [(rA 4 11, .inl (cI, 100, .inl ((σ_22 4).2.1 11)))]) (wr := (((b_m cB cC cI cJ cZ oA rA σ_22 ++ b_w cB cC cI cJ cZ oA rA σ_22 ++ b_s cB cC cI cJ cZ oA rA σ_22 ++ b_c cB cC cI cJ cZ oA rA σ_22 ++ b_t cB cC cI cJ cZ oA rA σ_22 ++ b_d cB cC cI cJ cZ oA rA σ_22)).eraseIdx 28)) hP (hDD σ_22) hS hFc [28] [0, 1, 2, 3, 4, 5, 6, 7, 8, 9, 10, 11, 12, 13, 14, 15, 16, 17, 18, 19, 20, 21, 22, 23, 24, 25, 26, 27, 29, 30, 31, 32, 33, 34, 35, 36, 37, 38, 39, 40, 41, 42, 43, 44, 45, 46] rfl rfl (by decide +kernel) (by decide +kernel) (va_runSN (As := [.ref (rA 4 11), .int u_19.1, .int t_21]) (rest := []) ⟨hx, hb, hml, hown, hts⟩ (c_X11_put l dC dI cB cC cI cJ cZ cP H.size (rA 4 11) u_19.1 t_21 100 ((σ_22 4).2.1 11) (by decide)) ⟨va_cnB 3 hts (g_gA wq_412) rfl rfl rfl (hN.at 23 rfl) (hts (.initialized RX11) wq_1) (by decide +kernel) ⟨Nat.le_of_ble_eq_true rfl, Nat.le_of_ble_eq_true rfl⟩, (hts (.static yX11_put) wq_411), trivial⟩ (g_preS g_bl0 hK hPc hDc hS hE hFc g_to0) rfl rfl hl.1 rfl (lv_room (Nat.le_of_ble_eq_true rfl)) dX4_varItem_66 ⟨Nat.le_of_ble_eq_true rfl, Nat.le_of_ble_eq_true rfl⟩) (fun g9 H locs hw9 hP' hD' hS => ?_)
        clear hPc hDc hFc hD'
        obtain ⟨σ_26, eσ_26, hF_27⟩ := bnd_e hF_25
        clear hF_25
        subst hw9
        have hP : va_P (dC, dI) vwCl (b_m cB cC cI cJ cZ oA rA σ_26 ++ b_w cB cC cI cJ cZ oA rA σ_26 ++ b_s cB cC cI cJ cZ oA rA σ_26 ++ b_c cB cC cI cJ cZ oA rA σ_26 ++ b_t cB cC cI cJ cZ oA rA σ_26 ++ b_d cB cC cI cJ cZ oA rA σ_26) H := by rw [eσ_26]; exact hP'.sub [0, 1, 2, 3, 4, 5, 6, 7, 8, 9, 10, 11, 12, 13, 14, 15, 16, 17, 18, 19, 20, 21, 22, 23, 24, 25, 26, 27, 46, 28, 29, 30, 31, 32, 33, 34, 35, 36, 37, 38, 39, 40, 41, 42, 43, 44, 45] rfl
        clear hP'
        have h9 := Option.some.inj hF_27
        subst h9
        exact W.vret hx hb hr (fun t ht hW => ⟨⟨(), rfl, trivial, m_end ht hP, hDD _⟩, hS.F ht⟩) hS.2.2 dX4_varItem_69
      refine lv_if_eq (tgt := 65) hx hb dX4_varItem_57 (by decide) (fun c_28 => ?_) (fun c_28 => ?_)
      · have hF_29 := ipos c_28 hF_24
        clear hF_24
        refine lv_iload_n hx hb dX4_varItem_65 rfl (lv_at hl 0 rfl) ?_
        exact Jj_23 u_15.1 u_19.2 hF_29 _ _ hP hS ls (lv_sub hl [] rfl)
      · have hF_30 := ineg c_28 hF_24
        clear hF_24
        refine lv_iload_n hx hb dX4_varItem_60 rfl (lv_at hl 0 rfl) ?_
        refine lv_ineg hx hb dX4_varItem_61 ?_
        refine lv_goto (tgt := 66) hx hb dX4_varItem_62 (by decide) ?_
        exact Jj_23 (-u_15.1) u_19.2 hF_30 _ _ hP hS ls (lv_sub hl [] rfl)
    refine lv_if_eq (tgt := 35) hx hb dX4_varItem_26 (by decide) (fun c_31 => ?_) (fun c_31 => ?_)
    · have hF_32 := ipos c_31 hF_13
      clear hF_13
      refine lv_iload_n hx hb dX4_varItem_35 rfl (lv_at hl 2 rfl) ?_
      refine lv_iconst (v := 3) hx hb dX4_varItem_36 (by decide +kernel) ?_
      refine lv_iadd hx hb dX4_varItem_37 ?_
      exact Jj_12 (p0 + 3) σ_6 hF_32 _ _ hP hS ls (lv_sub hl [1, 2, 0] rfl)
    · have hF_33 := ineg c_31 hF_13
      clear hF_13
      refine lv_iload_n hx hb dX4_varItem_29 rfl (lv_at hl 2 rfl) ?_
      refine lv_iconst (v := 4) hx hb dX4_varItem_30 (by decide +kernel) ?_
      refine lv_iadd hx hb dX4_varItem_31 ?_
      refine lv_goto (tgt := 38) hx hb dX4_varItem_32 (by decide) ?_
      exact Jj_12 (p0 + 4) σ_6 hF_33 _ _ hP hS ls (lv_sub hl [1, 2, 0] rfl)
  refine lv_icmp_ne (tgt := 19) hx hb dX4_varItem_12 (by decide) (fun c_34 => ?_) (fun c_34 => ?_)
  · have hF_36 := ineg c_34 hF_8
    clear hF_8
    refine lv_iconst (v := 0) hx hb dX4_varItem_19 (by decide +kernel) ?_
    exact Jj_7 0 σ_3 hF_36 _ _ hP hS ls (lv_sub hl [0, 1] rfl)
  · have hF_35 := ipos c_34 hF_8
    clear hF_8
    refine lv_iconst (v := 1) hx hb dX4_varItem_15 (by decide +kernel) ?_
    refine lv_goto (tgt := 20) hx hb dX4_varItem_16 (by decide) ?_
    exact Jj_7 1 σ_3 hF_35 _ _ hP hS ls (lv_sub hl [0, 1] rfl)
theorem dX4_verbItem_0 : decode cX4_verbItem 0 = .ok (.aload_n 0, 1) := by decide +kernel
theorem dX4_verbItem_1 : decode cX4_verbItem 1 = .ok (.iload_n 1, 1) := by decide +kernel
theorem dX4_verbItem_2 : decode cX4_verbItem 2 = .ok (.iconst 1, 1) := by decide +kernel
theorem dX4_verbItem_3 : decode cX4_verbItem 3 = .ok (.iadd, 1) := by decide +kernel
theorem dX4_verbItem_4 : decode cX4_verbItem 4 = .ok (.invokevirtual 193, 3) := by decide +kernel
theorem dX4_verbItem_7 : decode cX4_verbItem 7 = .ok (.istore_n 2, 1) := by decide +kernel
theorem dX4_verbItem_8 : decode cX4_verbItem 8 = .ok (.aload_n 0, 1) := by decide +kernel
theorem dX4_verbItem_9 : decode cX4_verbItem 9 = .ok (.bipush 120, 2) := by decide +kernel
theorem dX4_verbItem_11 : decode cX4_verbItem 11 = .ok (.iload_n 2, 1) := by decide +kernel
theorem dX4_verbItem_12 : decode cX4_verbItem 12 = .ok (.iadd, 1) := by decide +kernel
theorem dX4_verbItem_13 : decode cX4_verbItem 13 = .ok (.iload_n 1, 1) := by decide +kernel
theorem dX4_verbItem_14 : decode cX4_verbItem 14 = .ok (.iconst 2, 1) := by decide +kernel
theorem dX4_verbItem_15 : decode cX4_verbItem 15 = .ok (.iadd, 1) := by decide +kernel
theorem dX4_verbItem_16 : decode cX4_verbItem 16 = .ok (.invokevirtual 208, 3) := by decide +kernel
theorem dX4_verbItem_19 : decode cX4_verbItem 19 = .ok (.istore_n 3, 1) := by decide +kernel
theorem dX4_verbItem_20 : decode cX4_verbItem 20 = .ok (.aload_n 0, 1) := by decide +kernel
theorem dX4_verbItem_21 : decode cX4_verbItem 21 = .ok (.getfield 32, 3) := by decide +kernel
theorem dX4_verbItem_24 : decode cX4_verbItem 24 = .ok (.iload_n 3, 1) := by decide +kernel
theorem dX4_verbItem_25 : decode cX4_verbItem 25 = .ok (.invokevirtual 116, 3) := by decide +kernel
theorem dX4_verbItem_28 : decode cX4_verbItem 28 = .ok (.sipush 215, 3) := by decide +kernel
theorem dX4_verbItem_31 : decode cX4_verbItem 31 = .ok (.if_icmp .ne 41, 3) := by decide +kernel
theorem dX4_verbItem_34 : decode cX4_verbItem 34 = .ok (.aload_n 0, 1) := by decide +kernel
theorem dX4_verbItem_35 : decode cX4_verbItem 35 = .ok (.getfield 36, 3) := by decide +kernel
theorem dX4_verbItem_38 : decode cX4_verbItem 38 = .ok (.getfield 238, 3) := by decide +kernel
theorem dX4_verbItem_41 : decode cX4_verbItem 41 = .ok (.iload_n 2, 1) := by decide +kernel
theorem dX4_verbItem_42 : decode cX4_verbItem 42 = .ok (.aload_n 0, 1) := by decide +kernel
theorem dX4_verbItem_43 : decode cX4_verbItem 43 = .ok (.getfield 36, 3) := by decide +kernel
theorem dX4_verbItem_46 : decode cX4_verbItem 46 = .ok (.getfield 241, 3) := by decide +kernel
theorem dX4_verbItem_49 : decode cX4_verbItem 49 = .ok (.aload_n 0, 1) := by decide +kernel
theorem dX4_verbItem_50 : decode cX4_verbItem 50 = .ok (.getfield 32, 3) := by decide +kernel
theorem dX4_verbItem_53 : decode cX4_verbItem 53 = .ok (.aload_n 0, 1) := by decide +kernel
theorem dX4_verbItem_54 : decode cX4_verbItem 54 = .ok (.getfield 32, 3) := by decide +kernel
theorem dX4_verbItem_57 : decode cX4_verbItem 57 = .ok (.iload_n 3, 1) := by decide +kernel
theorem dX4_verbItem_58 : decode cX4_verbItem 58 = .ok (.iconst 1, 1) := by decide +kernel
theorem dX4_verbItem_59 : decode cX4_verbItem 59 = .ok (.iadd, 1) := by decide +kernel
theorem dX4_verbItem_60 : decode cX4_verbItem 60 = .ok (.invokevirtual 119, 3) := by decide +kernel
theorem dX4_verbItem_63 : decode cX4_verbItem 63 = .ok (.invokevirtual 230, 3) := by decide +kernel
theorem dX4_verbItem_66 : decode cX4_verbItem 66 = .ok (.invokevirtual 245, 3) := by decide +kernel
theorem dX4_verbItem_69 : decode cX4_verbItem 69 = .ok (.invokestatic 112, 3) := by decide +kernel
theorem dX4_verbItem_72 : decode cX4_verbItem 72 = .ok (.return_, 1) := by decide +kernel
def F_X4_verbItem (p0 : Int32) (Γ : HS) : HR :=
  (F_X4_numberOf (p0 + 1) Γ).bind fun u_1 =>
  (F_X4_ownWords (120 + u_1.1) (p0 + 2) u_1.2).bind fun u_3 =>
  (F_X10_kindOf u_3.1 u_3.2).bind fun u_5 =>
  bnd (mrg (fun j => j == 1) u_3.2 u_5.2) fun σ_7 =>
  if u_5.1 = 215 then (
    (F_X10_worthOf (u_3.1 + 1) σ_7).bind fun u_11 =>
    bnd (mrg (fun j => j == 1) σ_7 u_11.2) fun σ_13 =>
    (F_X10_termOf u_11.1 σ_13).bind fun u_15 =>
    bnd (mrg (fun j => j == 1) σ_13 u_15.2) fun σ_17 =>
    (F_X1_learn u_15.1 σ_17).bind fun u_19 =>
    bnd (mrg (fun j => j == 7) σ_17 u_19.2) fun σ_21 =>
    bnd (cA' σ_21 4 8 (g_put 61 ((σ_21 4).2.1 8) u_1.1 u_19.1)) fun σ_23 =>
    some (0, σ_23)
  ) else (
    some (0, σ_7)
  )
set_option maxHeartbeats 4000000 in
set_option maxRecDepth 100000 in
theorem k_X4_verbItem (l : Launch) (dC : Nat → ClassId) (dI : Nat → Nat → Nat) (cB cC cI cJ cZ cP : ClassId) (oA : Nat → Nat) (rA : Nat → Nat → Nat) (sz : Nat)  (p0 : Int32) (Γ : HS) (res : Int32 × HS) (hF : F_X4_verbItem p0 Γ = some res) : Met l yX4_verbItem (g_ws yX4_verbItem cX4_verbItem 4 none) ({ frames := 6, cells := 0, slots := 0, locals := 152 }) (va_Pc [.ref (oA 3), .int p0] (g_B (dC, dI) [(cB, .byte), (cC, .char), (cI, .int), (cJ, .long), (cZ, .boolean), (cP, .object "StoryHouse$Play")] sz (b_m cB cC cI cJ cZ oA rA Γ ++ b_w cB cC cI cJ cZ oA rA Γ ++ b_s cB cC cI cJ cZ oA rA Γ ++ b_c cB cC cI cJ cZ oA rA Γ ++ b_t cB cC cI cJ cZ oA rA Γ ++ b_d cB cC cI cJ cZ oA rA Γ) g_0)) (va_Qv (fun (_ : Unit) => True) (g_Bo (dC, dI) (va_A (b_m cB cC cI cJ cZ oA rA Γ ++ b_w cB cC cI cJ cZ oA rA Γ ++ b_s cB cC cI cJ cZ oA rA Γ ++ b_c cB cC cI cJ cZ oA rA Γ ++ b_t cB cC cI cJ cZ oA rA Γ ++ b_d cB cC cI cJ cZ oA rA Γ) sz) (fun (_ : Unit) => (b_m cB cC cI cJ cZ oA rA res.2 ++ b_w cB cC cI cJ cZ oA rA res.2 ++ b_s cB cC cI cJ cZ oA rA res.2 ++ b_c cB cC cI cJ cZ oA rA res.2 ++ b_t cB cC cI cJ cZ oA rA res.2 ++ b_d cB cC cI cJ cZ oA rA res.2))) (va_A (b_m cB cC cI cJ cZ oA rA Γ ++ b_w cB cC cI cJ cZ oA rA Γ ++ b_s cB cC cI cJ cZ oA rA Γ ++ b_c cB cC cI cJ cZ oA rA Γ ++ b_t cB cC cI cJ cZ oA rA Γ ++ b_d cB cC cI cJ cZ oA rA Γ) sz)) 0 0 (va_A (b_m cB cC cI cJ cZ oA rA Γ ++ b_w cB cC cI cJ cZ oA rA Γ ++ b_s cB cC cI cJ cZ oA rA Γ ++ b_c cB cC cI cJ cZ oA rA Γ ++ b_t cB cC cI cJ cZ oA rA Γ ++ b_d cB cC cI cJ cZ oA rA Γ) sz) := by
  refine Met.ofW (cc := cX4_verbItem) (maxL := 4) (ret := none) (by decide) rfl ?_
  intro p e s m args below meth c s₁ B hml hv
  obtain ⟨rfl, hsz, hP, hK, hD0, hE, hX⟩ := hv
  have hx := B.exec
  have hb := B.bytes
  have hr := B.returns
  have hts0 := atoms_spec (ws := g_ws yX4_verbItem cX4_verbItem 4 none) B.pre
  have hts : ∀ w ∈ lw_good, w.before ([.ref (oA 3), .int p0] : List Value).toArray s = true := fun w z => hts0 w (List.mem_cons_of_mem _ z)
  have hown : s.vm.findClass RX4 = some m.cls := findClass_of_methodNamed B.named
  have hlocks := B.notSynchronized
  subst hsz
  have hD1 := hD0.self (sz := s.heap.size)
  generalize hAe : va_A (b_m cB cC cI cJ cZ oA rA Γ ++ b_w cB cC cI cJ cZ oA rA Γ ++ b_s cB cC cI cJ cZ oA rA Γ ++ b_c cB cC cI cJ cZ oA rA Γ ++ b_t cB cC cI cJ cZ oA rA Γ ++ b_d cB cC cI cJ cZ oA rA Γ) s.heap.size = A at hD1 hE hX ⊢
  have hA : ∀ q : Nat, s.heap.size ≤ q → A q := fun q z => by rw [← hAe]; exact Or.inr z
  have hDD : ∀ Γ : HS, va_D A (b_m cB cC cI cJ cZ oA rA Γ ++ b_w cB cC cI cJ cZ oA rA Γ ++ b_s cB cC cI cJ cZ oA rA Γ ++ b_c cB cC cI cJ cZ oA rA Γ ++ b_t cB cC cI cJ cZ oA rA Γ ++ b_d cB cC cI cJ cZ oA rA Γ) := fun Γ9 => va_D_fst (ws := (b_m cB cC cI cJ cZ oA rA Γ ++ b_w cB cC cI cJ cZ oA rA Γ ++ b_s cB cC cI cJ cZ oA rA Γ ++ b_c cB cC cI cJ cZ oA rA Γ ++ b_t cB cC cI cJ cZ oA rA Γ ++ b_d cB cC cI cJ cZ oA rA Γ)) (ws' := (b_m cB cC cI cJ cZ oA rA Γ9 ++ b_w cB cC cI cJ cZ oA rA Γ9 ++ b_s cB cC cI cJ cZ oA rA Γ9 ++ b_c cB cC cI cJ cZ oA rA Γ9 ++ b_t cB cC cI cJ cZ oA rA Γ9 ++ b_d cB cC cI cJ cZ oA rA Γ9)) rfl hD1
  have hN := hE.1
  have hS : va_S A s.heap s.heap [] := va_S.rf
  have hl := lv_entry ([.ref (oA 3), .int p0]) (n := 4) (Nat.le_of_ble_eq_true rfl)
  rw [lg_entry_eq]
  generalize (lg_sl ([.ref (oA 3), .int p0]) ++ List.replicate (4 - (lg_sl ([.ref (oA 3), .int p0])).length) Slot.unset).toArray = ls at hl ⊢
  have hl : lv_has ls 4 [(0, .ref (oA 3)), (1, .int p0)] := hl
  unfold F_X4_verbItem at hF
  refine lv_aload_n hx hb dX4_verbItem_0 rfl (lv_at hl 0 rfl) ?_
  refine lv_iload_n hx hb dX4_verbItem_1 rfl (lv_at hl 1 rfl) ?_
  refine lv_iconst (v := 1) hx hb dX4_verbItem_2 (by decide +kernel) ?_
  refine lv_iadd hx hb dX4_verbItem_3 ?_
  obtain ⟨u_1, hu_1, hF_2⟩ := Option.bind_eq_some_iff.mp hF
  clear hF
  have hPc := hP.sub (ws' := (b_m cB cC cI cJ cZ oA rA Γ ++ b_w cB cC cI cJ cZ oA rA Γ ++ b_s cB cC cI cJ cZ oA rA Γ ++ b_c cB cC cI cJ cZ oA rA Γ ++ b_t cB cC cI cJ cZ oA rA Γ ++ b_d cB cC cI cJ cZ oA rA Γ)) [0, 1, 2, 3, 4, 5, 6, 7, 8, 9, 10, 11, 12, 13, 14, 15, 16, 17, 18, 19, 20, 21, 22, 23, 24, 25, 26, 27, 28, 29, 30, 31, 32, 33, 34, 35, 36, 37, 38, 39, 40, 41, 42, 43, 44, 45, 46] rfl
  have hDc := (hDD Γ).sub (ws' := (b_m cB cC cI cJ cZ oA rA Γ ++ b_w cB cC cI cJ cZ oA rA Γ ++ b_s cB cC cI cJ cZ oA rA Γ ++ b_c cB cC cI cJ cZ oA rA Γ ++ b_t cB cC cI cJ cZ oA rA Γ ++ b_d cB cC cI cJ cZ oA rA Γ)) [0, 1, 2, 3, 4, 5, 6, 7, 8, 9, 10, 11, 12, 13, 14, 15, 16, 17, 18, 19, 20, 21, 22, 23, 24, 25, 26, 27, 28, 29, 30, 31, 32, 33, 34, 35, 36, 37, 38, 39, 40, 41, 42, 43, 44, 45, 46] (by decide +kernel) rfl
  have hFc := va_free (wc := (b_m cB cC cI cJ cZ oA rA Γ ++ b_w cB cC cI cJ cZ oA rA Γ ++ b_s cB cC cI cJ cZ oA rA Γ ++ b_c cB cC cI cJ cZ oA rA Γ ++ b_t cB cC cI cJ cZ oA rA Γ ++ b_d cB cC cI cJ cZ oA rA Γ)) (hDD Γ) hS hA [0, 1, 2, 3, 4, 5, 6, 7, 8, 9, 10, 11, 12, 13, 14, 15, 16, 17, 18, 19, 20, 21, 22, 23, 24, 25, 26, 27, 28, 29, 30, 31, 32, 33, 34, 35, 36, 37, 38, 39, 40, 41, 42, 43, 44, 45, 46] rfl
  refine g_ofi (wc := (b_m cB cC cI cJ cZ oA rA Γ ++ b_w cB cC cI cJ cZ oA rA Γ ++ b_s cB cC cI cJ cZ oA rA Γ ++ b_c cB cC cI cJ cZ oA rA Γ ++ b_t cB cC cI cJ cZ oA rA Γ ++ b_d cB cC cI cJ cZ oA rA Γ)) (wr := ([] : va_W)) hP (hDD Γ) hS hFc [0, 1, 2, 3, 4, 5, 6, 7, 8, 9, 10, 11, 12, 13, 14, 15, 16, 17, 18, 19, 20, 21, 22, 23, 24, 25, 26, 27, 28, 29, 30, 31, 32, 33, 34, 35, 36, 37, 38, 39, 40, 41, 42, 43, 44, 45, 46] [] rfl rfl (by decide +kernel) (by decide +kernel) (va_runV (As := [.int (p0 + 1)]) (rest := []) ⟨hx, hb, hml, hown, hts⟩ (k_X4_numberOf l dC dI cB cC cI cJ cZ cP oA rA s.heap.size  (p0 + 1) Γ _ hu_1) (cwV 1 hts (g_gV wq_769 wq_770 wq_2051 wq_4 wq_771) rfl rfl rfl (by decide +kernel) ⟨Nat.le_of_ble_eq_true rfl, Nat.le_of_ble_eq_true rfl⟩) (g_preV g_bl0 hK hPc hDc hS hE hFc g_to0 (q0 := 0) (ci := 4) rfl rfl) rfl rfl hl.1 rfl (lv_room (Nat.le_of_ble_eq_true rfl)) dX4_verbItem_4 ⟨Nat.le_of_ble_eq_true rfl, Nat.le_of_ble_eq_true rfl⟩) (fun r9 u9 H locs hw9 hP' hD' hS => ?_)
  clear hPc hDc hFc
  subst hw9
  have hP : va_P (dC, dI) vwCl (b_m cB cC cI cJ cZ oA rA u_1.2 ++ b_w cB cC cI cJ cZ oA rA u_1.2 ++ b_s cB cC cI cJ cZ oA rA u_1.2 ++ b_c cB cC cI cJ cZ oA rA u_1.2 ++ b_t cB cC cI cJ cZ oA rA u_1.2 ++ b_d cB cC cI cJ cZ oA rA u_1.2) H := hP'
  clear hP' hD'
  refine lv_istore_n (lv' := [(2, .int u_1.1), (0, .ref (oA 3)), (1, .int p0)]) hx hb dX4_verbItem_7 rfl hl (by decide) rfl (fun ls hl => ?_)
  refine lv_aload_n hx hb dX4_verbItem_8 rfl (lv_at hl 1 rfl) ?_
  refine lv_bipush (v := 120) hx hb dX4_verbItem_9 (by decide +kernel) ?_
  refine lv_iload_n hx hb dX4_verbItem_11 rfl (lv_at hl 0 rfl) ?_
  refine lv_iadd hx hb dX4_verbItem_12 ?_
  refine lv_iload_n hx hb dX4_verbItem_13 rfl (lv_at hl 2 rfl) ?_
  refine lv_iconst (v := 2) hx hb dX4_verbItem_14 (by decide +kernel) ?_
  refine lv_iadd hx hb dX4_verbItem_15 ?_
  obtain ⟨u_3, hu_3, hF_4⟩ := Option.bind_eq_some_iff.mp hF_2
  clear hF_2
  have hPc := hP.sub (ws' := (b_m cB cC cI cJ cZ oA rA u_1.2 ++ b_w cB cC cI cJ cZ oA rA u_1.2 ++ b_s cB cC cI cJ cZ oA rA u_1.2 ++ b_c cB cC cI cJ cZ oA rA u_1.2 ++ b_t cB cC cI cJ cZ oA rA u_1.2 ++ b_d cB cC cI cJ cZ oA rA u_1.2)) [0, 1, 2, 3, 4, 5, 6, 7, 8, 9, 10, 11, 12, 13, 14, 15, 16, 17, 18, 19, 20, 21, 22, 23, 24, 25, 26, 27, 28, 29, 30, 31, 32, 33, 34, 35, 36, 37, 38, 39, 40, 41, 42, 43, 44, 45, 46] rfl
  have hDc := (hDD u_1.2).sub (ws' := (b_m cB cC cI cJ cZ oA rA u_1.2 ++ b_w cB cC cI cJ cZ oA rA u_1.2 ++ b_s cB cC cI cJ cZ oA rA u_1.2 ++ b_c cB cC cI cJ cZ oA rA u_1.2 ++ b_t cB cC cI cJ cZ oA rA u_1.2 ++ b_d cB cC cI cJ cZ oA rA u_1.2)) [0, 1, 2, 3, 4, 5, 6, 7, 8, 9, 10, 11, 12, 13, 14, 15, 16, 17, 18, 19, 20, 21, 22, 23, 24, 25, 26, 27, 28, 29, 30, 31, 32, 33, 34, 35, 36, 37, 38, 39, 40, 41, 42, 43, 44, 45, 46] (by decide +kernel) rfl
  have hFc := va_free (wc := (b_m cB cC cI cJ cZ oA rA u_1.2 ++ b_w cB cC cI cJ cZ oA rA u_1.2 ++ b_s cB cC cI cJ cZ oA rA u_1.2 ++ b_c cB cC cI cJ cZ oA rA u_1.2 ++ b_t cB cC cI cJ cZ oA rA u_1.2 ++ b_d cB cC cI cJ cZ oA rA u_1.2)) (hDD u_1.2) hS hA [0, 1, 2, 3, 4, 5, 6, 7, 8, 9, 10, 11, 12, 13, 14, 15, 16, 17, 18, 19, 20, 21, 22, 23, 24, 25, 26, 27, 28, 29, 30, 31, 32, 33, 34, 35, 36, 37, 38, 39, 40, 41, 42, 43, 44, 45, 46] rfl
  refine g_ofi (wc := (b_m cB cC cI cJ cZ oA rA u_1.2 ++ b_w cB cC cI cJ cZ oA rA u_1.2 ++ b_s cB cC cI cJ cZ oA rA u_1.2 ++ b_c cB cC cI cJ cZ oA rA u_1.2 ++ b_t cB cC cI cJ cZ oA rA u_1.2 ++ b_d cB cC cI cJ cZ oA rA u_1.2)) (wr := ([] : va_W)) hP (hDD u_1.2) hS hFc [0, 1, 2, 3, 4, 5, 6, 7, 8, 9, 10, 11, 12, 13, 14, 15, 16, 17, 18, 19, 20, 21, 22, 23, 24, 25, 26, 27, 28, 29, 30, 31, 32, 33, 34, 35, 36, 37, 38, 39, 40, 41, 42, 43, 44, 45, 46] [] rfl rfl (by decide +kernel) (by decide +kernel) (va_runV (As := [.int (120 + u_1.1), .int (p0 + 2)]) (rest := []) ⟨hx, hb, hml, hown, hts⟩ (k_X4_ownWords l dC dI cB cC cI cJ cZ cP oA rA H.size  (120 + u_1.1) (p0 + 2) u_1.2 _ hu_3) (cwV 2 hts (g_gV wq_785 wq_786 wq_2055 wq_4 wq_787) rfl rfl rfl (by decide +kernel) ⟨Nat.le_of_ble_eq_true rfl, Nat.le_of_ble_eq_true rfl⟩) (g_preV g_bl0 hK hPc hDc hS hE hFc g_to0 (q0 := 0) (ci := 4) rfl rfl) rfl rfl hl.1 rfl (lv_room (Nat.le_of_ble_eq_true rfl)) dX4_verbItem_16 ⟨Nat.le_of_ble_eq_true rfl, Nat.le_of_ble_eq_true rfl⟩) (fun r9 u9 H locs hw9 hP' hD' hS => ?_)
  clear hPc hDc hFc
  subst hw9
  have hP : va_P (dC, dI) vwCl (b_m cB cC cI cJ cZ oA rA u_3.2 ++ b_w cB cC cI cJ cZ oA rA u_3.2 ++ b_s cB cC cI cJ cZ oA rA u_3.2 ++ b_c cB cC cI cJ cZ oA rA u_3.2 ++ b_t cB cC cI cJ cZ oA rA u_3.2 ++ b_d cB cC cI cJ cZ oA rA u_3.2) H := hP'
  clear hP' hD'
  refine lv_istore_n (lv' := [(3, .int u_3.1), (2, .int u_1.1), (0, .ref (oA 3)), (1, .int p0)]) hx hb dX4_verbItem_19 rfl hl (by decide) rfl (fun ls hl => ?_)
  refine lv_aload_n hx hb dX4_verbItem_20 rfl (lv_at hl 2 rfl) ?_
  refine va_get (D := (dC, dI)) (ci := 4) (v := .ref (oA 1)) (C := RX4) (T := TX4) (N := 18) hx hb hts ii_X4 hown hK hP 0 rfl rfl 0 (by decide) (hts (.fieldLink RX4 32 "StoryHouse$Meanings" "words" "LStoryHouse$Words;") wq_86) (fun _ h9 => h9) rfl dX4_verbItem_21 ?_
  refine lv_iload_n hx hb dX4_verbItem_24 rfl (lv_at hl 0 rfl) ?_
  obtain ⟨u_5, hu_5, hF_6⟩ := Option.bind_eq_some_iff.mp hF_4
  clear hF_4
  have hPc := hP.sub (ws' := (b_w cB cC cI cJ cZ oA rA u_3.2)) [7, 8, 9, 10, 11, 12, 13, 14, 15] rfl
  have hDc := (hDD u_3.2).sub (ws' := (b_w cB cC cI cJ cZ oA rA u_3.2)) [7, 8, 9, 10, 11, 12, 13, 14, 15] (by decide +kernel) rfl
  have hFc := va_free (wc := (b_w cB cC cI cJ cZ oA rA u_3.2)) (hDD u_3.2) hS hA [7, 8, 9, 10, 11, 12, 13, 14, 15] rfl
  refine g_ofi (wc := (b_w cB cC cI cJ cZ oA rA u_3.2)) (wr := (b_m cB cC cI cJ cZ oA rA u_3.2 ++ b_s cB cC cI cJ cZ oA rA u_3.2 ++ b_c cB cC cI cJ cZ oA rA u_3.2 ++ b_t cB cC cI cJ cZ oA rA u_3.2 ++ b_d cB cC cI cJ cZ oA rA u_3.2)) hP (hDD u_3.2) hS hFc [7, 8, 9, 10, 11, 12, 13, 14, 15] [0, 1, 2, 3, 4, 5, 6, 16, 17, 18, 19, 20, 21, 22, 23, 24, 25, 26, 27, 28, 29, 30, 31, 32, 33, 34, 35, 36, 37, 38, 39, 40, 41, 42, 43, 44, 45, 46] rfl rfl (by decide +kernel) (by decide +kernel) (va_runV (As := [.int u_3.1]) (rest := []) ⟨hx, hb, hml, hown, hts⟩ (k_X10_kindOf l dC dI cB cC cI cJ cZ cP oA rA H.size  u_3.1 u_3.2 _ hu_5) (cwV 1 hts (g_gV wq_714 wq_543 wq_544 wq_2 wq_545) rfl rfl rfl (by decide +kernel) ⟨Nat.le_of_ble_eq_true rfl, Nat.le_of_ble_eq_true rfl⟩) (g_preV g_bl0 hK hPc hDc hS hE hFc g_to0 (q0 := 0) (ci := 10) rfl rfl) rfl rfl hl.1 rfl (lv_room (Nat.le_of_ble_eq_true rfl)) dX4_verbItem_25 ⟨Nat.le_of_ble_eq_true rfl, Nat.le_of_ble_eq_true rfl⟩) (fun r9 u9 H locs hw9 hP' hD' hS => ?_)
  clear hPc hDc hFc
  subst hw9
  obtain ⟨σ_7, eσ_7, hF_8⟩ := bnd_e hF_6
  clear hF_6
  have hP : va_P (dC, dI) vwCl (b_m cB cC cI cJ cZ oA rA σ_7 ++ b_w cB cC cI cJ cZ oA rA σ_7 ++ b_s cB cC cI cJ cZ oA rA σ_7 ++ b_c cB cC cI cJ cZ oA rA σ_7 ++ b_t cB cC cI cJ cZ oA rA σ_7 ++ b_d cB cC cI cJ cZ oA rA σ_7) H := by rw [eσ_7]; exact hP'.sub [0, 1, 2, 3, 4, 5, 6, 38, 39, 40, 41, 42, 43, 44, 45, 46, 7, 8, 9, 10, 11, 12, 13, 14, 15, 16, 17, 18, 19, 20, 21, 22, 23, 24, 25, 26, 27, 28, 29, 30, 31, 32, 33, 34, 35, 36, 37] rfl
  clear hP' hD'
  refine lv_sipush (v := 215) hx hb dX4_verbItem_28 (by decide +kernel) ?_
  refine lv_icmp_ne (tgt := 72) hx hb dX4_verbItem_31 (by decide) (fun c_9 => ?_) (fun c_9 => ?_)
  · have hF_25 := ineg c_9 hF_8
    clear hF_8
    have h9 := Option.some.inj hF_25
    subst h9
    exact W.vret hx hb hr (fun t ht hW => ⟨⟨(), rfl, trivial, m_end ht hP, hDD _⟩, hS.F ht⟩) hS.2.2 dX4_verbItem_72
  · have hF_10 := ipos c_9 hF_8
    clear hF_8
    refine lv_aload_n hx hb dX4_verbItem_34 rfl (lv_at hl 2 rfl) ?_
    refine va_get (D := (dC, dI)) (ci := 4) (v := .ref (oA 4)) (C := RX4) (T := TX4) (N := 18) hx hb hts ii_X4 hown hK hP 0 rfl rfl 1 (by decide) (hts (.fieldLink RX4 36 "StoryHouse$Meanings" "story" "LStoryHouse$Story;") wq_87) (fun _ h9 => h9) rfl dX4_verbItem_35 ?_
    refine va_get (D := (dC, dI)) (ci := 7) (v := .ref (rA 4 8)) (C := RX7) (T := TX7) (N := 19) hx hb hts ii_X7 hown hK hP 16 rfl rfl 8 (by decide) (hts (.fieldLink RX4 238 "StoryHouse$Story" "joints" "[I") wq_175) (fun _ h9 => h9) rfl dX4_verbItem_38 ?_
    refine lv_iload_n hx hb dX4_verbItem_41 rfl (lv_at hl 1 rfl) ?_
    refine lv_aload_n hx hb dX4_verbItem_42 rfl (lv_at hl 2 rfl) ?_
    refine va_get (D := (dC, dI)) (ci := 4) (v := .ref (oA 4)) (C := RX4) (T := TX4) (N := 18) hx hb hts ii_X4 hown hK hP 0 rfl rfl 1 (by decide) (hts (.fieldLink RX4 36 "StoryHouse$Meanings" "story" "LStoryHouse$Story;") wq_87) (fun _ h9 => h9) rfl dX4_verbItem_43 ?_
    refine va_get (D := (dC, dI)) (ci := 7) (v := .ref (oA 7)) (C := RX7) (T := TX7) (N := 19) hx hb hts ii_X7 hown hK hP 16 rfl rfl 18 (by decide) (hts (.fieldLink RX4 241 "StoryHouse$Story" "dictionary" "LStoryHouse$Dictionary;") wq_202) (fun _ h9 => h9) rfl dX4_verbItem_46 ?_
    refine lv_aload_n hx hb dX4_verbItem_49 rfl (lv_at hl 2 rfl) ?_
    refine va_get (D := (dC, dI)) (ci := 4) (v := .ref (oA 1)) (C := RX4) (T := TX4) (N := 18) hx hb hts ii_X4 hown hK hP 0 rfl rfl 0 (by decide) (hts (.fieldLink RX4 32 "StoryHouse$Meanings" "words" "LStoryHouse$Words;") wq_86) (fun _ h9 => h9) rfl dX4_verbItem_50 ?_
    refine lv_aload_n hx hb dX4_verbItem_53 rfl (lv_at hl 2 rfl) ?_
    refine va_get (D := (dC, dI)) (ci := 4) (v := .ref (oA 1)) (C := RX4) (T := TX4) (N := 18) hx hb hts ii_X4 hown hK hP 0 rfl rfl 0 (by decide) (hts (.fieldLink RX4 32 "StoryHouse$Meanings" "words" "LStoryHouse$Words;") wq_86) (fun _ h9 => h9) rfl dX4_verbItem_54 ?_
    refine lv_iload_n hx hb dX4_verbItem_57 rfl (lv_at hl 0 rfl) ?_
    refine lv_iconst (v := 1) hx hb dX4_verbItem_58 (by decide +kernel) ?_
    refine lv_iadd hx hb dX4_verbItem_59 ?_
    obtain ⟨u_11, hu_11, hF_12⟩ := Option.bind_eq_some_iff.mp hF_10
    clear hF_10
    have hPc := hP.sub (ws' := (b_w cB cC cI cJ cZ oA rA σ_7)) [7, 8, 9, 10, 11, 12, 13, 14, 15] rfl
    have hDc := (hDD σ_7).sub (ws' := (b_w cB cC cI cJ cZ oA rA σ_7)) [7, 8, 9, 10, 11, 12, 13, 14, 15] (by decide +kernel) rfl
    have hFc := va_free (wc := (b_w cB cC cI cJ cZ oA rA σ_7)) (hDD σ_7) hS hA [7, 8, 9, 10, 11, 12, 13, 14, 15] rfl
    refine g_ofi (wc := (b_w cB cC cI cJ cZ oA rA σ_7)) (wr := (b_m cB cC cI cJ cZ oA rA σ_7 ++ b_s cB cC cI cJ cZ oA rA σ_7 ++ b_c cB cC cI cJ cZ oA rA σ_7 ++ b_t cB cC cI cJ cZ oA rA σ_7 ++ b_d cB cC cI cJ cZ oA rA σ_7)) hP (hDD σ_7) hS hFc [7, 8, 9, 10, 11, 12, 13, 14, 15] [0, 1, 2, 3, 4, 5, 6, 16, 17, 18, 19, 20, 21, 22, 23, 24, 25, 26, 27, 28, 29, 30, 31, 32, 33, 34, 35, 36, 37, 38, 39, 40, 41, 42, 43, 44, 45, 46] rfl rfl (by decide +kernel) (by decide +kernel) (va_runV (As := [.int (u_3.1 + 1)]) (rest := [.ref (oA 1), .ref (oA 7), .int u_1.1, .ref (rA 4 8)]) ⟨hx, hb, hml, hown, hts⟩ (k_X10_worthOf l dC dI cB cC cI cJ cZ cP oA rA H.size  (u_3.1 + 1) σ_7 _ hu_11) (cwV 1 hts (g_gV wq_715 wq_653 wq_654 wq_2 wq_655) rfl rfl rfl (by decide +kernel) ⟨Nat.le_of_ble_eq_true rfl, Nat.le_of_ble_eq_true rfl⟩) (g_preV g_bl0 hK hPc hDc hS hE hFc g_to0 (q0 := 0) (ci := 10) rfl rfl) rfl rfl hl.1 rfl (lv_room (Nat.le_of_ble_eq_true rfl)) dX4_verbItem_60 ⟨Nat.le_of_ble_eq_true rfl, Nat.le_of_ble_eq_true rfl⟩) (fun r9 u9 H locs hw9 hP' hD' hS => ?_)
    clear hPc hDc hFc
    subst hw9
    obtain ⟨σ_13, eσ_13, hF_14⟩ := bnd_e hF_12
    clear hF_12
    have hP : va_P (dC, dI) vwCl (b_m cB cC cI cJ cZ oA rA σ_13 ++ b_w cB cC cI cJ cZ oA rA σ_13 ++ b_s cB cC cI cJ cZ oA rA σ_13 ++ b_c cB cC cI cJ cZ oA rA σ_13 ++ b_t cB cC cI cJ cZ oA rA σ_13 ++ b_d cB cC cI cJ cZ oA rA σ_13) H := by rw [eσ_13]; exact hP'.sub [0, 1, 2, 3, 4, 5, 6, 38, 39, 40, 41, 42, 43, 44, 45, 46, 7, 8, 9, 10, 11, 12, 13, 14, 15, 16, 17, 18, 19, 20, 21, 22, 23, 24, 25, 26, 27, 28, 29, 30, 31, 32, 33, 34, 35, 36, 37] rfl
    clear hP' hD'
    obtain ⟨u_15, hu_15, hF_16⟩ := Option.bind_eq_some_iff.mp hF_14
    clear hF_14
    have hPc := hP.sub (ws' := (b_w cB cC cI cJ cZ oA rA σ_13)) [7, 8, 9, 10, 11, 12, 13, 14, 15] rfl
    have hDc := (hDD σ_13).sub (ws' := (b_w cB cC cI cJ cZ oA rA σ_13)) [7, 8, 9, 10, 11, 12, 13, 14, 15] (by decide +kernel) rfl
    have hFc := va_free (wc := (b_w cB cC cI cJ cZ oA rA σ_13)) (hDD σ_13) hS hA [7, 8, 9, 10, 11, 12, 13, 14, 15] rfl
    refine g_ofl (wc := (b_w cB cC cI cJ cZ oA rA σ_13)) (wr := (b_m cB cC cI cJ cZ oA rA σ_13 ++ b_s cB cC cI cJ cZ oA rA σ_13 ++ b_c cB cC cI cJ cZ oA rA σ_13 ++ b_t cB cC cI cJ cZ oA rA σ_13 ++ b_d cB cC cI cJ cZ oA rA σ_13)) hP (hDD σ_13) hS hFc [7, 8, 9, 10, 11, 12, 13, 14, 15] [0, 1, 2, 3, 4, 5, 6, 16, 17, 18, 19, 20, 21, 22, 23, 24, 25, 26, 27, 28, 29, 30, 31, 32, 33, 34, 35, 36, 37, 38, 39, 40, 41, 42, 43, 44, 45, 46] rfl rfl (by decide +kernel) (by decide +kernel) (va_runV (As := [.int u_11.1]) (rest := [.ref (oA 7), .int u_1.1, .ref (rA 4 8)]) ⟨hx, hb, hml, hown, hts⟩ (k_X10_termOf l dC dI cB cC cI cJ cZ cP oA rA H.size  u_11.1 σ_13 _ hu_15) (cwV 1 hts (g_gV wq_788 wq_789 wq_790 wq_2 wq_791) rfl rfl rfl (by decide +kernel) ⟨Nat.le_of_ble_eq_true rfl, Nat.le_of_ble_eq_true rfl⟩) (g_preV g_bl0 hK hPc hDc hS hE hFc g_to0 (q0 := 0) (ci := 10) rfl rfl) rfl rfl hl.1 rfl (lv_room (Nat.le_of_ble_eq_true rfl)) dX4_verbItem_63 ⟨Nat.le_of_ble_eq_true rfl, Nat.le_of_ble_eq_true rfl⟩) (fun r9 u9 H locs hw9 hP' hD' hS => ?_)
    clear hPc hDc hFc
    subst hw9
    obtain ⟨σ_17, eσ_17, hF_18⟩ := bnd_e hF_16
    clear hF_16
    have hP : va_P (dC, dI) vwCl (b_m cB cC cI cJ cZ oA rA σ_17 ++ b_w cB cC cI cJ cZ oA rA σ_17 ++ b_s cB cC cI cJ cZ oA rA σ_17 ++ b_c cB cC cI cJ cZ oA rA σ_17 ++ b_t cB cC cI cJ cZ oA rA σ_17 ++ b_d cB cC cI cJ cZ oA rA σ_17) H := by rw [eσ_17]; exact hP'.sub [0, 1, 2, 3, 4, 5, 6, 38, 39, 40, 41, 42, 43, 44, 45, 46, 7, 8, 9, 10, 11, 12, 13, 14, 15, 16, 17, 18, 19, 20, 21, 22, 23, 24, 25, 26, 27, 28, 29, 30, 31, 32, 33, 34, 35, 36, 37] rfl
    clear hP' hD'
    obtain ⟨u_19, hu_19, hF_20⟩ := Option.bind_eq_some_iff.mp hF_18
    clear hF_18
    have hPc := hP.sub (ws' := (b_d cB cC cI cJ cZ oA rA σ_17)) [44, 45, 46] rfl
    have hDc := (hDD σ_17).sub (ws' := (b_d cB cC cI cJ cZ oA rA σ_17)) [44, 45, 46] (by decide +kernel) rfl
    have hFc := va_free (wc := (b_d cB cC cI cJ cZ oA rA σ_17)) (hDD σ_17) hS hA [44, 45, 46] rfl
    refine g_ofi (wc := (b_d cB cC cI cJ cZ oA rA σ_17)) (wr := (b_m cB cC cI cJ cZ oA rA σ_17 ++ b_w cB cC cI cJ cZ oA rA σ_17 ++ b_s cB cC cI cJ cZ oA rA σ_17 ++ b_c cB cC cI cJ cZ oA rA σ_17 ++ b_t cB cC cI cJ cZ oA rA σ_17)) hP (hDD σ_17) hS hFc [44, 45, 46] [0, 1, 2, 3, 4, 5, 6, 7, 8, 9, 10, 11, 12, 13, 14, 15, 16, 17, 18, 19, 20, 21, 22, 23, 24, 25, 26, 27, 28, 29, 30, 31, 32, 33, 34, 35, 36, 37, 38, 39, 40, 41, 42, 43] rfl rfl (by decide +kernel) (by decide +kernel) (va_runV (As := [.long u_15.1]) (rest := [.int u_1.1, .ref (rA 4 8)]) ⟨hx, hb, hml, hown, hts⟩ (k_X1_learn l dC dI cB cC cI cJ cZ cP oA rA H.size  u_15.1 σ_17 _ hu_19) (cwV 1 hts (g_gV wq_797 wq_525 wq_526 wq_8 wq_527) rfl rfl rfl (by decide +kernel) ⟨Nat.le_of_ble_eq_true rfl, Nat.le_of_ble_eq_true rfl⟩) (g_preV g_bl0 hK hPc hDc hS hE hFc g_to0 (q0 := 0) (ci := 1) rfl rfl) rfl rfl hl.1 rfl (lv_room (Nat.le_of_ble_eq_true rfl)) dX4_verbItem_66 ⟨Nat.le_of_ble_eq_true rfl, Nat.le_of_ble_eq_true rfl⟩) (fun r9 u9 H locs hw9 hP' hD' hS => ?_)
    clear hPc hDc hFc
    subst hw9
    obtain ⟨σ_21, eσ_21, hF_22⟩ := bnd_e hF_20
    clear hF_20
    have hP : va_P (dC, dI) vwCl (b_m cB cC cI cJ cZ oA rA σ_21 ++ b_w cB cC cI cJ cZ oA rA σ_21 ++ b_s cB cC cI cJ cZ oA rA σ_21 ++ b_c cB cC cI cJ cZ oA rA σ_21 ++ b_t cB cC cI cJ cZ oA rA σ_21 ++ b_d cB cC cI cJ cZ oA rA σ_21) H := by rw [eσ_21]; exact hP'.sub [0, 1, 2, 3, 4, 5, 6, 7, 8, 9, 10, 11, 12, 13, 14, 15, 16, 17, 18, 19, 20, 21, 22, 23, 24, 25, 26, 27, 28, 29, 30, 31, 32, 33, 34, 35, 36, 37, 38, 39, 40, 41, 42, 43, 44, 45, 46] rfl
    clear hP' hD'
    have hPc := hP.sub (ws' := [(rA 4 8, .inl (cI, 61, .inl ((σ_21 4).2.1 8)))]) [25] rfl
    have hDc := (hDD σ_21).sub (ws' := [(rA 4 8, .inl (cI, 61, .inl ((σ_21 4).2.1 8)))]) [25] (by decide +kernel) rfl
    have hFc := va_free (wc := [(rA 4 8, .inl (cI, 61, .inl ((σ_21 4).2.1 8)))]) (hDD σ_21) hS hA [25] rfl
    refine g_ofv (wc := [(rA 4 8, .inl (cI, 61, .inl ((σ_21 4).2.1 8)))]) (wr := (((b_m cB cC cI cJ cZ oA rA σ_21 ++ b_w cB cC cI cJ cZ oA rA σ_21 ++ b_s cB cC cI cJ cZ oA rA σ_21 ++ b_c cB cC cI cJ cZ oA rA σ_21 ++ b_t cB cC cI cJ cZ oA rA σ_21 ++ b_d cB cC cI cJ cZ oA rA σ_21)).eraseIdx 25)) hP (hDD σ_21) hS hFc [25] [0, 1, 2, 3, 4, 5, 6, 7, 8, 9, 10, 11, 12, 13, 14, 15, 16, 17, 18, 19, 20, 21, 22, 23, 24, 26, 27, 28, 29, 30, 31, 32, 33, 34, 35, 36, 37, 38, 39, 40, 41, 42, 43, 44, 45, 46] rfl rfl (by decide +kernel) (by decide +kernel) (va_runSN (As := [.ref (rA 4 8), .int u_1.1, .int u_19.1]) (rest := []) ⟨hx, hb, hml, hown, hts⟩ (c_X11_put l dC dI cB cC cI cJ cZ cP H.size (rA 4 8) u_1.1 u_19.1 61 ((σ_21 4).2.1 8) (by decide)) ⟨va_cnB 3 hts (g_gA wq_412) rfl rfl rfl (hN.at 23 rfl) (hts (.initialized RX11) wq_1) (by decide +kernel) ⟨Nat.le_of_ble_eq_true rfl, Nat.le_of_ble_eq_true rfl⟩, (hts (.static yX11_put) wq_411), trivial⟩ (g_preS g_bl0 hK hPc hDc hS hE hFc g_to0) rfl rfl hl.1 rfl (lv_room (Nat.le_of_ble_eq_true rfl)) dX4_verbItem_69 ⟨Nat.le_of_ble_eq_true rfl, Nat.le_of_ble_eq_true rfl⟩) (fun g9 H locs hw9 hP' hD' hS => ?_)
    clear hPc hDc hFc hD'
    obtain ⟨σ_23, eσ_23, hF_24⟩ := bnd_e hF_22
    clear hF_22
    subst hw9
    have hP : va_P (dC, dI) vwCl (b_m cB cC cI cJ cZ oA rA σ_23 ++ b_w cB cC cI cJ cZ oA rA σ_23 ++ b_s cB cC cI cJ cZ oA rA σ_23 ++ b_c cB cC cI cJ cZ oA rA σ_23 ++ b_t cB cC cI cJ cZ oA rA σ_23 ++ b_d cB cC cI cJ cZ oA rA σ_23) H := by rw [eσ_23]; exact hP'.sub [0, 1, 2, 3, 4, 5, 6, 7, 8, 9, 10, 11, 12, 13, 14, 15, 16, 17, 18, 19, 20, 21, 22, 23, 24, 46, 25, 26, 27, 28, 29, 30, 31, 32, 33, 34, 35, 36, 37, 38, 39, 40, 41, 42, 43, 44, 45] rfl
    clear hP'
    have h9 := Option.some.inj hF_24
    subst h9
    exact W.vret hx hb hr (fun t ht hW => ⟨⟨(), rfl, trivial, m_end ht hP, hDD _⟩, hS.F ht⟩) hS.2.2 dX4_verbItem_72
theorem dX7_addObject_0 : decode cX7_addObject 0 = .ok (.iload_n 1, 1) := by decide +kernel
theorem dX7_addObject_1 : decode cX7_addObject 1 = .ok (.ifCond .lt 19, 3) := by decide +kernel
theorem dX7_addObject_4 : decode cX7_addObject 4 = .ok (.iload_n 1, 1) := by decide +kernel
theorem dX7_addObject_5 : decode cX7_addObject 5 = .ok (.aload_n 0, 1) := by decide +kernel
theorem dX7_addObject_6 : decode cX7_addObject 6 = .ok (.getfield 15, 3) := by decide +kernel
theorem dX7_addObject_9 : decode cX7_addObject 9 = .ok (.arraylength, 1) := by decide +kernel
theorem dX7_addObject_10 : decode cX7_addObject 10 = .ok (.if_icmp .ge 10, 3) := by decide +kernel
theorem dX7_addObject_13 : decode cX7_addObject 13 = .ok (.aload_n 0, 1) := by decide +kernel
theorem dX7_addObject_14 : decode cX7_addObject 14 = .ok (.getfield 15, 3) := by decide +kernel
theorem dX7_addObject_17 : decode cX7_addObject 17 = .ok (.iload_n 1, 1) := by decide +kernel
theorem dX7_addObject_18 : decode cX7_addObject 18 = .ok (.iload_n 2, 1) := by decide +kernel
theorem dX7_addObject_19 : decode cX7_addObject 19 = .ok (.bastore, 1) := by decide +kernel
theorem dX7_addObject_20 : decode cX7_addObject 20 = .ok (.aload_n 0, 1) := by decide +kernel
theorem dX7_addObject_21 : decode cX7_addObject 21 = .ok (.getfield 19, 3) := by decide +kernel
theorem dX7_addObject_24 : decode cX7_addObject 24 = .ok (.iload_n 1, 1) := by decide +kernel
theorem dX7_addObject_25 : decode cX7_addObject 25 = .ok (.iload_n 3, 1) := by decide +kernel
theorem dX7_addObject_26 : decode cX7_addObject 26 = .ok (.invokestatic 141, 3) := by decide +kernel
theorem dX7_addObject_29 : decode cX7_addObject 29 = .ok (.return_, 1) := by decide +kernel
def F_X7_addObject (p0 : Int32) (p1 : Int32) (p2 : Int32) (Γ : HS) : HR :=
  bnd (fun  (σ_1 : HS) => (
    bnd (cA' σ_1 4 2 (g_put 121 ((σ_1 4).2.1 2) p0 p2)) fun σ_5 =>
    some (0, σ_5)
  ) : HS → HR) fun j_2 =>
  if p0 < 0 then (
    j_2  Γ
  ) else (
    if 121 ≤ p0 then (
      j_2  Γ
    ) else (
      if p0 < 0 ∨ 121 ≤ p0.toNatClampNeg then none else
      bnd (cA' Γ 4 1 (upd ((Γ 4).2.1 1) p0.toNatClampNeg (vp_nar .boolean p1))) fun σ_15 =>
      j_2  σ_15
    )
  )
set_option maxHeartbeats 4000000 in
set_option maxRecDepth 100000 in
theorem k_X7_addObject (l : Launch) (dC : Nat → ClassId) (dI : Nat → Nat → Nat) (cB cC cI cJ cZ cP : ClassId) (oA : Nat → Nat) (rA : Nat → Nat → Nat) (sz : Nat)  (p0 : Int32) (p1 : Int32) (p2 : Int32) (Γ : HS) (res : Int32 × HS) (hF : F_X7_addObject p0 p1 p2 Γ = some res) : Met l yX7_addObject (g_ws yX7_addObject cX7_addObject 4 none) ({ frames := 3, cells := 0, slots := 0, locals := 82 }) (va_Pc [.ref (oA 4), .int p0, .int p1, .int p2] (g_B (dC, dI) [(cB, .byte), (cC, .char), (cI, .int), (cJ, .long), (cZ, .boolean), (cP, .object "StoryHouse$Play")] sz (b_s cB cC cI cJ cZ oA rA Γ ++ b_c cB cC cI cJ cZ oA rA Γ ++ b_t cB cC cI cJ cZ oA rA Γ ++ b_d cB cC cI cJ cZ oA rA Γ) g_0)) (va_Qv (fun (_ : Unit) => True) (g_Bo (dC, dI) (va_A (b_s cB cC cI cJ cZ oA rA Γ ++ b_c cB cC cI cJ cZ oA rA Γ ++ b_t cB cC cI cJ cZ oA rA Γ ++ b_d cB cC cI cJ cZ oA rA Γ) sz) (fun (_ : Unit) => (b_s cB cC cI cJ cZ oA rA res.2 ++ b_c cB cC cI cJ cZ oA rA res.2 ++ b_t cB cC cI cJ cZ oA rA res.2 ++ b_d cB cC cI cJ cZ oA rA res.2))) (va_A (b_s cB cC cI cJ cZ oA rA Γ ++ b_c cB cC cI cJ cZ oA rA Γ ++ b_t cB cC cI cJ cZ oA rA Γ ++ b_d cB cC cI cJ cZ oA rA Γ) sz)) 0 0 (va_A (b_s cB cC cI cJ cZ oA rA Γ ++ b_c cB cC cI cJ cZ oA rA Γ ++ b_t cB cC cI cJ cZ oA rA Γ ++ b_d cB cC cI cJ cZ oA rA Γ) sz) := by
  refine Met.ofW (cc := cX7_addObject) (maxL := 4) (ret := none) (by decide) rfl ?_
  intro p e s m args below meth c s₁ B hml hv
  obtain ⟨rfl, hsz, hP, hK, hD0, hE, hX⟩ := hv
  have hx := B.exec
  have hb := B.bytes
  have hr := B.returns
  have hts0 := atoms_spec (ws := g_ws yX7_addObject cX7_addObject 4 none) B.pre
  have hts : ∀ w ∈ lw_good, w.before ([.ref (oA 4), .int p0, .int p1, .int p2] : List Value).toArray s = true := fun w z => hts0 w (List.mem_cons_of_mem _ z)
  have hown : s.vm.findClass RX7 = some m.cls := findClass_of_methodNamed B.named
  have hlocks := B.notSynchronized
  subst hsz
  have hD1 := hD0.self (sz := s.heap.size)
  generalize hAe : va_A (b_s cB cC cI cJ cZ oA rA Γ ++ b_c cB cC cI cJ cZ oA rA Γ ++ b_t cB cC cI cJ cZ oA rA Γ ++ b_d cB cC cI cJ cZ oA rA Γ) s.heap.size = A at hD1 hE hX ⊢
  have hA : ∀ q : Nat, s.heap.size ≤ q → A q := fun q z => by rw [← hAe]; exact Or.inr z
  have hDD : ∀ Γ : HS, va_D A (b_s cB cC cI cJ cZ oA rA Γ ++ b_c cB cC cI cJ cZ oA rA Γ ++ b_t cB cC cI cJ cZ oA rA Γ ++ b_d cB cC cI cJ cZ oA rA Γ) := fun Γ9 => va_D_fst (ws := (b_s cB cC cI cJ cZ oA rA Γ ++ b_c cB cC cI cJ cZ oA rA Γ ++ b_t cB cC cI cJ cZ oA rA Γ ++ b_d cB cC cI cJ cZ oA rA Γ)) (ws' := (b_s cB cC cI cJ cZ oA rA Γ9 ++ b_c cB cC cI cJ cZ oA rA Γ9 ++ b_t cB cC cI cJ cZ oA rA Γ9 ++ b_d cB cC cI cJ cZ oA rA Γ9)) rfl hD1
  have hN := hE.1
  have hS : va_S A s.heap s.heap [] := va_S.rf
  have hl := lv_entry ([.ref (oA 4), .int p0, .int p1, .int p2]) (n := 4) (Nat.le_of_ble_eq_true rfl)
  rw [lg_entry_eq]
  generalize (lg_sl ([.ref (oA 4), .int p0, .int p1, .int p2]) ++ List.replicate (4 - (lg_sl ([.ref (oA 4), .int p0, .int p1, .int p2])).length) Slot.unset).toArray = ls at hl ⊢
  have hl : lv_has ls 4 [(0, .ref (oA 4)), (1, .int p0), (2, .int p1), (3, .int p2)] := hl
  unfold F_X7_addObject at hF
  refine lv_iload_n hx hb dX7_addObject_0 rfl (lv_at hl 1 rfl) ?_
  obtain ⟨j_2, ej_2, hF_3⟩ := bnd_e hF
  clear hF
  have Jj_2 : ∀  (σ_1 : HS), j_2  σ_1 = some res → ∀ (H : Heap) (locs : List Loc), va_P (dC, dI) vwCl (b_s cB cC cI cJ cZ oA rA σ_1 ++ b_c cB cC cI cJ cZ oA rA σ_1 ++ b_t cB cC cI cJ cZ oA rA σ_1 ++ b_d cB cC cI cJ cZ oA rA σ_1) H → va_S A s.heap H locs → ∀ ls : Array Slot, lv_has ls 4 [(0, .ref (oA 4)), (1, .int p0), (3, .int p2)] → W p l e (headSpec (g_ws yX7_addObject cX7_addObject 4 none) { frames := 3, cells := 0, slots := 0, locals := 82 }).room s m ([.ref (oA 4), .int p0, .int p1, .int p2] : List Value).toArray below meth c H locs 0 0 (MQ below (va_Qv (fun (_ : Unit) => True) (g_Bo (dC, dI) A (fun (_ : Unit) => (b_s cB cC cI cJ cZ oA rA res.2 ++ b_c cB cC cI cJ cZ oA rA res.2 ++ b_t cB cC cI cJ cZ oA rA res.2 ++ b_d cB cC cI cJ cZ oA rA res.2))) A) ([.ref (oA 4), .int p0, .int p1, .int p2] : List Value).toArray s 0 0 A) (F0 m 20 ls []) := by
    intro  σ_1 hF0 H locs hP hS ls hl
    subst ej_2
    have hF_4 := hF0
    clear hF0
    refine lv_aload_n hx hb dX7_addObject_20 rfl (lv_at hl 0 rfl) ?_
    refine va_get (D := (dC, dI)) (ci := 7) (v := .ref (rA 4 2)) (C := RX7) (T := TX7) (N := 19) hx hb hts ii_X7 hown hK hP 0 rfl rfl 2 (by decide) (hts (.fieldLink RX7 19 "StoryHouse$Story" "called" "[I") wq_157) (fun _ h9 => h9) rfl dX7_addObject_21 ?_
    refine lv_iload_n hx hb dX7_addObject_24 rfl (lv_at hl 1 rfl) ?_
    refine lv_iload_n hx hb dX7_addObject_25 rfl (lv_at hl 2 rfl) ?_
    have hPc := hP.sub (ws' := [(rA 4 2, .inl (cI, 121, .inl ((σ_1 4).2.1 2)))]) [3] rfl
    have hDc := (hDD σ_1).sub (ws' := [(rA 4 2, .inl (cI, 121, .inl ((σ_1 4).2.1 2)))]) [3] (by decide +kernel) rfl
    have hFc := va_free (wc := [(rA 4 2, .inl (cI, 121, .inl ((σ_1 4).2.1 2)))]) (hDD σ_1) hS hA [3] rfl
    refine g_ofv (wc := [(rA 4 2, .inl (cI, 121, .inl ((σ_1 4).2.1 2)))]) (wr := (((b_s cB cC cI cJ cZ oA rA σ_1 ++ b_c cB cC cI cJ cZ oA rA σ_1 ++ b_t cB cC cI cJ cZ oA rA σ_1 ++ b_d cB cC cI cJ cZ oA rA σ_1)).eraseIdx 3)) hP (hDD σ_1) hS hFc [3] [0, 1, 2, 4, 5, 6, 7, 8, 9, 10, 11, 12, 13, 14, 15, 16, 17, 18, 19, 20, 21, 22, 23, 24, 25, 26, 27, 28, 29, 30] rfl rfl (by decide +kernel) (by decide +kernel) (va_runSN (As := [.ref (rA 4 2), .int p0, .int p2]) (rest := []) ⟨hx, hb, hml, hown, hts⟩ (c_X11_put l dC dI cB cC cI cJ cZ cP H.size (rA 4 2) p0 p2 121 ((σ_1 4).2.1 2) (by decide)) ⟨va_cnB 3 hts (g_gA wq_412) rfl rfl rfl (hN.at 18 rfl) (hts (.initialized RX11) wq_1) (by decide +kernel) ⟨Nat.le_of_ble_eq_true rfl, Nat.le_of_ble_eq_true rfl⟩, (hts (.static yX11_put) wq_411), trivial⟩ (g_preS g_bl0 hK hPc hDc hS hE hFc g_to0) rfl rfl hl.1 rfl (lv_room (Nat.le_of_ble_eq_true rfl)) dX7_addObject_26 ⟨Nat.le_of_ble_eq_true rfl, Nat.le_of_ble_eq_true rfl⟩) (fun g9 H locs hw9 hP' hD' hS => ?_)
    clear hPc hDc hFc hD'
    obtain ⟨σ_5, eσ_5, hF_6⟩ := bnd_e hF_4
    clear hF_4
    subst hw9
    have hP : va_P (dC, dI) vwCl (b_s cB cC cI cJ cZ oA rA σ_5 ++ b_c cB cC cI cJ cZ oA rA σ_5 ++ b_t cB cC cI cJ cZ oA rA σ_5 ++ b_d cB cC cI cJ cZ oA rA σ_5) H := by rw [eσ_5]; exact hP'.sub [0, 1, 2, 30, 3, 4, 5, 6, 7, 8, 9, 10, 11, 12, 13, 14, 15, 16, 17, 18, 19, 20, 21, 22, 23, 24, 25, 26, 27, 28, 29] rfl
    clear hP'
    have h9 := Option.some.inj hF_6
    subst h9
    exact W.vret hx hb hr (fun t ht hW => ⟨⟨(), rfl, trivial, m_end ht hP, hDD _⟩, hS.F ht⟩) hS.2.2 dX7_addObject_29
  refine lv_if_lt (tgt := 20) hx hb dX7_addObject_1 (by decide) (fun c_7 => ?_) (fun c_7 => ?_)
  · have hF_8 := ipos c_7 hF_3
    clear hF_3
    exact Jj_2  Γ hF_8 _ _ hP hS ls (lv_sub hl [0, 1, 3] rfl)
  · have hF_9 := ineg c_7 hF_3
    clear hF_3
    refine lv_iload_n hx hb dX7_addObject_4 rfl (lv_at hl 1 rfl) ?_
    refine lv_aload_n hx hb dX7_addObject_5 rfl (lv_at hl 0 rfl) ?_
    refine va_get (D := (dC, dI)) (ci := 7) (v := .ref (rA 4 1)) (C := RX7) (T := TX7) (N := 19) hx hb hts ii_X7 hown hK hP 0 rfl rfl 1 (by decide) (hts (.fieldLink RX7 15 "StoryHouse$Story" "rooms" "[Z") wq_156) (fun _ h9 => h9) rfl dX7_addObject_6 ?_
    refine va_alen (v := 121) hx hb hK hP 2 4 rfl rfl (by first | rfl | decide +kernel) dX7_addObject_9 ?_
    refine lv_icmp_ge (tgt := 20) hx hb dX7_addObject_10 (by decide) (fun c_10 => ?_) (fun c_10 => ?_)
    · have hF_11 := ipos c_10 hF_9
      clear hF_9
      exact Jj_2  Γ hF_11 _ _ hP hS ls (lv_sub hl [0, 1, 3] rfl)
    · have hF_12 := ineg c_10 hF_9
      clear hF_9
      refine lv_aload_n hx hb dX7_addObject_13 rfl (lv_at hl 0 rfl) ?_
      refine va_get (D := (dC, dI)) (ci := 7) (v := .ref (rA 4 1)) (C := RX7) (T := TX7) (N := 19) hx hb hts ii_X7 hown hK hP 0 rfl rfl 1 (by decide) (hts (.fieldLink RX7 15 "StoryHouse$Story" "rooms" "[Z") wq_156) (fun _ h9 => h9) rfl dX7_addObject_14 ?_
      refine lv_iload_n hx hb dX7_addObject_17 rfl (lv_at hl 1 rfl) ?_
      refine lv_iload_n hx hb dX7_addObject_18 rfl (lv_at hl 2 rfl) ?_
      obtain ⟨g_13, hF_14⟩ := nif_e hF_12
      clear hF_12
      obtain ⟨σ_15, eσ_15, hF_16⟩ := bnd_e hF_14
      clear hF_14
      refine va_zast (f := (Γ 4).2.1 1) hx hb hK hP (hDD _) hS 2 4 rfl rfl g_13 dX7_addObject_19 (fun H locs hP' _ hS => ?_)
      have hP : va_P (dC, dI) vwCl (b_s cB cC cI cJ cZ oA rA σ_15 ++ b_c cB cC cI cJ cZ oA rA σ_15 ++ b_t cB cC cI cJ cZ oA rA σ_15 ++ b_d cB cC cI cJ cZ oA rA σ_15) H := by rw [eσ_15]; exact cs_sctd_s_1 ▸ hP'
      clear hP'
      exact Jj_2  σ_15 hF_16 _ _ hP hS ls (lv_sub hl [0, 1, 3] rfl)
