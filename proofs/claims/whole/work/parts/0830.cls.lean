/-! methods of the class: what each does is its function -/
theorem dX4_isTooLong_0 : decode cX4_isTooLong 0 = .ok (.aload_n 0, 1) := by decide +kernel
theorem dX4_isTooLong_1 : decode cX4_isTooLong 1 = .ok (.getfield 32, 3) := by decide +kernel
theorem dX4_isTooLong_4 : decode cX4_isTooLong 4 = .ok (.aload_n 0, 1) := by decide +kernel
theorem dX4_isTooLong_5 : decode cX4_isTooLong 5 = .ok (.getfield 32, 3) := by decide +kernel
theorem dX4_isTooLong_8 : decode cX4_isTooLong 8 = .ok (.getfield 181, 3) := by decide +kernel
theorem dX4_isTooLong_11 : decode cX4_isTooLong 11 = .ok (.iload_n 1, 1) := by decide +kernel
theorem dX4_isTooLong_12 : decode cX4_isTooLong 12 = .ok (.invokestatic 122, 3) := by decide +kernel
theorem dX4_isTooLong_15 : decode cX4_isTooLong 15 = .ok (.invokevirtual 88, 3) := by decide +kernel
theorem dX4_isTooLong_18 : decode cX4_isTooLong 18 = .ok (.iconst 1, 1) := by decide +kernel
theorem dX4_isTooLong_19 : decode cX4_isTooLong 19 = .ok (.iadd, 1) := by decide +kernel
theorem dX4_isTooLong_20 : decode cX4_isTooLong 20 = .ok (.aload_n 0, 1) := by decide +kernel
theorem dX4_isTooLong_21 : decode cX4_isTooLong 21 = .ok (.getfield 32, 3) := by decide +kernel
theorem dX4_isTooLong_24 : decode cX4_isTooLong 24 = .ok (.iload_n 1, 1) := by decide +kernel
theorem dX4_isTooLong_25 : decode cX4_isTooLong 25 = .ok (.invokevirtual 88, 3) := by decide +kernel
theorem dX4_isTooLong_28 : decode cX4_isTooLong 28 = .ok (.isub, 1) := by decide +kernel
theorem dX4_isTooLong_29 : decode cX4_isTooLong 29 = .ok (.sipush 4000, 3) := by decide +kernel
theorem dX4_isTooLong_32 : decode cX4_isTooLong 32 = .ok (.if_icmp .le 7, 3) := by decide +kernel
theorem dX4_isTooLong_35 : decode cX4_isTooLong 35 = .ok (.iconst 1, 1) := by decide +kernel
theorem dX4_isTooLong_36 : decode cX4_isTooLong 36 = .ok (.goto 4, 3) := by decide +kernel
theorem dX4_isTooLong_39 : decode cX4_isTooLong 39 = .ok (.iconst 0, 1) := by decide +kernel
theorem dX4_isTooLong_40 : decode cX4_isTooLong 40 = .ok (.ireturn, 1) := by decide +kernel
def F_X4_isTooLong (p0 : Int32) (Γ : HS) : HR :=
  bnd ((g_at 16001 ((Γ 1).2.1 6) p0)) fun (x_1 : Int32) =>
  (F_X10_placeOf x_1 Γ).bind fun u_3 =>
  bnd (mrg (fun j => j == 1) Γ u_3.2) fun σ_5 =>
  (F_X10_placeOf p0 σ_5).bind fun u_7 =>
  bnd (mrg (fun j => j == 1) σ_5 u_7.2) fun σ_9 =>
  if ((u_3.1 + 1) - u_7.1) ≤ 4000 then (
    some (0, σ_9)
  ) else (
    some (1, σ_9)
  )
set_option maxHeartbeats 4000000 in
set_option maxRecDepth 100000 in
theorem k_X4_isTooLong (l : Launch) (dC : Nat → ClassId) (dI : Nat → Nat → Nat) (cB cC cI cJ cZ cP : ClassId) (oA : Nat → Nat) (rA : Nat → Nat → Nat) (sz : Nat)  (p0 : Int32) (Γ : HS) (res : Int32 × HS) (hF : F_X4_isTooLong p0 Γ = some res) : Met l yX4_isTooLong (g_ws yX4_isTooLong cX4_isTooLong 2 (some .boolean)) ({ frames := 4, cells := 0, slots := 0, locals := 102 }) (va_Pc [.ref (oA 3), .int p0] (g_B (dC, dI) [(cB, .byte), (cC, .char), (cI, .int), (cJ, .long), (cZ, .boolean), (cP, .object "StoryHouse$Play")] sz (b_m cB cC cI cJ cZ oA rA Γ ++ b_w cB cC cI cJ cZ oA rA Γ ++ b_s cB cC cI cJ cZ oA rA Γ ++ b_c cB cC cI cJ cZ oA rA Γ ++ b_t cB cC cI cJ cZ oA rA Γ ++ b_d cB cC cI cJ cZ oA rA Γ) g_0)) (va_Qi (fun r (_ : Unit) => r = res.1) (g_Bo (dC, dI) (va_A (b_m cB cC cI cJ cZ oA rA Γ ++ b_w cB cC cI cJ cZ oA rA Γ ++ b_s cB cC cI cJ cZ oA rA Γ ++ b_c cB cC cI cJ cZ oA rA Γ ++ b_t cB cC cI cJ cZ oA rA Γ ++ b_d cB cC cI cJ cZ oA rA Γ) sz) (fun (_ : Unit) => (b_m cB cC cI cJ cZ oA rA res.2 ++ b_w cB cC cI cJ cZ oA rA res.2 ++ b_s cB cC cI cJ cZ oA rA res.2 ++ b_c cB cC cI cJ cZ oA rA res.2 ++ b_t cB cC cI cJ cZ oA rA res.2 ++ b_d cB cC cI cJ cZ oA rA res.2))) (va_A (b_m cB cC cI cJ cZ oA rA Γ ++ b_w cB cC cI cJ cZ oA rA Γ ++ b_s cB cC cI cJ cZ oA rA Γ ++ b_c cB cC cI cJ cZ oA rA Γ ++ b_t cB cC cI cJ cZ oA rA Γ ++ b_d cB cC cI cJ cZ oA rA Γ) sz)) 0 0 (va_A (b_m cB cC cI cJ cZ oA rA Γ ++ b_w cB cC cI cJ cZ oA rA Γ ++ b_s cB cC cI cJ cZ oA rA Γ ++ b_c cB cC cI cJ cZ oA rA Γ ++ b_t cB cC cI cJ cZ oA rA Γ ++ b_d cB cC cI cJ cZ oA rA Γ) sz) := by
  refine Met.ofW (cc := cX4_isTooLong) (maxL := 2) (ret := (some .boolean)) (by decide) rfl ?_
  intro p e s m args below meth c s₁ B hml hv
  obtain ⟨rfl, hsz, hP, hK, hD0, hE, hX⟩ := hv
  have hx := B.exec
  have hb := B.bytes
  have hr := B.returns
  have hts0 := atoms_spec (ws := g_ws yX4_isTooLong cX4_isTooLong 2 (some .boolean)) B.pre
  have hts : ∀ w ∈ lw_good, w.before ([.ref (oA 3), .int p0] : List Value).toArray s = true := fun w z => hts0 w (List.mem_cons_of_mem _ z)
  have hown : s.vm.findClass RX4 = some m.cls := findClass_of_methodNamed B.named
  have hlocks := B.notSynchronized
  subst hsz
  have hD1 := hD0.self (sz := s.heap.size)
  generalize hAe : va_A (b_m cB cC cI cJ cZ oA rA Γ ++ b_w cB cC cI cJ cZ oA rA Γ ++ b_s cB cC cI cJ cZ oA rA Γ ++ b_c cB cC cI cJ cZ oA rA Γ ++ b_t cB cC cI cJ cZ oA rA Γ ++ b_d cB cC cI cJ cZ oA rA Γ) s.heap.size = A at hD1 hE hX ⊢
  have hA : ∀ q : Nat, s.heap.size ≤ q → A q := fun q z => by rw [← hAe]; exact Or.inr z
  have hDD : ∀ Γ : HS, va_D A (b_m cB cC cI cJ cZ oA rA Γ ++ b_w cB cC cI cJ cZ oA rA Γ ++ b_s cB cC cI cJ cZ oA rA Γ ++ b_c cB cC cI cJ cZ oA rA Γ ++ b_t cB cC cI cJ cZ oA rA Γ ++ b_d cB cC cI cJ cZ oA rA Γ) := fun Γ9 => va_D_fst (ws := (b_m cB cC cI cJ cZ oA rA Γ ++ b_w cB cC cI cJ cZ oA rA Γ ++ b_s cB cC cI cJ cZ oA rA Γ ++ b_c cB cC cI cJ cZ oA rA Γ ++ b_t cB cC cI cJ cZ oA rA Γ ++ b_d cB cC cI cJ cZ oA rA Γ)) (ws' := (b_m cB cC cI cJ cZ oA rA Γ9 ++ b_w cB cC cI cJ cZ oA rA Γ9 ++ b_s cB cC cI cJ cZ oA rA Γ9 ++ b_c cB cC cI cJ cZ oA rA Γ9 ++ b_t cB cC cI cJ cZ oA rA Γ9 ++ b_d cB cC cI cJ cZ oA rA Γ9)) rfl hD1
  have hN := hE.1
  have hS : va_S A s.heap s.heap [] := va_S.rf
  have hl := lv_entry ([.ref (oA 3), .int p0]) (n := 2) (Nat.le_of_ble_eq_true rfl)
  rw [lg_entry_eq]
  generalize (lg_sl ([.ref (oA 3), .int p0]) ++ List.replicate (2 - (lg_sl ([.ref (oA 3), .int p0])).length) Slot.unset).toArray = ls at hl ⊢
  have hl : lv_has ls 2 [(0, .ref (oA 3)), (1, .int p0)] := hl
  unfold F_X4_isTooLong at hF
  refine lv_aload_n hx hb dX4_isTooLong_0 rfl (lv_at hl 0 rfl) ?_
  refine va_get (D := (dC, dI)) (ci := 4) (v := .ref (oA 1)) (C := RX4) (T := TX4) (N := 18) hx hb hts ii_X4 hown hK hP 0 rfl rfl 0 (by decide) (hts (.fieldLink RX4 32 "StoryHouse$Meanings" "words" "LStoryHouse$Words;") wq_86) (fun _ h9 => h9) rfl dX4_isTooLong_1 ?_
  refine lv_aload_n hx hb dX4_isTooLong_4 rfl (lv_at hl 0 rfl) ?_
  refine va_get (D := (dC, dI)) (ci := 4) (v := .ref (oA 1)) (C := RX4) (T := TX4) (N := 18) hx hb hts ii_X4 hown hK hP 0 rfl rfl 0 (by decide) (hts (.fieldLink RX4 32 "StoryHouse$Meanings" "words" "LStoryHouse$Words;") wq_86) (fun _ h9 => h9) rfl dX4_isTooLong_5 ?_
  refine va_get (D := (dC, dI)) (ci := 10) (v := .ref (rA 1 6)) (C := RX10) (T := TX10) (N := 12) hx hb hts ii_X10 hown hK hP 7 rfl rfl 6 (by decide) (hts (.fieldLink RX4 181 "StoryHouse$Words" "notes" "[I") wq_54) (fun _ h9 => h9) rfl dX4_isTooLong_8 ?_
  refine lv_iload_n hx hb dX4_isTooLong_11 rfl (lv_at hl 1 rfl) ?_
  have hq9 : ((b_m cB cC cI cJ cZ oA rA Γ ++ b_w cB cC cI cJ cZ oA rA Γ ++ b_s cB cC cI cJ cZ oA rA Γ ++ b_c cB cC cI cJ cZ oA rA Γ ++ b_t cB cC cI cJ cZ oA rA Γ ++ b_d cB cC cI cJ cZ oA rA Γ))[12]? = some (rA 1 6, .inl (cI, 16001, .inl ((Γ 1).2.1 6))) := rfl
  have hPc := hP.sub (ws' := [(rA 1 6, .inl (cI, 16001, .inl ((Γ 1).2.1 6)))]) [12] (pk_fm (er_C hq9))
  have hDc := (hDD Γ).sub (ws' := [(rA 1 6, .inl (cI, 16001, .inl ((Γ 1).2.1 6)))]) [12] (by decide +kernel) (er_C hq9)
  have hFc := va_free (wc := [(rA 1 6, .inl (cI, 16001, .inl ((Γ 1).2.1 6)))]) (hDD Γ) hS hA [12] (er_C hq9)
  refine g_ofi (wc := [(rA 1 6, .inl (cI, 16001, .inl ((Γ 1).2.1 6)))]) (wr := (((b_m cB cC cI cJ cZ oA rA Γ ++ b_w cB cC cI cJ cZ oA rA Γ ++ b_s cB cC cI cJ cZ oA rA Γ ++ b_c cB cC cI cJ cZ oA rA Γ ++ b_t cB cC cI cJ cZ oA rA Γ ++ b_d cB cC cI cJ cZ oA rA Γ)).eraseIdx 12)) hP (hDD Γ) hS hFc [12] ((List.range ((b_m cB cC cI cJ cZ oA rA Γ ++ b_w cB cC cI cJ cZ oA rA Γ ++ b_s cB cC cI cJ cZ oA rA Γ ++ b_c cB cC cI cJ cZ oA rA Γ ++ b_t cB cC cI cJ cZ oA rA Γ ++ b_d cB cC cI cJ cZ oA rA Γ)).length).eraseIdx 12) (er_C hq9) er_R er_n er_d (va_runSN (As := [.ref (rA 1 6), .int p0]) (rest := [.ref (oA 1)]) ⟨hx, hb, hml, hown, hts⟩ (c_X11_at l dC dI cB cC cI cJ cZ cP s.heap.size (rA 1 6) p0 16001 ((Γ 1).2.1 6) (by decide)) ⟨va_cnB 2 hts (g_gA wq_407) rfl rfl rfl (nw_24 hN) (hts (.initialized RX11) wq_1) (by decide +kernel) ⟨Nat.le_of_ble_eq_true rfl, Nat.le_of_ble_eq_true rfl⟩, (hts (.static yX11_at) wq_406), trivial⟩ (g_preS g_bl0 hK hPc hDc hS hE hFc g_to0) rfl rfl hl.1 rfl (lv_room (Nat.le_of_ble_eq_true rfl)) dX4_isTooLong_12 ⟨Nat.le_of_ble_eq_true rfl, Nat.le_of_ble_eq_true rfl⟩) (fun r9 u9 H locs hw9 hP' hD' hS => ?_)
  clear hPc hDc hFc hD'
  have hP : va_P (dC, dI) vwCl (b_m cB cC cI cJ cZ oA rA Γ ++ b_w cB cC cI cJ cZ oA rA Γ ++ b_s cB cC cI cJ cZ oA rA Γ ++ b_c cB cC cI cJ cZ oA rA Γ ++ b_t cB cC cI cJ cZ oA rA Γ ++ b_d cB cC cI cJ cZ oA rA Γ) H := er_I hP' hq9
  clear hP' hq9
  subst hw9
  obtain ⟨x_1, ex_1, hF_2⟩ := bnd_e hF
  clear hF
  refine m_top ex_1 ?_
  obtain ⟨u_3, hu_3, hF_4⟩ := Option.bind_eq_some_iff.mp hF_2
  clear hF_2
  have hPc := bx_P (bs := [b_m cB cC cI cJ cZ oA rA Γ, b_w cB cC cI cJ cZ oA rA Γ, b_s cB cC cI cJ cZ oA rA Γ, b_c cB cC cI cJ cZ oA rA Γ, b_t cB cC cI cJ cZ oA rA Γ, b_d cB cC cI cJ cZ oA rA Γ]) (bs' := [b_w cB cC cI cJ cZ oA rA Γ]) (ws' := (b_w cB cC cI cJ cZ oA rA Γ)) hP fl_6 fl_1 [1] rfl
  have hDc := bx_D (bs := [b_m cB cC cI cJ cZ oA rA Γ, b_w cB cC cI cJ cZ oA rA Γ, b_s cB cC cI cJ cZ oA rA Γ, b_c cB cC cI cJ cZ oA rA Γ, b_t cB cC cI cJ cZ oA rA Γ, b_d cB cC cI cJ cZ oA rA Γ]) (bs' := [b_w cB cC cI cJ cZ oA rA Γ]) (ws' := (b_w cB cC cI cJ cZ oA rA Γ)) (hDD Γ) fl_6 fl_1 [1] (by decide +kernel) rfl
  have hFc := bx_F (bs := [b_m cB cC cI cJ cZ oA rA Γ, b_w cB cC cI cJ cZ oA rA Γ, b_s cB cC cI cJ cZ oA rA Γ, b_c cB cC cI cJ cZ oA rA Γ, b_t cB cC cI cJ cZ oA rA Γ, b_d cB cC cI cJ cZ oA rA Γ]) (bs' := [b_w cB cC cI cJ cZ oA rA Γ]) (wc := (b_w cB cC cI cJ cZ oA rA Γ)) (hDD Γ) hS hA fl_6 fl_1 [1] rfl
  refine g_ofi (wc := (b_w cB cC cI cJ cZ oA rA Γ)) (wr := (b_m cB cC cI cJ cZ oA rA Γ ++ b_s cB cC cI cJ cZ oA rA Γ ++ b_c cB cC cI cJ cZ oA rA Γ ++ b_t cB cC cI cJ cZ oA rA Γ ++ b_d cB cC cI cJ cZ oA rA Γ)) hP (hDD Γ) hS hFc (bx_ix [b_m cB cC cI cJ cZ oA rA Γ, b_w cB cC cI cJ cZ oA rA Γ, b_s cB cC cI cJ cZ oA rA Γ, b_c cB cC cI cJ cZ oA rA Γ, b_t cB cC cI cJ cZ oA rA Γ, b_d cB cC cI cJ cZ oA rA Γ] [1]) (bx_ix [b_m cB cC cI cJ cZ oA rA Γ, b_w cB cC cI cJ cZ oA rA Γ, b_s cB cC cI cJ cZ oA rA Γ, b_c cB cC cI cJ cZ oA rA Γ, b_t cB cC cI cJ cZ oA rA Γ, b_d cB cC cI cJ cZ oA rA Γ] [0, 2, 3, 4, 5]) (bx_C (bs := [b_m cB cC cI cJ cZ oA rA Γ, b_w cB cC cI cJ cZ oA rA Γ, b_s cB cC cI cJ cZ oA rA Γ, b_c cB cC cI cJ cZ oA rA Γ, b_t cB cC cI cJ cZ oA rA Γ, b_d cB cC cI cJ cZ oA rA Γ]) (bs' := [b_w cB cC cI cJ cZ oA rA Γ]) (is := [1]) fl_6 fl_1 rfl) (bx_C (bs := [b_m cB cC cI cJ cZ oA rA Γ, b_w cB cC cI cJ cZ oA rA Γ, b_s cB cC cI cJ cZ oA rA Γ, b_c cB cC cI cJ cZ oA rA Γ, b_t cB cC cI cJ cZ oA rA Γ, b_d cB cC cI cJ cZ oA rA Γ]) (bs' := [b_m cB cC cI cJ cZ oA rA Γ, b_s cB cC cI cJ cZ oA rA Γ, b_c cB cC cI cJ cZ oA rA Γ, b_t cB cC cI cJ cZ oA rA Γ, b_d cB cC cI cJ cZ oA rA Γ]) (is := [0, 2, 3, 4, 5]) fl_6 fl_5 rfl) (bx_n (by decide +kernel)) (bx_d (by decide +kernel)) (va_runV (As := [.int x_1]) (rest := []) ⟨hx, hb, hml, hown, hts⟩ (k_X10_placeOf l dC dI cB cC cI cJ cZ cP oA rA H.size  x_1 Γ _ hu_3) (cwV 1 hts (g_gV wq_728 wq_702 wq_703 wq_2 wq_704) rfl rfl rfl (by decide +kernel) ⟨Nat.le_of_ble_eq_true rfl, Nat.le_of_ble_eq_true rfl⟩) (g_preV g_bl0 hK hPc hDc hS hE hFc g_to0 (q0 := 0) (ci := 10) rfl rfl) rfl rfl hl.1 rfl (lv_room (Nat.le_of_ble_eq_true rfl)) dX4_isTooLong_15 ⟨Nat.le_of_ble_eq_true rfl, Nat.le_of_ble_eq_true rfl⟩) (fun r9 u9 H locs hw9 hP' hD' hS => ?_)
  clear hPc hDc hFc
  subst hw9
  obtain ⟨σ_5, eσ_5, hF_6⟩ := bnd_e hF_4
  clear hF_4
  have hP : va_P (dC, dI) vwCl (b_m cB cC cI cJ cZ oA rA σ_5 ++ b_w cB cC cI cJ cZ oA rA σ_5 ++ b_s cB cC cI cJ cZ oA rA σ_5 ++ b_c cB cC cI cJ cZ oA rA σ_5 ++ b_t cB cC cI cJ cZ oA rA σ_5 ++ b_d cB cC cI cJ cZ oA rA σ_5) H := by rw [eσ_5]; exact bx_P (bs := [b_m cB cC cI cJ cZ oA rA Γ, b_s cB cC cI cJ cZ oA rA Γ, b_c cB cC cI cJ cZ oA rA Γ, b_t cB cC cI cJ cZ oA rA Γ, b_d cB cC cI cJ cZ oA rA Γ] ++ [b_w cB cC cI cJ cZ oA rA u_3.2]) (bs' := [b_m cB cC cI cJ cZ oA rA (mrg (fun j => j == 1) Γ u_3.2), b_w cB cC cI cJ cZ oA rA (mrg (fun j => j == 1) Γ u_3.2), b_s cB cC cI cJ cZ oA rA (mrg (fun j => j == 1) Γ u_3.2), b_c cB cC cI cJ cZ oA rA (mrg (fun j => j == 1) Γ u_3.2), b_t cB cC cI cJ cZ oA rA (mrg (fun j => j == 1) Γ u_3.2), b_d cB cC cI cJ cZ oA rA (mrg (fun j => j == 1) Γ u_3.2)]) hP' (fl_a fl_5 fl_1) fl_6 [0, 5, 1, 2, 3, 4] rfl
  clear hP' hD'
  refine lv_iconst (v := 1) hx hb dX4_isTooLong_18 (by decide +kernel) ?_
  refine lv_iadd hx hb dX4_isTooLong_19 ?_
  refine lv_aload_n hx hb dX4_isTooLong_20 rfl (lv_at hl 0 rfl) ?_
  refine va_get (D := (dC, dI)) (ci := 4) (v := .ref (oA 1)) (C := RX4) (T := TX4) (N := 18) hx hb hts ii_X4 hown hK hP 0 rfl rfl 0 (by decide) (hts (.fieldLink RX4 32 "StoryHouse$Meanings" "words" "LStoryHouse$Words;") wq_86) (fun _ h9 => h9) rfl dX4_isTooLong_21 ?_
  refine lv_iload_n hx hb dX4_isTooLong_24 rfl (lv_at hl 1 rfl) ?_
  obtain ⟨u_7, hu_7, hF_8⟩ := Option.bind_eq_some_iff.mp hF_6
  clear hF_6
  have hPc := bx_P (bs := [b_m cB cC cI cJ cZ oA rA σ_5, b_w cB cC cI cJ cZ oA rA σ_5, b_s cB cC cI cJ cZ oA rA σ_5, b_c cB cC cI cJ cZ oA rA σ_5, b_t cB cC cI cJ cZ oA rA σ_5, b_d cB cC cI cJ cZ oA rA σ_5]) (bs' := [b_w cB cC cI cJ cZ oA rA σ_5]) (ws' := (b_w cB cC cI cJ cZ oA rA σ_5)) hP fl_6 fl_1 [1] rfl
  have hDc := bx_D (bs := [b_m cB cC cI cJ cZ oA rA σ_5, b_w cB cC cI cJ cZ oA rA σ_5, b_s cB cC cI cJ cZ oA rA σ_5, b_c cB cC cI cJ cZ oA rA σ_5, b_t cB cC cI cJ cZ oA rA σ_5, b_d cB cC cI cJ cZ oA rA σ_5]) (bs' := [b_w cB cC cI cJ cZ oA rA σ_5]) (ws' := (b_w cB cC cI cJ cZ oA rA σ_5)) (hDD σ_5) fl_6 fl_1 [1] (by decide +kernel) rfl
  have hFc := bx_F (bs := [b_m cB cC cI cJ cZ oA rA σ_5, b_w cB cC cI cJ cZ oA rA σ_5, b_s cB cC cI cJ cZ oA rA σ_5, b_c cB cC cI cJ cZ oA rA σ_5, b_t cB cC cI cJ cZ oA rA σ_5, b_d cB cC cI cJ cZ oA rA σ_5]) (bs' := [b_w cB cC cI cJ cZ oA rA σ_5]) (wc := (b_w cB cC cI cJ cZ oA rA σ_5)) (hDD σ_5) hS hA fl_6 fl_1 [1] rfl
  refine g_ofi (wc := (b_w cB cC cI cJ cZ oA rA σ_5)) (wr := (b_m cB cC cI cJ cZ oA rA σ_5 ++ b_s cB cC cI cJ cZ oA rA σ_5 ++ b_c cB cC cI cJ cZ oA rA σ_5 ++ b_t cB cC cI cJ cZ oA rA σ_5 ++ b_d cB cC cI cJ cZ oA rA σ_5)) hP (hDD σ_5) hS hFc (bx_ix [b_m cB cC cI cJ cZ oA rA σ_5, b_w cB cC cI cJ cZ oA rA σ_5, b_s cB cC cI cJ cZ oA rA σ_5, b_c cB cC cI cJ cZ oA rA σ_5, b_t cB cC cI cJ cZ oA rA σ_5, b_d cB cC cI cJ cZ oA rA σ_5] [1]) (bx_ix [b_m cB cC cI cJ cZ oA rA σ_5, b_w cB cC cI cJ cZ oA rA σ_5, b_s cB cC cI cJ cZ oA rA σ_5, b_c cB cC cI cJ cZ oA rA σ_5, b_t cB cC cI cJ cZ oA rA σ_5, b_d cB cC cI cJ cZ oA rA σ_5] [0, 2, 3, 4, 5]) (bx_C (bs := [b_m cB cC cI cJ cZ oA rA σ_5, b_w cB cC cI cJ cZ oA rA σ_5, b_s cB cC cI cJ cZ oA rA σ_5, b_c cB cC cI cJ cZ oA rA σ_5, b_t cB cC cI cJ cZ oA rA σ_5, b_d cB cC cI cJ cZ oA rA σ_5]) (bs' := [b_w cB cC cI cJ cZ oA rA σ_5]) (is := [1]) fl_6 fl_1 rfl) (bx_C (bs := [b_m cB cC cI cJ cZ oA rA σ_5, b_w cB cC cI cJ cZ oA rA σ_5, b_s cB cC cI cJ cZ oA rA σ_5, b_c cB cC cI cJ cZ oA rA σ_5, b_t cB cC cI cJ cZ oA rA σ_5, b_d cB cC cI cJ cZ oA rA σ_5]) (bs' := [b_m cB cC cI cJ cZ oA rA σ_5, b_s cB cC cI cJ cZ oA rA σ_5, b_c cB cC cI cJ cZ oA rA σ_5, b_t cB cC cI cJ cZ oA rA σ_5, b_d cB cC cI cJ cZ oA rA σ_5]) (is := [0, 2, 3, 4, 5]) fl_6 fl_5 rfl) (bx_n (by decide +kernel)) (bx_d (by decide +kernel)) (va_runV (As := [.int p0]) (rest := [.int (u_3.1 + 1)]) ⟨hx, hb, hml, hown, hts⟩ (k_X10_placeOf l dC dI cB cC cI cJ cZ cP oA rA H.size  p0 σ_5 _ hu_7) (cwV 1 hts (g_gV wq_728 wq_702 wq_703 wq_2 wq_704) rfl rfl rfl (by decide +kernel) ⟨Nat.le_of_ble_eq_true rfl, Nat.le_of_ble_eq_true rfl⟩) (g_preV g_bl0 hK hPc hDc hS hE hFc g_to0 (q0 := 0) (ci := 10) rfl rfl) rfl rfl hl.1 rfl (lv_room (Nat.le_of_ble_eq_true rfl)) dX4_isTooLong_25 ⟨Nat.le_of_ble_eq_true rfl, Nat.le_of_ble_eq_true rfl⟩) (fun r9 u9 H locs hw9 hP' hD' hS => ?_)
  clear hPc hDc hFc
  subst hw9
  obtain ⟨σ_9, eσ_9, hF_10⟩ := bnd_e hF_8
  clear hF_8
  have hP : va_P (dC, dI) vwCl (b_m cB cC cI cJ cZ oA rA σ_9 ++ b_w cB cC cI cJ cZ oA rA σ_9 ++ b_s cB cC cI cJ cZ oA rA σ_9 ++ b_c cB cC cI cJ cZ oA rA σ_9 ++ b_t cB cC cI cJ cZ oA rA σ_9 ++ b_d cB cC cI cJ cZ oA rA σ_9) H := by rw [eσ_9]; exact bx_P (bs := [b_m cB cC cI cJ cZ oA rA σ_5, b_s cB cC cI cJ cZ oA rA σ_5, b_c cB cC cI cJ cZ oA rA σ_5, b_t cB cC cI cJ cZ oA rA σ_5, b_d cB cC cI cJ cZ oA rA σ_5] ++ [b_w cB cC cI cJ cZ oA rA u_7.2]) (bs' := [b_m cB cC cI cJ cZ oA rA (mrg (fun j => j == 1) σ_5 u_7.2), b_w cB cC cI cJ cZ oA rA (mrg (fun j => j == 1) σ_5 u_7.2), b_s cB cC cI cJ cZ oA rA (mrg (fun j => j == 1) σ_5 u_7.2), b_c cB cC cI cJ cZ oA rA (mrg (fun j => j == 1) σ_5 u_7.2), b_t cB cC cI cJ cZ oA rA (mrg (fun j => j == 1) σ_5 u_7.2), b_d cB cC cI cJ cZ oA rA (mrg (fun j => j == 1) σ_5 u_7.2)]) hP' (fl_a fl_5 fl_1) fl_6 [0, 5, 1, 2, 3, 4] rfl
  clear hP' hD'
  refine lv_isub hx hb dX4_isTooLong_28 ?_
  refine lv_sipush (v := 4000) hx hb dX4_isTooLong_29 (by decide +kernel) ?_
  refine lv_icmp_le (tgt := 39) hx hb dX4_isTooLong_32 (by decide) (fun c_11 => ?_) (fun c_11 => ?_)
  · have hF_12 := ipos c_11 hF_10
    clear hF_10
    refine lv_iconst (v := 0) hx hb dX4_isTooLong_39 (by decide +kernel) ?_
    have h9 := Option.some.inj hF_12
    subst h9
    exact W.zret (v := 0) hx hb hr (by decide +kernel) (fun t ht hW => ⟨⟨0, (), rfl, rfl, m_end ht hP, hDD _⟩, hS.F ht⟩) hS.2.2 dX4_isTooLong_40
  · have hF_13 := ineg c_11 hF_10
    clear hF_10
    refine lv_iconst (v := 1) hx hb dX4_isTooLong_35 (by decide +kernel) ?_
    refine lv_goto (tgt := 40) hx hb dX4_isTooLong_36 (by decide) ?_
    have h9 := Option.some.inj hF_13
    subst h9
    exact W.zret (v := 1) hx hb hr (by decide +kernel) (fun t ht hW => ⟨⟨1, (), rfl, rfl, m_end ht hP, hDD _⟩, hS.F ht⟩) hS.2.2 dX4_isTooLong_40
theorem dX4_tellLocal_0 : decode cX4_tellLocal 0 = .ok (.aload_n 0, 1) := by decide +kernel
theorem dX4_tellLocal_1 : decode cX4_tellLocal 1 = .ok (.getfield 32, 3) := by decide +kernel
theorem dX4_tellLocal_4 : decode cX4_tellLocal 4 = .ok (.iload_n 1, 1) := by decide +kernel
theorem dX4_tellLocal_5 : decode cX4_tellLocal 5 = .ok (.invokevirtual 119, 3) := by decide +kernel
theorem dX4_tellLocal_8 : decode cX4_tellLocal 8 = .ok (.istore_n 3, 1) := by decide +kernel
theorem dX4_tellLocal_9 : decode cX4_tellLocal 9 = .ok (.aload_n 0, 1) := by decide +kernel
theorem dX4_tellLocal_10 : decode cX4_tellLocal 10 = .ok (.getfield 11, 3) := by decide +kernel
theorem dX4_tellLocal_13 : decode cX4_tellLocal 13 = .ok (.iload_n 3, 1) := by decide +kernel
theorem dX4_tellLocal_14 : decode cX4_tellLocal 14 = .ok (.invokestatic 122, 3) := by decide +kernel
theorem dX4_tellLocal_17 : decode cX4_tellLocal 17 = .ok (.sipush 16001, 3) := by decide +kernel
theorem dX4_tellLocal_20 : decode cX4_tellLocal 20 = .ok (.if_icmp .ne 14, 3) := by decide +kernel
theorem dX4_tellLocal_23 : decode cX4_tellLocal 23 = .ok (.aload_n 0, 1) := by decide +kernel
theorem dX4_tellLocal_24 : decode cX4_tellLocal 24 = .ok (.getfield 23, 3) := by decide +kernel
theorem dX4_tellLocal_27 : decode cX4_tellLocal 27 = .ok (.iload_n 3, 1) := by decide +kernel
theorem dX4_tellLocal_28 : decode cX4_tellLocal 28 = .ok (.invokestatic 122, 3) := by decide +kernel
theorem dX4_tellLocal_31 : decode cX4_tellLocal 31 = .ok (.ifCond .eq 12, 3) := by decide +kernel
theorem dX4_tellLocal_34 : decode cX4_tellLocal 34 = .ok (.aload_n 0, 1) := by decide +kernel
theorem dX4_tellLocal_35 : decode cX4_tellLocal 35 = .ok (.iconst 4, 1) := by decide +kernel
theorem dX4_tellLocal_36 : decode cX4_tellLocal 36 = .ok (.iload_n 1, 1) := by decide +kernel
theorem dX4_tellLocal_37 : decode cX4_tellLocal 37 = .ok (.invokevirtual 84, 3) := by decide +kernel
theorem dX4_tellLocal_40 : decode cX4_tellLocal 40 = .ok (.goto 13, 3) := by decide +kernel
theorem dX4_tellLocal_43 : decode cX4_tellLocal 43 = .ok (.iload_n 2, 1) := by decide +kernel
theorem dX4_tellLocal_44 : decode cX4_tellLocal 44 = .ok (.ifCond .ne 9, 3) := by decide +kernel
theorem dX4_tellLocal_47 : decode cX4_tellLocal 47 = .ok (.aload_n 0, 1) := by decide +kernel
theorem dX4_tellLocal_48 : decode cX4_tellLocal 48 = .ok (.iconst 5, 1) := by decide +kernel
theorem dX4_tellLocal_49 : decode cX4_tellLocal 49 = .ok (.iload_n 1, 1) := by decide +kernel
theorem dX4_tellLocal_50 : decode cX4_tellLocal 50 = .ok (.invokevirtual 84, 3) := by decide +kernel
theorem dX4_tellLocal_53 : decode cX4_tellLocal 53 = .ok (.return_, 1) := by decide +kernel
def F_X4_tellLocal (p0 : Int32) (p1 : Int32) (Γ : HS) : HR :=
  (F_X10_worthOf p0 Γ).bind fun u_1 =>
  bnd (mrg (fun j => j == 1) Γ u_1.2) fun σ_3 =>
  bnd ((g_at 4500 ((σ_3 3).2.1 2) u_1.1)) fun (x_5 : Int32) =>
  bnd (fun  (σ_7 : HS) => (
    (F_X4_fail 4 p0 σ_7).bind fun u_11 =>
    some (0, u_11.2)
  ) : HS → HR) fun j_8 =>
  if x_5 = 16001 then (
    bnd ((g_at 4500 ((σ_3 3).2.1 5) u_1.1)) fun (x_15 : Int32) =>
    if x_15 = 0 then (
      if p1 = 0 then (
        (F_X4_fail 5 p0 σ_3).bind fun u_21 =>
        some (0, u_21.2)
      ) else (
        some (0, σ_3)
      )
    ) else (
      j_8  σ_3
    )
  ) else (
    j_8  σ_3
  )
set_option maxHeartbeats 4000000 in
set_option maxRecDepth 100000 in
theorem k_X4_tellLocal (l : Launch) (dC : Nat → ClassId) (dI : Nat → Nat → Nat) (cB cC cI cJ cZ cP : ClassId) (oA : Nat → Nat) (rA : Nat → Nat → Nat) (sz : Nat)  (p0 : Int32) (p1 : Int32) (Γ : HS) (res : Int32 × HS) (hF : F_X4_tellLocal p0 p1 Γ = some res) : Met l yX4_tellLocal (g_ws yX4_tellLocal cX4_tellLocal 4 none) ({ frames := 5, cells := 0, slots := 0, locals := 124 }) (va_Pc [.ref (oA 3), .int p0, .int p1] (g_B (dC, dI) [(cB, .byte), (cC, .char), (cI, .int), (cJ, .long), (cZ, .boolean), (cP, .object "StoryHouse$Play")] sz (b_m cB cC cI cJ cZ oA rA Γ ++ b_w cB cC cI cJ cZ oA rA Γ ++ b_s cB cC cI cJ cZ oA rA Γ ++ b_c cB cC cI cJ cZ oA rA Γ ++ b_t cB cC cI cJ cZ oA rA Γ ++ b_d cB cC cI cJ cZ oA rA Γ) g_0)) (va_Qv (fun (_ : Unit) => True) (g_Bo (dC, dI) (va_A (b_m cB cC cI cJ cZ oA rA Γ ++ b_w cB cC cI cJ cZ oA rA Γ ++ b_s cB cC cI cJ cZ oA rA Γ ++ b_c cB cC cI cJ cZ oA rA Γ ++ b_t cB cC cI cJ cZ oA rA Γ ++ b_d cB cC cI cJ cZ oA rA Γ) sz) (fun (_ : Unit) => (b_m cB cC cI cJ cZ oA rA res.2 ++ b_w cB cC cI cJ cZ oA rA res.2 ++ b_s cB cC cI cJ cZ oA rA res.2 ++ b_c cB cC cI cJ cZ oA rA res.2 ++ b_t cB cC cI cJ cZ oA rA res.2 ++ b_d cB cC cI cJ cZ oA rA res.2))) (va_A (b_m cB cC cI cJ cZ oA rA Γ ++ b_w cB cC cI cJ cZ oA rA Γ ++ b_s cB cC cI cJ cZ oA rA Γ ++ b_c cB cC cI cJ cZ oA rA Γ ++ b_t cB cC cI cJ cZ oA rA Γ ++ b_d cB cC cI cJ cZ oA rA Γ) sz)) 0 0 (va_A (b_m cB cC cI cJ cZ oA rA Γ ++ b_w cB cC cI cJ cZ oA rA Γ ++ b_s cB cC cI cJ cZ oA rA Γ ++ b_c cB cC cI cJ cZ oA rA Γ ++ b_t cB cC cI cJ cZ oA rA Γ ++ b_d cB cC cI cJ cZ oA rA Γ) sz) := by
  refine Met.ofW (cc := cX4_tellLocal) (maxL := 4) (ret := none) (by decide) rfl ?_
  intro p e s m args below meth c s₁ B hml hv
  obtain ⟨rfl, hsz, hP, hK, hD0, hE, hX⟩ := hv
  have hx := B.exec
  have hb := B.bytes
  have hr := B.returns
  have hts0 := atoms_spec (ws := g_ws yX4_tellLocal cX4_tellLocal 4 none) B.pre
  have hts : ∀ w ∈ lw_good, w.before ([.ref (oA 3), .int p0, .int p1] : List Value).toArray s = true := fun w z => hts0 w (List.mem_cons_of_mem _ z)
  have hown : s.vm.findClass RX4 = some m.cls := findClass_of_methodNamed B.named
  have hlocks := B.notSynchronized
  subst hsz
  have hD1 := hD0.self (sz := s.heap.size)
  generalize hAe : va_A (b_m cB cC cI cJ cZ oA rA Γ ++ b_w cB cC cI cJ cZ oA rA Γ ++ b_s cB cC cI cJ cZ oA rA Γ ++ b_c cB cC cI cJ cZ oA rA Γ ++ b_t cB cC cI cJ cZ oA rA Γ ++ b_d cB cC cI cJ cZ oA rA Γ) s.heap.size = A at hD1 hE hX ⊢
  have hA : ∀ q : Nat, s.heap.size ≤ q → A q := fun q z => by rw [← hAe]; exact Or.inr z
  have hDD : ∀ Γ : HS, va_D A (b_m cB cC cI cJ cZ oA rA Γ ++ b_w cB cC cI cJ cZ oA rA Γ ++ b_s cB cC cI cJ cZ oA rA Γ ++ b_c cB cC cI cJ cZ oA rA Γ ++ b_t cB cC cI cJ cZ oA rA Γ ++ b_d cB cC cI cJ cZ oA rA Γ) := fun Γ9 => va_D_fst (ws := (b_m cB cC cI cJ cZ oA rA Γ ++ b_w cB cC cI cJ cZ oA rA Γ ++ b_s cB cC cI cJ cZ oA rA Γ ++ b_c cB cC cI cJ cZ oA rA Γ ++ b_t cB cC cI cJ cZ oA rA Γ ++ b_d cB cC cI cJ cZ oA rA Γ)) (ws' := (b_m cB cC cI cJ cZ oA rA Γ9 ++ b_w cB cC cI cJ cZ oA rA Γ9 ++ b_s cB cC cI cJ cZ oA rA Γ9 ++ b_c cB cC cI cJ cZ oA rA Γ9 ++ b_t cB cC cI cJ cZ oA rA Γ9 ++ b_d cB cC cI cJ cZ oA rA Γ9)) rfl hD1
  have hN := hE.1
  have hS : va_S A s.heap s.heap [] := va_S.rf
  have hl := lv_entry ([.ref (oA 3), .int p0, .int p1]) (n := 4) (Nat.le_of_ble_eq_true rfl)
  rw [lg_entry_eq]
  generalize (lg_sl ([.ref (oA 3), .int p0, .int p1]) ++ List.replicate (4 - (lg_sl ([.ref (oA 3), .int p0, .int p1])).length) Slot.unset).toArray = ls at hl ⊢
  have hl : lv_has ls 4 [(0, .ref (oA 3)), (1, .int p0), (2, .int p1)] := hl
  unfold F_X4_tellLocal at hF
  refine lv_aload_n hx hb dX4_tellLocal_0 rfl (lv_at hl 0 rfl) ?_
  refine va_get (D := (dC, dI)) (ci := 4) (v := .ref (oA 1)) (C := RX4) (T := TX4) (N := 18) hx hb hts ii_X4 hown hK hP 0 rfl rfl 0 (by decide) (hts (.fieldLink RX4 32 "StoryHouse$Meanings" "words" "LStoryHouse$Words;") wq_86) (fun _ h9 => h9) rfl dX4_tellLocal_1 ?_
  refine lv_iload_n hx hb dX4_tellLocal_4 rfl (lv_at hl 1 rfl) ?_
  obtain ⟨u_1, hu_1, hF_2⟩ := Option.bind_eq_some_iff.mp hF
  clear hF
  have hPc := bx_P (bs := [b_m cB cC cI cJ cZ oA rA Γ, b_w cB cC cI cJ cZ oA rA Γ, b_s cB cC cI cJ cZ oA rA Γ, b_c cB cC cI cJ cZ oA rA Γ, b_t cB cC cI cJ cZ oA rA Γ, b_d cB cC cI cJ cZ oA rA Γ]) (bs' := [b_w cB cC cI cJ cZ oA rA Γ]) (ws' := (b_w cB cC cI cJ cZ oA rA Γ)) hP fl_6 fl_1 [1] rfl
  have hDc := bx_D (bs := [b_m cB cC cI cJ cZ oA rA Γ, b_w cB cC cI cJ cZ oA rA Γ, b_s cB cC cI cJ cZ oA rA Γ, b_c cB cC cI cJ cZ oA rA Γ, b_t cB cC cI cJ cZ oA rA Γ, b_d cB cC cI cJ cZ oA rA Γ]) (bs' := [b_w cB cC cI cJ cZ oA rA Γ]) (ws' := (b_w cB cC cI cJ cZ oA rA Γ)) (hDD Γ) fl_6 fl_1 [1] (by decide +kernel) rfl
  have hFc := bx_F (bs := [b_m cB cC cI cJ cZ oA rA Γ, b_w cB cC cI cJ cZ oA rA Γ, b_s cB cC cI cJ cZ oA rA Γ, b_c cB cC cI cJ cZ oA rA Γ, b_t cB cC cI cJ cZ oA rA Γ, b_d cB cC cI cJ cZ oA rA Γ]) (bs' := [b_w cB cC cI cJ cZ oA rA Γ]) (wc := (b_w cB cC cI cJ cZ oA rA Γ)) (hDD Γ) hS hA fl_6 fl_1 [1] rfl
  refine g_ofi (wc := (b_w cB cC cI cJ cZ oA rA Γ)) (wr := (b_m cB cC cI cJ cZ oA rA Γ ++ b_s cB cC cI cJ cZ oA rA Γ ++ b_c cB cC cI cJ cZ oA rA Γ ++ b_t cB cC cI cJ cZ oA rA Γ ++ b_d cB cC cI cJ cZ oA rA Γ)) hP (hDD Γ) hS hFc (bx_ix [b_m cB cC cI cJ cZ oA rA Γ, b_w cB cC cI cJ cZ oA rA Γ, b_s cB cC cI cJ cZ oA rA Γ, b_c cB cC cI cJ cZ oA rA Γ, b_t cB cC cI cJ cZ oA rA Γ, b_d cB cC cI cJ cZ oA rA Γ] [1]) (bx_ix [b_m cB cC cI cJ cZ oA rA Γ, b_w cB cC cI cJ cZ oA rA Γ, b_s cB cC cI cJ cZ oA rA Γ, b_c cB cC cI cJ cZ oA rA Γ, b_t cB cC cI cJ cZ oA rA Γ, b_d cB cC cI cJ cZ oA rA Γ] [0, 2, 3, 4, 5]) (bx_C (bs := [b_m cB cC cI cJ cZ oA rA Γ, b_w cB cC cI cJ cZ oA rA Γ, b_s cB cC cI cJ cZ oA rA Γ, b_c cB cC cI cJ cZ oA rA Γ, b_t cB cC cI cJ cZ oA rA Γ, b_d cB cC cI cJ cZ oA rA Γ]) (bs' := [b_w cB cC cI cJ cZ oA rA Γ]) (is := [1]) fl_6 fl_1 rfl) (bx_C (bs := [b_m cB cC cI cJ cZ oA rA Γ, b_w cB cC cI cJ cZ oA rA Γ, b_s cB cC cI cJ cZ oA rA Γ, b_c cB cC cI cJ cZ oA rA Γ, b_t cB cC cI cJ cZ oA rA Γ, b_d cB cC cI cJ cZ oA rA Γ]) (bs' := [b_m cB cC cI cJ cZ oA rA Γ, b_s cB cC cI cJ cZ oA rA Γ, b_c cB cC cI cJ cZ oA rA Γ, b_t cB cC cI cJ cZ oA rA Γ, b_d cB cC cI cJ cZ oA rA Γ]) (is := [0, 2, 3, 4, 5]) fl_6 fl_5 rfl) (bx_n (by decide +kernel)) (bx_d (by decide +kernel)) (va_runV (As := [.int p0]) (rest := []) ⟨hx, hb, hml, hown, hts⟩ (k_X10_worthOf l dC dI cB cC cI cJ cZ cP oA rA s.heap.size  p0 Γ _ hu_1) (cwV 1 hts (g_gV wq_715 wq_653 wq_654 wq_2 wq_655) rfl rfl rfl (by decide +kernel) ⟨Nat.le_of_ble_eq_true rfl, Nat.le_of_ble_eq_true rfl⟩) (g_preV g_bl0 hK hPc hDc hS hE hFc g_to0 (q0 := 0) (ci := 10) rfl rfl) rfl rfl hl.1 rfl (lv_room (Nat.le_of_ble_eq_true rfl)) dX4_tellLocal_5 ⟨Nat.le_of_ble_eq_true rfl, Nat.le_of_ble_eq_true rfl⟩) (fun r9 u9 H locs hw9 hP' hD' hS => ?_)
  clear hPc hDc hFc
  subst hw9
  obtain ⟨σ_3, eσ_3, hF_4⟩ := bnd_e hF_2
  clear hF_2
  have hP : va_P (dC, dI) vwCl (b_m cB cC cI cJ cZ oA rA σ_3 ++ b_w cB cC cI cJ cZ oA rA σ_3 ++ b_s cB cC cI cJ cZ oA rA σ_3 ++ b_c cB cC cI cJ cZ oA rA σ_3 ++ b_t cB cC cI cJ cZ oA rA σ_3 ++ b_d cB cC cI cJ cZ oA rA σ_3) H := by rw [eσ_3]; exact bx_P (bs := [b_m cB cC cI cJ cZ oA rA Γ, b_s cB cC cI cJ cZ oA rA Γ, b_c cB cC cI cJ cZ oA rA Γ, b_t cB cC cI cJ cZ oA rA Γ, b_d cB cC cI cJ cZ oA rA Γ] ++ [b_w cB cC cI cJ cZ oA rA u_1.2]) (bs' := [b_m cB cC cI cJ cZ oA rA (mrg (fun j => j == 1) Γ u_1.2), b_w cB cC cI cJ cZ oA rA (mrg (fun j => j == 1) Γ u_1.2), b_s cB cC cI cJ cZ oA rA (mrg (fun j => j == 1) Γ u_1.2), b_c cB cC cI cJ cZ oA rA (mrg (fun j => j == 1) Γ u_1.2), b_t cB cC cI cJ cZ oA rA (mrg (fun j => j == 1) Γ u_1.2), b_d cB cC cI cJ cZ oA rA (mrg (fun j => j == 1) Γ u_1.2)]) hP' (fl_a fl_5 fl_1) fl_6 [0, 5, 1, 2, 3, 4] rfl
  clear hP' hD'
  refine lv_istore_n (lv' := [(3, .int u_1.1), (0, .ref (oA 3)), (1, .int p0), (2, .int p1)]) hx hb dX4_tellLocal_8 rfl hl (by decide) rfl (fun ls hl => ?_)
  refine lv_aload_n hx hb dX4_tellLocal_9 rfl (lv_at hl 1 rfl) ?_
  refine va_get (D := (dC, dI)) (ci := 4) (v := .ref (rA 3 2)) (C := RX4) (T := TX4) (N := 18) hx hb hts ii_X4 hown hK hP 0 rfl rfl 2 (by decide) (hts (.fieldLink RX4 11 "StoryHouse$Meanings" "toldAt" "[I") wq_88) (fun _ h9 => h9) rfl dX4_tellLocal_10 ?_
  refine lv_iload_n hx hb dX4_tellLocal_13 rfl (lv_at hl 0 rfl) ?_
  have hq9 : ((b_m cB cC cI cJ cZ oA rA σ_3 ++ b_w cB cC cI cJ cZ oA rA σ_3 ++ b_s cB cC cI cJ cZ oA rA σ_3 ++ b_c cB cC cI cJ cZ oA rA σ_3 ++ b_t cB cC cI cJ cZ oA rA σ_3 ++ b_d cB cC cI cJ cZ oA rA σ_3))[1]? = some (rA 3 2, .inl (cI, 4500, .inl ((σ_3 3).2.1 2))) := rfl
  have hPc := hP.sub (ws' := [(rA 3 2, .inl (cI, 4500, .inl ((σ_3 3).2.1 2)))]) [1] (pk_fm (er_C hq9))
  have hDc := (hDD σ_3).sub (ws' := [(rA 3 2, .inl (cI, 4500, .inl ((σ_3 3).2.1 2)))]) [1] (by decide +kernel) (er_C hq9)
  have hFc := va_free (wc := [(rA 3 2, .inl (cI, 4500, .inl ((σ_3 3).2.1 2)))]) (hDD σ_3) hS hA [1] (er_C hq9)
  refine g_ofi (wc := [(rA 3 2, .inl (cI, 4500, .inl ((σ_3 3).2.1 2)))]) (wr := (((b_m cB cC cI cJ cZ oA rA σ_3 ++ b_w cB cC cI cJ cZ oA rA σ_3 ++ b_s cB cC cI cJ cZ oA rA σ_3 ++ b_c cB cC cI cJ cZ oA rA σ_3 ++ b_t cB cC cI cJ cZ oA rA σ_3 ++ b_d cB cC cI cJ cZ oA rA σ_3)).eraseIdx 1)) hP (hDD σ_3) hS hFc [1] ((List.range ((b_m cB cC cI cJ cZ oA rA σ_3 ++ b_w cB cC cI cJ cZ oA rA σ_3 ++ b_s cB cC cI cJ cZ oA rA σ_3 ++ b_c cB cC cI cJ cZ oA rA σ_3 ++ b_t cB cC cI cJ cZ oA rA σ_3 ++ b_d cB cC cI cJ cZ oA rA σ_3)).length).eraseIdx 1) (er_C hq9) er_R er_n er_d (va_runSN (As := [.ref (rA 3 2), .int u_1.1]) (rest := []) ⟨hx, hb, hml, hown, hts⟩ (c_X11_at l dC dI cB cC cI cJ cZ cP H.size (rA 3 2) u_1.1 4500 ((σ_3 3).2.1 2) (by decide)) ⟨va_cnB 2 hts (g_gA wq_407) rfl rfl rfl (nw_24 hN) (hts (.initialized RX11) wq_1) (by decide +kernel) ⟨Nat.le_of_ble_eq_true rfl, Nat.le_of_ble_eq_true rfl⟩, (hts (.static yX11_at) wq_406), trivial⟩ (g_preS g_bl0 hK hPc hDc hS hE hFc g_to0) rfl rfl hl.1 rfl (lv_room (Nat.le_of_ble_eq_true rfl)) dX4_tellLocal_14 ⟨Nat.le_of_ble_eq_true rfl, Nat.le_of_ble_eq_true rfl⟩) (fun r9 u9 H locs hw9 hP' hD' hS => ?_)
  clear hPc hDc hFc hD'
  have hP : va_P (dC, dI) vwCl (b_m cB cC cI cJ cZ oA rA σ_3 ++ b_w cB cC cI cJ cZ oA rA σ_3 ++ b_s cB cC cI cJ cZ oA rA σ_3 ++ b_c cB cC cI cJ cZ oA rA σ_3 ++ b_t cB cC cI cJ cZ oA rA σ_3 ++ b_d cB cC cI cJ cZ oA rA σ_3) H := er_I hP' hq9
  clear hP' hq9
  subst hw9
  obtain ⟨x_5, ex_5, hF_6⟩ := bnd_e hF_4
  clear hF_4
  refine m_top ex_5 ?_
  refine lv_sipush (v := 16001) hx hb dX4_tellLocal_17 (by decide +kernel) ?_
  obtain ⟨j_8, ej_8, hF_9⟩ := bnd_e hF_6
  clear hF_6
  have Jj_8 : ∀  (σ_7 : HS), j_8  σ_7 = some res → ∀ (H : Heap) (locs : List Loc), va_P (dC, dI) vwCl (b_m cB cC cI cJ cZ oA rA σ_7 ++ b_w cB cC cI cJ cZ oA rA σ_7 ++ b_s cB cC cI cJ cZ oA rA σ_7 ++ b_c cB cC cI cJ cZ oA rA σ_7 ++ b_t cB cC cI cJ cZ oA rA σ_7 ++ b_d cB cC cI cJ cZ oA rA σ_7) H → va_S A s.heap H locs → ∀ ls : Array Slot, lv_has ls 4 [(0, .ref (oA 3)), (1, .int p0)] → W p l e (headSpec (g_ws yX4_tellLocal cX4_tellLocal 4 none) { frames := 5, cells := 0, slots := 0, locals := 124 }).room s m ([.ref (oA 3), .int p0, .int p1] : List Value).toArray below meth c H locs 0 0 (MQ below (va_Qv (fun (_ : Unit) => True) (g_Bo (dC, dI) A (fun (_ : Unit) => (b_m cB cC cI cJ cZ oA rA res.2 ++ b_w cB cC cI cJ cZ oA rA res.2 ++ b_s cB cC cI cJ cZ oA rA res.2 ++ b_c cB cC cI cJ cZ oA rA res.2 ++ b_t cB cC cI cJ cZ oA rA res.2 ++ b_d cB cC cI cJ cZ oA rA res.2))) A) ([.ref (oA 3), .int p0, .int p1] : List Value).toArray s 0 0 A) (F0 m 34 ls []) := by
    intro  σ_7 hF0 H locs hP hS ls hl
    subst ej_8
    have hF_10 := hF0
    clear hF0
    refine lv_aload_n hx hb dX4_tellLocal_34 rfl (lv_at hl 0 rfl) ?_
    refine lv_iconst (v := 4) hx hb dX4_tellLocal_35 (by decide +kernel) ?_
    refine lv_iload_n hx hb dX4_tellLocal_36 rfl (lv_at hl 1 rfl) ?_
    obtain ⟨u_11, hu_11, hF_12⟩ := Option.bind_eq_some_iff.mp hF_10
    clear hF_10
    have hPc := bx_P (bs := [b_m cB cC cI cJ cZ oA rA σ_7, b_w cB cC cI cJ cZ oA rA σ_7, b_s cB cC cI cJ cZ oA rA σ_7, b_c cB cC cI cJ cZ oA rA σ_7, b_t cB cC cI cJ cZ oA rA σ_7, b_d cB cC cI cJ cZ oA rA σ_7]) (bs' := [b_m cB cC cI cJ cZ oA rA σ_7, b_w cB cC cI cJ cZ oA rA σ_7, b_s cB cC cI cJ cZ oA rA σ_7, b_c cB cC cI cJ cZ oA rA σ_7, b_t cB cC cI cJ cZ oA rA σ_7, b_d cB cC cI cJ cZ oA rA σ_7]) (ws' := (b_m cB cC cI cJ cZ oA rA σ_7 ++ b_w cB cC cI cJ cZ oA rA σ_7 ++ b_s cB cC cI cJ cZ oA rA σ_7 ++ b_c cB cC cI cJ cZ oA rA σ_7 ++ b_t cB cC cI cJ cZ oA rA σ_7 ++ b_d cB cC cI cJ cZ oA rA σ_7)) hP fl_6 fl_6 [0, 1, 2, 3, 4, 5] rfl
    have hDc := bx_D (bs := [b_m cB cC cI cJ cZ oA rA σ_7, b_w cB cC cI cJ cZ oA rA σ_7, b_s cB cC cI cJ cZ oA rA σ_7, b_c cB cC cI cJ cZ oA rA σ_7, b_t cB cC cI cJ cZ oA rA σ_7, b_d cB cC cI cJ cZ oA rA σ_7]) (bs' := [b_m cB cC cI cJ cZ oA rA σ_7, b_w cB cC cI cJ cZ oA rA σ_7, b_s cB cC cI cJ cZ oA rA σ_7, b_c cB cC cI cJ cZ oA rA σ_7, b_t cB cC cI cJ cZ oA rA σ_7, b_d cB cC cI cJ cZ oA rA σ_7]) (ws' := (b_m cB cC cI cJ cZ oA rA σ_7 ++ b_w cB cC cI cJ cZ oA rA σ_7 ++ b_s cB cC cI cJ cZ oA rA σ_7 ++ b_c cB cC cI cJ cZ oA rA σ_7 ++ b_t cB cC cI cJ cZ oA rA σ_7 ++ b_d cB cC cI cJ cZ oA rA σ_7)) (hDD σ_7) fl_6 fl_6 [0, 1, 2, 3, 4, 5] (by decide +kernel) rfl
    have hFc := bx_F (bs := [b_m cB cC cI cJ cZ oA rA σ_7, b_w cB cC cI cJ cZ oA rA σ_7, b_s cB cC cI cJ cZ oA rA σ_7, b_c cB cC cI cJ cZ oA rA σ_7, b_t cB cC cI cJ cZ oA rA σ_7, b_d cB cC cI cJ cZ oA rA σ_7]) (bs' := [b_m cB cC cI cJ cZ oA rA σ_7, b_w cB cC cI cJ cZ oA rA σ_7, b_s cB cC cI cJ cZ oA rA σ_7, b_c cB cC cI cJ cZ oA rA σ_7, b_t cB cC cI cJ cZ oA rA σ_7, b_d cB cC cI cJ cZ oA rA σ_7]) (wc := (b_m cB cC cI cJ cZ oA rA σ_7 ++ b_w cB cC cI cJ cZ oA rA σ_7 ++ b_s cB cC cI cJ cZ oA rA σ_7 ++ b_c cB cC cI cJ cZ oA rA σ_7 ++ b_t cB cC cI cJ cZ oA rA σ_7 ++ b_d cB cC cI cJ cZ oA rA σ_7)) (hDD σ_7) hS hA fl_6 fl_6 [0, 1, 2, 3, 4, 5] rfl
    refine g_ofv (wc := (b_m cB cC cI cJ cZ oA rA σ_7 ++ b_w cB cC cI cJ cZ oA rA σ_7 ++ b_s cB cC cI cJ cZ oA rA σ_7 ++ b_c cB cC cI cJ cZ oA rA σ_7 ++ b_t cB cC cI cJ cZ oA rA σ_7 ++ b_d cB cC cI cJ cZ oA rA σ_7)) (wr := ([] : va_W)) hP (hDD σ_7) hS hFc (bx_ix [b_m cB cC cI cJ cZ oA rA σ_7, b_w cB cC cI cJ cZ oA rA σ_7, b_s cB cC cI cJ cZ oA rA σ_7, b_c cB cC cI cJ cZ oA rA σ_7, b_t cB cC cI cJ cZ oA rA σ_7, b_d cB cC cI cJ cZ oA rA σ_7] [0, 1, 2, 3, 4, 5]) (bx_ix [b_m cB cC cI cJ cZ oA rA σ_7, b_w cB cC cI cJ cZ oA rA σ_7, b_s cB cC cI cJ cZ oA rA σ_7, b_c cB cC cI cJ cZ oA rA σ_7, b_t cB cC cI cJ cZ oA rA σ_7, b_d cB cC cI cJ cZ oA rA σ_7] []) (bx_C (bs := [b_m cB cC cI cJ cZ oA rA σ_7, b_w cB cC cI cJ cZ oA rA σ_7, b_s cB cC cI cJ cZ oA rA σ_7, b_c cB cC cI cJ cZ oA rA σ_7, b_t cB cC cI cJ cZ oA rA σ_7, b_d cB cC cI cJ cZ oA rA σ_7]) (bs' := [b_m cB cC cI cJ cZ oA rA σ_7, b_w cB cC cI cJ cZ oA rA σ_7, b_s cB cC cI cJ cZ oA rA σ_7, b_c cB cC cI cJ cZ oA rA σ_7, b_t cB cC cI cJ cZ oA rA σ_7, b_d cB cC cI cJ cZ oA rA σ_7]) (is := [0, 1, 2, 3, 4, 5]) fl_6 fl_6 rfl) (bx_C (bs := [b_m cB cC cI cJ cZ oA rA σ_7, b_w cB cC cI cJ cZ oA rA σ_7, b_s cB cC cI cJ cZ oA rA σ_7, b_c cB cC cI cJ cZ oA rA σ_7, b_t cB cC cI cJ cZ oA rA σ_7, b_d cB cC cI cJ cZ oA rA σ_7]) (bs' := []) (is := []) fl_6 fl_0 rfl) (bx_n (by decide +kernel)) (bx_d (by decide +kernel)) (va_runV (As := [.int 4, .int p0]) (rest := []) ⟨hx, hb, hml, hown, hts⟩ (k_X4_fail l dC dI cB cC cI cJ cZ cP oA rA H.size  4 p0 σ_7 _ hu_11) (cwV 2 hts (g_gV wq_725 wq_726 wq_2037 wq_4 wq_727) rfl rfl rfl (by decide +kernel) ⟨Nat.le_of_ble_eq_true rfl, Nat.le_of_ble_eq_true rfl⟩) (g_preV g_bl0 hK hPc hDc hS hE hFc g_to0 (q0 := 0) (ci := 4) rfl rfl) rfl rfl hl.1 rfl (lv_room (Nat.le_of_ble_eq_true rfl)) dX4_tellLocal_37 ⟨Nat.le_of_ble_eq_true rfl, Nat.le_of_ble_eq_true rfl⟩) (fun u9 H locs hw9 hP' hD' hS => ?_)
    clear hPc hDc hFc
    have hP : va_P (dC, dI) vwCl (b_m cB cC cI cJ cZ oA rA u_11.2 ++ b_w cB cC cI cJ cZ oA rA u_11.2 ++ b_s cB cC cI cJ cZ oA rA u_11.2 ++ b_c cB cC cI cJ cZ oA rA u_11.2 ++ b_t cB cC cI cJ cZ oA rA u_11.2 ++ b_d cB cC cI cJ cZ oA rA u_11.2) H := hP'
    clear hP' hD'
    refine lv_goto (tgt := 53) hx hb dX4_tellLocal_40 (by decide) ?_
    have h9 := Option.some.inj hF_12
    subst h9
    exact W.vret hx hb hr (fun t ht hW => ⟨⟨(), rfl, trivial, m_end ht hP, hDD _⟩, hS.F ht⟩) hS.2.2 dX4_tellLocal_53
  refine lv_icmp_ne (tgt := 34) hx hb dX4_tellLocal_20 (by decide) (fun c_13 => ?_) (fun c_13 => ?_)
  · have hF_25 := ineg c_13 hF_9
    clear hF_9
    exact Jj_8  σ_3 hF_25 _ _ hP hS ls (lv_sub hl [1, 2] rfl)
  · have hF_14 := ipos c_13 hF_9
    clear hF_9
    refine lv_aload_n hx hb dX4_tellLocal_23 rfl (lv_at hl 1 rfl) ?_
    refine va_get (D := (dC, dI)) (ci := 4) (v := .ref (rA 3 5)) (C := RX4) (T := TX4) (N := 18) hx hb hts ii_X4 hown hK hP 0 rfl rfl 5 (by decide) (hts (.fieldLink RX4 23 "StoryHouse$Meanings" "seen" "[I") wq_91) (fun _ h9 => h9) rfl dX4_tellLocal_24 ?_
    refine lv_iload_n hx hb dX4_tellLocal_27 rfl (lv_at hl 0 rfl) ?_
    have hq9 : ((b_m cB cC cI cJ cZ oA rA σ_3 ++ b_w cB cC cI cJ cZ oA rA σ_3 ++ b_s cB cC cI cJ cZ oA rA σ_3 ++ b_c cB cC cI cJ cZ oA rA σ_3 ++ b_t cB cC cI cJ cZ oA rA σ_3 ++ b_d cB cC cI cJ cZ oA rA σ_3))[4]? = some (rA 3 5, .inl (cI, 4500, .inl ((σ_3 3).2.1 5))) := rfl
    have hPc := hP.sub (ws' := [(rA 3 5, .inl (cI, 4500, .inl ((σ_3 3).2.1 5)))]) [4] (pk_fm (er_C hq9))
    have hDc := (hDD σ_3).sub (ws' := [(rA 3 5, .inl (cI, 4500, .inl ((σ_3 3).2.1 5)))]) [4] (by decide +kernel) (er_C hq9)
    have hFc := va_free (wc := [(rA 3 5, .inl (cI, 4500, .inl ((σ_3 3).2.1 5)))]) (hDD σ_3) hS hA [4] (er_C hq9)
    refine g_ofi (wc := [(rA 3 5, .inl (cI, 4500, .inl ((σ_3 3).2.1 5)))]) (wr := (((b_m cB cC cI cJ cZ oA rA σ_3 ++ b_w cB cC cI cJ cZ oA rA σ_3 ++ b_s cB cC cI cJ cZ oA rA σ_3 ++ b_c cB cC cI cJ cZ oA rA σ_3 ++ b_t cB cC cI cJ cZ oA rA σ_3 ++ b_d cB cC cI cJ cZ oA rA σ_3)).eraseIdx 4)) hP (hDD σ_3) hS hFc [4] ((List.range ((b_m cB cC cI cJ cZ oA rA σ_3 ++ b_w cB cC cI cJ cZ oA rA σ_3 ++ b_s cB cC cI cJ cZ oA rA σ_3 ++ b_c cB cC cI cJ cZ oA rA σ_3 ++ b_t cB cC cI cJ cZ oA rA σ_3 ++ b_d cB cC cI cJ cZ oA rA σ_3)).length).eraseIdx 4) (er_C hq9) er_R er_n er_d (va_runSN (As := [.ref (rA 3 5), .int u_1.1]) (rest := []) ⟨hx, hb, hml, hown, hts⟩ (c_X11_at l dC dI cB cC cI cJ cZ cP H.size (rA 3 5) u_1.1 4500 ((σ_3 3).2.1 5) (by decide)) ⟨va_cnB 2 hts (g_gA wq_407) rfl rfl rfl (nw_24 hN) (hts (.initialized RX11) wq_1) (by decide +kernel) ⟨Nat.le_of_ble_eq_true rfl, Nat.le_of_ble_eq_true rfl⟩, (hts (.static yX11_at) wq_406), trivial⟩ (g_preS g_bl0 hK hPc hDc hS hE hFc g_to0) rfl rfl hl.1 rfl (lv_room (Nat.le_of_ble_eq_true rfl)) dX4_tellLocal_28 ⟨Nat.le_of_ble_eq_true rfl, Nat.le_of_ble_eq_true rfl⟩) (fun r9 u9 H locs hw9 hP' hD' hS => ?_)
    clear hPc hDc hFc hD'
    have hP : va_P (dC, dI) vwCl (b_m cB cC cI cJ cZ oA rA σ_3 ++ b_w cB cC cI cJ cZ oA rA σ_3 ++ b_s cB cC cI cJ cZ oA rA σ_3 ++ b_c cB cC cI cJ cZ oA rA σ_3 ++ b_t cB cC cI cJ cZ oA rA σ_3 ++ b_d cB cC cI cJ cZ oA rA σ_3) H := er_I hP' hq9
    clear hP' hq9
    subst hw9
    obtain ⟨x_15, ex_15, hF_16⟩ := bnd_e hF_14
    clear hF_14
    refine m_top ex_15 ?_
    refine lv_if_eq (tgt := 43) hx hb dX4_tellLocal_31 (by decide) (fun c_17 => ?_) (fun c_17 => ?_)
    · have hF_18 := ipos c_17 hF_16
      clear hF_16
      refine lv_iload_n hx hb dX4_tellLocal_43 rfl (lv_at hl 3 rfl) ?_
      refine lv_if_ne (tgt := 53) hx hb dX4_tellLocal_44 (by decide) (fun c_19 => ?_) (fun c_19 => ?_)
      · have hF_23 := ineg c_19 hF_18
        clear hF_18
        have h9 := Option.some.inj hF_23
        subst h9
        exact W.vret hx hb hr (fun t ht hW => ⟨⟨(), rfl, trivial, m_end ht hP, hDD _⟩, hS.F ht⟩) hS.2.2 dX4_tellLocal_53
      · have hF_20 := ipos c_19 hF_18
        clear hF_18
        refine lv_aload_n hx hb dX4_tellLocal_47 rfl (lv_at hl 1 rfl) ?_
        refine lv_iconst (v := 5) hx hb dX4_tellLocal_48 (by decide +kernel) ?_
        refine lv_iload_n hx hb dX4_tellLocal_49 rfl (lv_at hl 2 rfl) ?_
        obtain ⟨u_21, hu_21, hF_22⟩ := Option.bind_eq_some_iff.mp hF_20
        clear hF_20
        have hPc := bx_P (bs := [b_m cB cC cI cJ cZ oA rA σ_3, b_w cB cC cI cJ cZ oA rA σ_3, b_s cB cC cI cJ cZ oA rA σ_3, b_c cB cC cI cJ cZ oA rA σ_3, b_t cB cC cI cJ cZ oA rA σ_3, b_d cB cC cI cJ cZ oA rA σ_3]) (bs' := [b_m cB cC cI cJ cZ oA rA σ_3, b_w cB cC cI cJ cZ oA rA σ_3, b_s cB cC cI cJ cZ oA rA σ_3, b_c cB cC cI cJ cZ oA rA σ_3, b_t cB cC cI cJ cZ oA rA σ_3, b_d cB cC cI cJ cZ oA rA σ_3]) (ws' := (b_m cB cC cI cJ cZ oA rA σ_3 ++ b_w cB cC cI cJ cZ oA rA σ_3 ++ b_s cB cC cI cJ cZ oA rA σ_3 ++ b_c cB cC cI cJ cZ oA rA σ_3 ++ b_t cB cC cI cJ cZ oA rA σ_3 ++ b_d cB cC cI cJ cZ oA rA σ_3)) hP fl_6 fl_6 [0, 1, 2, 3, 4, 5] rfl
        have hDc := bx_D (bs := [b_m cB cC cI cJ cZ oA rA σ_3, b_w cB cC cI cJ cZ oA rA σ_3, b_s cB cC cI cJ cZ oA rA σ_3, b_c cB cC cI cJ cZ oA rA σ_3, b_t cB cC cI cJ cZ oA rA σ_3, b_d cB cC cI cJ cZ oA rA σ_3]) (bs' := [b_m cB cC cI cJ cZ oA rA σ_3, b_w cB cC cI cJ cZ oA rA σ_3, b_s cB cC cI cJ cZ oA rA σ_3, b_c cB cC cI cJ cZ oA rA σ_3, b_t cB cC cI cJ cZ oA rA σ_3, b_d cB cC cI cJ cZ oA rA σ_3]) (ws' := (b_m cB cC cI cJ cZ oA rA σ_3 ++ b_w cB cC cI cJ cZ oA rA σ_3 ++ b_s cB cC cI cJ cZ oA rA σ_3 ++ b_c cB cC cI cJ cZ oA rA σ_3 ++ b_t cB cC cI cJ cZ oA rA σ_3 ++ b_d cB cC cI cJ cZ oA rA σ_3)) (hDD σ_3) fl_6 fl_6 [0, 1, 2, 3, 4, 5] (by decide +kernel) rfl
        have hFc := bx_F (bs := [b_m cB cC cI cJ cZ oA rA σ_3, b_w cB cC cI cJ cZ oA rA σ_3, b_s cB cC cI cJ cZ oA rA σ_3, b_c cB cC cI cJ cZ oA rA σ_3, b_t cB cC cI cJ cZ oA rA σ_3, b_d cB cC cI cJ cZ oA rA σ_3]) (bs' := [b_m cB cC cI cJ cZ oA rA σ_3, b_w cB cC cI cJ cZ oA rA σ_3, b_s cB cC cI cJ cZ oA rA σ_3, b_c cB cC cI cJ cZ oA rA σ_3, b_t cB cC cI cJ cZ oA rA σ_3, b_d cB cC cI cJ cZ oA rA σ_3]) (wc := (b_m cB cC cI cJ cZ oA rA σ_3 ++ b_w cB cC cI cJ cZ oA rA σ_3 ++ b_s cB cC cI cJ cZ oA rA σ_3 ++ b_c cB cC cI cJ cZ oA rA σ_3 ++ b_t cB cC cI cJ cZ oA rA σ_3 ++ b_d cB cC cI cJ cZ oA rA σ_3)) (hDD σ_3) hS hA fl_6 fl_6 [0, 1, 2, 3, 4, 5] rfl
        refine g_ofv (wc := (b_m cB cC cI cJ cZ oA rA σ_3 ++ b_w cB cC cI cJ cZ oA rA σ_3 ++ b_s cB cC cI cJ cZ oA rA σ_3 ++ b_c cB cC cI cJ cZ oA rA σ_3 ++ b_t cB cC cI cJ cZ oA rA σ_3 ++ b_d cB cC cI cJ cZ oA rA σ_3)) (wr := ([] : va_W)) hP (hDD σ_3) hS hFc (bx_ix [b_m cB cC cI cJ cZ oA rA σ_3, b_w cB cC cI cJ cZ oA rA σ_3, b_s cB cC cI cJ cZ oA rA σ_3, b_c cB cC cI cJ cZ oA rA σ_3, b_t cB cC cI cJ cZ oA rA σ_3, b_d cB cC cI cJ cZ oA rA σ_3] [0, 1, 2, 3, 4, 5]) (bx_ix [b_m cB cC cI cJ cZ oA rA σ_3, b_w cB cC cI cJ cZ oA rA σ_3, b_s cB cC cI cJ cZ oA rA σ_3, b_c cB cC cI cJ cZ oA rA σ_3, b_t cB cC cI cJ cZ oA rA σ_3, b_d cB cC cI cJ cZ oA rA σ_3] []) (bx_C (bs := [b_m cB cC cI cJ cZ oA rA σ_3, b_w cB cC cI cJ cZ oA rA σ_3, b_s cB cC cI cJ cZ oA rA σ_3, b_c cB cC cI cJ cZ oA rA σ_3, b_t cB cC cI cJ cZ oA rA σ_3, b_d cB cC cI cJ cZ oA rA σ_3]) (bs' := [b_m cB cC cI cJ cZ oA rA σ_3, b_w cB cC cI cJ cZ oA rA σ_3, b_s cB cC cI cJ cZ oA rA σ_3, b_c cB cC cI cJ cZ oA rA σ_3, b_t cB cC cI cJ cZ oA rA σ_3, b_d cB cC cI cJ cZ oA rA σ_3]) (is := [0, 1, 2, 3, 4, 5]) fl_6 fl_6 rfl) (bx_C (bs := [b_m cB cC cI cJ cZ oA rA σ_3, b_w cB cC cI cJ cZ oA rA σ_3, b_s cB cC cI cJ cZ oA rA σ_3, b_c cB cC cI cJ cZ oA rA σ_3, b_t cB cC cI cJ cZ oA rA σ_3, b_d cB cC cI cJ cZ oA rA σ_3]) (bs' := []) (is := []) fl_6 fl_0 rfl) (bx_n (by decide +kernel)) (bx_d (by decide +kernel)) (va_runV (As := [.int 5, .int p0]) (rest := []) ⟨hx, hb, hml, hown, hts⟩ (k_X4_fail l dC dI cB cC cI cJ cZ cP oA rA H.size  5 p0 σ_3 _ hu_21) (cwV 2 hts (g_gV wq_725 wq_726 wq_2037 wq_4 wq_727) rfl rfl rfl (by decide +kernel) ⟨Nat.le_of_ble_eq_true rfl, Nat.le_of_ble_eq_true rfl⟩) (g_preV g_bl0 hK hPc hDc hS hE hFc g_to0 (q0 := 0) (ci := 4) rfl rfl) rfl rfl hl.1 rfl (lv_room (Nat.le_of_ble_eq_true rfl)) dX4_tellLocal_50 ⟨Nat.le_of_ble_eq_true rfl, Nat.le_of_ble_eq_true rfl⟩) (fun u9 H locs hw9 hP' hD' hS => ?_)
        clear hPc hDc hFc
        have hP : va_P (dC, dI) vwCl (b_m cB cC cI cJ cZ oA rA u_21.2 ++ b_w cB cC cI cJ cZ oA rA u_21.2 ++ b_s cB cC cI cJ cZ oA rA u_21.2 ++ b_c cB cC cI cJ cZ oA rA u_21.2 ++ b_t cB cC cI cJ cZ oA rA u_21.2 ++ b_d cB cC cI cJ cZ oA rA u_21.2) H := hP'
        clear hP' hD'
        have h9 := Option.some.inj hF_22
        subst h9
        exact W.vret hx hb hr (fun t ht hW => ⟨⟨(), rfl, trivial, m_end ht hP, hDD _⟩, hS.F ht⟩) hS.2.2 dX4_tellLocal_53
    · have hF_24 := ineg c_17 hF_16
      clear hF_16
      exact Jj_8  σ_3 hF_24 _ _ hP hS ls (lv_sub hl [1, 2] rfl)
theorem dX4_tellDef_0 : decode cX4_tellDef 0 = .ok (.aload_n 0, 1) := by decide +kernel
theorem dX4_tellDef_1 : decode cX4_tellDef 1 = .ok (.iload_n 1, 1) := by decide +kernel
theorem dX4_tellDef_2 : decode cX4_tellDef 2 = .ok (.iconst 1, 1) := by decide +kernel
theorem dX4_tellDef_3 : decode cX4_tellDef 3 = .ok (.iadd, 1) := by decide +kernel
theorem dX4_tellDef_4 : decode cX4_tellDef 4 = .ok (.bipush 6, 2) := by decide +kernel
theorem dX4_tellDef_6 : decode cX4_tellDef 6 = .ok (.iconst 4, 1) := by decide +kernel
theorem dX4_tellDef_7 : decode cX4_tellDef 7 = .ok (.bipush 100, 2) := by decide +kernel
theorem dX4_tellDef_9 : decode cX4_tellDef 9 = .ok (.invokevirtual 138, 3) := by decide +kernel
theorem dX4_tellDef_12 : decode cX4_tellDef 12 = .ok (.aload_n 0, 1) := by decide +kernel
theorem dX4_tellDef_13 : decode cX4_tellDef 13 = .ok (.iload_n 1, 1) := by decide +kernel
theorem dX4_tellDef_14 : decode cX4_tellDef 14 = .ok (.invokevirtual 174, 3) := by decide +kernel
theorem dX4_tellDef_17 : decode cX4_tellDef 17 = .ok (.ifCond .eq 11, 3) := by decide +kernel
theorem dX4_tellDef_20 : decode cX4_tellDef 20 = .ok (.aload_n 0, 1) := by decide +kernel
theorem dX4_tellDef_21 : decode cX4_tellDef 21 = .ok (.iconst 5, 1) := by decide +kernel
theorem dX4_tellDef_22 : decode cX4_tellDef 22 = .ok (.iload_n 1, 1) := by decide +kernel
theorem dX4_tellDef_23 : decode cX4_tellDef 23 = .ok (.iconst 1, 1) := by decide +kernel
theorem dX4_tellDef_24 : decode cX4_tellDef 24 = .ok (.iadd, 1) := by decide +kernel
theorem dX4_tellDef_25 : decode cX4_tellDef 25 = .ok (.invokevirtual 84, 3) := by decide +kernel
theorem dX4_tellDef_28 : decode cX4_tellDef 28 = .ok (.aload_n 0, 1) := by decide +kernel
theorem dX4_tellDef_29 : decode cX4_tellDef 29 = .ok (.iconst 0, 1) := by decide +kernel
theorem dX4_tellDef_30 : decode cX4_tellDef 30 = .ok (.putfield 129, 3) := by decide +kernel
theorem dX4_tellDef_33 : decode cX4_tellDef 33 = .ok (.iload_n 1, 1) := by decide +kernel
theorem dX4_tellDef_34 : decode cX4_tellDef 34 = .ok (.iconst 3, 1) := by decide +kernel
theorem dX4_tellDef_35 : decode cX4_tellDef 35 = .ok (.iadd, 1) := by decide +kernel
theorem dX4_tellDef_36 : decode cX4_tellDef 36 = .ok (.istore_n 2, 1) := by decide +kernel
theorem dX4_tellDef_37 : decode cX4_tellDef 37 = .ok (.iload_n 2, 1) := by decide +kernel
theorem dX4_tellDef_38 : decode cX4_tellDef 38 = .ok (.aload_n 0, 1) := by decide +kernel
theorem dX4_tellDef_39 : decode cX4_tellDef 39 = .ok (.getfield 32, 3) := by decide +kernel
theorem dX4_tellDef_42 : decode cX4_tellDef 42 = .ok (.getfield 53, 3) := by decide +kernel
theorem dX4_tellDef_45 : decode cX4_tellDef 45 = .ok (.if_icmp .ge 52, 3) := by decide +kernel
theorem dX4_tellDef_48 : decode cX4_tellDef 48 = .ok (.aload_n 0, 1) := by decide +kernel
theorem dX4_tellDef_49 : decode cX4_tellDef 49 = .ok (.getfield 32, 3) := by decide +kernel
theorem dX4_tellDef_52 : decode cX4_tellDef 52 = .ok (.iload_n 2, 1) := by decide +kernel
theorem dX4_tellDef_53 : decode cX4_tellDef 53 = .ok (.invokevirtual 116, 3) := by decide +kernel
theorem dX4_tellDef_56 : decode cX4_tellDef 56 = .ok (.iconst 2, 1) := by decide +kernel
theorem dX4_tellDef_57 : decode cX4_tellDef 57 = .ok (.if_icmp .ne 40, 3) := by decide +kernel
theorem dX4_tellDef_60 : decode cX4_tellDef 60 = .ok (.aload_n 0, 1) := by decide +kernel
theorem dX4_tellDef_61 : decode cX4_tellDef 61 = .ok (.iload_n 2, 1) := by decide +kernel
theorem dX4_tellDef_62 : decode cX4_tellDef 62 = .ok (.aload_n 0, 1) := by decide +kernel
theorem dX4_tellDef_63 : decode cX4_tellDef 63 = .ok (.getfield 129, 3) := by decide +kernel
theorem dX4_tellDef_66 : decode cX4_tellDef 66 = .ok (.bipush 6, 2) := by decide +kernel
theorem dX4_tellDef_68 : decode cX4_tellDef 68 = .ok (.if_icmp .ge 7, 3) := by decide +kernel
theorem dX4_tellDef_71 : decode cX4_tellDef 71 = .ok (.iconst 1, 1) := by decide +kernel
theorem dX4_tellDef_72 : decode cX4_tellDef 72 = .ok (.goto 4, 3) := by decide +kernel
theorem dX4_tellDef_75 : decode cX4_tellDef 75 = .ok (.iconst 0, 1) := by decide +kernel
theorem dX4_tellDef_76 : decode cX4_tellDef 76 = .ok (.invokevirtual 161, 3) := by decide +kernel
theorem dX4_tellDef_79 : decode cX4_tellDef 79 = .ok (.aload_n 0, 1) := by decide +kernel
theorem dX4_tellDef_80 : decode cX4_tellDef 80 = .ok (.aload_n 0, 1) := by decide +kernel
theorem dX4_tellDef_81 : decode cX4_tellDef 81 = .ok (.getfield 32, 3) := by decide +kernel
theorem dX4_tellDef_84 : decode cX4_tellDef 84 = .ok (.iload_n 2, 1) := by decide +kernel
theorem dX4_tellDef_85 : decode cX4_tellDef 85 = .ok (.invokevirtual 119, 3) := by decide +kernel
theorem dX4_tellDef_88 : decode cX4_tellDef 88 = .ok (.invokevirtual 178, 3) := by decide +kernel
theorem dX4_tellDef_91 : decode cX4_tellDef 91 = .ok (.iinc 2 2, 3) := by decide +kernel
theorem dX4_tellDef_94 : decode cX4_tellDef 94 = .ok (.goto (-57), 3) := by decide +kernel
theorem dX4_tellDef_97 : decode cX4_tellDef 97 = .ok (.return_, 1) := by decide +kernel
def F_X4_tellDef (p0 : Int32) (Γ : HS) : HR :=
  (F_X4_tellItem (p0 + 1) 6 4 100 Γ).bind fun u_1 =>
  (F_X4_isTooLong p0 u_1.2).bind fun u_3 =>
  bnd (fun  (σ_5 : HS) => (
    bnd (cI' σ_5 3 8 0) fun σ_9 =>
    loopF (fun (again_12 : (Int32 × HS) → HR) (s_11 : Int32 × HS) => (
      if ((s_11.2 1).1 2) ≤ s_11.1 then (
        some (0, s_11.2)
      ) else (
        (F_X10_kindOf s_11.1 s_11.2).bind fun u_18 =>
        bnd (mrg (fun j => j == 1) s_11.2 u_18.2) fun σ_20 =>
        if u_18.1 = 2 then (
          bnd (fun (t_24 : Int32) (σ_25 : HS) => (
            (F_X4_tellLocal s_11.1 t_24 σ_25).bind fun u_29 =>
            (F_X10_worthOf s_11.1 u_29.2).bind fun u_31 =>
            bnd (mrg (fun j => j == 1) u_29.2 u_31.2) fun σ_33 =>
            (F_X4_see u_31.1 σ_33).bind fun u_35 =>
            bnd (s_11.1 + 2) fun (x_37 : Int32) =>
            again_12 (x_37, u_35.2)
          ) : Int32 → HS → HR) fun j_26 =>
          if 6 ≤ ((σ_20 3).1 8) then (
            j_26 0 σ_20
          ) else (
            j_26 1 σ_20
          )
        ) else (
          some (0, σ_20)
        )
      )
    )) FU ((p0 + 3), σ_9)
  ) : HS → HR) fun j_6 =>
  if u_3.1 = 0 then (
    j_6  u_3.2
  ) else (
    (F_X4_fail 5 (p0 + 1) u_3.2).bind fun u_46 =>
    j_6  u_46.2
  )
set_option maxHeartbeats 4000000 in
set_option maxRecDepth 100000 in
theorem k_X4_tellDef (l : Launch) (dC : Nat → ClassId) (dI : Nat → Nat → Nat) (cB cC cI cJ cZ cP : ClassId) (oA : Nat → Nat) (rA : Nat → Nat → Nat) (sz : Nat)  (p0 : Int32) (Γ : HS) (res : Int32 × HS) (hF : F_X4_tellDef p0 Γ = some res) : Met l yX4_tellDef (g_ws yX4_tellDef cX4_tellDef 3 none) ({ frames := 6, cells := 0, slots := 0, locals := 149 }) (va_Pc [.ref (oA 3), .int p0] (g_B (dC, dI) [(cB, .byte), (cC, .char), (cI, .int), (cJ, .long), (cZ, .boolean), (cP, .object "StoryHouse$Play")] sz (b_m cB cC cI cJ cZ oA rA Γ ++ b_w cB cC cI cJ cZ oA rA Γ ++ b_s cB cC cI cJ cZ oA rA Γ ++ b_c cB cC cI cJ cZ oA rA Γ ++ b_t cB cC cI cJ cZ oA rA Γ ++ b_d cB cC cI cJ cZ oA rA Γ) g_0)) (va_Qv (fun (_ : Unit) => True) (g_Bo (dC, dI) (va_A (b_m cB cC cI cJ cZ oA rA Γ ++ b_w cB cC cI cJ cZ oA rA Γ ++ b_s cB cC cI cJ cZ oA rA Γ ++ b_c cB cC cI cJ cZ oA rA Γ ++ b_t cB cC cI cJ cZ oA rA Γ ++ b_d cB cC cI cJ cZ oA rA Γ) sz) (fun (_ : Unit) => (b_m cB cC cI cJ cZ oA rA res.2 ++ b_w cB cC cI cJ cZ oA rA res.2 ++ b_s cB cC cI cJ cZ oA rA res.2 ++ b_c cB cC cI cJ cZ oA rA res.2 ++ b_t cB cC cI cJ cZ oA rA res.2 ++ b_d cB cC cI cJ cZ oA rA res.2))) (va_A (b_m cB cC cI cJ cZ oA rA Γ ++ b_w cB cC cI cJ cZ oA rA Γ ++ b_s cB cC cI cJ cZ oA rA Γ ++ b_c cB cC cI cJ cZ oA rA Γ ++ b_t cB cC cI cJ cZ oA rA Γ ++ b_d cB cC cI cJ cZ oA rA Γ) sz)) 0 0 (va_A (b_m cB cC cI cJ cZ oA rA Γ ++ b_w cB cC cI cJ cZ oA rA Γ ++ b_s cB cC cI cJ cZ oA rA Γ ++ b_c cB cC cI cJ cZ oA rA Γ ++ b_t cB cC cI cJ cZ oA rA Γ ++ b_d cB cC cI cJ cZ oA rA Γ) sz) := by
  refine Met.ofW (cc := cX4_tellDef) (maxL := 3) (ret := none) (by decide) rfl ?_
  intro p e s m args below meth c s₁ B hml hv
  obtain ⟨rfl, hsz, hP, hK, hD0, hE, hX⟩ := hv
  have hx := B.exec
  have hb := B.bytes
  have hr := B.returns
  have hts0 := atoms_spec (ws := g_ws yX4_tellDef cX4_tellDef 3 none) B.pre
  have hts : ∀ w ∈ lw_good, w.before ([.ref (oA 3), .int p0] : List Value).toArray s = true := fun w z => hts0 w (List.mem_cons_of_mem _ z)
  have hown : s.vm.findClass RX4 = some m.cls := findClass_of_methodNamed B.named
  have hlocks := B.notSynchronized
  subst hsz
  have hD1 := hD0.self (sz := s.heap.size)
  generalize hAe : va_A (b_m cB cC cI cJ cZ oA rA Γ ++ b_w cB cC cI cJ cZ oA rA Γ ++ b_s cB cC cI cJ cZ oA rA Γ ++ b_c cB cC cI cJ cZ oA rA Γ ++ b_t cB cC cI cJ cZ oA rA Γ ++ b_d cB cC cI cJ cZ oA rA Γ) s.heap.size = A at hD1 hE hX ⊢
  have hA : ∀ q : Nat, s.heap.size ≤ q → A q := fun q z => by rw [← hAe]; exact Or.inr z
  have hDD : ∀ Γ : HS, va_D A (b_m cB cC cI cJ cZ oA rA Γ ++ b_w cB cC cI cJ cZ oA rA Γ ++ b_s cB cC cI cJ cZ oA rA Γ ++ b_c cB cC cI cJ cZ oA rA Γ ++ b_t cB cC cI cJ cZ oA rA Γ ++ b_d cB cC cI cJ cZ oA rA Γ) := fun Γ9 => va_D_fst (ws := (b_m cB cC cI cJ cZ oA rA Γ ++ b_w cB cC cI cJ cZ oA rA Γ ++ b_s cB cC cI cJ cZ oA rA Γ ++ b_c cB cC cI cJ cZ oA rA Γ ++ b_t cB cC cI cJ cZ oA rA Γ ++ b_d cB cC cI cJ cZ oA rA Γ)) (ws' := (b_m cB cC cI cJ cZ oA rA Γ9 ++ b_w cB cC cI cJ cZ oA rA Γ9 ++ b_s cB cC cI cJ cZ oA rA Γ9 ++ b_c cB cC cI cJ cZ oA rA Γ9 ++ b_t cB cC cI cJ cZ oA rA Γ9 ++ b_d cB cC cI cJ cZ oA rA Γ9)) rfl hD1
  have hN := hE.1
  have hS : va_S A s.heap s.heap [] := va_S.rf
  have hl := lv_entry ([.ref (oA 3), .int p0]) (n := 3) (Nat.le_of_ble_eq_true rfl)
  rw [lg_entry_eq]
  generalize (lg_sl ([.ref (oA 3), .int p0]) ++ List.replicate (3 - (lg_sl ([.ref (oA 3), .int p0])).length) Slot.unset).toArray = ls at hl ⊢
  have hl : lv_has ls 3 [(0, .ref (oA 3)), (1, .int p0)] := hl
  unfold F_X4_tellDef at hF
  refine lv_aload_n hx hb dX4_tellDef_0 rfl (lv_at hl 0 rfl) ?_
  refine lv_iload_n hx hb dX4_tellDef_1 rfl (lv_at hl 1 rfl) ?_
  refine lv_iconst (v := 1) hx hb dX4_tellDef_2 (by decide +kernel) ?_
  refine lv_iadd hx hb dX4_tellDef_3 ?_
  refine lv_bipush (v := 6) hx hb dX4_tellDef_4 (by decide +kernel) ?_
  refine lv_iconst (v := 4) hx hb dX4_tellDef_6 (by decide +kernel) ?_
  refine lv_bipush (v := 100) hx hb dX4_tellDef_7 (by decide +kernel) ?_
  obtain ⟨u_1, hu_1, hF_2⟩ := Option.bind_eq_some_iff.mp hF
  clear hF
  have hPc := bx_P (bs := [b_m cB cC cI cJ cZ oA rA Γ, b_w cB cC cI cJ cZ oA rA Γ, b_s cB cC cI cJ cZ oA rA Γ, b_c cB cC cI cJ cZ oA rA Γ, b_t cB cC cI cJ cZ oA rA Γ, b_d cB cC cI cJ cZ oA rA Γ]) (bs' := [b_m cB cC cI cJ cZ oA rA Γ, b_w cB cC cI cJ cZ oA rA Γ, b_s cB cC cI cJ cZ oA rA Γ, b_c cB cC cI cJ cZ oA rA Γ, b_t cB cC cI cJ cZ oA rA Γ, b_d cB cC cI cJ cZ oA rA Γ]) (ws' := (b_m cB cC cI cJ cZ oA rA Γ ++ b_w cB cC cI cJ cZ oA rA Γ ++ b_s cB cC cI cJ cZ oA rA Γ ++ b_c cB cC cI cJ cZ oA rA Γ ++ b_t cB cC cI cJ cZ oA rA Γ ++ b_d cB cC cI cJ cZ oA rA Γ)) hP fl_6 fl_6 [0, 1, 2, 3, 4, 5] rfl
  have hDc := bx_D (bs := [b_m cB cC cI cJ cZ oA rA Γ, b_w cB cC cI cJ cZ oA rA Γ, b_s cB cC cI cJ cZ oA rA Γ, b_c cB cC cI cJ cZ oA rA Γ, b_t cB cC cI cJ cZ oA rA Γ, b_d cB cC cI cJ cZ oA rA Γ]) (bs' := [b_m cB cC cI cJ cZ oA rA Γ, b_w cB cC cI cJ cZ oA rA Γ, b_s cB cC cI cJ cZ oA rA Γ, b_c cB cC cI cJ cZ oA rA Γ, b_t cB cC cI cJ cZ oA rA Γ, b_d cB cC cI cJ cZ oA rA Γ]) (ws' := (b_m cB cC cI cJ cZ oA rA Γ ++ b_w cB cC cI cJ cZ oA rA Γ ++ b_s cB cC cI cJ cZ oA rA Γ ++ b_c cB cC cI cJ cZ oA rA Γ ++ b_t cB cC cI cJ cZ oA rA Γ ++ b_d cB cC cI cJ cZ oA rA Γ)) (hDD Γ) fl_6 fl_6 [0, 1, 2, 3, 4, 5] (by decide +kernel) rfl
  have hFc := bx_F (bs := [b_m cB cC cI cJ cZ oA rA Γ, b_w cB cC cI cJ cZ oA rA Γ, b_s cB cC cI cJ cZ oA rA Γ, b_c cB cC cI cJ cZ oA rA Γ, b_t cB cC cI cJ cZ oA rA Γ, b_d cB cC cI cJ cZ oA rA Γ]) (bs' := [b_m cB cC cI cJ cZ oA rA Γ, b_w cB cC cI cJ cZ oA rA Γ, b_s cB cC cI cJ cZ oA rA Γ, b_c cB cC cI cJ cZ oA rA Γ, b_t cB cC cI cJ cZ oA rA Γ, b_d cB cC cI cJ cZ oA rA Γ]) (wc := (b_m cB cC cI cJ cZ oA rA Γ ++ b_w cB cC cI cJ cZ oA rA Γ ++ b_s cB cC cI cJ cZ oA rA Γ ++ b_c cB cC cI cJ cZ oA rA Γ ++ b_t cB cC cI cJ cZ oA rA Γ ++ b_d cB cC cI cJ cZ oA rA Γ)) (hDD Γ) hS hA fl_6 fl_6 [0, 1, 2, 3, 4, 5] rfl
  refine g_ofv (wc := (b_m cB cC cI cJ cZ oA rA Γ ++ b_w cB cC cI cJ cZ oA rA Γ ++ b_s cB cC cI cJ cZ oA rA Γ ++ b_c cB cC cI cJ cZ oA rA Γ ++ b_t cB cC cI cJ cZ oA rA Γ ++ b_d cB cC cI cJ cZ oA rA Γ)) (wr := ([] : va_W)) hP (hDD Γ) hS hFc (bx_ix [b_m cB cC cI cJ cZ oA rA Γ, b_w cB cC cI cJ cZ oA rA Γ, b_s cB cC cI cJ cZ oA rA Γ, b_c cB cC cI cJ cZ oA rA Γ, b_t cB cC cI cJ cZ oA rA Γ, b_d cB cC cI cJ cZ oA rA Γ] [0, 1, 2, 3, 4, 5]) (bx_ix [b_m cB cC cI cJ cZ oA rA Γ, b_w cB cC cI cJ cZ oA rA Γ, b_s cB cC cI cJ cZ oA rA Γ, b_c cB cC cI cJ cZ oA rA Γ, b_t cB cC cI cJ cZ oA rA Γ, b_d cB cC cI cJ cZ oA rA Γ] []) (bx_C (bs := [b_m cB cC cI cJ cZ oA rA Γ, b_w cB cC cI cJ cZ oA rA Γ, b_s cB cC cI cJ cZ oA rA Γ, b_c cB cC cI cJ cZ oA rA Γ, b_t cB cC cI cJ cZ oA rA Γ, b_d cB cC cI cJ cZ oA rA Γ]) (bs' := [b_m cB cC cI cJ cZ oA rA Γ, b_w cB cC cI cJ cZ oA rA Γ, b_s cB cC cI cJ cZ oA rA Γ, b_c cB cC cI cJ cZ oA rA Γ, b_t cB cC cI cJ cZ oA rA Γ, b_d cB cC cI cJ cZ oA rA Γ]) (is := [0, 1, 2, 3, 4, 5]) fl_6 fl_6 rfl) (bx_C (bs := [b_m cB cC cI cJ cZ oA rA Γ, b_w cB cC cI cJ cZ oA rA Γ, b_s cB cC cI cJ cZ oA rA Γ, b_c cB cC cI cJ cZ oA rA Γ, b_t cB cC cI cJ cZ oA rA Γ, b_d cB cC cI cJ cZ oA rA Γ]) (bs' := []) (is := []) fl_6 fl_0 rfl) (bx_n (by decide +kernel)) (bx_d (by decide +kernel)) (va_runV (As := [.int (p0 + 1), .int 6, .int 4, .int 100]) (rest := []) ⟨hx, hb, hml, hown, hts⟩ (k_X4_tellItem l dC dI cB cC cI cJ cZ cP oA rA s.heap.size  (p0 + 1) 6 4 100 Γ _ hu_1) (cwV 4 hts (g_gV wq_722 wq_723 wq_2036 wq_4 wq_724) rfl rfl rfl (by decide +kernel) ⟨Nat.le_of_ble_eq_true rfl, Nat.le_of_ble_eq_true rfl⟩) (g_preV g_bl0 hK hPc hDc hS hE hFc g_to0 (q0 := 0) (ci := 4) rfl rfl) rfl rfl hl.1 rfl (lv_room (Nat.le_of_ble_eq_true rfl)) dX4_tellDef_9 ⟨Nat.le_of_ble_eq_true rfl, Nat.le_of_ble_eq_true rfl⟩) (fun u9 H locs hw9 hP' hD' hS => ?_)
  clear hPc hDc hFc
  have hP : va_P (dC, dI) vwCl (b_m cB cC cI cJ cZ oA rA u_1.2 ++ b_w cB cC cI cJ cZ oA rA u_1.2 ++ b_s cB cC cI cJ cZ oA rA u_1.2 ++ b_c cB cC cI cJ cZ oA rA u_1.2 ++ b_t cB cC cI cJ cZ oA rA u_1.2 ++ b_d cB cC cI cJ cZ oA rA u_1.2) H := hP'
  clear hP' hD'
  refine lv_aload_n hx hb dX4_tellDef_12 rfl (lv_at hl 0 rfl) ?_
  refine lv_iload_n hx hb dX4_tellDef_13 rfl (lv_at hl 1 rfl) ?_
  obtain ⟨u_3, hu_3, hF_4⟩ := Option.bind_eq_some_iff.mp hF_2
  clear hF_2
  have hPc := bx_P (bs := [b_m cB cC cI cJ cZ oA rA u_1.2, b_w cB cC cI cJ cZ oA rA u_1.2, b_s cB cC cI cJ cZ oA rA u_1.2, b_c cB cC cI cJ cZ oA rA u_1.2, b_t cB cC cI cJ cZ oA rA u_1.2, b_d cB cC cI cJ cZ oA rA u_1.2]) (bs' := [b_m cB cC cI cJ cZ oA rA u_1.2, b_w cB cC cI cJ cZ oA rA u_1.2, b_s cB cC cI cJ cZ oA rA u_1.2, b_c cB cC cI cJ cZ oA rA u_1.2, b_t cB cC cI cJ cZ oA rA u_1.2, b_d cB cC cI cJ cZ oA rA u_1.2]) (ws' := (b_m cB cC cI cJ cZ oA rA u_1.2 ++ b_w cB cC cI cJ cZ oA rA u_1.2 ++ b_s cB cC cI cJ cZ oA rA u_1.2 ++ b_c cB cC cI cJ cZ oA rA u_1.2 ++ b_t cB cC cI cJ cZ oA rA u_1.2 ++ b_d cB cC cI cJ cZ oA rA u_1.2)) hP fl_6 fl_6 [0, 1, 2, 3, 4, 5] rfl
  have hDc := bx_D (bs := [b_m cB cC cI cJ cZ oA rA u_1.2, b_w cB cC cI cJ cZ oA rA u_1.2, b_s cB cC cI cJ cZ oA rA u_1.2, b_c cB cC cI cJ cZ oA rA u_1.2, b_t cB cC cI cJ cZ oA rA u_1.2, b_d cB cC cI cJ cZ oA rA u_1.2]) (bs' := [b_m cB cC cI cJ cZ oA rA u_1.2, b_w cB cC cI cJ cZ oA rA u_1.2, b_s cB cC cI cJ cZ oA rA u_1.2, b_c cB cC cI cJ cZ oA rA u_1.2, b_t cB cC cI cJ cZ oA rA u_1.2, b_d cB cC cI cJ cZ oA rA u_1.2]) (ws' := (b_m cB cC cI cJ cZ oA rA u_1.2 ++ b_w cB cC cI cJ cZ oA rA u_1.2 ++ b_s cB cC cI cJ cZ oA rA u_1.2 ++ b_c cB cC cI cJ cZ oA rA u_1.2 ++ b_t cB cC cI cJ cZ oA rA u_1.2 ++ b_d cB cC cI cJ cZ oA rA u_1.2)) (hDD u_1.2) fl_6 fl_6 [0, 1, 2, 3, 4, 5] (by decide +kernel) rfl
  have hFc := bx_F (bs := [b_m cB cC cI cJ cZ oA rA u_1.2, b_w cB cC cI cJ cZ oA rA u_1.2, b_s cB cC cI cJ cZ oA rA u_1.2, b_c cB cC cI cJ cZ oA rA u_1.2, b_t cB cC cI cJ cZ oA rA u_1.2, b_d cB cC cI cJ cZ oA rA u_1.2]) (bs' := [b_m cB cC cI cJ cZ oA rA u_1.2, b_w cB cC cI cJ cZ oA rA u_1.2, b_s cB cC cI cJ cZ oA rA u_1.2, b_c cB cC cI cJ cZ oA rA u_1.2, b_t cB cC cI cJ cZ oA rA u_1.2, b_d cB cC cI cJ cZ oA rA u_1.2]) (wc := (b_m cB cC cI cJ cZ oA rA u_1.2 ++ b_w cB cC cI cJ cZ oA rA u_1.2 ++ b_s cB cC cI cJ cZ oA rA u_1.2 ++ b_c cB cC cI cJ cZ oA rA u_1.2 ++ b_t cB cC cI cJ cZ oA rA u_1.2 ++ b_d cB cC cI cJ cZ oA rA u_1.2)) (hDD u_1.2) hS hA fl_6 fl_6 [0, 1, 2, 3, 4, 5] rfl
  refine g_ofi (wc := (b_m cB cC cI cJ cZ oA rA u_1.2 ++ b_w cB cC cI cJ cZ oA rA u_1.2 ++ b_s cB cC cI cJ cZ oA rA u_1.2 ++ b_c cB cC cI cJ cZ oA rA u_1.2 ++ b_t cB cC cI cJ cZ oA rA u_1.2 ++ b_d cB cC cI cJ cZ oA rA u_1.2)) (wr := ([] : va_W)) hP (hDD u_1.2) hS hFc (bx_ix [b_m cB cC cI cJ cZ oA rA u_1.2, b_w cB cC cI cJ cZ oA rA u_1.2, b_s cB cC cI cJ cZ oA rA u_1.2, b_c cB cC cI cJ cZ oA rA u_1.2, b_t cB cC cI cJ cZ oA rA u_1.2, b_d cB cC cI cJ cZ oA rA u_1.2] [0, 1, 2, 3, 4, 5]) (bx_ix [b_m cB cC cI cJ cZ oA rA u_1.2, b_w cB cC cI cJ cZ oA rA u_1.2, b_s cB cC cI cJ cZ oA rA u_1.2, b_c cB cC cI cJ cZ oA rA u_1.2, b_t cB cC cI cJ cZ oA rA u_1.2, b_d cB cC cI cJ cZ oA rA u_1.2] []) (bx_C (bs := [b_m cB cC cI cJ cZ oA rA u_1.2, b_w cB cC cI cJ cZ oA rA u_1.2, b_s cB cC cI cJ cZ oA rA u_1.2, b_c cB cC cI cJ cZ oA rA u_1.2, b_t cB cC cI cJ cZ oA rA u_1.2, b_d cB cC cI cJ cZ oA rA u_1.2]) (bs' := [b_m cB cC cI cJ cZ oA rA u_1.2, b_w cB cC cI cJ cZ oA rA u_1.2, b_s cB cC cI cJ cZ oA rA u_1.2, b_c cB cC cI cJ cZ oA rA u_1.2, b_t cB cC cI cJ cZ oA rA u_1.2, b_d cB cC cI cJ cZ oA rA u_1.2]) (is := [0, 1, 2, 3, 4, 5]) fl_6 fl_6 rfl) (bx_C (bs := [b_m cB cC cI cJ cZ oA rA u_1.2, b_w cB cC cI cJ cZ oA rA u_1.2, b_s cB cC cI cJ cZ oA rA u_1.2, b_c cB cC cI cJ cZ oA rA u_1.2, b_t cB cC cI cJ cZ oA rA u_1.2, b_d cB cC cI cJ cZ oA rA u_1.2]) (bs' := []) (is := []) fl_6 fl_0 rfl) (bx_n (by decide +kernel)) (bx_d (by decide +kernel)) (va_runV (As := [.int p0]) (rest := []) ⟨hx, hb, hml, hown, hts⟩ (k_X4_isTooLong l dC dI cB cC cI cJ cZ cP oA rA H.size  p0 u_1.2 _ hu_3) (cwV 1 hts (g_gV wq_741 wq_742 wq_2042 wq_4 wq_743) rfl rfl rfl (by decide +kernel) ⟨Nat.le_of_ble_eq_true rfl, Nat.le_of_ble_eq_true rfl⟩) (g_preV g_bl0 hK hPc hDc hS hE hFc g_to0 (q0 := 0) (ci := 4) rfl rfl) rfl rfl hl.1 rfl (lv_room (Nat.le_of_ble_eq_true rfl)) dX4_tellDef_14 ⟨Nat.le_of_ble_eq_true rfl, Nat.le_of_ble_eq_true rfl⟩) (fun r9 u9 H locs hw9 hP' hD' hS => ?_)
  clear hPc hDc hFc
  subst hw9
  have hP : va_P (dC, dI) vwCl (b_m cB cC cI cJ cZ oA rA u_3.2 ++ b_w cB cC cI cJ cZ oA rA u_3.2 ++ b_s cB cC cI cJ cZ oA rA u_3.2 ++ b_c cB cC cI cJ cZ oA rA u_3.2 ++ b_t cB cC cI cJ cZ oA rA u_3.2 ++ b_d cB cC cI cJ cZ oA rA u_3.2) H := hP'
  clear hP' hD'
  obtain ⟨j_6, ej_6, hF_7⟩ := bnd_e hF_4
  clear hF_4
  have Jj_6 : ∀  (σ_5 : HS), j_6  σ_5 = some res → ∀ (H : Heap) (locs : List Loc), va_P (dC, dI) vwCl (b_m cB cC cI cJ cZ oA rA σ_5 ++ b_w cB cC cI cJ cZ oA rA σ_5 ++ b_s cB cC cI cJ cZ oA rA σ_5 ++ b_c cB cC cI cJ cZ oA rA σ_5 ++ b_t cB cC cI cJ cZ oA rA σ_5 ++ b_d cB cC cI cJ cZ oA rA σ_5) H → va_S A s.heap H locs → ∀ ls : Array Slot, lv_has ls 3 [(0, .ref (oA 3)), (1, .int p0)] → W p l e (headSpec (g_ws yX4_tellDef cX4_tellDef 3 none) { frames := 6, cells := 0, slots := 0, locals := 149 }).room s m ([.ref (oA 3), .int p0] : List Value).toArray below meth c H locs 0 0 (MQ below (va_Qv (fun (_ : Unit) => True) (g_Bo (dC, dI) A (fun (_ : Unit) => (b_m cB cC cI cJ cZ oA rA res.2 ++ b_w cB cC cI cJ cZ oA rA res.2 ++ b_s cB cC cI cJ cZ oA rA res.2 ++ b_c cB cC cI cJ cZ oA rA res.2 ++ b_t cB cC cI cJ cZ oA rA res.2 ++ b_d cB cC cI cJ cZ oA rA res.2))) A) ([.ref (oA 3), .int p0] : List Value).toArray s 0 0 A) (F0 m 28 ls []) := by
    intro  σ_5 hF0 H locs hP hS ls hl
    subst ej_6
    have hF_8 := hF0
    clear hF0
    refine lv_aload_n hx hb dX4_tellDef_28 rfl (lv_at hl 0 rfl) ?_
    refine lv_iconst (v := 0) hx hb dX4_tellDef_29 (by decide +kernel) ?_
    obtain ⟨σ_9, eσ_9, hF_10⟩ := bnd_e hF_8
    clear hF_8
    refine va_put (D := (dC, dI)) (ci := 4) (v := .int 0) (ty := .int) (C := RX4) (T := TX4) (N := 18) hx hb hts ii_X4 tyX4 tyX4_ok nmX4 hown hK hP (hDD _) hS 0 rfl rfl 8 (by decide) (hts (.fieldLink RX4 129 "StoryHouse$Meanings" "slots" "I") wq_94) (fun _ h9 => h9) rfl (by decide +kernel) rfl rfl (Nat.le_of_ble_eq_true rfl) dX4_tellDef_30 (fun H locs hP' _ hS => ?_)
    have hP : va_P (dC, dI) vwCl (b_m cB cC cI cJ cZ oA rA σ_9 ++ b_w cB cC cI cJ cZ oA rA σ_9 ++ b_s cB cC cI cJ cZ oA rA σ_9 ++ b_c cB cC cI cJ cZ oA rA σ_9 ++ b_t cB cC cI cJ cZ oA rA σ_9 ++ b_d cB cC cI cJ cZ oA rA σ_9) H := by rw [eσ_9]; exact cs_mwsctd_m_8 ▸ hP'
    clear hP'
    refine lv_iload_n hx hb dX4_tellDef_33 rfl (lv_at hl 1 rfl) ?_
    refine lv_iconst (v := 3) hx hb dX4_tellDef_34 (by decide +kernel) ?_
    refine lv_iadd hx hb dX4_tellDef_35 ?_
    refine lv_istore_n (lv' := [(2, .int (p0 + 3)), (0, .ref (oA 3)), (1, .int p0)]) hx hb dX4_tellDef_36 rfl hl (by decide) rfl (fun ls hl => ?_)
    refine loopF_ind (P := fun (s_11 : Int32 × HS) => ∀ (H : Heap) (locs : List Loc), va_P (dC, dI) vwCl (b_m cB cC cI cJ cZ oA rA s_11.2 ++ b_w cB cC cI cJ cZ oA rA s_11.2 ++ b_s cB cC cI cJ cZ oA rA s_11.2 ++ b_c cB cC cI cJ cZ oA rA s_11.2 ++ b_t cB cC cI cJ cZ oA rA s_11.2 ++ b_d cB cC cI cJ cZ oA rA s_11.2) H → va_S A s.heap H locs → ∀ ls : Array Slot, lv_has ls 3 [(0, .ref (oA 3)), (2, .int s_11.1)] → W p l e (headSpec (g_ws yX4_tellDef cX4_tellDef 3 none) { frames := 6, cells := 0, slots := 0, locals := 149 }).room s m ([.ref (oA 3), .int p0] : List Value).toArray below meth c H locs 0 0 (MQ below (va_Qv (fun (_ : Unit) => True) (g_Bo (dC, dI) A (fun (_ : Unit) => (b_m cB cC cI cJ cZ oA rA res.2 ++ b_w cB cC cI cJ cZ oA rA res.2 ++ b_s cB cC cI cJ cZ oA rA res.2 ++ b_c cB cC cI cJ cZ oA rA res.2 ++ b_t cB cC cI cJ cZ oA rA res.2 ++ b_d cB cC cI cJ cZ oA rA res.2))) A) ([.ref (oA 3), .int p0] : List Value).toArray s 0 0 A) (F0 m 37 ls [])) ?_ _ _ hF_10 _ _ hP hS ls (lv_sub hl [1, 0] rfl)
    intro again_12 s_11 ih_13 hF_14
    intro H locs hP hS ls hl
    refine lv_iload_n hx hb dX4_tellDef_37 rfl (lv_at hl 1 rfl) ?_
    refine lv_aload_n hx hb dX4_tellDef_38 rfl (lv_at hl 0 rfl) ?_
    refine va_get (D := (dC, dI)) (ci := 4) (v := .ref (oA 1)) (C := RX4) (T := TX4) (N := 18) hx hb hts ii_X4 hown hK hP 0 rfl rfl 0 (by decide) (hts (.fieldLink RX4 32 "StoryHouse$Meanings" "words" "LStoryHouse$Words;") wq_86) (fun _ h9 => h9) rfl dX4_tellDef_39 ?_
    refine va_get (D := (dC, dI)) (ci := 10) (v := .int ((s_11.2 1).1 2)) (C := RX10) (T := TX10) (N := 12) hx hb hts ii_X10 hown hK hP 7 rfl rfl 2 (by decide) (hts (.fieldLink RX4 53 "StoryHouse$Words" "count" "I") wq_45) (fun _ h9 => h9) rfl dX4_tellDef_42 ?_
    refine lv_icmp_ge (tgt := 97) hx hb dX4_tellDef_45 (by decide) (fun c_15 => ?_) (fun c_15 => ?_)
    · have hF_16 := ipos c_15 hF_14
      clear hF_14
      have h9 := Option.some.inj hF_16
      subst h9
      exact W.vret hx hb hr (fun t ht hW => ⟨⟨(), rfl, trivial, m_end ht hP, hDD _⟩, hS.F ht⟩) hS.2.2 dX4_tellDef_97
    · have hF_17 := ineg c_15 hF_14
      clear hF_14
      refine lv_aload_n hx hb dX4_tellDef_48 rfl (lv_at hl 0 rfl) ?_
      refine va_get (D := (dC, dI)) (ci := 4) (v := .ref (oA 1)) (C := RX4) (T := TX4) (N := 18) hx hb hts ii_X4 hown hK hP 0 rfl rfl 0 (by decide) (hts (.fieldLink RX4 32 "StoryHouse$Meanings" "words" "LStoryHouse$Words;") wq_86) (fun _ h9 => h9) rfl dX4_tellDef_49 ?_
      refine lv_iload_n hx hb dX4_tellDef_52 rfl (lv_at hl 1 rfl) ?_
      obtain ⟨u_18, hu_18, hF_19⟩ := Option.bind_eq_some_iff.mp hF_17
      clear hF_17
      have hPc := bx_P (bs := [b_m cB cC cI cJ cZ oA rA s_11.2, b_w cB cC cI cJ cZ oA rA s_11.2, b_s cB cC cI cJ cZ oA rA s_11.2, b_c cB cC cI cJ cZ oA rA s_11.2, b_t cB cC cI cJ cZ oA rA s_11.2, b_d cB cC cI cJ cZ oA rA s_11.2]) (bs' := [b_w cB cC cI cJ cZ oA rA s_11.2]) (ws' := (b_w cB cC cI cJ cZ oA rA s_11.2)) hP fl_6 fl_1 [1] rfl
      have hDc := bx_D (bs := [b_m cB cC cI cJ cZ oA rA s_11.2, b_w cB cC cI cJ cZ oA rA s_11.2, b_s cB cC cI cJ cZ oA rA s_11.2, b_c cB cC cI cJ cZ oA rA s_11.2, b_t cB cC cI cJ cZ oA rA s_11.2, b_d cB cC cI cJ cZ oA rA s_11.2]) (bs' := [b_w cB cC cI cJ cZ oA rA s_11.2]) (ws' := (b_w cB cC cI cJ cZ oA rA s_11.2)) (hDD s_11.2) fl_6 fl_1 [1] (by decide +kernel) rfl
      have hFc := bx_F (bs := [b_m cB cC cI cJ cZ oA rA s_11.2, b_w cB cC cI cJ cZ oA rA s_11.2, b_s cB cC cI cJ cZ oA rA s_11.2, b_c cB cC cI cJ cZ oA rA s_11.2, b_t cB cC cI cJ cZ oA rA s_11.2, b_d cB cC cI cJ cZ oA rA s_11.2]) (bs' := [b_w cB cC cI cJ cZ oA rA s_11.2]) (wc := (b_w cB cC cI cJ cZ oA rA s_11.2)) (hDD s_11.2) hS hA fl_6 fl_1 [1] rfl
      refine g_ofi (wc := (b_w cB cC cI cJ cZ oA rA s_11.2)) (wr := (b_m cB cC cI cJ cZ oA rA s_11.2 ++ b_s cB cC cI cJ cZ oA rA s_11.2 ++ b_c cB cC cI cJ cZ oA rA s_11.2 ++ b_t cB cC cI cJ cZ oA rA s_11.2 ++ b_d cB cC cI cJ cZ oA rA s_11.2)) hP (hDD s_11.2) hS hFc (bx_ix [b_m cB cC cI cJ cZ oA rA s_11.2, b_w cB cC cI cJ cZ oA rA s_11.2, b_s cB cC cI cJ cZ oA rA s_11.2, b_c cB cC cI cJ cZ oA rA s_11.2, b_t cB cC cI cJ cZ oA rA s_11.2, b_d cB cC cI cJ cZ oA rA s_11.2] [1]) (bx_ix [b_m cB cC cI cJ cZ oA rA s_11.2, b_w cB cC cI cJ cZ oA rA s_11.2, b_s cB cC cI cJ cZ oA rA s_11.2, b_c cB cC cI cJ cZ oA rA s_11.2, b_t cB cC cI cJ cZ oA rA s_11.2, b_d cB cC cI cJ cZ oA rA s_11.2] [0, 2, 3, 4, 5]) (bx_C (bs := [b_m cB cC cI cJ cZ oA rA s_11.2, b_w cB cC cI cJ cZ oA rA s_11.2, b_s cB cC cI cJ cZ oA rA s_11.2, b_c cB cC cI cJ cZ oA rA s_11.2, b_t cB cC cI cJ cZ oA rA s_11.2, b_d cB cC cI cJ cZ oA rA s_11.2]) (bs' := [b_w cB cC cI cJ cZ oA rA s_11.2]) (is := [1]) fl_6 fl_1 rfl) (bx_C (bs := [b_m cB cC cI cJ cZ oA rA s_11.2, b_w cB cC cI cJ cZ oA rA s_11.2, b_s cB cC cI cJ cZ oA rA s_11.2, b_c cB cC cI cJ cZ oA rA s_11.2, b_t cB cC cI cJ cZ oA rA s_11.2, b_d cB cC cI cJ cZ oA rA s_11.2]) (bs' := [b_m cB cC cI cJ cZ oA rA s_11.2, b_s cB cC cI cJ cZ oA rA s_11.2, b_c cB cC cI cJ cZ oA rA s_11.2, b_t cB cC cI cJ cZ oA rA s_11.2, b_d cB cC cI cJ cZ oA rA s_11.2]) (is := [0, 2, 3, 4, 5]) fl_6 fl_5 rfl) (bx_n (by decide +kernel)) (bx_d (by decide +kernel)) (va_runV (As := [.int s_11.1]) (rest := []) ⟨hx, hb, hml, hown, hts⟩ (k_X10_kindOf l dC dI cB cC cI cJ cZ cP oA rA H.size  s_11.1 s_11.2 _ hu_18) (cwV 1 hts (g_gV wq_714 wq_543 wq_544 wq_2 wq_545) rfl rfl rfl (by decide +kernel) ⟨Nat.le_of_ble_eq_true rfl, Nat.le_of_ble_eq_true rfl⟩) (g_preV g_bl0 hK hPc hDc hS hE hFc g_to0 (q0 := 0) (ci := 10) rfl rfl) rfl rfl hl.1 rfl (lv_room (Nat.le_of_ble_eq_true rfl)) dX4_tellDef_53 ⟨Nat.le_of_ble_eq_true rfl, Nat.le_of_ble_eq_true rfl⟩) (fun r9 u9 H locs hw9 hP' hD' hS => ?_)
      clear hPc hDc hFc
      subst hw9
      obtain ⟨σ_20, eσ_20, hF_21⟩ := bnd_e hF_19
      clear hF_19
      have hP : va_P (dC, dI) vwCl (b_m cB cC cI cJ cZ oA rA σ_20 ++ b_w cB cC cI cJ cZ oA rA σ_20 ++ b_s cB cC cI cJ cZ oA rA σ_20 ++ b_c cB cC cI cJ cZ oA rA σ_20 ++ b_t cB cC cI cJ cZ oA rA σ_20 ++ b_d cB cC cI cJ cZ oA rA σ_20) H := by rw [eσ_20]; exact bx_P (bs := [b_m cB cC cI cJ cZ oA rA s_11.2, b_s cB cC cI cJ cZ oA rA s_11.2, b_c cB cC cI cJ cZ oA rA s_11.2, b_t cB cC cI cJ cZ oA rA s_11.2, b_d cB cC cI cJ cZ oA rA s_11.2] ++ [b_w cB cC cI cJ cZ oA rA u_18.2]) (bs' := [b_m cB cC cI cJ cZ oA rA (mrg (fun j => j == 1) s_11.2 u_18.2), b_w cB cC cI cJ cZ oA rA (mrg (fun j => j == 1) s_11.2 u_18.2), b_s cB cC cI cJ cZ oA rA (mrg (fun j => j == 1) s_11.2 u_18.2), b_c cB cC cI cJ cZ oA rA (mrg (fun j => j == 1) s_11.2 u_18.2), b_t cB cC cI cJ cZ oA rA (mrg (fun j => j == 1) s_11.2 u_18.2), b_d cB cC cI cJ cZ oA rA (mrg (fun j => j == 1) s_11.2 u_18.2)]) hP' (fl_a fl_5 fl_1) fl_6 [0, 5, 1, 2, 3, 4] rfl
      clear hP' hD'
      refine lv_iconst (v := 2) hx hb dX4_tellDef_56 (by decide +kernel) ?_
      refine lv_icmp_ne (tgt := 97) hx hb dX4_tellDef_57 (by decide) (fun c_22 => ?_) (fun c_22 => ?_)
      · have hF_42 := ineg c_22 hF_21
        clear hF_21
        have h9 := Option.some.inj hF_42
        subst h9
        exact W.vret hx hb hr (fun t ht hW => ⟨⟨(), rfl, trivial, m_end ht hP, hDD _⟩, hS.F ht⟩) hS.2.2 dX4_tellDef_97
      · have hF_23 := ipos c_22 hF_21
        clear hF_21
        refine lv_aload_n hx hb dX4_tellDef_60 rfl (lv_at hl 0 rfl) ?_
        refine lv_iload_n hx hb dX4_tellDef_61 rfl (lv_at hl 1 rfl) ?_
        refine lv_aload_n hx hb dX4_tellDef_62 rfl (lv_at hl 0 rfl) ?_
        refine va_get (D := (dC, dI)) (ci := 4) (v := .int ((σ_20 3).1 8)) (C := RX4) (T := TX4) (N := 18) hx hb hts ii_X4 hown hK hP 0 rfl rfl 8 (by decide) (hts (.fieldLink RX4 129 "StoryHouse$Meanings" "slots" "I") wq_94) (fun _ h9 => h9) rfl dX4_tellDef_63 ?_
        refine lv_bipush (v := 6) hx hb dX4_tellDef_66 (by decide +kernel) ?_
        obtain ⟨j_26, ej_26, hF_27⟩ := bnd_e hF_23
        clear hF_23
        have Jj_26 : ∀ (t_24 : Int32) (σ_25 : HS), j_26 t_24 σ_25 = some res → ∀ (H : Heap) (locs : List Loc), va_P (dC, dI) vwCl (b_m cB cC cI cJ cZ oA rA σ_25 ++ b_w cB cC cI cJ cZ oA rA σ_25 ++ b_s cB cC cI cJ cZ oA rA σ_25 ++ b_c cB cC cI cJ cZ oA rA σ_25 ++ b_t cB cC cI cJ cZ oA rA σ_25 ++ b_d cB cC cI cJ cZ oA rA σ_25) H → va_S A s.heap H locs → ∀ ls : Array Slot, lv_has ls 3 [(0, .ref (oA 3)), (2, .int s_11.1)] → W p l e (headSpec (g_ws yX4_tellDef cX4_tellDef 3 none) { frames := 6, cells := 0, slots := 0, locals := 149 }).room s m ([.ref (oA 3), .int p0] : List Value).toArray below meth c H locs 0 0 (MQ below (va_Qv (fun (_ : Unit) => True) (g_Bo (dC, dI) A (fun (_ : Unit) => (b_m cB cC cI cJ cZ oA rA res.2 ++ b_w cB cC cI cJ cZ oA rA res.2 ++ b_s cB cC cI cJ cZ oA rA res.2 ++ b_c cB cC cI cJ cZ oA rA res.2 ++ b_t cB cC cI cJ cZ oA rA res.2 ++ b_d cB cC cI cJ cZ oA rA res.2))) A) ([.ref (oA 3), .int p0] : List Value).toArray s 0 0 A) (F0 m 76 ls [.int t_24, .int s_11.1, .ref (oA 3)]) := by
          intro t_24 σ_25 hF0 H locs hP hS ls hl
          subst ej_26
          have hF_28 := hF0
          clear hF0
          obtain ⟨u_29, hu_29, hF_30⟩ := Option.bind_eq_some_iff.mp hF_28
          clear hF_28
          have hPc := bx_P (bs := [b_m cB cC cI cJ cZ oA rA σ_25, b_w cB cC cI cJ cZ oA rA σ_25, b_s cB cC cI cJ cZ oA rA σ_25, b_c cB cC cI cJ cZ oA rA σ_25, b_t cB cC cI cJ cZ oA rA σ_25, b_d cB cC cI cJ cZ oA rA σ_25]) (bs' := [b_m cB cC cI cJ cZ oA rA σ_25, b_w cB cC cI cJ cZ oA rA σ_25, b_s cB cC cI cJ cZ oA rA σ_25, b_c cB cC cI cJ cZ oA rA σ_25, b_t cB cC cI cJ cZ oA rA σ_25, b_d cB cC cI cJ cZ oA rA σ_25]) (ws' := (b_m cB cC cI cJ cZ oA rA σ_25 ++ b_w cB cC cI cJ cZ oA rA σ_25 ++ b_s cB cC cI cJ cZ oA rA σ_25 ++ b_c cB cC cI cJ cZ oA rA σ_25 ++ b_t cB cC cI cJ cZ oA rA σ_25 ++ b_d cB cC cI cJ cZ oA rA σ_25)) hP fl_6 fl_6 [0, 1, 2, 3, 4, 5] rfl
          have hDc := bx_D (bs := [b_m cB cC cI cJ cZ oA rA σ_25, b_w cB cC cI cJ cZ oA rA σ_25, b_s cB cC cI cJ cZ oA rA σ_25, b_c cB cC cI cJ cZ oA rA σ_25, b_t cB cC cI cJ cZ oA rA σ_25, b_d cB cC cI cJ cZ oA rA σ_25]) (bs' := [b_m cB cC cI cJ cZ oA rA σ_25, b_w cB cC cI cJ cZ oA rA σ_25, b_s cB cC cI cJ cZ oA rA σ_25, b_c cB cC cI cJ cZ oA rA σ_25, b_t cB cC cI cJ cZ oA rA σ_25, b_d cB cC cI cJ cZ oA rA σ_25]) (ws' := (b_m cB cC cI cJ cZ oA rA σ_25 ++ b_w cB cC cI cJ cZ oA rA σ_25 ++ b_s cB cC cI cJ cZ oA rA σ_25 ++ b_c cB cC cI cJ cZ oA rA σ_25 ++ b_t cB cC cI cJ cZ oA rA σ_25 ++ b_d cB cC cI cJ cZ oA rA σ_25)) (hDD σ_25) fl_6 fl_6 [0, 1, 2, 3, 4, 5] (by decide +kernel) rfl
          have hFc := bx_F (bs := [b_m cB cC cI cJ cZ oA rA σ_25, b_w cB cC cI cJ cZ oA rA σ_25, b_s cB cC cI cJ cZ oA rA σ_25, b_c cB cC cI cJ cZ oA rA σ_25, b_t cB cC cI cJ cZ oA rA σ_25, b_d cB cC cI cJ cZ oA rA σ_25]) (bs' := [b_m cB cC cI cJ cZ oA rA σ_25, b_w cB cC cI cJ cZ oA rA σ_25, b_s cB cC cI cJ cZ oA rA σ_25, b_c cB cC cI cJ cZ oA rA σ_25, b_t cB cC cI cJ cZ oA rA σ_25, b_d cB cC cI cJ cZ oA rA σ_25]) (wc := (b_m cB cC cI cJ cZ oA rA σ_25 ++ b_w cB cC cI cJ cZ oA rA σ_25 ++ b_s cB cC cI cJ cZ oA rA σ_25 ++ b_c cB cC cI cJ cZ oA rA σ_25 ++ b_t cB cC cI cJ cZ oA rA σ_25 ++ b_d cB cC cI cJ cZ oA rA σ_25)) (hDD σ_25) hS hA fl_6 fl_6 [0, 1, 2, 3, 4, 5] rfl
          refine g_ofv (wc := (b_m cB cC cI cJ cZ oA rA σ_25 ++ b_w cB cC cI cJ cZ oA rA σ_25 ++ b_s cB cC cI cJ cZ oA rA σ_25 ++ b_c cB cC cI cJ cZ oA rA σ_25 ++ b_t cB cC cI cJ cZ oA rA σ_25 ++ b_d cB cC cI cJ cZ oA rA σ_25)) (wr := ([] : va_W)) hP (hDD σ_25) hS hFc (bx_ix [b_m cB cC cI cJ cZ oA rA σ_25, b_w cB cC cI cJ cZ oA rA σ_25, b_s cB cC cI cJ cZ oA rA σ_25, b_c cB cC cI cJ cZ oA rA σ_25, b_t cB cC cI cJ cZ oA rA σ_25, b_d cB cC cI cJ cZ oA rA σ_25] [0, 1, 2, 3, 4, 5]) (bx_ix [b_m cB cC cI cJ cZ oA rA σ_25, b_w cB cC cI cJ cZ oA rA σ_25, b_s cB cC cI cJ cZ oA rA σ_25, b_c cB cC cI cJ cZ oA rA σ_25, b_t cB cC cI cJ cZ oA rA σ_25, b_d cB cC cI cJ cZ oA rA σ_25] []) (bx_C (bs := [b_m cB cC cI cJ cZ oA rA σ_25, b_w cB cC cI cJ cZ oA rA σ_25, b_s cB cC cI cJ cZ oA rA σ_25, b_c cB cC cI cJ cZ oA rA σ_25, b_t cB cC cI cJ cZ oA rA σ_25, b_d cB cC cI cJ cZ oA rA σ_25]) (bs' := [b_m cB cC cI cJ cZ oA rA σ_25, b_w cB cC cI cJ cZ oA rA σ_25, b_s cB cC cI cJ cZ oA rA σ_25, b_c cB cC cI cJ cZ oA rA σ_25, b_t cB cC cI cJ cZ oA rA σ_25, b_d cB cC cI cJ cZ oA rA σ_25]) (is := [0, 1, 2, 3, 4, 5]) fl_6 fl_6 rfl) (bx_C (bs := [b_m cB cC cI cJ cZ oA rA σ_25, b_w cB cC cI cJ cZ oA rA σ_25, b_s cB cC cI cJ cZ oA rA σ_25, b_c cB cC cI cJ cZ oA rA σ_25, b_t cB cC cI cJ cZ oA rA σ_25, b_d cB cC cI cJ cZ oA rA σ_25]) (bs' := []) (is := []) fl_6 fl_0 rfl) (bx_n (by decide +kernel)) (bx_d (by decide +kernel)) (va_runV (As := [.int s_11.1, .int t_24]) (rest := []) ⟨hx, hb, hml, hown, hts⟩ (k_X4_tellLocal l dC dI cB cC cI cJ cZ cP oA rA H.size  s_11.1 t_24 σ_25 _ hu_29) (cwV 2 hts (g_gV wq_744 wq_745 wq_2043 wq_4 wq_746) rfl rfl rfl (by decide +kernel) ⟨Nat.le_of_ble_eq_true rfl, Nat.le_of_ble_eq_true rfl⟩) (g_preV g_bl0 hK hPc hDc hS hE hFc g_to0 (q0 := 0) (ci := 4) rfl rfl) rfl rfl hl.1 rfl (lv_room (Nat.le_of_ble_eq_true rfl)) dX4_tellDef_76 ⟨Nat.le_of_ble_eq_true rfl, Nat.le_of_ble_eq_true rfl⟩) (fun u9 H locs hw9 hP' hD' hS => ?_)
          clear hPc hDc hFc
          have hP : va_P (dC, dI) vwCl (b_m cB cC cI cJ cZ oA rA u_29.2 ++ b_w cB cC cI cJ cZ oA rA u_29.2 ++ b_s cB cC cI cJ cZ oA rA u_29.2 ++ b_c cB cC cI cJ cZ oA rA u_29.2 ++ b_t cB cC cI cJ cZ oA rA u_29.2 ++ b_d cB cC cI cJ cZ oA rA u_29.2) H := hP'
          clear hP' hD'
          refine lv_aload_n hx hb dX4_tellDef_79 rfl (lv_at hl 0 rfl) ?_
          refine lv_aload_n hx hb dX4_tellDef_80 rfl (lv_at hl 0 rfl) ?_
          refine va_get (D := (dC, dI)) (ci := 4) (v := .ref (oA 1)) (C := RX4) (T := TX4) (N := 18) hx hb hts ii_X4 hown hK hP 0 rfl rfl 0 (by decide) (hts (.fieldLink RX4 32 "StoryHouse$Meanings" "words" "LStoryHouse$Words;") wq_86) (fun _ h9 => h9) rfl dX4_tellDef_81 ?_
          refine lv_iload_n hx hb dX4_tellDef_84 rfl (lv_at hl 1 rfl) ?_
          obtain ⟨u_31, hu_31, hF_32⟩ := Option.bind_eq_some_iff.mp hF_30
          clear hF_30
          have hPc := bx_P (bs := [b_m cB cC cI cJ cZ oA rA u_29.2, b_w cB cC cI cJ cZ oA rA u_29.2, b_s cB cC cI cJ cZ oA rA u_29.2, b_c cB cC cI cJ cZ oA rA u_29.2, b_t cB cC cI cJ cZ oA rA u_29.2, b_d cB cC cI cJ cZ oA rA u_29.2]) (bs' := [b_w cB cC cI cJ cZ oA rA u_29.2]) (ws' := (b_w cB cC cI cJ cZ oA rA u_29.2)) hP fl_6 fl_1 [1] rfl
          have hDc := bx_D (bs := [b_m cB cC cI cJ cZ oA rA u_29.2, b_w cB cC cI cJ cZ oA rA u_29.2, b_s cB cC cI cJ cZ oA rA u_29.2, b_c cB cC cI cJ cZ oA rA u_29.2, b_t cB cC cI cJ cZ oA rA u_29.2, b_d cB cC cI cJ cZ oA rA u_29.2]) (bs' := [b_w cB cC cI cJ cZ oA rA u_29.2]) (ws' := (b_w cB cC cI cJ cZ oA rA u_29.2)) (hDD u_29.2) fl_6 fl_1 [1] (by decide +kernel) rfl
          have hFc := bx_F (bs := [b_m cB cC cI cJ cZ oA rA u_29.2, b_w cB cC cI cJ cZ oA rA u_29.2, b_s cB cC cI cJ cZ oA rA u_29.2, b_c cB cC cI cJ cZ oA rA u_29.2, b_t cB cC cI cJ cZ oA rA u_29.2, b_d cB cC cI cJ cZ oA rA u_29.2]) (bs' := [b_w cB cC cI cJ cZ oA rA u_29.2]) (wc := (b_w cB cC cI cJ cZ oA rA u_29.2)) (hDD u_29.2) hS hA fl_6 fl_1 [1] rfl
          refine g_ofi (wc := (b_w cB cC cI cJ cZ oA rA u_29.2)) (wr := (b_m cB cC cI cJ cZ oA rA u_29.2 ++ b_s cB cC cI cJ cZ oA rA u_29.2 ++ b_c cB cC cI cJ cZ oA rA u_29.2 ++ b_t cB cC cI cJ cZ oA rA u_29.2 ++ b_d cB cC cI cJ cZ oA rA u_29.2)) hP (hDD u_29.2) hS hFc (bx_ix [b_m cB cC cI cJ cZ oA rA u_29.2, b_w cB cC cI cJ cZ oA rA u_29.2, b_s cB cC cI cJ cZ oA rA u_29.2, b_c cB cC cI cJ cZ oA rA u_29.2, b_t cB cC cI cJ cZ oA rA u_29.2, b_d cB cC cI cJ cZ oA rA u_29.2] [1]) (bx_ix [b_m cB cC cI cJ cZ oA rA u_29.2, b_w cB cC cI cJ cZ oA rA u_29.2, b_s cB cC cI cJ cZ oA rA u_29.2, b_c cB cC cI cJ cZ oA rA u_29.2, b_t cB cC cI cJ cZ oA rA u_29.2, b_d cB cC cI cJ cZ oA rA u_29.2] [0, 2, 3, 4, 5]) (bx_C (bs := [b_m cB cC cI cJ cZ oA rA u_29.2, b_w cB cC cI cJ cZ oA rA u_29.2, b_s cB cC cI cJ cZ oA rA u_29.2, b_c cB cC cI cJ cZ oA rA u_29.2, b_t cB cC cI cJ cZ oA rA u_29.2, b_d cB cC cI cJ cZ oA rA u_29.2]) (bs' := [b_w cB cC cI cJ cZ oA rA u_29.2]) (is := [1]) fl_6 fl_1 rfl) (bx_C (bs := [b_m cB cC cI cJ cZ oA rA u_29.2, b_w cB cC cI cJ cZ oA rA u_29.2, b_s cB cC cI cJ cZ oA rA u_29.2, b_c cB cC cI cJ cZ oA rA u_29.2, b_t cB cC cI cJ cZ oA rA u_29.2, b_d cB cC cI cJ cZ oA rA u_29.2]) (bs' := [b_m cB cC cI cJ cZ oA rA u_29.2, b_s cB cC cI cJ cZ oA rA u_29.2, b_c cB cC cI cJ cZ oA rA u_29.2, b_t cB cC cI cJ cZ oA rA u_29.2, b_d cB cC cI cJ cZ oA rA u_29.2]) (is := [0, 2, 3, 4, 5]) fl_6 fl_5 rfl) (bx_n (by decide +kernel)) (bx_d (by decide +kernel)) (va_runV (As := [.int s_11.1]) (rest := [.ref (oA 3)]) ⟨hx, hb, hml, hown, hts⟩ (k_X10_worthOf l dC dI cB cC cI cJ cZ cP oA rA H.size  s_11.1 u_29.2 _ hu_31) (cwV 1 hts (g_gV wq_715 wq_653 wq_654 wq_2 wq_655) rfl rfl rfl (by decide +kernel) ⟨Nat.le_of_ble_eq_true rfl, Nat.le_of_ble_eq_true rfl⟩) (g_preV g_bl0 hK hPc hDc hS hE hFc g_to0 (q0 := 0) (ci := 10) rfl rfl) rfl rfl hl.1 rfl (lv_room (Nat.le_of_ble_eq_true rfl)) dX4_tellDef_85 ⟨Nat.le_of_ble_eq_true rfl, Nat.le_of_ble_eq_true rfl⟩) (fun r9 u9 H locs hw9 hP' hD' hS => ?_)
          clear hPc hDc hFc
          subst hw9
          obtain ⟨σ_33, eσ_33, hF_34⟩ := bnd_e hF_32
          clear hF_32
          have hP : va_P (dC, dI) vwCl (b_m cB cC cI cJ cZ oA rA σ_33 ++ b_w cB cC cI cJ cZ oA rA σ_33 ++ b_s cB cC cI cJ cZ oA rA σ_33 ++ b_c cB cC cI cJ cZ oA rA σ_33 ++ b_t cB cC cI cJ cZ oA rA σ_33 ++ b_d cB cC cI cJ cZ oA rA σ_33) H := by rw [eσ_33]; exact bx_P (bs := [b_m cB cC cI cJ cZ oA rA u_29.2, b_s cB cC cI cJ cZ oA rA u_29.2, b_c cB cC cI cJ cZ oA rA u_29.2, b_t cB cC cI cJ cZ oA rA u_29.2, b_d cB cC cI cJ cZ oA rA u_29.2] ++ [b_w cB cC cI cJ cZ oA rA u_31.2]) (bs' := [b_m cB cC cI cJ cZ oA rA (mrg (fun j => j == 1) u_29.2 u_31.2), b_w cB cC cI cJ cZ oA rA (mrg (fun j => j == 1) u_29.2 u_31.2), b_s cB cC cI cJ cZ oA rA (mrg (fun j => j == 1) u_29.2 u_31.2), b_c cB cC cI cJ cZ oA rA (mrg (fun j => j == 1) u_29.2 u_31.2), b_t cB cC cI cJ cZ oA rA (mrg (fun j => j == 1) u_29.2 u_31.2), b_d cB cC cI cJ cZ oA rA (mrg (fun j => j == 1) u_29.2 u_31.2)]) hP' (fl_a fl_5 fl_1) fl_6 [0, 5, 1, 2, 3, 4] rfl
          clear hP' hD'
          obtain ⟨u_35, hu_35, hF_36⟩ := Option.bind_eq_some_iff.mp hF_34
          clear hF_34
          have hPc := bx_P (bs := [b_m cB cC cI cJ cZ oA rA σ_33, b_w cB cC cI cJ cZ oA rA σ_33, b_s cB cC cI cJ cZ oA rA σ_33, b_c cB cC cI cJ cZ oA rA σ_33, b_t cB cC cI cJ cZ oA rA σ_33, b_d cB cC cI cJ cZ oA rA σ_33]) (bs' := [b_m cB cC cI cJ cZ oA rA σ_33, b_w cB cC cI cJ cZ oA rA σ_33, b_s cB cC cI cJ cZ oA rA σ_33, b_c cB cC cI cJ cZ oA rA σ_33, b_t cB cC cI cJ cZ oA rA σ_33, b_d cB cC cI cJ cZ oA rA σ_33]) (ws' := (b_m cB cC cI cJ cZ oA rA σ_33 ++ b_w cB cC cI cJ cZ oA rA σ_33 ++ b_s cB cC cI cJ cZ oA rA σ_33 ++ b_c cB cC cI cJ cZ oA rA σ_33 ++ b_t cB cC cI cJ cZ oA rA σ_33 ++ b_d cB cC cI cJ cZ oA rA σ_33)) hP fl_6 fl_6 [0, 1, 2, 3, 4, 5] rfl
          have hDc := bx_D (bs := [b_m cB cC cI cJ cZ oA rA σ_33, b_w cB cC cI cJ cZ oA rA σ_33, b_s cB cC cI cJ cZ oA rA σ_33, b_c cB cC cI cJ cZ oA rA σ_33, b_t cB cC cI cJ cZ oA rA σ_33, b_d cB cC cI cJ cZ oA rA σ_33]) (bs' := [b_m cB cC cI cJ cZ oA rA σ_33, b_w cB cC cI cJ cZ oA rA σ_33, b_s cB cC cI cJ cZ oA rA σ_33, b_c cB cC cI cJ cZ oA rA σ_33, b_t cB cC cI cJ cZ oA rA σ_33, b_d cB cC cI cJ cZ oA rA σ_33]) (ws' := (b_m cB cC cI cJ cZ oA rA σ_33 ++ b_w cB cC cI cJ cZ oA rA σ_33 ++ b_s cB cC cI cJ cZ oA rA σ_33 ++ b_c cB cC cI cJ cZ oA rA σ_33 ++ b_t cB cC cI cJ cZ oA rA σ_33 ++ b_d cB cC cI cJ cZ oA rA σ_33)) (hDD σ_33) fl_6 fl_6 [0, 1, 2, 3, 4, 5] (by decide +kernel) rfl
          have hFc := bx_F (bs := [b_m cB cC cI cJ cZ oA rA σ_33, b_w cB cC cI cJ cZ oA rA σ_33, b_s cB cC cI cJ cZ oA rA σ_33, b_c cB cC cI cJ cZ oA rA σ_33, b_t cB cC cI cJ cZ oA rA σ_33, b_d cB cC cI cJ cZ oA rA σ_33]) (bs' := [b_m cB cC cI cJ cZ oA rA σ_33, b_w cB cC cI cJ cZ oA rA σ_33, b_s cB cC cI cJ cZ oA rA σ_33, b_c cB cC cI cJ cZ oA rA σ_33, b_t cB cC cI cJ cZ oA rA σ_33, b_d cB cC cI cJ cZ oA rA σ_33]) (wc := (b_m cB cC cI cJ cZ oA rA σ_33 ++ b_w cB cC cI cJ cZ oA rA σ_33 ++ b_s cB cC cI cJ cZ oA rA σ_33 ++ b_c cB cC cI cJ cZ oA rA σ_33 ++ b_t cB cC cI cJ cZ oA rA σ_33 ++ b_d cB cC cI cJ cZ oA rA σ_33)) (hDD σ_33) hS hA fl_6 fl_6 [0, 1, 2, 3, 4, 5] rfl
          refine g_ofv (wc := (b_m cB cC cI cJ cZ oA rA σ_33 ++ b_w cB cC cI cJ cZ oA rA σ_33 ++ b_s cB cC cI cJ cZ oA rA σ_33 ++ b_c cB cC cI cJ cZ oA rA σ_33 ++ b_t cB cC cI cJ cZ oA rA σ_33 ++ b_d cB cC cI cJ cZ oA rA σ_33)) (wr := ([] : va_W)) hP (hDD σ_33) hS hFc (bx_ix [b_m cB cC cI cJ cZ oA rA σ_33, b_w cB cC cI cJ cZ oA rA σ_33, b_s cB cC cI cJ cZ oA rA σ_33, b_c cB cC cI cJ cZ oA rA σ_33, b_t cB cC cI cJ cZ oA rA σ_33, b_d cB cC cI cJ cZ oA rA σ_33] [0, 1, 2, 3, 4, 5]) (bx_ix [b_m cB cC cI cJ cZ oA rA σ_33, b_w cB cC cI cJ cZ oA rA σ_33, b_s cB cC cI cJ cZ oA rA σ_33, b_c cB cC cI cJ cZ oA rA σ_33, b_t cB cC cI cJ cZ oA rA σ_33, b_d cB cC cI cJ cZ oA rA σ_33] []) (bx_C (bs := [b_m cB cC cI cJ cZ oA rA σ_33, b_w cB cC cI cJ cZ oA rA σ_33, b_s cB cC cI cJ cZ oA rA σ_33, b_c cB cC cI cJ cZ oA rA σ_33, b_t cB cC cI cJ cZ oA rA σ_33, b_d cB cC cI cJ cZ oA rA σ_33]) (bs' := [b_m cB cC cI cJ cZ oA rA σ_33, b_w cB cC cI cJ cZ oA rA σ_33, b_s cB cC cI cJ cZ oA rA σ_33, b_c cB cC cI cJ cZ oA rA σ_33, b_t cB cC cI cJ cZ oA rA σ_33, b_d cB cC cI cJ cZ oA rA σ_33]) (is := [0, 1, 2, 3, 4, 5]) fl_6 fl_6 rfl) (bx_C (bs := [b_m cB cC cI cJ cZ oA rA σ_33, b_w cB cC cI cJ cZ oA rA σ_33, b_s cB cC cI cJ cZ oA rA σ_33, b_c cB cC cI cJ cZ oA rA σ_33, b_t cB cC cI cJ cZ oA rA σ_33, b_d cB cC cI cJ cZ oA rA σ_33]) (bs' := []) (is := []) fl_6 fl_0 rfl) (bx_n (by decide +kernel)) (bx_d (by decide +kernel)) (va_runV (As := [.int u_31.1]) (rest := []) ⟨hx, hb, hml, hown, hts⟩ (k_X4_see l dC dI cB cC cI cJ cZ cP oA rA H.size  u_31.1 σ_33 _ hu_35) (cwV 1 hts (g_gV wq_747 wq_748 wq_2044 wq_4 wq_749) rfl rfl rfl (by decide +kernel) ⟨Nat.le_of_ble_eq_true rfl, Nat.le_of_ble_eq_true rfl⟩) (g_preV g_bl0 hK hPc hDc hS hE hFc g_to0 (q0 := 0) (ci := 4) rfl rfl) rfl rfl hl.1 rfl (lv_room (Nat.le_of_ble_eq_true rfl)) dX4_tellDef_88 ⟨Nat.le_of_ble_eq_true rfl, Nat.le_of_ble_eq_true rfl⟩) (fun u9 H locs hw9 hP' hD' hS => ?_)
          clear hPc hDc hFc
          have hP : va_P (dC, dI) vwCl (b_m cB cC cI cJ cZ oA rA u_35.2 ++ b_w cB cC cI cJ cZ oA rA u_35.2 ++ b_s cB cC cI cJ cZ oA rA u_35.2 ++ b_c cB cC cI cJ cZ oA rA u_35.2 ++ b_t cB cC cI cJ cZ oA rA u_35.2 ++ b_d cB cC cI cJ cZ oA rA u_35.2) H := hP'
          clear hP' hD'
          obtain ⟨x_37, ex_37, hF_38⟩ := bnd_e hF_36
          clear hF_36
          refine lv_iinc (v := x_37) (lv' := [(2, .int x_37), (0, .ref (oA 3))]) hx hb dX4_tellDef_91 hl (k := 1) rfl (by rw [ex_37]; rfl) (by decide) rfl (fun ls hl => ?_)
          refine lv_goto (tgt := 37) hx hb dX4_tellDef_94 (by decide) ?_
          exact ih_13 (x_37, u_35.2) hF_38 _ _ hP hS ls (lv_sub hl [1, 0] rfl)
        refine lv_icmp_ge (tgt := 75) hx hb dX4_tellDef_68 (by decide) (fun c_39 => ?_) (fun c_39 => ?_)
        · have hF_40 := ipos c_39 hF_27
          clear hF_27
          refine lv_iconst (v := 0) hx hb dX4_tellDef_75 (by decide +kernel) ?_
          exact Jj_26 0 σ_20 hF_40 _ _ hP hS ls (lv_sub hl [0, 1] rfl)
        · have hF_41 := ineg c_39 hF_27
          clear hF_27
          refine lv_iconst (v := 1) hx hb dX4_tellDef_71 (by decide +kernel) ?_
          refine lv_goto (tgt := 76) hx hb dX4_tellDef_72 (by decide) ?_
          exact Jj_26 1 σ_20 hF_41 _ _ hP hS ls (lv_sub hl [0, 1] rfl)
  refine lv_if_eq (tgt := 28) hx hb dX4_tellDef_17 (by decide) (fun c_43 => ?_) (fun c_43 => ?_)
  · have hF_44 := ipos c_43 hF_7
    clear hF_7
    exact Jj_6  u_3.2 hF_44 _ _ hP hS ls (lv_sub hl [0, 1] rfl)
  · have hF_45 := ineg c_43 hF_7
    clear hF_7
    refine lv_aload_n hx hb dX4_tellDef_20 rfl (lv_at hl 0 rfl) ?_
    refine lv_iconst (v := 5) hx hb dX4_tellDef_21 (by decide +kernel) ?_
    refine lv_iload_n hx hb dX4_tellDef_22 rfl (lv_at hl 1 rfl) ?_
    refine lv_iconst (v := 1) hx hb dX4_tellDef_23 (by decide +kernel) ?_
    refine lv_iadd hx hb dX4_tellDef_24 ?_
    obtain ⟨u_46, hu_46, hF_47⟩ := Option.bind_eq_some_iff.mp hF_45
    clear hF_45
    have hPc := bx_P (bs := [b_m cB cC cI cJ cZ oA rA u_3.2, b_w cB cC cI cJ cZ oA rA u_3.2, b_s cB cC cI cJ cZ oA rA u_3.2, b_c cB cC cI cJ cZ oA rA u_3.2, b_t cB cC cI cJ cZ oA rA u_3.2, b_d cB cC cI cJ cZ oA rA u_3.2]) (bs' := [b_m cB cC cI cJ cZ oA rA u_3.2, b_w cB cC cI cJ cZ oA rA u_3.2, b_s cB cC cI cJ cZ oA rA u_3.2, b_c cB cC cI cJ cZ oA rA u_3.2, b_t cB cC cI cJ cZ oA rA u_3.2, b_d cB cC cI cJ cZ oA rA u_3.2]) (ws' := (b_m cB cC cI cJ cZ oA rA u_3.2 ++ b_w cB cC cI cJ cZ oA rA u_3.2 ++ b_s cB cC cI cJ cZ oA rA u_3.2 ++ b_c cB cC cI cJ cZ oA rA u_3.2 ++ b_t cB cC cI cJ cZ oA rA u_3.2 ++ b_d cB cC cI cJ cZ oA rA u_3.2)) hP fl_6 fl_6 [0, 1, 2, 3, 4, 5] rfl
    have hDc := bx_D (bs := [b_m cB cC cI cJ cZ oA rA u_3.2, b_w cB cC cI cJ cZ oA rA u_3.2, b_s cB cC cI cJ cZ oA rA u_3.2, b_c cB cC cI cJ cZ oA rA u_3.2, b_t cB cC cI cJ cZ oA rA u_3.2, b_d cB cC cI cJ cZ oA rA u_3.2]) (bs' := [b_m cB cC cI cJ cZ oA rA u_3.2, b_w cB cC cI cJ cZ oA rA u_3.2, b_s cB cC cI cJ cZ oA rA u_3.2, b_c cB cC cI cJ cZ oA rA u_3.2, b_t cB cC cI cJ cZ oA rA u_3.2, b_d cB cC cI cJ cZ oA rA u_3.2]) (ws' := (b_m cB cC cI cJ cZ oA rA u_3.2 ++ b_w cB cC cI cJ cZ oA rA u_3.2 ++ b_s cB cC cI cJ cZ oA rA u_3.2 ++ b_c cB cC cI cJ cZ oA rA u_3.2 ++ b_t cB cC cI cJ cZ oA rA u_3.2 ++ b_d cB cC cI cJ cZ oA rA u_3.2)) (hDD u_3.2) fl_6 fl_6 [0, 1, 2, 3, 4, 5] (by decide +kernel) rfl
    have hFc := bx_F (bs := [b_m cB cC cI cJ cZ oA rA u_3.2, b_w cB cC cI cJ cZ oA rA u_3.2, b_s cB cC cI cJ cZ oA rA u_3.2, b_c cB cC cI cJ cZ oA rA u_3.2, b_t cB cC cI cJ cZ oA rA u_3.2, b_d cB cC cI cJ cZ oA rA u_3.2]) (bs' := [b_m cB cC cI cJ cZ oA rA u_3.2, b_w cB cC cI cJ cZ oA rA u_3.2, b_s cB cC cI cJ cZ oA rA u_3.2, b_c cB cC cI cJ cZ oA rA u_3.2, b_t cB cC cI cJ cZ oA rA u_3.2, b_d cB cC cI cJ cZ oA rA u_3.2]) (wc := (b_m cB cC cI cJ cZ oA rA u_3.2 ++ b_w cB cC cI cJ cZ oA rA u_3.2 ++ b_s cB cC cI cJ cZ oA rA u_3.2 ++ b_c cB cC cI cJ cZ oA rA u_3.2 ++ b_t cB cC cI cJ cZ oA rA u_3.2 ++ b_d cB cC cI cJ cZ oA rA u_3.2)) (hDD u_3.2) hS hA fl_6 fl_6 [0, 1, 2, 3, 4, 5] rfl
    refine g_ofv (wc := (b_m cB cC cI cJ cZ oA rA u_3.2 ++ b_w cB cC cI cJ cZ oA rA u_3.2 ++ b_s cB cC cI cJ cZ oA rA u_3.2 ++ b_c cB cC cI cJ cZ oA rA u_3.2 ++ b_t cB cC cI cJ cZ oA rA u_3.2 ++ b_d cB cC cI cJ cZ oA rA u_3.2)) (wr := ([] : va_W)) hP (hDD u_3.2) hS hFc (bx_ix [b_m cB cC cI cJ cZ oA rA u_3.2, b_w cB cC cI cJ cZ oA rA u_3.2, b_s cB cC cI cJ cZ oA rA u_3.2, b_c cB cC cI cJ cZ oA rA u_3.2, b_t cB cC cI cJ cZ oA rA u_3.2, b_d cB cC cI cJ cZ oA rA u_3.2] [0, 1, 2, 3, 4, 5]) (bx_ix [b_m cB cC cI cJ cZ oA rA u_3.2, b_w cB cC cI cJ cZ oA rA u_3.2, b_s cB cC cI cJ cZ oA rA u_3.2, b_c cB cC cI cJ cZ oA rA u_3.2, b_t cB cC cI cJ cZ oA rA u_3.2, b_d cB cC cI cJ cZ oA rA u_3.2] []) (bx_C (bs := [b_m cB cC cI cJ cZ oA rA u_3.2, b_w cB cC cI cJ cZ oA rA u_3.2, b_s cB cC cI cJ cZ oA rA u_3.2, b_c cB cC cI cJ cZ oA rA u_3.2, b_t cB cC cI cJ cZ oA rA u_3.2, b_d cB cC cI cJ cZ oA rA u_3.2]) (bs' := [b_m cB cC cI cJ cZ oA rA u_3.2, b_w cB cC cI cJ cZ oA rA u_3.2, b_s cB cC cI cJ cZ oA rA u_3.2, b_c cB cC cI cJ cZ oA rA u_3.2, b_t cB cC cI cJ cZ oA rA u_3.2, b_d cB cC cI cJ cZ oA rA u_3.2]) (is := [0, 1, 2, 3, 4, 5]) fl_6 fl_6 rfl) (bx_C (bs := [b_m cB cC cI cJ cZ oA rA u_3.2, b_w cB cC cI cJ cZ oA rA u_3.2, b_s cB cC cI cJ cZ oA rA u_3.2, b_c cB cC cI cJ cZ oA rA u_3.2, b_t cB cC cI cJ cZ oA rA u_3.2, b_d cB cC cI cJ cZ oA rA u_3.2]) (bs' := []) (is := []) fl_6 fl_0 rfl) (bx_n (by decide +kernel)) (bx_d (by decide +kernel)) (va_runV (As := [.int 5, .int (p0 + 1)]) (rest := []) ⟨hx, hb, hml, hown, hts⟩ (k_X4_fail l dC dI cB cC cI cJ cZ cP oA rA H.size  5 (p0 + 1) u_3.2 _ hu_46) (cwV 2 hts (g_gV wq_725 wq_726 wq_2037 wq_4 wq_727) rfl rfl rfl (by decide +kernel) ⟨Nat.le_of_ble_eq_true rfl, Nat.le_of_ble_eq_true rfl⟩) (g_preV g_bl0 hK hPc hDc hS hE hFc g_to0 (q0 := 0) (ci := 4) rfl rfl) rfl rfl hl.1 rfl (lv_room (Nat.le_of_ble_eq_true rfl)) dX4_tellDef_25 ⟨Nat.le_of_ble_eq_true rfl, Nat.le_of_ble_eq_true rfl⟩) (fun u9 H locs hw9 hP' hD' hS => ?_)
    clear hPc hDc hFc
    have hP : va_P (dC, dI) vwCl (b_m cB cC cI cJ cZ oA rA u_46.2 ++ b_w cB cC cI cJ cZ oA rA u_46.2 ++ b_s cB cC cI cJ cZ oA rA u_46.2 ++ b_c cB cC cI cJ cZ oA rA u_46.2 ++ b_t cB cC cI cJ cZ oA rA u_46.2 ++ b_d cB cC cI cJ cZ oA rA u_46.2) H := hP'
    clear hP' hD'
    exact Jj_6  u_46.2 hF_47 _ _ hP hS ls (lv_sub hl [0, 1] rfl)
theorem dX4_tellRule_0 : decode cX4_tellRule 0 = .ok (.aload_n 0, 1) := by decide +kernel
theorem dX4_tellRule_1 : decode cX4_tellRule 1 = .ok (.getfield 36, 3) := by decide +kernel
theorem dX4_tellRule_4 : decode cX4_tellRule 4 = .ok (.getfield 165, 3) := by decide +kernel
theorem dX4_tellRule_7 : decode cX4_tellRule 7 = .ok (.iload_n 2, 1) := by decide +kernel
theorem dX4_tellRule_8 : decode cX4_tellRule 8 = .ok (.invokestatic 122, 3) := by decide +kernel
theorem dX4_tellRule_11 : decode cX4_tellRule 11 = .ok (.iload_n 3, 1) := by decide +kernel
theorem dX4_tellRule_12 : decode cX4_tellRule 12 = .ok (.if_icmp .ge 11, 3) := by decide +kernel
theorem dX4_tellRule_15 : decode cX4_tellRule 15 = .ok (.aload_n 0, 1) := by decide +kernel
theorem dX4_tellRule_16 : decode cX4_tellRule 16 = .ok (.iload_n 1, 1) := by decide +kernel
theorem dX4_tellRule_17 : decode cX4_tellRule 17 = .ok (.invokevirtual 174, 3) := by decide +kernel
theorem dX4_tellRule_20 : decode cX4_tellRule 20 = .ok (.ifCond .eq 9, 3) := by decide +kernel
theorem dX4_tellRule_23 : decode cX4_tellRule 23 = .ok (.aload_n 0, 1) := by decide +kernel
theorem dX4_tellRule_24 : decode cX4_tellRule 24 = .ok (.iconst 5, 1) := by decide +kernel
theorem dX4_tellRule_25 : decode cX4_tellRule 25 = .ok (.iload_n 1, 1) := by decide +kernel
theorem dX4_tellRule_26 : decode cX4_tellRule 26 = .ok (.invokevirtual 84, 3) := by decide +kernel
theorem dX4_tellRule_29 : decode cX4_tellRule 29 = .ok (.aload_n 0, 1) := by decide +kernel
theorem dX4_tellRule_30 : decode cX4_tellRule 30 = .ok (.getfield 36, 3) := by decide +kernel
theorem dX4_tellRule_33 : decode cX4_tellRule 33 = .ok (.getfield 165, 3) := by decide +kernel
theorem dX4_tellRule_36 : decode cX4_tellRule 36 = .ok (.iload_n 2, 1) := by decide +kernel
theorem dX4_tellRule_37 : decode cX4_tellRule 37 = .ok (.aload_n 0, 1) := by decide +kernel
theorem dX4_tellRule_38 : decode cX4_tellRule 38 = .ok (.getfield 36, 3) := by decide +kernel
theorem dX4_tellRule_41 : decode cX4_tellRule 41 = .ok (.getfield 165, 3) := by decide +kernel
theorem dX4_tellRule_44 : decode cX4_tellRule 44 = .ok (.iload_n 2, 1) := by decide +kernel
theorem dX4_tellRule_45 : decode cX4_tellRule 45 = .ok (.invokestatic 122, 3) := by decide +kernel
theorem dX4_tellRule_48 : decode cX4_tellRule 48 = .ok (.iconst 1, 1) := by decide +kernel
theorem dX4_tellRule_49 : decode cX4_tellRule 49 = .ok (.iadd, 1) := by decide +kernel
theorem dX4_tellRule_50 : decode cX4_tellRule 50 = .ok (.invokestatic 112, 3) := by decide +kernel
theorem dX4_tellRule_53 : decode cX4_tellRule 53 = .ok (.return_, 1) := by decide +kernel
def F_X4_tellRule (p0 : Int32) (p1 : Int32) (p2 : Int32) (Γ : HS) : HR :=
  bnd ((g_at 7 ((Γ 4).2.1 0) p1)) fun (x_1 : Int32) =>
  bnd (fun  (σ_3 : HS) => (
    bnd ((g_at 7 ((σ_3 4).2.1 0) p1)) fun (x_7 : Int32) =>
    bnd ((x_7 + 1)) fun (x_9 : Int32) =>
    bnd (cA' σ_3 4 0 (g_put 7 ((σ_3 4).2.1 0) p1 x_9)) fun σ_11 =>
    some (0, σ_11)
  ) : HS → HR) fun j_4 =>
  bnd (fun  (σ_13 : HS) => (
    (F_X4_fail 5 p0 σ_13).bind fun u_17 =>
    j_4  u_17.2
  ) : HS → HR) fun j_14 =>
  if p2 ≤ x_1 then (
    j_14  Γ
  ) else (
    (F_X4_isTooLong p0 Γ).bind fun u_22 =>
    if u_22.1 = 0 then (
      j_4  u_22.2
    ) else (
      j_14  u_22.2
    )
  )
set_option maxHeartbeats 4000000 in
set_option maxRecDepth 100000 in
theorem k_X4_tellRule (l : Launch) (dC : Nat → ClassId) (dI : Nat → Nat → Nat) (cB cC cI cJ cZ cP : ClassId) (oA : Nat → Nat) (rA : Nat → Nat → Nat) (sz : Nat)  (p0 : Int32) (p1 : Int32) (p2 : Int32) (Γ : HS) (res : Int32 × HS) (hF : F_X4_tellRule p0 p1 p2 Γ = some res) : Met l yX4_tellRule (g_ws yX4_tellRule cX4_tellRule 4 none) ({ frames := 5, cells := 0, slots := 0, locals := 124 }) (va_Pc [.ref (oA 3), .int p0, .int p1, .int p2] (g_B (dC, dI) [(cB, .byte), (cC, .char), (cI, .int), (cJ, .long), (cZ, .boolean), (cP, .object "StoryHouse$Play")] sz (b_m cB cC cI cJ cZ oA rA Γ ++ b_w cB cC cI cJ cZ oA rA Γ ++ b_s cB cC cI cJ cZ oA rA Γ ++ b_c cB cC cI cJ cZ oA rA Γ ++ b_t cB cC cI cJ cZ oA rA Γ ++ b_d cB cC cI cJ cZ oA rA Γ) g_0)) (va_Qv (fun (_ : Unit) => True) (g_Bo (dC, dI) (va_A (b_m cB cC cI cJ cZ oA rA Γ ++ b_w cB cC cI cJ cZ oA rA Γ ++ b_s cB cC cI cJ cZ oA rA Γ ++ b_c cB cC cI cJ cZ oA rA Γ ++ b_t cB cC cI cJ cZ oA rA Γ ++ b_d cB cC cI cJ cZ oA rA Γ) sz) (fun (_ : Unit) => (b_m cB cC cI cJ cZ oA rA res.2 ++ b_w cB cC cI cJ cZ oA rA res.2 ++ b_s cB cC cI cJ cZ oA rA res.2 ++ b_c cB cC cI cJ cZ oA rA res.2 ++ b_t cB cC cI cJ cZ oA rA res.2 ++ b_d cB cC cI cJ cZ oA rA res.2))) (va_A (b_m cB cC cI cJ cZ oA rA Γ ++ b_w cB cC cI cJ cZ oA rA Γ ++ b_s cB cC cI cJ cZ oA rA Γ ++ b_c cB cC cI cJ cZ oA rA Γ ++ b_t cB cC cI cJ cZ oA rA Γ ++ b_d cB cC cI cJ cZ oA rA Γ) sz)) 0 0 (va_A (b_m cB cC cI cJ cZ oA rA Γ ++ b_w cB cC cI cJ cZ oA rA Γ ++ b_s cB cC cI cJ cZ oA rA Γ ++ b_c cB cC cI cJ cZ oA rA Γ ++ b_t cB cC cI cJ cZ oA rA Γ ++ b_d cB cC cI cJ cZ oA rA Γ) sz) := by
  refine Met.ofW (cc := cX4_tellRule) (maxL := 4) (ret := none) (by decide) rfl ?_
  intro p e s m args below meth c s₁ B hml hv
  obtain ⟨rfl, hsz, hP, hK, hD0, hE, hX⟩ := hv
  have hx := B.exec
  have hb := B.bytes
  have hr := B.returns
  have hts0 := atoms_spec (ws := g_ws yX4_tellRule cX4_tellRule 4 none) B.pre
  have hts : ∀ w ∈ lw_good, w.before ([.ref (oA 3), .int p0, .int p1, .int p2] : List Value).toArray s = true := fun w z => hts0 w (List.mem_cons_of_mem _ z)
  have hown : s.vm.findClass RX4 = some m.cls := findClass_of_methodNamed B.named
  have hlocks := B.notSynchronized
  subst hsz
  have hD1 := hD0.self (sz := s.heap.size)
  generalize hAe : va_A (b_m cB cC cI cJ cZ oA rA Γ ++ b_w cB cC cI cJ cZ oA rA Γ ++ b_s cB cC cI cJ cZ oA rA Γ ++ b_c cB cC cI cJ cZ oA rA Γ ++ b_t cB cC cI cJ cZ oA rA Γ ++ b_d cB cC cI cJ cZ oA rA Γ) s.heap.size = A at hD1 hE hX ⊢
  have hA : ∀ q : Nat, s.heap.size ≤ q → A q := fun q z => by rw [← hAe]; exact Or.inr z
  have hDD : ∀ Γ : HS, va_D A (b_m cB cC cI cJ cZ oA rA Γ ++ b_w cB cC cI cJ cZ oA rA Γ ++ b_s cB cC cI cJ cZ oA rA Γ ++ b_c cB cC cI cJ cZ oA rA Γ ++ b_t cB cC cI cJ cZ oA rA Γ ++ b_d cB cC cI cJ cZ oA rA Γ) := fun Γ9 => va_D_fst (ws := (b_m cB cC cI cJ cZ oA rA Γ ++ b_w cB cC cI cJ cZ oA rA Γ ++ b_s cB cC cI cJ cZ oA rA Γ ++ b_c cB cC cI cJ cZ oA rA Γ ++ b_t cB cC cI cJ cZ oA rA Γ ++ b_d cB cC cI cJ cZ oA rA Γ)) (ws' := (b_m cB cC cI cJ cZ oA rA Γ9 ++ b_w cB cC cI cJ cZ oA rA Γ9 ++ b_s cB cC cI cJ cZ oA rA Γ9 ++ b_c cB cC cI cJ cZ oA rA Γ9 ++ b_t cB cC cI cJ cZ oA rA Γ9 ++ b_d cB cC cI cJ cZ oA rA Γ9)) rfl hD1
  have hN := hE.1
  have hS : va_S A s.heap s.heap [] := va_S.rf
  have hl := lv_entry ([.ref (oA 3), .int p0, .int p1, .int p2]) (n := 4) (Nat.le_of_ble_eq_true rfl)
  rw [lg_entry_eq]
  generalize (lg_sl ([.ref (oA 3), .int p0, .int p1, .int p2]) ++ List.replicate (4 - (lg_sl ([.ref (oA 3), .int p0, .int p1, .int p2])).length) Slot.unset).toArray = ls at hl ⊢
  have hl : lv_has ls 4 [(0, .ref (oA 3)), (1, .int p0), (2, .int p1), (3, .int p2)] := hl
  unfold F_X4_tellRule at hF
  refine lv_aload_n hx hb dX4_tellRule_0 rfl (lv_at hl 0 rfl) ?_
  refine va_get (D := (dC, dI)) (ci := 4) (v := .ref (oA 4)) (C := RX4) (T := TX4) (N := 18) hx hb hts ii_X4 hown hK hP 0 rfl rfl 1 (by decide) (hts (.fieldLink RX4 36 "StoryHouse$Meanings" "story" "LStoryHouse$Story;") wq_87) (fun _ h9 => h9) rfl dX4_tellRule_1 ?_
  refine va_get (D := (dC, dI)) (ci := 7) (v := .ref (rA 4 0)) (C := RX7) (T := TX7) (N := 19) hx hb hts ii_X7 hown hK hP 16 rfl rfl 0 (by decide) (hts (.fieldLink RX4 165 "StoryHouse$Story" "counts" "[I") wq_154) (fun _ h9 => h9) rfl dX4_tellRule_4 ?_
  refine lv_iload_n hx hb dX4_tellRule_7 rfl (lv_at hl 2 rfl) ?_
  have hq9 : ((b_m cB cC cI cJ cZ oA rA Γ ++ b_w cB cC cI cJ cZ oA rA Γ ++ b_s cB cC cI cJ cZ oA rA Γ ++ b_c cB cC cI cJ cZ oA rA Γ ++ b_t cB cC cI cJ cZ oA rA Γ ++ b_d cB cC cI cJ cZ oA rA Γ))[17]? = some (rA 4 0, .inl (cI, 7, .inl ((Γ 4).2.1 0))) := rfl
  have hPc := hP.sub (ws' := [(rA 4 0, .inl (cI, 7, .inl ((Γ 4).2.1 0)))]) [17] (pk_fm (er_C hq9))
  have hDc := (hDD Γ).sub (ws' := [(rA 4 0, .inl (cI, 7, .inl ((Γ 4).2.1 0)))]) [17] (by decide +kernel) (er_C hq9)
  have hFc := va_free (wc := [(rA 4 0, .inl (cI, 7, .inl ((Γ 4).2.1 0)))]) (hDD Γ) hS hA [17] (er_C hq9)
  refine g_ofi (wc := [(rA 4 0, .inl (cI, 7, .inl ((Γ 4).2.1 0)))]) (wr := (((b_m cB cC cI cJ cZ oA rA Γ ++ b_w cB cC cI cJ cZ oA rA Γ ++ b_s cB cC cI cJ cZ oA rA Γ ++ b_c cB cC cI cJ cZ oA rA Γ ++ b_t cB cC cI cJ cZ oA rA Γ ++ b_d cB cC cI cJ cZ oA rA Γ)).eraseIdx 17)) hP (hDD Γ) hS hFc [17] ((List.range ((b_m cB cC cI cJ cZ oA rA Γ ++ b_w cB cC cI cJ cZ oA rA Γ ++ b_s cB cC cI cJ cZ oA rA Γ ++ b_c cB cC cI cJ cZ oA rA Γ ++ b_t cB cC cI cJ cZ oA rA Γ ++ b_d cB cC cI cJ cZ oA rA Γ)).length).eraseIdx 17) (er_C hq9) er_R er_n er_d (va_runSN (As := [.ref (rA 4 0), .int p1]) (rest := []) ⟨hx, hb, hml, hown, hts⟩ (c_X11_at l dC dI cB cC cI cJ cZ cP s.heap.size (rA 4 0) p1 7 ((Γ 4).2.1 0) (by decide)) ⟨va_cnB 2 hts (g_gA wq_407) rfl rfl rfl (nw_24 hN) (hts (.initialized RX11) wq_1) (by decide +kernel) ⟨Nat.le_of_ble_eq_true rfl, Nat.le_of_ble_eq_true rfl⟩, (hts (.static yX11_at) wq_406), trivial⟩ (g_preS g_bl0 hK hPc hDc hS hE hFc g_to0) rfl rfl hl.1 rfl (lv_room (Nat.le_of_ble_eq_true rfl)) dX4_tellRule_8 ⟨Nat.le_of_ble_eq_true rfl, Nat.le_of_ble_eq_true rfl⟩) (fun r9 u9 H locs hw9 hP' hD' hS => ?_)
  clear hPc hDc hFc hD'
  have hP : va_P (dC, dI) vwCl (b_m cB cC cI cJ cZ oA rA Γ ++ b_w cB cC cI cJ cZ oA rA Γ ++ b_s cB cC cI cJ cZ oA rA Γ ++ b_c cB cC cI cJ cZ oA rA Γ ++ b_t cB cC cI cJ cZ oA rA Γ ++ b_d cB cC cI cJ cZ oA rA Γ) H := er_I hP' hq9
  clear hP' hq9
  subst hw9
  obtain ⟨x_1, ex_1, hF_2⟩ := bnd_e hF
  clear hF
  refine m_top ex_1 ?_
  refine lv_iload_n hx hb dX4_tellRule_11 rfl (lv_at hl 3 rfl) ?_
  obtain ⟨j_4, ej_4, hF_5⟩ := bnd_e hF_2
  clear hF_2
  have Jj_4 : ∀  (σ_3 : HS), j_4  σ_3 = some res → ∀ (H : Heap) (locs : List Loc), va_P (dC, dI) vwCl (b_m cB cC cI cJ cZ oA rA σ_3 ++ b_w cB cC cI cJ cZ oA rA σ_3 ++ b_s cB cC cI cJ cZ oA rA σ_3 ++ b_c cB cC cI cJ cZ oA rA σ_3 ++ b_t cB cC cI cJ cZ oA rA σ_3 ++ b_d cB cC cI cJ cZ oA rA σ_3) H → va_S A s.heap H locs → ∀ ls : Array Slot, lv_has ls 4 [(0, .ref (oA 3)), (2, .int p1)] → W p l e (headSpec (g_ws yX4_tellRule cX4_tellRule 4 none) { frames := 5, cells := 0, slots := 0, locals := 124 }).room s m ([.ref (oA 3), .int p0, .int p1, .int p2] : List Value).toArray below meth c H locs 0 0 (MQ below (va_Qv (fun (_ : Unit) => True) (g_Bo (dC, dI) A (fun (_ : Unit) => (b_m cB cC cI cJ cZ oA rA res.2 ++ b_w cB cC cI cJ cZ oA rA res.2 ++ b_s cB cC cI cJ cZ oA rA res.2 ++ b_c cB cC cI cJ cZ oA rA res.2 ++ b_t cB cC cI cJ cZ oA rA res.2 ++ b_d cB cC cI cJ cZ oA rA res.2))) A) ([.ref (oA 3), .int p0, .int p1, .int p2] : List Value).toArray s 0 0 A) (F0 m 29 ls []) := by
    intro  σ_3 hF0 H locs hP hS ls hl
    subst ej_4
    have hF_6 := hF0
    clear hF0
    refine lv_aload_n hx hb dX4_tellRule_29 rfl (lv_at hl 0 rfl) ?_
    refine va_get (D := (dC, dI)) (ci := 4) (v := .ref (oA 4)) (C := RX4) (T := TX4) (N := 18) hx hb hts ii_X4 hown hK hP 0 rfl rfl 1 (by decide) (hts (.fieldLink RX4 36 "StoryHouse$Meanings" "story" "LStoryHouse$Story;") wq_87) (fun _ h9 => h9) rfl dX4_tellRule_30 ?_
    refine va_get (D := (dC, dI)) (ci := 7) (v := .ref (rA 4 0)) (C := RX7) (T := TX7) (N := 19) hx hb hts ii_X7 hown hK hP 16 rfl rfl 0 (by decide) (hts (.fieldLink RX4 165 "StoryHouse$Story" "counts" "[I") wq_154) (fun _ h9 => h9) rfl dX4_tellRule_33 ?_
    refine lv_iload_n hx hb dX4_tellRule_36 rfl (lv_at hl 1 rfl) ?_
    refine lv_aload_n hx hb dX4_tellRule_37 rfl (lv_at hl 0 rfl) ?_
    refine va_get (D := (dC, dI)) (ci := 4) (v := .ref (oA 4)) (C := RX4) (T := TX4) (N := 18) hx hb hts ii_X4 hown hK hP 0 rfl rfl 1 (by decide) (hts (.fieldLink RX4 36 "StoryHouse$Meanings" "story" "LStoryHouse$Story;") wq_87) (fun _ h9 => h9) rfl dX4_tellRule_38 ?_
    refine va_get (D := (dC, dI)) (ci := 7) (v := .ref (rA 4 0)) (C := RX7) (T := TX7) (N := 19) hx hb hts ii_X7 hown hK hP 16 rfl rfl 0 (by decide) (hts (.fieldLink RX4 165 "StoryHouse$Story" "counts" "[I") wq_154) (fun _ h9 => h9) rfl dX4_tellRule_41 ?_
    refine lv_iload_n hx hb dX4_tellRule_44 rfl (lv_at hl 1 rfl) ?_
    have hq9 : ((b_m cB cC cI cJ cZ oA rA σ_3 ++ b_w cB cC cI cJ cZ oA rA σ_3 ++ b_s cB cC cI cJ cZ oA rA σ_3 ++ b_c cB cC cI cJ cZ oA rA σ_3 ++ b_t cB cC cI cJ cZ oA rA σ_3 ++ b_d cB cC cI cJ cZ oA rA σ_3))[17]? = some (rA 4 0, .inl (cI, 7, .inl ((σ_3 4).2.1 0))) := rfl
    have hPc := hP.sub (ws' := [(rA 4 0, .inl (cI, 7, .inl ((σ_3 4).2.1 0)))]) [17] (pk_fm (er_C hq9))
    have hDc := (hDD σ_3).sub (ws' := [(rA 4 0, .inl (cI, 7, .inl ((σ_3 4).2.1 0)))]) [17] (by decide +kernel) (er_C hq9)
    have hFc := va_free (wc := [(rA 4 0, .inl (cI, 7, .inl ((σ_3 4).2.1 0)))]) (hDD σ_3) hS hA [17] (er_C hq9)
    refine g_ofi (wc := [(rA 4 0, .inl (cI, 7, .inl ((σ_3 4).2.1 0)))]) (wr := (((b_m cB cC cI cJ cZ oA rA σ_3 ++ b_w cB cC cI cJ cZ oA rA σ_3 ++ b_s cB cC cI cJ cZ oA rA σ_3 ++ b_c cB cC cI cJ cZ oA rA σ_3 ++ b_t cB cC cI cJ cZ oA rA σ_3 ++ b_d cB cC cI cJ cZ oA rA σ_3)).eraseIdx 17)) hP (hDD σ_3) hS hFc [17] ((List.range ((b_m cB cC cI cJ cZ oA rA σ_3 ++ b_w cB cC cI cJ cZ oA rA σ_3 ++ b_s cB cC cI cJ cZ oA rA σ_3 ++ b_c cB cC cI cJ cZ oA rA σ_3 ++ b_t cB cC cI cJ cZ oA rA σ_3 ++ b_d cB cC cI cJ cZ oA rA σ_3)).length).eraseIdx 17) (er_C hq9) er_R er_n er_d (va_runSN (As := [.ref (rA 4 0), .int p1]) (rest := [.int p1, .ref (rA 4 0)]) ⟨hx, hb, hml, hown, hts⟩ (c_X11_at l dC dI cB cC cI cJ cZ cP H.size (rA 4 0) p1 7 ((σ_3 4).2.1 0) (by decide)) ⟨va_cnB 2 hts (g_gA wq_407) rfl rfl rfl (nw_24 hN) (hts (.initialized RX11) wq_1) (by decide +kernel) ⟨Nat.le_of_ble_eq_true rfl, Nat.le_of_ble_eq_true rfl⟩, (hts (.static yX11_at) wq_406), trivial⟩ (g_preS g_bl0 hK hPc hDc hS hE hFc g_to0) rfl rfl hl.1 rfl (lv_room (Nat.le_of_ble_eq_true rfl)) dX4_tellRule_45 ⟨Nat.le_of_ble_eq_true rfl, Nat.le_of_ble_eq_true rfl⟩) (fun r9 u9 H locs hw9 hP' hD' hS => ?_)
    clear hPc hDc hFc hD'
    have hP : va_P (dC, dI) vwCl (b_m cB cC cI cJ cZ oA rA σ_3 ++ b_w cB cC cI cJ cZ oA rA σ_3 ++ b_s cB cC cI cJ cZ oA rA σ_3 ++ b_c cB cC cI cJ cZ oA rA σ_3 ++ b_t cB cC cI cJ cZ oA rA σ_3 ++ b_d cB cC cI cJ cZ oA rA σ_3) H := er_I hP' hq9
    clear hP' hq9
    subst hw9
    obtain ⟨x_7, ex_7, hF_8⟩ := bnd_e hF_6
    clear hF_6
    refine m_top ex_7 ?_
    refine lv_iconst (v := 1) hx hb dX4_tellRule_48 (by decide +kernel) ?_
    refine lv_iadd hx hb dX4_tellRule_49 ?_
    obtain ⟨x_9, ex_9, hF_10⟩ := bnd_e hF_8
    clear hF_8
    refine m_top ex_9 ?_
    have hq9 : ((b_m cB cC cI cJ cZ oA rA σ_3 ++ b_w cB cC cI cJ cZ oA rA σ_3 ++ b_s cB cC cI cJ cZ oA rA σ_3 ++ b_c cB cC cI cJ cZ oA rA σ_3 ++ b_t cB cC cI cJ cZ oA rA σ_3 ++ b_d cB cC cI cJ cZ oA rA σ_3))[17]? = some (rA 4 0, .inl (cI, 7, .inl ((σ_3 4).2.1 0))) := rfl
    have hPc := hP.sub (ws' := [(rA 4 0, .inl (cI, 7, .inl ((σ_3 4).2.1 0)))]) [17] (pk_fm (er_C hq9))
    have hDc := (hDD σ_3).sub (ws' := [(rA 4 0, .inl (cI, 7, .inl ((σ_3 4).2.1 0)))]) [17] (by decide +kernel) (er_C hq9)
    have hFc := va_free (wc := [(rA 4 0, .inl (cI, 7, .inl ((σ_3 4).2.1 0)))]) (hDD σ_3) hS hA [17] (er_C hq9)
    refine g_ofv (wc := [(rA 4 0, .inl (cI, 7, .inl ((σ_3 4).2.1 0)))]) (wr := (((b_m cB cC cI cJ cZ oA rA σ_3 ++ b_w cB cC cI cJ cZ oA rA σ_3 ++ b_s cB cC cI cJ cZ oA rA σ_3 ++ b_c cB cC cI cJ cZ oA rA σ_3 ++ b_t cB cC cI cJ cZ oA rA σ_3 ++ b_d cB cC cI cJ cZ oA rA σ_3)).eraseIdx 17)) hP (hDD σ_3) hS hFc [17] ((List.range ((b_m cB cC cI cJ cZ oA rA σ_3 ++ b_w cB cC cI cJ cZ oA rA σ_3 ++ b_s cB cC cI cJ cZ oA rA σ_3 ++ b_c cB cC cI cJ cZ oA rA σ_3 ++ b_t cB cC cI cJ cZ oA rA σ_3 ++ b_d cB cC cI cJ cZ oA rA σ_3)).length).eraseIdx 17) (er_C hq9) er_R er_n er_d (va_runSN (As := [.ref (rA 4 0), .int p1, .int x_9]) (rest := []) ⟨hx, hb, hml, hown, hts⟩ (c_X11_put l dC dI cB cC cI cJ cZ cP H.size (rA 4 0) p1 x_9 7 ((σ_3 4).2.1 0) (by decide)) ⟨va_cnB 3 hts (g_gA wq_412) rfl rfl rfl (nw_23 hN) (hts (.initialized RX11) wq_1) (by decide +kernel) ⟨Nat.le_of_ble_eq_true rfl, Nat.le_of_ble_eq_true rfl⟩, (hts (.static yX11_put) wq_411), trivial⟩ (g_preS g_bl0 hK hPc hDc hS hE hFc g_to0) rfl rfl hl.1 rfl (lv_room (Nat.le_of_ble_eq_true rfl)) dX4_tellRule_50 ⟨Nat.le_of_ble_eq_true rfl, Nat.le_of_ble_eq_true rfl⟩) (fun g9 H locs hw9 hP' hD' hS => ?_)
    clear hPc hDc hFc hD'
    obtain ⟨σ_11, eσ_11, hF_12⟩ := bnd_e hF_10
    clear hF_10
    subst hw9
    have hP : va_P (dC, dI) vwCl (b_m cB cC cI cJ cZ oA rA σ_11 ++ b_w cB cC cI cJ cZ oA rA σ_11 ++ b_s cB cC cI cJ cZ oA rA σ_11 ++ b_c cB cC cI cJ cZ oA rA σ_11 ++ b_t cB cC cI cJ cZ oA rA σ_11 ++ b_d cB cC cI cJ cZ oA rA σ_11) H := by rw [eσ_11]; exact cs_mwsctd_s_0 ▸ er_P hP' (er_lt hq9)
    clear hP' hq9
    have h9 := Option.some.inj hF_12
    subst h9
    exact W.vret hx hb hr (fun t ht hW => ⟨⟨(), rfl, trivial, m_end ht hP, hDD _⟩, hS.F ht⟩) hS.2.2 dX4_tellRule_53
  obtain ⟨j_14, ej_14, hF_15⟩ := bnd_e hF_5
  clear hF_5
  have Jj_14 : ∀  (σ_13 : HS), j_14  σ_13 = some res → ∀ (H : Heap) (locs : List Loc), va_P (dC, dI) vwCl (b_m cB cC cI cJ cZ oA rA σ_13 ++ b_w cB cC cI cJ cZ oA rA σ_13 ++ b_s cB cC cI cJ cZ oA rA σ_13 ++ b_c cB cC cI cJ cZ oA rA σ_13 ++ b_t cB cC cI cJ cZ oA rA σ_13 ++ b_d cB cC cI cJ cZ oA rA σ_13) H → va_S A s.heap H locs → ∀ ls : Array Slot, lv_has ls 4 [(0, .ref (oA 3)), (1, .int p0), (2, .int p1)] → W p l e (headSpec (g_ws yX4_tellRule cX4_tellRule 4 none) { frames := 5, cells := 0, slots := 0, locals := 124 }).room s m ([.ref (oA 3), .int p0, .int p1, .int p2] : List Value).toArray below meth c H locs 0 0 (MQ below (va_Qv (fun (_ : Unit) => True) (g_Bo (dC, dI) A (fun (_ : Unit) => (b_m cB cC cI cJ cZ oA rA res.2 ++ b_w cB cC cI cJ cZ oA rA res.2 ++ b_s cB cC cI cJ cZ oA rA res.2 ++ b_c cB cC cI cJ cZ oA rA res.2 ++ b_t cB cC cI cJ cZ oA rA res.2 ++ b_d cB cC cI cJ cZ oA rA res.2))) A) ([.ref (oA 3), .int p0, .int p1, .int p2] : List Value).toArray s 0 0 A) (F0 m 23 ls []) := by
    intro  σ_13 hF0 H locs hP hS ls hl
    subst ej_14
    have hF_16 := hF0
    clear hF0
    refine lv_aload_n hx hb dX4_tellRule_23 rfl (lv_at hl 0 rfl) ?_
    refine lv_iconst (v := 5) hx hb dX4_tellRule_24 (by decide +kernel) ?_
    refine lv_iload_n hx hb dX4_tellRule_25 rfl (lv_at hl 1 rfl) ?_
    obtain ⟨u_17, hu_17, hF_18⟩ := Option.bind_eq_some_iff.mp hF_16
    clear hF_16
    have hPc := bx_P (bs := [b_m cB cC cI cJ cZ oA rA σ_13, b_w cB cC cI cJ cZ oA rA σ_13, b_s cB cC cI cJ cZ oA rA σ_13, b_c cB cC cI cJ cZ oA rA σ_13, b_t cB cC cI cJ cZ oA rA σ_13, b_d cB cC cI cJ cZ oA rA σ_13]) (bs' := [b_m cB cC cI cJ cZ oA rA σ_13, b_w cB cC cI cJ cZ oA rA σ_13, b_s cB cC cI cJ cZ oA rA σ_13, b_c cB cC cI cJ cZ oA rA σ_13, b_t cB cC cI cJ cZ oA rA σ_13, b_d cB cC cI cJ cZ oA rA σ_13]) (ws' := (b_m cB cC cI cJ cZ oA rA σ_13 ++ b_w cB cC cI cJ cZ oA rA σ_13 ++ b_s cB cC cI cJ cZ oA rA σ_13 ++ b_c cB cC cI cJ cZ oA rA σ_13 ++ b_t cB cC cI cJ cZ oA rA σ_13 ++ b_d cB cC cI cJ cZ oA rA σ_13)) hP fl_6 fl_6 [0, 1, 2, 3, 4, 5] rfl
    have hDc := bx_D (bs := [b_m cB cC cI cJ cZ oA rA σ_13, b_w cB cC cI cJ cZ oA rA σ_13, b_s cB cC cI cJ cZ oA rA σ_13, b_c cB cC cI cJ cZ oA rA σ_13, b_t cB cC cI cJ cZ oA rA σ_13, b_d cB cC cI cJ cZ oA rA σ_13]) (bs' := [b_m cB cC cI cJ cZ oA rA σ_13, b_w cB cC cI cJ cZ oA rA σ_13, b_s cB cC cI cJ cZ oA rA σ_13, b_c cB cC cI cJ cZ oA rA σ_13, b_t cB cC cI cJ cZ oA rA σ_13, b_d cB cC cI cJ cZ oA rA σ_13]) (ws' := (b_m cB cC cI cJ cZ oA rA σ_13 ++ b_w cB cC cI cJ cZ oA rA σ_13 ++ b_s cB cC cI cJ cZ oA rA σ_13 ++ b_c cB cC cI cJ cZ oA rA σ_13 ++ b_t cB cC cI cJ cZ oA rA σ_13 ++ b_d cB cC cI cJ cZ oA rA σ_13)) (hDD σ_13) fl_6 fl_6 [0, 1, 2, 3, 4, 5] (by decide +kernel) rfl
    have hFc := bx_F (bs := [b_m cB cC cI cJ cZ oA rA σ_13, b_w cB cC cI cJ cZ oA rA σ_13, b_s cB cC cI cJ cZ oA rA σ_13, b_c cB cC cI cJ cZ oA rA σ_13, b_t cB cC cI cJ cZ oA rA σ_13, b_d cB cC cI cJ cZ oA rA σ_13]) (bs' := [b_m cB cC cI cJ cZ oA rA σ_13, b_w cB cC cI cJ cZ oA rA σ_13, b_s cB cC cI cJ cZ oA rA σ_13, b_c cB cC cI cJ cZ oA rA σ_13, b_t cB cC cI cJ cZ oA rA σ_13, b_d cB cC cI cJ cZ oA rA σ_13]) (wc := (b_m cB cC cI cJ cZ oA rA σ_13 ++ b_w cB cC cI cJ cZ oA rA σ_13 ++ b_s cB cC cI cJ cZ oA rA σ_13 ++ b_c cB cC cI cJ cZ oA rA σ_13 ++ b_t cB cC cI cJ cZ oA rA σ_13 ++ b_d cB cC cI cJ cZ oA rA σ_13)) (hDD σ_13) hS hA fl_6 fl_6 [0, 1, 2, 3, 4, 5] rfl
    refine g_ofv (wc := (b_m cB cC cI cJ cZ oA rA σ_13 ++ b_w cB cC cI cJ cZ oA rA σ_13 ++ b_s cB cC cI cJ cZ oA rA σ_13 ++ b_c cB cC cI cJ cZ oA rA σ_13 ++ b_t cB cC cI cJ cZ oA rA σ_13 ++ b_d cB cC cI cJ cZ oA rA σ_13)) (wr := ([] : va_W)) hP (hDD σ_13) hS hFc (bx_ix [b_m cB cC cI cJ cZ oA rA σ_13, b_w cB cC cI cJ cZ oA rA σ_13, b_s cB cC cI cJ cZ oA rA σ_13, b_c cB cC cI cJ cZ oA rA σ_13, b_t cB cC cI cJ cZ oA rA σ_13, b_d cB cC cI cJ cZ oA rA σ_13] [0, 1, 2, 3, 4, 5]) (bx_ix [b_m cB cC cI cJ cZ oA rA σ_13, b_w cB cC cI cJ cZ oA rA σ_13, b_s cB cC cI cJ cZ oA rA σ_13, b_c cB cC cI cJ cZ oA rA σ_13, b_t cB cC cI cJ cZ oA rA σ_13, b_d cB cC cI cJ cZ oA rA σ_13] []) (bx_C (bs := [b_m cB cC cI cJ cZ oA rA σ_13, b_w cB cC cI cJ cZ oA rA σ_13, b_s cB cC cI cJ cZ oA rA σ_13, b_c cB cC cI cJ cZ oA rA σ_13, b_t cB cC cI cJ cZ oA rA σ_13, b_d cB cC cI cJ cZ oA rA σ_13]) (bs' := [b_m cB cC cI cJ cZ oA rA σ_13, b_w cB cC cI cJ cZ oA rA σ_13, b_s cB cC cI cJ cZ oA rA σ_13, b_c cB cC cI cJ cZ oA rA σ_13, b_t cB cC cI cJ cZ oA rA σ_13, b_d cB cC cI cJ cZ oA rA σ_13]) (is := [0, 1, 2, 3, 4, 5]) fl_6 fl_6 rfl) (bx_C (bs := [b_m cB cC cI cJ cZ oA rA σ_13, b_w cB cC cI cJ cZ oA rA σ_13, b_s cB cC cI cJ cZ oA rA σ_13, b_c cB cC cI cJ cZ oA rA σ_13, b_t cB cC cI cJ cZ oA rA σ_13, b_d cB cC cI cJ cZ oA rA σ_13]) (bs' := []) (is := []) fl_6 fl_0 rfl) (bx_n (by decide +kernel)) (bx_d (by decide +kernel)) (va_runV (As := [.int 5, .int p0]) (rest := []) ⟨hx, hb, hml, hown, hts⟩ (k_X4_fail l dC dI cB cC cI cJ cZ cP oA rA H.size  5 p0 σ_13 _ hu_17) (cwV 2 hts (g_gV wq_725 wq_726 wq_2037 wq_4 wq_727) rfl rfl rfl (by decide +kernel) ⟨Nat.le_of_ble_eq_true rfl, Nat.le_of_ble_eq_true rfl⟩) (g_preV g_bl0 hK hPc hDc hS hE hFc g_to0 (q0 := 0) (ci := 4) rfl rfl) rfl rfl hl.1 rfl (lv_room (Nat.le_of_ble_eq_true rfl)) dX4_tellRule_26 ⟨Nat.le_of_ble_eq_true rfl, Nat.le_of_ble_eq_true rfl⟩) (fun u9 H locs hw9 hP' hD' hS => ?_)
    clear hPc hDc hFc
    have hP : va_P (dC, dI) vwCl (b_m cB cC cI cJ cZ oA rA u_17.2 ++ b_w cB cC cI cJ cZ oA rA u_17.2 ++ b_s cB cC cI cJ cZ oA rA u_17.2 ++ b_c cB cC cI cJ cZ oA rA u_17.2 ++ b_t cB cC cI cJ cZ oA rA u_17.2 ++ b_d cB cC cI cJ cZ oA rA u_17.2) H := hP'
    clear hP' hD'
    exact Jj_4  u_17.2 hF_18 _ _ hP hS ls (lv_sub hl [0, 2] rfl)
  refine lv_icmp_ge (tgt := 23) hx hb dX4_tellRule_12 (by decide) (fun c_19 => ?_) (fun c_19 => ?_)
  · have hF_20 := ipos c_19 hF_15
    clear hF_15
    exact Jj_14  Γ hF_20 _ _ hP hS ls (lv_sub hl [0, 1, 2] rfl)
  · have hF_21 := ineg c_19 hF_15
    clear hF_15
    refine lv_aload_n hx hb dX4_tellRule_15 rfl (lv_at hl 0 rfl) ?_
    refine lv_iload_n hx hb dX4_tellRule_16 rfl (lv_at hl 1 rfl) ?_
    obtain ⟨u_22, hu_22, hF_23⟩ := Option.bind_eq_some_iff.mp hF_21
    clear hF_21
    have hPc := bx_P (bs := [b_m cB cC cI cJ cZ oA rA Γ, b_w cB cC cI cJ cZ oA rA Γ, b_s cB cC cI cJ cZ oA rA Γ, b_c cB cC cI cJ cZ oA rA Γ, b_t cB cC cI cJ cZ oA rA Γ, b_d cB cC cI cJ cZ oA rA Γ]) (bs' := [b_m cB cC cI cJ cZ oA rA Γ, b_w cB cC cI cJ cZ oA rA Γ, b_s cB cC cI cJ cZ oA rA Γ, b_c cB cC cI cJ cZ oA rA Γ, b_t cB cC cI cJ cZ oA rA Γ, b_d cB cC cI cJ cZ oA rA Γ]) (ws' := (b_m cB cC cI cJ cZ oA rA Γ ++ b_w cB cC cI cJ cZ oA rA Γ ++ b_s cB cC cI cJ cZ oA rA Γ ++ b_c cB cC cI cJ cZ oA rA Γ ++ b_t cB cC cI cJ cZ oA rA Γ ++ b_d cB cC cI cJ cZ oA rA Γ)) hP fl_6 fl_6 [0, 1, 2, 3, 4, 5] rfl
    have hDc := bx_D (bs := [b_m cB cC cI cJ cZ oA rA Γ, b_w cB cC cI cJ cZ oA rA Γ, b_s cB cC cI cJ cZ oA rA Γ, b_c cB cC cI cJ cZ oA rA Γ, b_t cB cC cI cJ cZ oA rA Γ, b_d cB cC cI cJ cZ oA rA Γ]) (bs' := [b_m cB cC cI cJ cZ oA rA Γ, b_w cB cC cI cJ cZ oA rA Γ, b_s cB cC cI cJ cZ oA rA Γ, b_c cB cC cI cJ cZ oA rA Γ, b_t cB cC cI cJ cZ oA rA Γ, b_d cB cC cI cJ cZ oA rA Γ]) (ws' := (b_m cB cC cI cJ cZ oA rA Γ ++ b_w cB cC cI cJ cZ oA rA Γ ++ b_s cB cC cI cJ cZ oA rA Γ ++ b_c cB cC cI cJ cZ oA rA Γ ++ b_t cB cC cI cJ cZ oA rA Γ ++ b_d cB cC cI cJ cZ oA rA Γ)) (hDD Γ) fl_6 fl_6 [0, 1, 2, 3, 4, 5] (by decide +kernel) rfl
    have hFc := bx_F (bs := [b_m cB cC cI cJ cZ oA rA Γ, b_w cB cC cI cJ cZ oA rA Γ, b_s cB cC cI cJ cZ oA rA Γ, b_c cB cC cI cJ cZ oA rA Γ, b_t cB cC cI cJ cZ oA rA Γ, b_d cB cC cI cJ cZ oA rA Γ]) (bs' := [b_m cB cC cI cJ cZ oA rA Γ, b_w cB cC cI cJ cZ oA rA Γ, b_s cB cC cI cJ cZ oA rA Γ, b_c cB cC cI cJ cZ oA rA Γ, b_t cB cC cI cJ cZ oA rA Γ, b_d cB cC cI cJ cZ oA rA Γ]) (wc := (b_m cB cC cI cJ cZ oA rA Γ ++ b_w cB cC cI cJ cZ oA rA Γ ++ b_s cB cC cI cJ cZ oA rA Γ ++ b_c cB cC cI cJ cZ oA rA Γ ++ b_t cB cC cI cJ cZ oA rA Γ ++ b_d cB cC cI cJ cZ oA rA Γ)) (hDD Γ) hS hA fl_6 fl_6 [0, 1, 2, 3, 4, 5] rfl
    refine g_ofi (wc := (b_m cB cC cI cJ cZ oA rA Γ ++ b_w cB cC cI cJ cZ oA rA Γ ++ b_s cB cC cI cJ cZ oA rA Γ ++ b_c cB cC cI cJ cZ oA rA Γ ++ b_t cB cC cI cJ cZ oA rA Γ ++ b_d cB cC cI cJ cZ oA rA Γ)) (wr := ([] : va_W)) hP (hDD Γ) hS hFc (bx_ix [b_m cB cC cI cJ cZ oA rA Γ, b_w cB cC cI cJ cZ oA rA Γ, b_s cB cC cI cJ cZ oA rA Γ, b_c cB cC cI cJ cZ oA rA Γ, b_t cB cC cI cJ cZ oA rA Γ, b_d cB cC cI cJ cZ oA rA Γ] [0, 1, 2, 3, 4, 5]) (bx_ix [b_m cB cC cI cJ cZ oA rA Γ, b_w cB cC cI cJ cZ oA rA Γ, b_s cB cC cI cJ cZ oA rA Γ, b_c cB cC cI cJ cZ oA rA Γ, b_t cB cC cI cJ cZ oA rA Γ, b_d cB cC cI cJ cZ oA rA Γ] []) (bx_C (bs := [b_m cB cC cI cJ cZ oA rA Γ, b_w cB cC cI cJ cZ oA rA Γ, b_s cB cC cI cJ cZ oA rA Γ, b_c cB cC cI cJ cZ oA rA Γ, b_t cB cC cI cJ cZ oA rA Γ, b_d cB cC cI cJ cZ oA rA Γ]) (bs' := [b_m cB cC cI cJ cZ oA rA Γ, b_w cB cC cI cJ cZ oA rA Γ, b_s cB cC cI cJ cZ oA rA Γ, b_c cB cC cI cJ cZ oA rA Γ, b_t cB cC cI cJ cZ oA rA Γ, b_d cB cC cI cJ cZ oA rA Γ]) (is := [0, 1, 2, 3, 4, 5]) fl_6 fl_6 rfl) (bx_C (bs := [b_m cB cC cI cJ cZ oA rA Γ, b_w cB cC cI cJ cZ oA rA Γ, b_s cB cC cI cJ cZ oA rA Γ, b_c cB cC cI cJ cZ oA rA Γ, b_t cB cC cI cJ cZ oA rA Γ, b_d cB cC cI cJ cZ oA rA Γ]) (bs' := []) (is := []) fl_6 fl_0 rfl) (bx_n (by decide +kernel)) (bx_d (by decide +kernel)) (va_runV (As := [.int p0]) (rest := []) ⟨hx, hb, hml, hown, hts⟩ (k_X4_isTooLong l dC dI cB cC cI cJ cZ cP oA rA H.size  p0 Γ _ hu_22) (cwV 1 hts (g_gV wq_741 wq_742 wq_2042 wq_4 wq_743) rfl rfl rfl (by decide +kernel) ⟨Nat.le_of_ble_eq_true rfl, Nat.le_of_ble_eq_true rfl⟩) (g_preV g_bl0 hK hPc hDc hS hE hFc g_to0 (q0 := 0) (ci := 4) rfl rfl) rfl rfl hl.1 rfl (lv_room (Nat.le_of_ble_eq_true rfl)) dX4_tellRule_17 ⟨Nat.le_of_ble_eq_true rfl, Nat.le_of_ble_eq_true rfl⟩) (fun r9 u9 H locs hw9 hP' hD' hS => ?_)
    clear hPc hDc hFc
    subst hw9
    have hP : va_P (dC, dI) vwCl (b_m cB cC cI cJ cZ oA rA u_22.2 ++ b_w cB cC cI cJ cZ oA rA u_22.2 ++ b_s cB cC cI cJ cZ oA rA u_22.2 ++ b_c cB cC cI cJ cZ oA rA u_22.2 ++ b_t cB cC cI cJ cZ oA rA u_22.2 ++ b_d cB cC cI cJ cZ oA rA u_22.2) H := hP'
    clear hP' hD'
    refine lv_if_eq (tgt := 29) hx hb dX4_tellRule_20 (by decide) (fun c_24 => ?_) (fun c_24 => ?_)
    · have hF_25 := ipos c_24 hF_23
      clear hF_23
      exact Jj_4  u_22.2 hF_25 _ _ hP hS ls (lv_sub hl [0, 2] rfl)
    · have hF_26 := ineg c_24 hF_23
      clear hF_23
      exact Jj_14  u_22.2 hF_26 _ _ hP hS ls (lv_sub hl [0, 1, 2] rfl)
