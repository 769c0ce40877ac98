/-! methods of the class: what each does is its function -/
theorem dX8_examine_0 : decode cX8_examine 0 = .ok (.aload_n 0, 1) := by decide +kernel
theorem dX8_examine_1 : decode cX8_examine 1 = .ok (.getfield 85, 3) := by decide +kernel
theorem dX8_examine_4 : decode cX8_examine 4 = .ok (.getfield 318, 3) := by decide +kernel
theorem dX8_examine_7 : decode cX8_examine 7 = .ok (.aload_n 0, 1) := by decide +kernel
theorem dX8_examine_8 : decode cX8_examine 8 = .ok (.getfield 114, 3) := by decide +kernel
theorem dX8_examine_11 : decode cX8_examine 11 = .ok (.invokestatic 70, 3) := by decide +kernel
theorem dX8_examine_14 : decode cX8_examine 14 = .ok (.iconst (-1), 1) := by decide +kernel
theorem dX8_examine_15 : decode cX8_examine 15 = .ok (.if_icmp .ne 16, 3) := by decide +kernel
theorem dX8_examine_18 : decode cX8_examine 18 = .ok (.aload_n 0, 1) := by decide +kernel
theorem dX8_examine_19 : decode cX8_examine 19 = .ok (.getfield 26, 3) := by decide +kernel
theorem dX8_examine_22 : decode cX8_examine 22 = .ok (.ldc_w 365, 3) := by decide +kernel
theorem dX8_examine_25 : decode cX8_examine 25 = .ok (.invokevirtual 65, 3) := by decide +kernel
theorem dX8_examine_28 : decode cX8_examine 28 = .ok (.goto 34, 3) := by decide +kernel
theorem dX8_examine_31 : decode cX8_examine 31 = .ok (.aload_n 0, 1) := by decide +kernel
theorem dX8_examine_32 : decode cX8_examine 32 = .ok (.getfield 30, 3) := by decide +kernel
theorem dX8_examine_35 : decode cX8_examine 35 = .ok (.aload_n 0, 1) := by decide +kernel
theorem dX8_examine_36 : decode cX8_examine 36 = .ok (.getfield 85, 3) := by decide +kernel
theorem dX8_examine_39 : decode cX8_examine 39 = .ok (.getfield 318, 3) := by decide +kernel
theorem dX8_examine_42 : decode cX8_examine 42 = .ok (.aload_n 0, 1) := by decide +kernel
theorem dX8_examine_43 : decode cX8_examine 43 = .ok (.getfield 114, 3) := by decide +kernel
theorem dX8_examine_46 : decode cX8_examine 46 = .ok (.invokestatic 70, 3) := by decide +kernel
theorem dX8_examine_49 : decode cX8_examine 49 = .ok (.invokevirtual 321, 3) := by decide +kernel
theorem dX8_examine_52 : decode cX8_examine 52 = .ok (.aload_n 0, 1) := by decide +kernel
theorem dX8_examine_53 : decode cX8_examine 53 = .ok (.getfield 26, 3) := by decide +kernel
theorem dX8_examine_56 : decode cX8_examine 56 = .ok (.ldc_w 316, 3) := by decide +kernel
theorem dX8_examine_59 : decode cX8_examine 59 = .ok (.invokevirtual 65, 3) := by decide +kernel
theorem dX8_examine_62 : decode cX8_examine 62 = .ok (.return_, 1) := by decide +kernel
def F_X8_examine  (Γ : HS) : HR :=
  bnd (((Γ 11).1 10)) fun (x_1 : Int32) =>
  bnd ((g_at 121 ((Γ 4).2.1 3) x_1)) fun (x_3 : Int32) =>
  if x_3 = (-1) then (
    (F_X5_line ([89, 111, 117, 32, 115, 101, 101, 32, 110, 111, 116, 104, 105, 110, 103, 32, 115, 112, 101, 99, 105, 97, 108, 46] : List Int32) Γ).bind fun u_8 =>
    bnd (mrg (fun j => j == 8) Γ u_8.2) fun σ_10 =>
    some (0, σ_10)
  ) else (
    bnd (((Γ 11).1 10)) fun (x_13 : Int32) =>
    bnd ((g_at 121 ((Γ 4).2.1 3) x_13)) fun (x_15 : Int32) =>
    (F_X3_sayText x_15 Γ).bind fun u_17 =>
    bnd (mrg (fun j => j == 10 || j == 9 || j == 8 || j == 4 || j == 5 || j == 6 || j == 7) Γ u_17.2) fun σ_19 =>
    (F_X5_line ([] : List Int32) σ_19).bind fun u_22 =>
    bnd (mrg (fun j => j == 8) σ_19 u_22.2) fun σ_24 =>
    some (0, σ_24)
  )
set_option maxHeartbeats 4000000 in
set_option maxRecDepth 100000 in
theorem k_X8_examine (l : Launch) (dC : Nat → ClassId) (dI : Nat → Nat → Nat) (cB cC cI cJ cZ cP : ClassId) (oA : Nat → Nat) (rA : Nat → Nat → Nat) (sz : Nat)   (Γ : HS) (res : Int32 × HS) (hF : F_X8_examine  Γ = some res) : Met l yX8_examine (g_ws yX8_examine cX8_examine 1 none) ({ frames := 7, cells := 0, slots := 0, locals := 176 }) (va_Pc [.ref (oA 11)] (g_B (dC, dI) [(cB, .byte), (cC, .char), (cI, .int), (cJ, .long), (cZ, .boolean), (cP, .object "StoryHouse$Play")] sz (b_e cB cC cI cJ cZ oA rA Γ ++ b_k cB cC cI cJ cZ oA rA Γ ++ b_p cB cC cI cJ cZ oA rA Γ ++ b_o cB cC cI cJ cZ oA rA Γ ++ b_s cB cC cI cJ cZ oA rA Γ ++ b_c cB cC cI cJ cZ oA rA Γ ++ b_t cB cC cI cJ cZ oA rA Γ ++ b_d cB cC cI cJ cZ oA rA Γ) g_0)) (va_Qv (fun (_ : Unit) => True) (g_Bo (dC, dI) (va_A (b_e cB cC cI cJ cZ oA rA Γ ++ b_k cB cC cI cJ cZ oA rA Γ ++ b_p cB cC cI cJ cZ oA rA Γ ++ b_o cB cC cI cJ cZ oA rA Γ ++ b_s cB cC cI cJ cZ oA rA Γ ++ b_c cB cC cI cJ cZ oA rA Γ ++ b_t cB cC cI cJ cZ oA rA Γ ++ b_d cB cC cI cJ cZ oA rA Γ) sz) (fun (_ : Unit) => (b_e cB cC cI cJ cZ oA rA res.2 ++ b_k cB cC cI cJ cZ oA rA res.2 ++ b_p cB cC cI cJ cZ oA rA res.2 ++ b_o cB cC cI cJ cZ oA rA res.2 ++ b_s cB cC cI cJ cZ oA rA res.2 ++ b_c cB cC cI cJ cZ oA rA res.2 ++ b_t cB cC cI cJ cZ oA rA res.2 ++ b_d cB cC cI cJ cZ oA rA res.2))) (va_A (b_e cB cC cI cJ cZ oA rA Γ ++ b_k cB cC cI cJ cZ oA rA Γ ++ b_p cB cC cI cJ cZ oA rA Γ ++ b_o cB cC cI cJ cZ oA rA Γ ++ b_s cB cC cI cJ cZ oA rA Γ ++ b_c cB cC cI cJ cZ oA rA Γ ++ b_t cB cC cI cJ cZ oA rA Γ ++ b_d cB cC cI cJ cZ oA rA Γ) sz)) 0 0 (va_A (b_e cB cC cI cJ cZ oA rA Γ ++ b_k cB cC cI cJ cZ oA rA Γ ++ b_p cB cC cI cJ cZ oA rA Γ ++ b_o cB cC cI cJ cZ oA rA Γ ++ b_s cB cC cI cJ cZ oA rA Γ ++ b_c cB cC cI cJ cZ oA rA Γ ++ b_t cB cC cI cJ cZ oA rA Γ ++ b_d cB cC cI cJ cZ oA rA Γ) sz) := by
  refine Met.ofW (cc := cX8_examine) (maxL := 1) (ret := none) (by decide) rfl ?_
  intro p e s m args below meth c s₁ B hml hv
  obtain ⟨rfl, hsz, hP, hK, hD0, hE, hX⟩ := hv
  have hx := B.exec
  have hb := B.bytes
  have hr := B.returns
  have hts0 := atoms_spec (ws := g_ws yX8_examine cX8_examine 1 none) B.pre
  have hts : ∀ w ∈ lw_good, w.before ([.ref (oA 11)] : List Value).toArray s = true := fun w z => hts0 w (List.mem_cons_of_mem _ z)
  have hown : s.vm.findClass RX8 = some m.cls := findClass_of_methodNamed B.named
  have hlocks := B.notSynchronized
  subst hsz
  have hD1 := hD0.self (sz := s.heap.size)
  generalize hAe : va_A (b_e cB cC cI cJ cZ oA rA Γ ++ b_k cB cC cI cJ cZ oA rA Γ ++ b_p cB cC cI cJ cZ oA rA Γ ++ b_o cB cC cI cJ cZ oA rA Γ ++ b_s cB cC cI cJ cZ oA rA Γ ++ b_c cB cC cI cJ cZ oA rA Γ ++ b_t cB cC cI cJ cZ oA rA Γ ++ b_d cB cC cI cJ cZ oA rA Γ) s.heap.size = A at hD1 hE hX ⊢
  have hA : ∀ q : Nat, s.heap.size ≤ q → A q := fun q z => by rw [← hAe]; exact Or.inr z
  have hDD : ∀ Γ : HS, va_D A (b_e cB cC cI cJ cZ oA rA Γ ++ b_k cB cC cI cJ cZ oA rA Γ ++ b_p cB cC cI cJ cZ oA rA Γ ++ b_o cB cC cI cJ cZ oA rA Γ ++ b_s cB cC cI cJ cZ oA rA Γ ++ b_c cB cC cI cJ cZ oA rA Γ ++ b_t cB cC cI cJ cZ oA rA Γ ++ b_d cB cC cI cJ cZ oA rA Γ) := fun Γ9 => va_D_fst (ws := (b_e cB cC cI cJ cZ oA rA Γ ++ b_k cB cC cI cJ cZ oA rA Γ ++ b_p cB cC cI cJ cZ oA rA Γ ++ b_o cB cC cI cJ cZ oA rA Γ ++ b_s cB cC cI cJ cZ oA rA Γ ++ b_c cB cC cI cJ cZ oA rA Γ ++ b_t cB cC cI cJ cZ oA rA Γ ++ b_d cB cC cI cJ cZ oA rA Γ)) (ws' := (b_e cB cC cI cJ cZ oA rA Γ9 ++ b_k cB cC cI cJ cZ oA rA Γ9 ++ b_p cB cC cI cJ cZ oA rA Γ9 ++ b_o cB cC cI cJ cZ oA rA Γ9 ++ b_s cB cC cI cJ cZ oA rA Γ9 ++ b_c cB cC cI cJ cZ oA rA Γ9 ++ b_t cB cC cI cJ cZ oA rA Γ9 ++ b_d cB cC cI cJ cZ oA rA Γ9)) rfl hD1
  have hN := hE.1
  have hS : va_S A s.heap s.heap [] := va_S.rf
  have hl := lv_entry ([.ref (oA 11)]) (n := 1) (Nat.le_of_ble_eq_true rfl)
  rw [lg_entry_eq]
  generalize (lg_sl ([.ref (oA 11)]) ++ List.replicate (1 - (lg_sl ([.ref (oA 11)])).length) Slot.unset).toArray = ls at hl ⊢
  have hl : lv_has ls 1 [(0, .ref (oA 11))] := hl
  unfold F_X8_examine at hF
  refine lv_aload_n hx hb dX8_examine_0 rfl (lv_at hl 0 rfl) ?_
  refine va_get (D := (dC, dI)) (ci := 8) (v := .ref (oA 4)) (C := RX8) (T := TX8) (N := 16) hx hb hts ii_X8 hown hK hP 0 rfl rfl 3 (by decide) (hts (.fieldLink RX8 85 "StoryHouse$Teller" "story" "LStoryHouse$Story;") wq_290) (fun _ h9 => h9) rfl dX8_examine_1 ?_
  refine va_get (D := (dC, dI)) (ci := 7) (v := .ref (rA 4 3)) (C := RX7) (T := TX7) (N := 19) hx hb hts ii_X7 hown hK hP 19 rfl rfl 3 (by decide) (hts (.fieldLink RX8 318 "StoryHouse$Story" "described" "[I") wq_161) (fun _ h9 => h9) rfl dX8_examine_4 ?_
  refine lv_aload_n hx hb dX8_examine_7 rfl (lv_at hl 0 rfl) ?_
  refine va_get (D := (dC, dI)) (ci := 8) (v := .int ((Γ 11).1 10)) (C := RX8) (T := TX8) (N := 16) hx hb hts ii_X8 hown hK hP 0 rfl rfl 10 (by decide) (hts (.fieldLink RX8 114 "StoryHouse$Teller" "noun" "I") wq_297) (fun _ h9 => h9) rfl dX8_examine_8 ?_
  obtain ⟨x_1, ex_1, hF_2⟩ := bnd_e hF
  clear hF
  refine m_top ex_1 ?_
  have hPc := hP.sub (ws' := [(rA 4 3, .inl (cI, 121, .inl ((Γ 4).2.1 3)))]) [23] rfl
  have hDc := (hDD Γ).sub (ws' := [(rA 4 3, .inl (cI, 121, .inl ((Γ 4).2.1 3)))]) [23] (by decide +kernel) rfl
  have hFc := va_free (wc := [(rA 4 3, .inl (cI, 121, .inl ((Γ 4).2.1 3)))]) (hDD Γ) hS hA [23] rfl
  refine g_ofi (wc := [(rA 4 3, .inl (cI, 121, .inl ((Γ 4).2.1 3)))]) (wr := (((b_e cB cC cI cJ cZ oA rA Γ ++ b_k cB cC cI cJ cZ oA rA Γ ++ b_p cB cC cI cJ cZ oA rA Γ ++ b_o cB cC cI cJ cZ oA rA Γ ++ b_s cB cC cI cJ cZ oA rA Γ ++ b_c cB cC cI cJ cZ oA rA Γ ++ b_t cB cC cI cJ cZ oA rA Γ ++ b_d cB cC cI cJ cZ oA rA Γ)).eraseIdx 23)) hP (hDD Γ) hS hFc [23] [0, 1, 2, 3, 4, 5, 6, 7, 8, 9, 10, 11, 12, 13, 14, 15, 16, 17, 18, 19, 20, 21, 22, 24, 25, 26, 27, 28, 29, 30, 31, 32, 33, 34, 35, 36, 37, 38, 39, 40, 41, 42, 43, 44, 45, 46, 47, 48, 49] rfl rfl (by decide +kernel) (by decide +kernel) (va_runSN (As := [.ref (rA 4 3), .int x_1]) (rest := []) ⟨hx, hb, hml, hown, hts⟩ (c_X11_at l dC dI cB cC cI cJ cZ cP s.heap.size (rA 4 3) x_1 121 ((Γ 4).2.1 3) (by decide)) ⟨va_cnB 2 hts (g_gA wq_407) rfl rfl rfl (hN.at 31 rfl) (hts (.initialized RX11) wq_1) (by decide +kernel) ⟨Nat.le_of_ble_eq_true rfl, Nat.le_of_ble_eq_true rfl⟩, (hts (.static yX11_at) wq_406), trivial⟩ (g_preS g_bl0 hK hPc hDc hS hE hFc g_to0) rfl rfl hl.1 rfl (lv_room (Nat.le_of_ble_eq_true rfl)) dX8_examine_11 ⟨Nat.le_of_ble_eq_true rfl, Nat.le_of_ble_eq_true rfl⟩) (fun r9 u9 H locs hw9 hP' hD' hS => ?_)
  clear hPc hDc hFc hD'
  have hP : va_P (dC, dI) vwCl (b_e cB cC cI cJ cZ oA rA Γ ++ b_k cB cC cI cJ cZ oA rA Γ ++ b_p cB cC cI cJ cZ oA rA Γ ++ b_o cB cC cI cJ cZ oA rA Γ ++ b_s cB cC cI cJ cZ oA rA Γ ++ b_c cB cC cI cJ cZ oA rA Γ ++ b_t cB cC cI cJ cZ oA rA Γ ++ b_d cB cC cI cJ cZ oA rA Γ) H := hP'.sub [0, 1, 2, 3, 4, 5, 6, 7, 8, 9, 10, 11, 12, 13, 14, 15, 16, 17, 18, 19, 20, 21, 22, 49, 23, 24, 25, 26, 27, 28, 29, 30, 31, 32, 33, 34, 35, 36, 37, 38, 39, 40, 41, 42, 43, 44, 45, 46, 47, 48] rfl
  clear hP'
  subst hw9
  obtain ⟨x_3, ex_3, hF_4⟩ := bnd_e hF_2
  clear hF_2
  refine m_top ex_3 ?_
  refine lv_iconst (v := (-1)) hx hb dX8_examine_14 (by decide +kernel) ?_
  refine lv_icmp_ne (tgt := 31) hx hb dX8_examine_15 (by decide) (fun c_5 => ?_) (fun c_5 => ?_)
  · have hF_12 := ineg c_5 hF_4
    clear hF_4
    refine lv_aload_n hx hb dX8_examine_31 rfl (lv_at hl 0 rfl) ?_
    refine va_get (D := (dC, dI)) (ci := 8) (v := .ref (oA 10)) (C := RX8) (T := TX8) (N := 16) hx hb hts ii_X8 hown hK hP 0 rfl rfl 2 (by decide) (hts (.fieldLink RX8 30 "StoryHouse$Teller" "machine" "LStoryHouse$Machine;") wq_288) (fun _ h9 => h9) rfl dX8_examine_32 ?_
    refine lv_aload_n hx hb dX8_examine_35 rfl (lv_at hl 0 rfl) ?_
    refine va_get (D := (dC, dI)) (ci := 8) (v := .ref (oA 4)) (C := RX8) (T := TX8) (N := 16) hx hb hts ii_X8 hown hK hP 0 rfl rfl 3 (by decide) (hts (.fieldLink RX8 85 "StoryHouse$Teller" "story" "LStoryHouse$Story;") wq_290) (fun _ h9 => h9) rfl dX8_examine_36 ?_
    refine va_get (D := (dC, dI)) (ci := 7) (v := .ref (rA 4 3)) (C := RX7) (T := TX7) (N := 19) hx hb hts ii_X7 hown hK hP 19 rfl rfl 3 (by decide) (hts (.fieldLink RX8 318 "StoryHouse$Story" "described" "[I") wq_161) (fun _ h9 => h9) rfl dX8_examine_39 ?_
    refine lv_aload_n hx hb dX8_examine_42 rfl (lv_at hl 0 rfl) ?_
    refine va_get (D := (dC, dI)) (ci := 8) (v := .int ((Γ 11).1 10)) (C := RX8) (T := TX8) (N := 16) hx hb hts ii_X8 hown hK hP 0 rfl rfl 10 (by decide) (hts (.fieldLink RX8 114 "StoryHouse$Teller" "noun" "I") wq_297) (fun _ h9 => h9) rfl dX8_examine_43 ?_
    obtain ⟨x_13, ex_13, hF_14⟩ := bnd_e hF_12
    clear hF_12
    refine m_top ex_13 ?_
    have hPc := hP.sub (ws' := [(rA 4 3, .inl (cI, 121, .inl ((Γ 4).2.1 3)))]) [23] rfl
    have hDc := (hDD Γ).sub (ws' := [(rA 4 3, .inl (cI, 121, .inl ((Γ 4).2.1 3)))]) [23] (by decide +kernel) rfl
    have hFc := va_free (wc := [(rA 4 3, .inl (cI, 121, .inl ((Γ 4).2.1 3)))]) (hDD Γ) hS hA [23] rfl
    refine g_ofi (wc := [(rA 4 3, .inl (cI, 121, .inl ((Γ 4).2.1 3)))]) (wr := (((b_e cB cC cI cJ cZ oA rA Γ ++ b_k cB cC cI cJ cZ oA rA Γ ++ b_p cB cC cI cJ cZ oA rA Γ ++ b_o cB cC cI cJ cZ oA rA Γ ++ b_s cB cC cI cJ cZ oA rA Γ ++ b_c cB cC cI cJ cZ oA rA Γ ++ b_t cB cC cI cJ cZ oA rA Γ ++ b_d cB cC cI cJ cZ oA rA Γ)).eraseIdx 23)) hP (hDD Γ) hS hFc [23] [0, 1, 2, 3, 4, 5, 6, 7, 8, 9, 10, 11, 12, 13, 14, 15, 16, 17, 18, 19, 20, 21, 22, 24, 25, 26, 27, 28, 29, 30, 31, 32, 33, 34, 35, 36, 37, 38, 39, 40, 41, 42, 43, 44, 45, 46, 47, 48, 49] rfl rfl (by decide +kernel) (by decide +kernel) (va_runSN (As := [.ref (rA 4 3), .int x_13]) (rest := [.ref (oA 10)]) ⟨hx, hb, hml, hown, hts⟩ (c_X11_at l dC dI cB cC cI cJ cZ cP H.size (rA 4 3) x_13 121 ((Γ 4).2.1 3) (by decide)) ⟨va_cnB 2 hts (g_gA wq_407) rfl rfl rfl (hN.at 31 rfl) (hts (.initialized RX11) wq_1) (by decide +kernel) ⟨Nat.le_of_ble_eq_true rfl, Nat.le_of_ble_eq_true rfl⟩, (hts (.static yX11_at) wq_406), trivial⟩ (g_preS g_bl0 hK hPc hDc hS hE hFc g_to0) rfl rfl hl.1 rfl (lv_room (Nat.le_of_ble_eq_true rfl)) dX8_examine_46 ⟨Nat.le_of_ble_eq_true rfl, Nat.le_of_ble_eq_true rfl⟩) (fun r9 u9 H locs hw9 hP' hD' hS => ?_)
    clear hPc hDc hFc hD'
    have hP : va_P (dC, dI) vwCl (b_e cB cC cI cJ cZ oA rA Γ ++ b_k cB cC cI cJ cZ oA rA Γ ++ b_p cB cC cI cJ cZ oA rA Γ ++ b_o cB cC cI cJ cZ oA rA Γ ++ b_s cB cC cI cJ cZ oA rA Γ ++ b_c cB cC cI cJ cZ oA rA Γ ++ b_t cB cC cI cJ cZ oA rA Γ ++ b_d cB cC cI cJ cZ oA rA Γ) H := hP'.sub [0, 1, 2, 3, 4, 5, 6, 7, 8, 9, 10, 11, 12, 13, 14, 15, 16, 17, 18, 19, 20, 21, 22, 49, 23, 24, 25, 26, 27, 28, 29, 30, 31, 32, 33, 34, 35, 36, 37, 38, 39, 40, 41, 42, 43, 44, 45, 46, 47, 48] rfl
    clear hP'
    subst hw9
    obtain ⟨x_15, ex_15, hF_16⟩ := bnd_e hF_14
    clear hF_14
    refine m_top ex_15 ?_
    obtain ⟨u_17, hu_17, hF_18⟩ := Option.bind_eq_some_iff.mp hF_16
    clear hF_16
    have hPc := hP.sub (ws' := (b_k cB cC cI cJ cZ oA rA Γ ++ b_p cB cC cI cJ cZ oA rA Γ ++ b_o cB cC cI cJ cZ oA rA Γ ++ b_s cB cC cI cJ cZ oA rA Γ ++ b_c cB cC cI cJ cZ oA rA Γ ++ b_t cB cC cI cJ cZ oA rA Γ ++ b_d cB cC cI cJ cZ oA rA Γ)) [4, 5, 6, 7, 8, 9, 10, 11, 12, 13, 14, 15, 16, 17, 18, 19, 20, 21, 22, 23, 24, 25, 26, 27, 28, 29, 30, 31, 32, 33, 34, 35, 36, 37, 38, 39, 40, 41, 42, 43, 44, 45, 46, 47, 48, 49] rfl
    have hDc := (hDD Γ).sub (ws' := (b_k cB cC cI cJ cZ oA rA Γ ++ b_p cB cC cI cJ cZ oA rA Γ ++ b_o cB cC cI cJ cZ oA rA Γ ++ b_s cB cC cI cJ cZ oA rA Γ ++ b_c cB cC cI cJ cZ oA rA Γ ++ b_t cB cC cI cJ cZ oA rA Γ ++ b_d cB cC cI cJ cZ oA rA Γ)) [4, 5, 6, 7, 8, 9, 10, 11, 12, 13, 14, 15, 16, 17, 18, 19, 20, 21, 22, 23, 24, 25, 26, 27, 28, 29, 30, 31, 32, 33, 34, 35, 36, 37, 38, 39, 40, 41, 42, 43, 44, 45, 46, 47, 48, 49] (by decide +kernel) rfl
    have hFc := va_free (wc := (b_k cB cC cI cJ cZ oA rA Γ ++ b_p cB cC cI cJ cZ oA rA Γ ++ b_o cB cC cI cJ cZ oA rA Γ ++ b_s cB cC cI cJ cZ oA rA Γ ++ b_c cB cC cI cJ cZ oA rA Γ ++ b_t cB cC cI cJ cZ oA rA Γ ++ b_d cB cC cI cJ cZ oA rA Γ)) (hDD Γ) hS hA [4, 5, 6, 7, 8, 9, 10, 11, 12, 13, 14, 15, 16, 17, 18, 19, 20, 21, 22, 23, 24, 25, 26, 27, 28, 29, 30, 31, 32, 33, 34, 35, 36, 37, 38, 39, 40, 41, 42, 43, 44, 45, 46, 47, 48, 49] rfl
    refine g_ofv (wc := (b_k cB cC cI cJ cZ oA rA Γ ++ b_p cB cC cI cJ cZ oA rA Γ ++ b_o cB cC cI cJ cZ oA rA Γ ++ b_s cB cC cI cJ cZ oA rA Γ ++ b_c cB cC cI cJ cZ oA rA Γ ++ b_t cB cC cI cJ cZ oA rA Γ ++ b_d cB cC cI cJ cZ oA rA Γ)) (wr := (b_e cB cC cI cJ cZ oA rA Γ)) hP (hDD Γ) hS hFc [4, 5, 6, 7, 8, 9, 10, 11, 12, 13, 14, 15, 16, 17, 18, 19, 20, 21, 22, 23, 24, 25, 26, 27, 28, 29, 30, 31, 32, 33, 34, 35, 36, 37, 38, 39, 40, 41, 42, 43, 44, 45, 46, 47, 48, 49] [0, 1, 2, 3] rfl rfl (by decide +kernel) (by decide +kernel) (va_runV (As := [.int x_15]) (rest := []) ⟨hx, hb, hml, hown, hts⟩ (k_X3_sayText l dC dI cB cC cI cJ cZ cP oA rA H.size  x_15 Γ _ hu_17) (cwV 1 hts (g_gV wq_1029 wq_1019 wq_1020 wq_11 wq_1021) rfl rfl rfl (by decide +kernel) ⟨Nat.le_of_ble_eq_true rfl, Nat.le_of_ble_eq_true rfl⟩) (g_preV g_bl0 hK hPc hDc hS hE hFc g_to0 (q0 := 0) (ci := 3) rfl rfl) rfl rfl hl.1 rfl (lv_room (Nat.le_of_ble_eq_true rfl)) dX8_examine_49 ⟨Nat.le_of_ble_eq_true rfl, Nat.le_of_ble_eq_true rfl⟩) (fun u9 H locs hw9 hP' hD' hS => ?_)
    clear hPc hDc hFc
    obtain ⟨σ_19, eσ_19, hF_20⟩ := bnd_e hF_18
    clear hF_18
    have hP : va_P (dC, dI) vwCl (b_e cB cC cI cJ cZ oA rA σ_19 ++ b_k cB cC cI cJ cZ oA rA σ_19 ++ b_p cB cC cI cJ cZ oA rA σ_19 ++ b_o cB cC cI cJ cZ oA rA σ_19 ++ b_s cB cC cI cJ cZ oA rA σ_19 ++ b_c cB cC cI cJ cZ oA rA σ_19 ++ b_t cB cC cI cJ cZ oA rA σ_19 ++ b_d cB cC cI cJ cZ oA rA σ_19) H := by rw [eσ_19]; exact hP'.sub [0, 1, 2, 3, 4, 5, 6, 7, 8, 9, 10, 11, 12, 13, 14, 15, 16, 17, 18, 19, 20, 21, 22, 23, 24, 25, 26, 27, 28, 29, 30, 31, 32, 33, 34, 35, 36, 37, 38, 39, 40, 41, 42, 43, 44, 45, 46, 47, 48, 49] rfl
    clear hP' hD'
    refine lv_aload_n hx hb dX8_examine_52 rfl (lv_at hl 0 rfl) ?_
    refine va_get (D := (dC, dI)) (ci := 8) (v := .ref (oA 8)) (C := RX8) (T := TX8) (N := 16) hx hb hts ii_X8 hown hK hP 0 rfl rfl 1 (by decide) (hts (.fieldLink RX8 26 "StoryHouse$Teller" "told" "LStoryHouse$Out;") wq_287) (fun _ h9 => h9) rfl dX8_examine_53 ?_
    obtain ⟨q_21, vq_21, hRq_21, hSq_21⟩ := hE.2.2.2.2 _ (List.mem_of_getElem? (i := 28) rfl)
    refine g_ldcwS (own := RX8) (tx := "") hx hb hown hRq_21 dX8_examine_56 ?_
    obtain ⟨u_22, hu_22, hF_23⟩ := Option.bind_eq_some_iff.mp hF_20
    clear hF_20
    have hPc := hP.sub (ws' := (b_o cB cC cI cJ cZ oA rA σ_19)) [17, 18] rfl
    have hDc := (hDD σ_19).sub (ws' := (b_o cB cC cI cJ cZ oA rA σ_19)) [17, 18] (by decide +kernel) rfl
    have hFc := va_free (wc := (b_o cB cC cI cJ cZ oA rA σ_19)) (hDD σ_19) hS hA [17, 18] rfl
    refine g_ofv (wc := (b_o cB cC cI cJ cZ oA rA σ_19)) (wr := (b_e cB cC cI cJ cZ oA rA σ_19 ++ b_k cB cC cI cJ cZ oA rA σ_19 ++ b_p cB cC cI cJ cZ oA rA σ_19 ++ b_s cB cC cI cJ cZ oA rA σ_19 ++ b_c cB cC cI cJ cZ oA rA σ_19 ++ b_t cB cC cI cJ cZ oA rA σ_19 ++ b_d cB cC cI cJ cZ oA rA σ_19)) hP (hDD σ_19) hS hFc [17, 18] [0, 1, 2, 3, 4, 5, 6, 7, 8, 9, 10, 11, 12, 13, 14, 15, 16, 19, 20, 21, 22, 23, 24, 25, 26, 27, 28, 29, 30, 31, 32, 33, 34, 35, 36, 37, 38, 39, 40, 41, 42, 43, 44, 45, 46, 47, 48, 49] rfl rfl (by decide +kernel) (by decide +kernel) (va_runV (As := [.ref q_21]) (rest := []) ⟨hx, hb, hml, hown, hts⟩ (k_X5_line l dC dI cB cC cI cJ cZ cP oA rA H.size q_21 _ ([] : List Int32) σ_19 _ hu_22) (cwV 1 hts (g_gV wq_998 wq_999 wq_1000 wq_9 wq_1001) rfl rfl rfl (by decide +kernel) ⟨Nat.le_of_ble_eq_true rfl, Nat.le_of_ble_eq_true rfl⟩) (g_preV g_blS hK hPc hDc hS hE hFc (g_toS hSq_21 hS hFc) (q0 := 0) (ci := 5) rfl rfl) rfl rfl hl.1 rfl (lv_room (Nat.le_of_ble_eq_true rfl)) dX8_examine_59 ⟨Nat.le_of_ble_eq_true rfl, Nat.le_of_ble_eq_true rfl⟩) (fun u9 H locs hw9 hP' hD' hS => ?_)
    clear hPc hDc hFc
    obtain ⟨σ_24, eσ_24, hF_25⟩ := bnd_e hF_23
    clear hF_23
    have hP : va_P (dC, dI) vwCl (b_e cB cC cI cJ cZ oA rA σ_24 ++ b_k cB cC cI cJ cZ oA rA σ_24 ++ b_p cB cC cI cJ cZ oA rA σ_24 ++ b_o cB cC cI cJ cZ oA rA σ_24 ++ b_s cB cC cI cJ cZ oA rA σ_24 ++ b_c cB cC cI cJ cZ oA rA σ_24 ++ b_t cB cC cI cJ cZ oA rA σ_24 ++ b_d cB cC cI cJ cZ oA rA σ_24) H := by rw [eσ_24]; exact hP'.sub [0, 1, 2, 3, 4, 5, 6, 7, 8, 9, 10, 11, 12, 13, 14, 15, 16, 48, 49, 17, 18, 19, 20, 21, 22, 23, 24, 25, 26, 27, 28, 29, 30, 31, 32, 33, 34, 35, 36, 37, 38, 39, 40, 41, 42, 43, 44, 45, 46, 47] rfl
    clear hP' hD'
    have h9 := Option.some.inj hF_25
    subst h9
    exact W.vret hx hb hr (fun t ht hW => ⟨⟨(), rfl, trivial, m_end ht hP, hDD _⟩, hS.F ht⟩) hS.2.2 dX8_examine_62
  · have hF_6 := ipos c_5 hF_4
    clear hF_4
    refine lv_aload_n hx hb dX8_examine_18 rfl (lv_at hl 0 rfl) ?_
    refine va_get (D := (dC, dI)) (ci := 8) (v := .ref (oA 8)) (C := RX8) (T := TX8) (N := 16) hx hb hts ii_X8 hown hK hP 0 rfl rfl 1 (by decide) (hts (.fieldLink RX8 26 "StoryHouse$Teller" "told" "LStoryHouse$Out;") wq_287) (fun _ h9 => h9) rfl dX8_examine_19 ?_
    obtain ⟨q_7, vq_7, hRq_7, hSq_7⟩ := hE.2.2.2.2 _ (List.mem_of_getElem? (i := 57) rfl)
    refine g_ldcwS (own := RX8) (tx := "You see nothing special.") hx hb hown hRq_7 dX8_examine_22 ?_
    obtain ⟨u_8, hu_8, hF_9⟩ := Option.bind_eq_some_iff.mp hF_6
    clear hF_6
    have hPc := hP.sub (ws' := (b_o cB cC cI cJ cZ oA rA Γ)) [17, 18] rfl
    have hDc := (hDD Γ).sub (ws' := (b_o cB cC cI cJ cZ oA rA Γ)) [17, 18] (by decide +kernel) rfl
    have hFc := va_free (wc := (b_o cB cC cI cJ cZ oA rA Γ)) (hDD Γ) hS hA [17, 18] rfl
    refine g_ofv (wc := (b_o cB cC cI cJ cZ oA rA Γ)) (wr := (b_e cB cC cI cJ cZ oA rA Γ ++ b_k cB cC cI cJ cZ oA rA Γ ++ b_p cB cC cI cJ cZ oA rA Γ ++ b_s cB cC cI cJ cZ oA rA Γ ++ b_c cB cC cI cJ cZ oA rA Γ ++ b_t cB cC cI cJ cZ oA rA Γ ++ b_d cB cC cI cJ cZ oA rA Γ)) hP (hDD Γ) hS hFc [17, 18] [0, 1, 2, 3, 4, 5, 6, 7, 8, 9, 10, 11, 12, 13, 14, 15, 16, 19, 20, 21, 22, 23, 24, 25, 26, 27, 28, 29, 30, 31, 32, 33, 34, 35, 36, 37, 38, 39, 40, 41, 42, 43, 44, 45, 46, 47, 48, 49] rfl rfl (by decide +kernel) (by decide +kernel) (va_runV (As := [.ref q_7]) (rest := []) ⟨hx, hb, hml, hown, hts⟩ (k_X5_line l dC dI cB cC cI cJ cZ cP oA rA H.size q_7 _ ([89, 111, 117, 32, 115, 101, 101, 32, 110, 111, 116, 104, 105, 110, 103, 32, 115, 112, 101, 99, 105, 97, 108, 46] : List Int32) Γ _ hu_8) (cwV 1 hts (g_gV wq_998 wq_999 wq_1000 wq_9 wq_1001) rfl rfl rfl (by decide +kernel) ⟨Nat.le_of_ble_eq_true rfl, Nat.le_of_ble_eq_true rfl⟩) (g_preV g_blS hK hPc hDc hS hE hFc (g_toS hSq_7 hS hFc) (q0 := 0) (ci := 5) rfl rfl) rfl rfl hl.1 rfl (lv_room (Nat.le_of_ble_eq_true rfl)) dX8_examine_25 ⟨Nat.le_of_ble_eq_true rfl, Nat.le_of_ble_eq_true rfl⟩) (fun u9 H locs hw9 hP' hD' hS => ?_)
    clear hPc hDc hFc
    obtain ⟨σ_10, eσ_10, hF_11⟩ := bnd_e hF_9
    clear hF_9
    have hP : va_P (dC, dI) vwCl (b_e cB cC cI cJ cZ oA rA σ_10 ++ b_k cB cC cI cJ cZ oA rA σ_10 ++ b_p cB cC cI cJ cZ oA rA σ_10 ++ b_o cB cC cI cJ cZ oA rA σ_10 ++ b_s cB cC cI cJ cZ oA rA σ_10 ++ b_c cB cC cI cJ cZ oA rA σ_10 ++ b_t cB cC cI cJ cZ oA rA σ_10 ++ b_d cB cC cI cJ cZ oA rA σ_10) H := by rw [eσ_10]; exact hP'.sub [0, 1, 2, 3, 4, 5, 6, 7, 8, 9, 10, 11, 12, 13, 14, 15, 16, 48, 49, 17, 18, 19, 20, 21, 22, 23, 24, 25, 26, 27, 28, 29, 30, 31, 32, 33, 34, 35, 36, 37, 38, 39, 40, 41, 42, 43, 44, 45, 46, 47] rfl
    clear hP' hD'
    refine lv_goto (tgt := 62) hx hb dX8_examine_28 (by decide) ?_
    have h9 := Option.some.inj hF_11
    subst h9
    exact W.vret hx hb hr (fun t ht hW => ⟨⟨(), rfl, trivial, m_end ht hP, hDD _⟩, hS.F ht⟩) hS.2.2 dX8_examine_62
theorem dX8_go_0 : decode cX8_go 0 = .ok (.aload_n 0, 1) := by decide +kernel
theorem dX8_go_1 : decode cX8_go 1 = .ok (.getfield 85, 3) := by decide +kernel
theorem dX8_go_4 : decode cX8_go 4 = .ok (.aload_n 0, 1) := by decide +kernel
theorem dX8_go_5 : decode cX8_go 5 = .ok (.getfield 22, 3) := by decide +kernel
theorem dX8_go_8 : decode cX8_go 8 = .ok (.invokevirtual 195, 3) := by decide +kernel
theorem dX8_go_11 : decode cX8_go 11 = .ok (.aload_n 0, 1) := by decide +kernel
theorem dX8_go_12 : decode cX8_go 12 = .ok (.getfield 114, 3) := by decide +kernel
theorem dX8_go_15 : decode cX8_go 15 = .ok (.invokevirtual 390, 3) := by decide +kernel
theorem dX8_go_18 : decode cX8_go 18 = .ok (.istore_n 1, 1) := by decide +kernel
theorem dX8_go_19 : decode cX8_go 19 = .ok (.iload_n 1, 1) := by decide +kernel
theorem dX8_go_20 : decode cX8_go 20 = .ok (.ifCond .ne 16, 3) := by decide +kernel
theorem dX8_go_23 : decode cX8_go 23 = .ok (.aload_n 0, 1) := by decide +kernel
theorem dX8_go_24 : decode cX8_go 24 = .ok (.getfield 26, 3) := by decide +kernel
theorem dX8_go_27 : decode cX8_go 27 = .ok (.ldc_w 393, 3) := by decide +kernel
theorem dX8_go_30 : decode cX8_go 30 = .ok (.invokevirtual 65, 3) := by decide +kernel
theorem dX8_go_33 : decode cX8_go 33 = .ok (.goto 12, 3) := by decide +kernel
theorem dX8_go_36 : decode cX8_go 36 = .ok (.aload_n 0, 1) := by decide +kernel
theorem dX8_go_37 : decode cX8_go 37 = .ok (.getfield 22, 3) := by decide +kernel
theorem dX8_go_40 : decode cX8_go 40 = .ok (.iconst 1, 1) := by decide +kernel
theorem dX8_go_41 : decode cX8_go 41 = .ok (.iload_n 1, 1) := by decide +kernel
theorem dX8_go_42 : decode cX8_go 42 = .ok (.invokevirtual 355, 3) := by decide +kernel
theorem dX8_go_45 : decode cX8_go 45 = .ok (.iload_n 1, 1) := by decide +kernel
theorem dX8_go_46 : decode cX8_go 46 = .ok (.ifCond .eq 7, 3) := by decide +kernel
theorem dX8_go_49 : decode cX8_go 49 = .ok (.iconst 1, 1) := by decide +kernel
theorem dX8_go_50 : decode cX8_go 50 = .ok (.goto 4, 3) := by decide +kernel
theorem dX8_go_53 : decode cX8_go 53 = .ok (.iconst 0, 1) := by decide +kernel
theorem dX8_go_54 : decode cX8_go 54 = .ok (.ireturn, 1) := by decide +kernel
def F_X8_go  (Γ : HS) : HR :=
  (F_X6_here Γ).bind fun u_1 =>
  bnd (mrg (fun j => j == 9) Γ u_1.2) fun σ_3 =>
  (F_X7_exitOf u_1.1 ((σ_3 11).1 10) σ_3).bind fun u_5 =>
  bnd (mrg (fun j => j == 4 || j == 5 || j == 6 || j == 7) σ_3 u_5.2) fun σ_7 =>
  bnd (fun  (σ_9 : HS) => (
    if u_5.1 = 0 then (
      some (0, σ_9)
    ) else (
      some (1, σ_9)
    )
  ) : HS → HR) fun j_10 =>
  if u_5.1 = 0 then (
    (F_X5_line ([89, 111, 117, 32, 99, 97, 110, 32, 110, 111, 116, 32, 103, 111, 32, 116, 104, 101, 114, 101, 46] : List Int32) σ_7).bind fun u_19 =>
    bnd (mrg (fun j => j == 8) σ_7 u_19.2) fun σ_21 =>
    j_10  σ_21
  ) else (
    (F_X6_moveInto 1 u_5.1 σ_7).bind fun u_24 =>
    bnd (mrg (fun j => j == 9) σ_7 u_24.2) fun σ_26 =>
    j_10  σ_26
  )
set_option maxHeartbeats 4000000 in
set_option maxRecDepth 100000 in
theorem k_X8_go (l : Launch) (dC : Nat → ClassId) (dI : Nat → Nat → Nat) (cB cC cI cJ cZ cP : ClassId) (oA : Nat → Nat) (rA : Nat → Nat → Nat) (sz : Nat)   (Γ : HS) (res : Int32 × HS) (hF : F_X8_go  Γ = some res) : Met l yX8_go (g_ws yX8_go cX8_go 2 (some .boolean)) ({ frames := 7, cells := 0, slots := 0, locals := 168 }) (va_Pc [.ref (oA 11)] (g_B (dC, dI) [(cB, .byte), (cC, .char), (cI, .int), (cJ, .long), (cZ, .boolean), (cP, .object "StoryHouse$Play")] sz (b_e cB cC cI cJ cZ oA rA Γ ++ b_k cB cC cI cJ cZ oA rA Γ ++ b_p cB cC cI cJ cZ oA rA Γ ++ b_o cB cC cI cJ cZ oA rA Γ ++ b_s cB cC cI cJ cZ oA rA Γ ++ b_c cB cC cI cJ cZ oA rA Γ ++ b_t cB cC cI cJ cZ oA rA Γ ++ b_d cB cC cI cJ cZ oA rA Γ) g_0)) (va_Qi (fun r (_ : Unit) => r = res.1) (g_Bo (dC, dI) (va_A (b_e cB cC cI cJ cZ oA rA Γ ++ b_k cB cC cI cJ cZ oA rA Γ ++ b_p cB cC cI cJ cZ oA rA Γ ++ b_o cB cC cI cJ cZ oA rA Γ ++ b_s cB cC cI cJ cZ oA rA Γ ++ b_c cB cC cI cJ cZ oA rA Γ ++ b_t cB cC cI cJ cZ oA rA Γ ++ b_d cB cC cI cJ cZ oA rA Γ) sz) (fun (_ : Unit) => (b_e cB cC cI cJ cZ oA rA res.2 ++ b_k cB cC cI cJ cZ oA rA res.2 ++ b_p cB cC cI cJ cZ oA rA res.2 ++ b_o cB cC cI cJ cZ oA rA res.2 ++ b_s cB cC cI cJ cZ oA rA res.2 ++ b_c cB cC cI cJ cZ oA rA res.2 ++ b_t cB cC cI cJ cZ oA rA res.2 ++ b_d cB cC cI cJ cZ oA rA res.2))) (va_A (b_e cB cC cI cJ cZ oA rA Γ ++ b_k cB cC cI cJ cZ oA rA Γ ++ b_p cB cC cI cJ cZ oA rA Γ ++ b_o cB cC cI cJ cZ oA rA Γ ++ b_s cB cC cI cJ cZ oA rA Γ ++ b_c cB cC cI cJ cZ oA rA Γ ++ b_t cB cC cI cJ cZ oA rA Γ ++ b_d cB cC cI cJ cZ oA rA Γ) sz)) 0 0 (va_A (b_e cB cC cI cJ cZ oA rA Γ ++ b_k cB cC cI cJ cZ oA rA Γ ++ b_p cB cC cI cJ cZ oA rA Γ ++ b_o cB cC cI cJ cZ oA rA Γ ++ b_s cB cC cI cJ cZ oA rA Γ ++ b_c cB cC cI cJ cZ oA rA Γ ++ b_t cB cC cI cJ cZ oA rA Γ ++ b_d cB cC cI cJ cZ oA rA Γ) sz) := by
  refine Met.ofW (cc := cX8_go) (maxL := 2) (ret := (some .boolean)) (by decide) rfl ?_
  intro p e s m args below meth c s₁ B hml hv
  obtain ⟨rfl, hsz, hP, hK, hD0, hE, hX⟩ := hv
  have hx := B.exec
  have hb := B.bytes
  have hr := B.returns
  have hts0 := atoms_spec (ws := g_ws yX8_go cX8_go 2 (some .boolean)) B.pre
  have hts : ∀ w ∈ lw_good, w.before ([.ref (oA 11)] : List Value).toArray s = true := fun w z => hts0 w (List.mem_cons_of_mem _ z)
  have hown : s.vm.findClass RX8 = some m.cls := findClass_of_methodNamed B.named
  have hlocks := B.notSynchronized
  subst hsz
  have hD1 := hD0.self (sz := s.heap.size)
  generalize hAe : va_A (b_e cB cC cI cJ cZ oA rA Γ ++ b_k cB cC cI cJ cZ oA rA Γ ++ b_p cB cC cI cJ cZ oA rA Γ ++ b_o cB cC cI cJ cZ oA rA Γ ++ b_s cB cC cI cJ cZ oA rA Γ ++ b_c cB cC cI cJ cZ oA rA Γ ++ b_t cB cC cI cJ cZ oA rA Γ ++ b_d cB cC cI cJ cZ oA rA Γ) s.heap.size = A at hD1 hE hX ⊢
  have hA : ∀ q : Nat, s.heap.size ≤ q → A q := fun q z => by rw [← hAe]; exact Or.inr z
  have hDD : ∀ Γ : HS, va_D A (b_e cB cC cI cJ cZ oA rA Γ ++ b_k cB cC cI cJ cZ oA rA Γ ++ b_p cB cC cI cJ cZ oA rA Γ ++ b_o cB cC cI cJ cZ oA rA Γ ++ b_s cB cC cI cJ cZ oA rA Γ ++ b_c cB cC cI cJ cZ oA rA Γ ++ b_t cB cC cI cJ cZ oA rA Γ ++ b_d cB cC cI cJ cZ oA rA Γ) := fun Γ9 => va_D_fst (ws := (b_e cB cC cI cJ cZ oA rA Γ ++ b_k cB cC cI cJ cZ oA rA Γ ++ b_p cB cC cI cJ cZ oA rA Γ ++ b_o cB cC cI cJ cZ oA rA Γ ++ b_s cB cC cI cJ cZ oA rA Γ ++ b_c cB cC cI cJ cZ oA rA Γ ++ b_t cB cC cI cJ cZ oA rA Γ ++ b_d cB cC cI cJ cZ oA rA Γ)) (ws' := (b_e cB cC cI cJ cZ oA rA Γ9 ++ b_k cB cC cI cJ cZ oA rA Γ9 ++ b_p cB cC cI cJ cZ oA rA Γ9 ++ b_o cB cC cI cJ cZ oA rA Γ9 ++ b_s cB cC cI cJ cZ oA rA Γ9 ++ b_c cB cC cI cJ cZ oA rA Γ9 ++ b_t cB cC cI cJ cZ oA rA Γ9 ++ b_d cB cC cI cJ cZ oA rA Γ9)) rfl hD1
  have hN := hE.1
  have hS : va_S A s.heap s.heap [] := va_S.rf
  have hl := lv_entry ([.ref (oA 11)]) (n := 2) (Nat.le_of_ble_eq_true rfl)
  rw [lg_entry_eq]
  generalize (lg_sl ([.ref (oA 11)]) ++ List.replicate (2 - (lg_sl ([.ref (oA 11)])).length) Slot.unset).toArray = ls at hl ⊢
  have hl : lv_has ls 2 [(0, .ref (oA 11))] := hl
  unfold F_X8_go at hF
  refine lv_aload_n hx hb dX8_go_0 rfl (lv_at hl 0 rfl) ?_
  refine va_get (D := (dC, dI)) (ci := 8) (v := .ref (oA 4)) (C := RX8) (T := TX8) (N := 16) hx hb hts ii_X8 hown hK hP 0 rfl rfl 3 (by decide) (hts (.fieldLink RX8 85 "StoryHouse$Teller" "story" "LStoryHouse$Story;") wq_290) (fun _ h9 => h9) rfl dX8_go_1 ?_
  refine lv_aload_n hx hb dX8_go_4 rfl (lv_at hl 0 rfl) ?_
  refine va_get (D := (dC, dI)) (ci := 8) (v := .ref (oA 9)) (C := RX8) (T := TX8) (N := 16) hx hb hts ii_X8 hown hK hP 0 rfl rfl 0 (by decide) (hts (.fieldLink RX8 22 "StoryHouse$Teller" "play" "LStoryHouse$Play;") wq_286) (fun _ h9 => h9) rfl dX8_go_5 ?_
  obtain ⟨u_1, hu_1, hF_2⟩ := Option.bind_eq_some_iff.mp hF
  clear hF
  have hPc := hP.sub (ws' := (b_p cB cC cI cJ cZ oA rA Γ)) [9, 10, 11, 12, 13, 14, 15, 16] rfl
  have hDc := (hDD Γ).sub (ws' := (b_p cB cC cI cJ cZ oA rA Γ)) [9, 10, 11, 12, 13, 14, 15, 16] (by decide +kernel) rfl
  have hFc := va_free (wc := (b_p cB cC cI cJ cZ oA rA Γ)) (hDD Γ) hS hA [9, 10, 11, 12, 13, 14, 15, 16] rfl
  refine g_ofi (wc := (b_p cB cC cI cJ cZ oA rA Γ)) (wr := (b_e cB cC cI cJ cZ oA rA Γ ++ b_k cB cC cI cJ cZ oA rA Γ ++ b_o cB cC cI cJ cZ oA rA Γ ++ b_s cB cC cI cJ cZ oA rA Γ ++ b_c cB cC cI cJ cZ oA rA Γ ++ b_t cB cC cI cJ cZ oA rA Γ ++ b_d cB cC cI cJ cZ oA rA Γ)) hP (hDD Γ) hS hFc [9, 10, 11, 12, 13, 14, 15, 16] [0, 1, 2, 3, 4, 5, 6, 7, 8, 17, 18, 19, 20, 21, 22, 23, 24, 25, 26, 27, 28, 29, 30, 31, 32, 33, 34, 35, 36, 37, 38, 39, 40, 41, 42, 43, 44, 45, 46, 47, 48, 49] rfl rfl (by decide +kernel) (by decide +kernel) (va_runV (As := []) (rest := [.ref (oA 4)]) ⟨hx, hb, hml, hown, hts⟩ (k_X6_here l dC dI cB cC cI cJ cZ cP oA rA s.heap.size  Γ _ hu_1) (cwV 0 hts (g_gV wq_1012 wq_983 wq_984 wq_10 wq_985) rfl rfl rfl (by decide +kernel) ⟨Nat.le_of_ble_eq_true rfl, Nat.le_of_ble_eq_true rfl⟩) (g_preV g_bl0 hK hPc hDc hS hE hFc g_to0 (q0 := 0) (ci := 6) rfl rfl) rfl rfl hl.1 rfl (lv_room (Nat.le_of_ble_eq_true rfl)) dX8_go_8 ⟨Nat.le_of_ble_eq_true rfl, Nat.le_of_ble_eq_true rfl⟩) (fun r9 u9 H locs hw9 hP' hD' hS => ?_)
  clear hPc hDc hFc
  subst hw9
  obtain ⟨σ_3, eσ_3, hF_4⟩ := bnd_e hF_2
  clear hF_2
  have hP : va_P (dC, dI) vwCl (b_e cB cC cI cJ cZ oA rA σ_3 ++ b_k cB cC cI cJ cZ oA rA σ_3 ++ b_p cB cC cI cJ cZ oA rA σ_3 ++ b_o cB cC cI cJ cZ oA rA σ_3 ++ b_s cB cC cI cJ cZ oA rA σ_3 ++ b_c cB cC cI cJ cZ oA rA σ_3 ++ b_t cB cC cI cJ cZ oA rA σ_3 ++ b_d cB cC cI cJ cZ oA rA σ_3) H := by rw [eσ_3]; exact hP'.sub [0, 1, 2, 3, 4, 5, 6, 7, 8, 42, 43, 44, 45, 46, 47, 48, 49, 9, 10, 11, 12, 13, 14, 15, 16, 17, 18, 19, 20, 21, 22, 23, 24, 25, 26, 27, 28, 29, 30, 31, 32, 33, 34, 35, 36, 37, 38, 39, 40, 41] rfl
  clear hP' hD'
  refine lv_aload_n hx hb dX8_go_11 rfl (lv_at hl 0 rfl) ?_
  refine va_get (D := (dC, dI)) (ci := 8) (v := .int ((σ_3 11).1 10)) (C := RX8) (T := TX8) (N := 16) hx hb hts ii_X8 hown hK hP 0 rfl rfl 10 (by decide) (hts (.fieldLink RX8 114 "StoryHouse$Teller" "noun" "I") wq_297) (fun _ h9 => h9) rfl dX8_go_12 ?_
  obtain ⟨u_5, hu_5, hF_6⟩ := Option.bind_eq_some_iff.mp hF_4
  clear hF_4
  have hPc := hP.sub (ws' := (b_s cB cC cI cJ cZ oA rA σ_3 ++ b_c cB cC cI cJ cZ oA rA σ_3 ++ b_t cB cC cI cJ cZ oA rA σ_3 ++ b_d cB cC cI cJ cZ oA rA σ_3)) [19, 20, 21, 22, 23, 24, 25, 26, 27, 28, 29, 30, 31, 32, 33, 34, 35, 36, 37, 38, 39, 40, 41, 42, 43, 44, 45, 46, 47, 48, 49] rfl
  have hDc := (hDD σ_3).sub (ws' := (b_s cB cC cI cJ cZ oA rA σ_3 ++ b_c cB cC cI cJ cZ oA rA σ_3 ++ b_t cB cC cI cJ cZ oA rA σ_3 ++ b_d cB cC cI cJ cZ oA rA σ_3)) [19, 20, 21, 22, 23, 24, 25, 26, 27, 28, 29, 30, 31, 32, 33, 34, 35, 36, 37, 38, 39, 40, 41, 42, 43, 44, 45, 46, 47, 48, 49] (by decide +kernel) rfl
  have hFc := va_free (wc := (b_s cB cC cI cJ cZ oA rA σ_3 ++ b_c cB cC cI cJ cZ oA rA σ_3 ++ b_t cB cC cI cJ cZ oA rA σ_3 ++ b_d cB cC cI cJ cZ oA rA σ_3)) (hDD σ_3) hS hA [19, 20, 21, 22, 23, 24, 25, 26, 27, 28, 29, 30, 31, 32, 33, 34, 35, 36, 37, 38, 39, 40, 41, 42, 43, 44, 45, 46, 47, 48, 49] rfl
  refine g_ofi (wc := (b_s cB cC cI cJ cZ oA rA σ_3 ++ b_c cB cC cI cJ cZ oA rA σ_3 ++ b_t cB cC cI cJ cZ oA rA σ_3 ++ b_d cB cC cI cJ cZ oA rA σ_3)) (wr := (b_e cB cC cI cJ cZ oA rA σ_3 ++ b_k cB cC cI cJ cZ oA rA σ_3 ++ b_p cB cC cI cJ cZ oA rA σ_3 ++ b_o cB cC cI cJ cZ oA rA σ_3)) hP (hDD σ_3) hS hFc [19, 20, 21, 22, 23, 24, 25, 26, 27, 28, 29, 30, 31, 32, 33, 34, 35, 36, 37, 38, 39, 40, 41, 42, 43, 44, 45, 46, 47, 48, 49] [0, 1, 2, 3, 4, 5, 6, 7, 8, 9, 10, 11, 12, 13, 14, 15, 16, 17, 18] rfl rfl (by decide +kernel) (by decide +kernel) (va_runV (As := [.int u_1.1, .int ((σ_3 11).1 10)]) (rest := []) ⟨hx, hb, hml, hown, hts⟩ (k_X7_exitOf l dC dI cB cC cI cJ cZ cP oA rA H.size  u_1.1 ((σ_3 11).1 10) σ_3 _ hu_5) (cwV 2 hts (g_gV wq_1250 wq_1251 wq_1252 wq_5 wq_1253) rfl rfl rfl (by decide +kernel) ⟨Nat.le_of_ble_eq_true rfl, Nat.le_of_ble_eq_true rfl⟩) (g_preV g_bl0 hK hPc hDc hS hE hFc g_to0 (q0 := 0) (ci := 7) rfl rfl) rfl rfl hl.1 rfl (lv_room (Nat.le_of_ble_eq_true rfl)) dX8_go_15 ⟨Nat.le_of_ble_eq_true rfl, Nat.le_of_ble_eq_true rfl⟩) (fun r9 u9 H locs hw9 hP' hD' hS => ?_)
  clear hPc hDc hFc
  subst hw9
  obtain ⟨σ_7, eσ_7, hF_8⟩ := bnd_e hF_6
  clear hF_6
  have hP : va_P (dC, dI) vwCl (b_e cB cC cI cJ cZ oA rA σ_7 ++ b_k cB cC cI cJ cZ oA rA σ_7 ++ b_p cB cC cI cJ cZ oA rA σ_7 ++ b_o cB cC cI cJ cZ oA rA σ_7 ++ b_s cB cC cI cJ cZ oA rA σ_7 ++ b_c cB cC cI cJ cZ oA rA σ_7 ++ b_t cB cC cI cJ cZ oA rA σ_7 ++ b_d cB cC cI cJ cZ oA rA σ_7) H := by rw [eσ_7]; exact hP'.sub [0, 1, 2, 3, 4, 5, 6, 7, 8, 9, 10, 11, 12, 13, 14, 15, 16, 17, 18, 19, 20, 21, 22, 23, 24, 25, 26, 27, 28, 29, 30, 31, 32, 33, 34, 35, 36, 37, 38, 39, 40, 41, 42, 43, 44, 45, 46, 47, 48, 49] rfl
  clear hP' hD'
  refine lv_istore_n (lv' := [(1, .int u_5.1), (0, .ref (oA 11))]) hx hb dX8_go_18 rfl hl (by decide) rfl (fun ls hl => ?_)
  refine lv_iload_n hx hb dX8_go_19 rfl (lv_at hl 0 rfl) ?_
  obtain ⟨j_10, ej_10, hF_11⟩ := bnd_e hF_8
  clear hF_8
  have Jj_10 : ∀  (σ_9 : HS), j_10  σ_9 = some res → ∀ (H : Heap) (locs : List Loc), va_P (dC, dI) vwCl (b_e cB cC cI cJ cZ oA rA σ_9 ++ b_k cB cC cI cJ cZ oA rA σ_9 ++ b_p cB cC cI cJ cZ oA rA σ_9 ++ b_o cB cC cI cJ cZ oA rA σ_9 ++ b_s cB cC cI cJ cZ oA rA σ_9 ++ b_c cB cC cI cJ cZ oA rA σ_9 ++ b_t cB cC cI cJ cZ oA rA σ_9 ++ b_d cB cC cI cJ cZ oA rA σ_9) H → va_S A s.heap H locs → ∀ ls : Array Slot, lv_has ls 2 [(1, .int u_5.1)] → W p l e (headSpec (g_ws yX8_go cX8_go 2 (some .boolean)) { frames := 7, cells := 0, slots := 0, locals := 168 }).room s m ([.ref (oA 11)] : List Value).toArray below meth c H locs 0 0 (MQ below (va_Qi (fun r (_ : Unit) => r = res.1) (g_Bo (dC, dI) A (fun (_ : Unit) => (b_e cB cC cI cJ cZ oA rA res.2 ++ b_k cB cC cI cJ cZ oA rA res.2 ++ b_p cB cC cI cJ cZ oA rA res.2 ++ b_o cB cC cI cJ cZ oA rA res.2 ++ b_s cB cC cI cJ cZ oA rA res.2 ++ b_c cB cC cI cJ cZ oA rA res.2 ++ b_t cB cC cI cJ cZ oA rA res.2 ++ b_d cB cC cI cJ cZ oA rA res.2))) A) ([.ref (oA 11)] : List Value).toArray s 0 0 A) (F0 m 45 ls []) := by
    intro  σ_9 hF0 H locs hP hS ls hl
    subst ej_10
    have hF_12 := hF0
    clear hF0
    refine lv_iload_n hx hb dX8_go_45 rfl (lv_at hl 0 rfl) ?_
    refine lv_if_eq (tgt := 53) hx hb dX8_go_46 (by decide) (fun c_13 => ?_) (fun c_13 => ?_)
    · have hF_14 := ipos c_13 hF_12
      clear hF_12
      refine lv_iconst (v := 0) hx hb dX8_go_53 (by decide +kernel) ?_
      have h9 := Option.some.inj hF_14
      subst h9
      exact W.zret (v := 0) hx hb hr (by decide +kernel) (fun t ht hW => ⟨⟨0, (), rfl, rfl, m_end ht hP, hDD _⟩, hS.F ht⟩) hS.2.2 dX8_go_54
    · have hF_15 := ineg c_13 hF_12
      clear hF_12
      refine lv_iconst (v := 1) hx hb dX8_go_49 (by decide +kernel) ?_
      refine lv_goto (tgt := 54) hx hb dX8_go_50 (by decide) ?_
      have h9 := Option.some.inj hF_15
      subst h9
      exact W.zret (v := 1) hx hb hr (by decide +kernel) (fun t ht hW => ⟨⟨1, (), rfl, rfl, m_end ht hP, hDD _⟩, hS.F ht⟩) hS.2.2 dX8_go_54
  refine lv_if_ne (tgt := 36) hx hb dX8_go_20 (by decide) (fun c_16 => ?_) (fun c_16 => ?_)
  · have hF_23 := ineg c_16 hF_11
    clear hF_11
    refine lv_aload_n hx hb dX8_go_36 rfl (lv_at hl 1 rfl) ?_
    refine va_get (D := (dC, dI)) (ci := 8) (v := .ref (oA 9)) (C := RX8) (T := TX8) (N := 16) hx hb hts ii_X8 hown hK hP 0 rfl rfl 0 (by decide) (hts (.fieldLink RX8 22 "StoryHouse$Teller" "play" "LStoryHouse$Play;") wq_286) (fun _ h9 => h9) rfl dX8_go_37 ?_
    refine lv_iconst (v := 1) hx hb dX8_go_40 (by decide +kernel) ?_
    refine lv_iload_n hx hb dX8_go_41 rfl (lv_at hl 0 rfl) ?_
    obtain ⟨u_24, hu_24, hF_25⟩ := Option.bind_eq_some_iff.mp hF_23
    clear hF_23
    have hPc := hP.sub (ws' := (b_p cB cC cI cJ cZ oA rA σ_7)) [9, 10, 11, 12, 13, 14, 15, 16] rfl
    have hDc := (hDD σ_7).sub (ws' := (b_p cB cC cI cJ cZ oA rA σ_7)) [9, 10, 11, 12, 13, 14, 15, 16] (by decide +kernel) rfl
    have hFc := va_free (wc := (b_p cB cC cI cJ cZ oA rA σ_7)) (hDD σ_7) hS hA [9, 10, 11, 12, 13, 14, 15, 16] rfl
    refine g_ofv (wc := (b_p cB cC cI cJ cZ oA rA σ_7)) (wr := (b_e cB cC cI cJ cZ oA rA σ_7 ++ b_k cB cC cI cJ cZ oA rA σ_7 ++ b_o cB cC cI cJ cZ oA rA σ_7 ++ b_s cB cC cI cJ cZ oA rA σ_7 ++ b_c cB cC cI cJ cZ oA rA σ_7 ++ b_t cB cC cI cJ cZ oA rA σ_7 ++ b_d cB cC cI cJ cZ oA rA σ_7)) hP (hDD σ_7) hS hFc [9, 10, 11, 12, 13, 14, 15, 16] [0, 1, 2, 3, 4, 5, 6, 7, 8, 17, 18, 19, 20, 21, 22, 23, 24, 25, 26, 27, 28, 29, 30, 31, 32, 33, 34, 35, 36, 37, 38, 39, 40, 41, 42, 43, 44, 45, 46, 47, 48, 49] rfl rfl (by decide +kernel) (by decide +kernel) (va_runV (As := [.int 1, .int u_5.1]) (rest := []) ⟨hx, hb, hml, hown, hts⟩ (k_X6_moveInto l dC dI cB cC cI cJ cZ cP oA rA H.size  1 u_5.1 σ_7 _ hu_24) (cwV 2 hts (g_gV wq_1229 wq_963 wq_964 wq_10 wq_965) rfl rfl rfl (by decide +kernel) ⟨Nat.le_of_ble_eq_true rfl, Nat.le_of_ble_eq_true rfl⟩) (g_preV g_bl0 hK hPc hDc hS hE hFc g_to0 (q0 := 0) (ci := 6) rfl rfl) rfl rfl hl.1 rfl (lv_room (Nat.le_of_ble_eq_true rfl)) dX8_go_42 ⟨Nat.le_of_ble_eq_true rfl, Nat.le_of_ble_eq_true rfl⟩) (fun u9 H locs hw9 hP' hD' hS => ?_)
    clear hPc hDc hFc
    obtain ⟨σ_26, eσ_26, hF_27⟩ := bnd_e hF_25
    clear hF_25
    have hP : va_P (dC, dI) vwCl (b_e cB cC cI cJ cZ oA rA σ_26 ++ b_k cB cC cI cJ cZ oA rA σ_26 ++ b_p cB cC cI cJ cZ oA rA σ_26 ++ b_o cB cC cI cJ cZ oA rA σ_26 ++ b_s cB cC cI cJ cZ oA rA σ_26 ++ b_c cB cC cI cJ cZ oA rA σ_26 ++ b_t cB cC cI cJ cZ oA rA σ_26 ++ b_d cB cC cI cJ cZ oA rA σ_26) H := by rw [eσ_26]; exact hP'.sub [0, 1, 2, 3, 4, 5, 6, 7, 8, 42, 43, 44, 45, 46, 47, 48, 49, 9, 10, 11, 12, 13, 14, 15, 16, 17, 18, 19, 20, 21, 22, 23, 24, 25, 26, 27, 28, 29, 30, 31, 32, 33, 34, 35, 36, 37, 38, 39, 40, 41] rfl
    clear hP' hD'
    exact Jj_10  σ_26 hF_27 _ _ hP hS ls (lv_sub hl [0] rfl)
  · have hF_17 := ipos c_16 hF_11
    clear hF_11
    refine lv_aload_n hx hb dX8_go_23 rfl (lv_at hl 1 rfl) ?_
    refine va_get (D := (dC, dI)) (ci := 8) (v := .ref (oA 8)) (C := RX8) (T := TX8) (N := 16) hx hb hts ii_X8 hown hK hP 0 rfl rfl 1 (by decide) (hts (.fieldLink RX8 26 "StoryHouse$Teller" "told" "LStoryHouse$Out;") wq_287) (fun _ h9 => h9) rfl dX8_go_24 ?_
    obtain ⟨q_18, vq_18, hRq_18, hSq_18⟩ := hE.2.2.2.2 _ (List.mem_of_getElem? (i := 66) rfl)
    refine g_ldcwS (own := RX8) (tx := "You can not go there.") hx hb hown hRq_18 dX8_go_27 ?_
    obtain ⟨u_19, hu_19, hF_20⟩ := Option.bind_eq_some_iff.mp hF_17
    clear hF_17
    have hPc := hP.sub (ws' := (b_o cB cC cI cJ cZ oA rA σ_7)) [17, 18] rfl
    have hDc := (hDD σ_7).sub (ws' := (b_o cB cC cI cJ cZ oA rA σ_7)) [17, 18] (by decide +kernel) rfl
    have hFc := va_free (wc := (b_o cB cC cI cJ cZ oA rA σ_7)) (hDD σ_7) hS hA [17, 18] rfl
    refine g_ofv (wc := (b_o cB cC cI cJ cZ oA rA σ_7)) (wr := (b_e cB cC cI cJ cZ oA rA σ_7 ++ b_k cB cC cI cJ cZ oA rA σ_7 ++ b_p cB cC cI cJ cZ oA rA σ_7 ++ b_s cB cC cI cJ cZ oA rA σ_7 ++ b_c cB cC cI cJ cZ oA rA σ_7 ++ b_t cB cC cI cJ cZ oA rA σ_7 ++ b_d cB cC cI cJ cZ oA rA σ_7)) hP (hDD σ_7) hS hFc [17, 18] [0, 1, 2, 3, 4, 5, 6, 7, 8, 9, 10, 11, 12, 13, 14, 15, 16, 19, 20, 21, 22, 23, 24, 25, 26, 27, 28, 29, 30, 31, 32, 33, 34, 35, 36, 37, 38, 39, 40, 41, 42, 43, 44, 45, 46, 47, 48, 49] rfl rfl (by decide +kernel) (by decide +kernel) (va_runV (As := [.ref q_18]) (rest := []) ⟨hx, hb, hml, hown, hts⟩ (k_X5_line l dC dI cB cC cI cJ cZ cP oA rA H.size q_18 _ ([89, 111, 117, 32, 99, 97, 110, 32, 110, 111, 116, 32, 103, 111, 32, 116, 104, 101, 114, 101, 46] : List Int32) σ_7 _ hu_19) (cwV 1 hts (g_gV wq_998 wq_999 wq_1000 wq_9 wq_1001) rfl rfl rfl (by decide +kernel) ⟨Nat.le_of_ble_eq_true rfl, Nat.le_of_ble_eq_true rfl⟩) (g_preV g_blS hK hPc hDc hS hE hFc (g_toS hSq_18 hS hFc) (q0 := 0) (ci := 5) rfl rfl) rfl rfl hl.1 rfl (lv_room (Nat.le_of_ble_eq_true rfl)) dX8_go_30 ⟨Nat.le_of_ble_eq_true rfl, Nat.le_of_ble_eq_true rfl⟩) (fun u9 H locs hw9 hP' hD' hS => ?_)
    clear hPc hDc hFc
    obtain ⟨σ_21, eσ_21, hF_22⟩ := bnd_e hF_20
    clear hF_20
    have hP : va_P (dC, dI) vwCl (b_e cB cC cI cJ cZ oA rA σ_21 ++ b_k cB cC cI cJ cZ oA rA σ_21 ++ b_p cB cC cI cJ cZ oA rA σ_21 ++ b_o cB cC cI cJ cZ oA rA σ_21 ++ b_s cB cC cI cJ cZ oA rA σ_21 ++ b_c cB cC cI cJ cZ oA rA σ_21 ++ b_t cB cC cI cJ cZ oA rA σ_21 ++ b_d cB cC cI cJ cZ oA rA σ_21) H := by rw [eσ_21]; exact hP'.sub [0, 1, 2, 3, 4, 5, 6, 7, 8, 9, 10, 11, 12, 13, 14, 15, 16, 48, 49, 17, 18, 19, 20, 21, 22, 23, 24, 25, 26, 27, 28, 29, 30, 31, 32, 33, 34, 35, 36, 37, 38, 39, 40, 41, 42, 43, 44, 45, 46, 47] rfl
    clear hP' hD'
    refine lv_goto (tgt := 45) hx hb dX8_go_33 (by decide) ?_
    exact Jj_10  σ_21 hF_22 _ _ hP hS ls (lv_sub hl [0] rfl)
theorem dX8_inventory_0 : decode cX8_inventory 0 = .ok (.iconst 0, 1) := by decide +kernel
theorem dX8_inventory_1 : decode cX8_inventory 1 = .ok (.istore_n 1, 1) := by decide +kernel
theorem dX8_inventory_2 : decode cX8_inventory 2 = .ok (.aload_n 0, 1) := by decide +kernel
theorem dX8_inventory_3 : decode cX8_inventory 3 = .ok (.getfield 22, 3) := by decide +kernel
theorem dX8_inventory_6 : decode cX8_inventory 6 = .ok (.getfield 202, 3) := by decide +kernel
theorem dX8_inventory_9 : decode cX8_inventory 9 = .ok (.iconst 1, 1) := by decide +kernel
theorem dX8_inventory_10 : decode cX8_inventory 10 = .ok (.invokestatic 70, 3) := by decide +kernel
theorem dX8_inventory_13 : decode cX8_inventory 13 = .ok (.istore_n 2, 1) := by decide +kernel
theorem dX8_inventory_14 : decode cX8_inventory 14 = .ok (.iconst 0, 1) := by decide +kernel
theorem dX8_inventory_15 : decode cX8_inventory 15 = .ok (.istore_n 3, 1) := by decide +kernel
theorem dX8_inventory_16 : decode cX8_inventory 16 = .ok (.iload_n 3, 1) := by decide +kernel
theorem dX8_inventory_17 : decode cX8_inventory 17 = .ok (.bipush 120, 2) := by decide +kernel
theorem dX8_inventory_19 : decode cX8_inventory 19 = .ok (.if_icmp .ge 77, 3) := by decide +kernel
theorem dX8_inventory_22 : decode cX8_inventory 22 = .ok (.iload_n 2, 1) := by decide +kernel
theorem dX8_inventory_23 : decode cX8_inventory 23 = .ok (.ifCond .eq 73, 3) := by decide +kernel
theorem dX8_inventory_26 : decode cX8_inventory 26 = .ok (.aload_n 0, 1) := by decide +kernel
theorem dX8_inventory_27 : decode cX8_inventory 27 = .ok (.getfield 22, 3) := by decide +kernel
theorem dX8_inventory_30 : decode cX8_inventory 30 = .ok (.iload_n 2, 1) := by decide +kernel
theorem dX8_inventory_31 : decode cX8_inventory 31 = .ok (.iconst 2, 1) := by decide +kernel
theorem dX8_inventory_32 : decode cX8_inventory 32 = .ok (.invokevirtual 205, 3) := by decide +kernel
theorem dX8_inventory_35 : decode cX8_inventory 35 = .ok (.ifCond .ne 43, 3) := by decide +kernel
theorem dX8_inventory_38 : decode cX8_inventory 38 = .ok (.aload_n 0, 1) := by decide +kernel
theorem dX8_inventory_39 : decode cX8_inventory 39 = .ok (.getfield 26, 3) := by decide +kernel
theorem dX8_inventory_42 : decode cX8_inventory 42 = .ok (.iload_n 1, 1) := by decide +kernel
theorem dX8_inventory_43 : decode cX8_inventory 43 = .ok (.ifCond .eq 9, 3) := by decide +kernel
theorem dX8_inventory_46 : decode cX8_inventory 46 = .ok (.ldc_w 342, 3) := by decide +kernel
theorem dX8_inventory_49 : decode cX8_inventory 49 = .ok (.goto 6, 3) := by decide +kernel
theorem dX8_inventory_52 : decode cX8_inventory 52 = .ok (.ldc_w 344, 3) := by decide +kernel
theorem dX8_inventory_55 : decode cX8_inventory 55 = .ok (.invokevirtual 233, 3) := by decide +kernel
theorem dX8_inventory_58 : decode cX8_inventory 58 = .ok (.aload_n 0, 1) := by decide +kernel
theorem dX8_inventory_59 : decode cX8_inventory 59 = .ok (.getfield 30, 3) := by decide +kernel
theorem dX8_inventory_62 : decode cX8_inventory 62 = .ok (.iload_n 2, 1) := by decide +kernel
theorem dX8_inventory_63 : decode cX8_inventory 63 = .ok (.invokevirtual 227, 3) := by decide +kernel
theorem dX8_inventory_66 : decode cX8_inventory 66 = .ok (.aload_n 0, 1) := by decide +kernel
theorem dX8_inventory_67 : decode cX8_inventory 67 = .ok (.getfield 26, 3) := by decide +kernel
theorem dX8_inventory_70 : decode cX8_inventory 70 = .ok (.ldc_w 316, 3) := by decide +kernel
theorem dX8_inventory_73 : decode cX8_inventory 73 = .ok (.invokevirtual 65, 3) := by decide +kernel
theorem dX8_inventory_76 : decode cX8_inventory 76 = .ok (.iconst 1, 1) := by decide +kernel
theorem dX8_inventory_77 : decode cX8_inventory 77 = .ok (.istore_n 1, 1) := by decide +kernel
theorem dX8_inventory_78 : decode cX8_inventory 78 = .ok (.aload_n 0, 1) := by decide +kernel
theorem dX8_inventory_79 : decode cX8_inventory 79 = .ok (.getfield 22, 3) := by decide +kernel
theorem dX8_inventory_82 : decode cX8_inventory 82 = .ok (.getfield 208, 3) := by decide +kernel
theorem dX8_inventory_85 : decode cX8_inventory 85 = .ok (.iload_n 2, 1) := by decide +kernel
theorem dX8_inventory_86 : decode cX8_inventory 86 = .ok (.invokestatic 70, 3) := by decide +kernel
theorem dX8_inventory_89 : decode cX8_inventory 89 = .ok (.istore_n 2, 1) := by decide +kernel
theorem dX8_inventory_90 : decode cX8_inventory 90 = .ok (.iinc 3 1, 3) := by decide +kernel
theorem dX8_inventory_93 : decode cX8_inventory 93 = .ok (.goto (-77), 3) := by decide +kernel
theorem dX8_inventory_96 : decode cX8_inventory 96 = .ok (.iload_n 1, 1) := by decide +kernel
theorem dX8_inventory_97 : decode cX8_inventory 97 = .ok (.ifCond .ne 13, 3) := by decide +kernel
theorem dX8_inventory_100 : decode cX8_inventory 100 = .ok (.aload_n 0, 1) := by decide +kernel
theorem dX8_inventory_101 : decode cX8_inventory 101 = .ok (.getfield 26, 3) := by decide +kernel
theorem dX8_inventory_104 : decode cX8_inventory 104 = .ok (.ldc_w 346, 3) := by decide +kernel
theorem dX8_inventory_107 : decode cX8_inventory 107 = .ok (.invokevirtual 65, 3) := by decide +kernel
theorem dX8_inventory_110 : decode cX8_inventory 110 = .ok (.return_, 1) := by decide +kernel
def F_X8_inventory  (Γ : HS) : HR :=
  bnd ((g_at 121 ((Γ 9).2.1 1) 1)) fun (x_1 : Int32) =>
  loopF (fun (again_4 : (Int32 × Int32 × Int32 × HS) → HR) (s_3 : Int32 × Int32 × Int32 × HS) => (
    bnd (fun  (σ_7 : HS) => (
      if s_3.1 = 0 then (
        (F_X5_line ([89, 111, 117, 32, 99, 97, 114, 114, 121, 32, 110, 111, 116, 104, 105, 110, 103, 46] : List Int32) σ_7).bind fun u_14 =>
        bnd (mrg (fun j => j == 8) σ_7 u_14.2) fun σ_16 =>
        some (0, σ_16)
      ) else (
        some (0, σ_7)
      )
    ) : HS → HR) fun j_8 =>
    if 120 ≤ s_3.2.2.1 then (
      j_8  s_3.2.2.2
    ) else (
      if s_3.2.1 = 0 then (
        j_8  s_3.2.2.2
      ) else (
        (F_X6_bears s_3.2.1 2 s_3.2.2.2).bind fun u_25 =>
        bnd (mrg (fun j => j == 9) s_3.2.2.2 u_25.2) fun σ_27 =>
        bnd (fun (v1_29 : Int32) (σ_30 : HS) => (
          bnd ((g_at 121 ((σ_30 9).2.1 2) s_3.2.1)) fun (x_34 : Int32) =>
          bnd (s_3.2.2.1 + 1) fun (x_36 : Int32) =>
          again_4 (v1_29, x_34, x_36, σ_30)
        ) : Int32 → HS → HR) fun j_31 =>
        if u_25.1 = 0 then (
          if s_3.1 = 0 then (
            (F_X5_text ([89, 111, 117, 32, 99, 97, 114, 114, 121, 58, 10, 32, 32] : List Int32) σ_27).bind fun u_43 =>
            bnd (mrg (fun j => j == 8) σ_27 u_43.2) fun σ_45 =>
            (F_X3_sayName s_3.2.1 σ_45).bind fun u_47 =>
            bnd (mrg (fun j => j == 10 || j == 9 || j == 8 || j == 4 || j == 5 || j == 6 || j == 7) σ_45 u_47.2) fun σ_49 =>
            (F_X5_line ([] : List Int32) σ_49).bind fun u_52 =>
            bnd (mrg (fun j => j == 8) σ_49 u_52.2) fun σ_54 =>
            j_31 1 σ_54
          ) else (
            (F_X5_text ([32, 32] : List Int32) σ_27).bind fun u_58 =>
            bnd (mrg (fun j => j == 8) σ_27 u_58.2) fun σ_60 =>
            (F_X3_sayName s_3.2.1 σ_60).bind fun u_62 =>
            bnd (mrg (fun j => j == 10 || j == 9 || j == 8 || j == 4 || j == 5 || j == 6 || j == 7) σ_60 u_62.2) fun σ_64 =>
            (F_X5_line ([] : List Int32) σ_64).bind fun u_67 =>
            bnd (mrg (fun j => j == 8) σ_64 u_67.2) fun σ_69 =>
            j_31 1 σ_69
          )
        ) else (
          j_31 s_3.1 σ_27
        )
      )
    )
  )) FU (0, x_1, 0, Γ)
set_option maxHeartbeats 4000000 in
set_option maxRecDepth 100000 in
theorem k_X8_inventory (l : Launch) (dC : Nat → ClassId) (dI : Nat → Nat → Nat) (cB cC cI cJ cZ cP : ClassId) (oA : Nat → Nat) (rA : Nat → Nat → Nat) (sz : Nat)   (Γ : HS) (res : Int32 × HS) (hF : F_X8_inventory  Γ = some res) : Met l yX8_inventory (g_ws yX8_inventory cX8_inventory 4 none) ({ frames := 8, cells := 0, slots := 0, locals := 197 }) (va_Pc [.ref (oA 11)] (g_B (dC, dI) [(cB, .byte), (cC, .char), (cI, .int), (cJ, .long), (cZ, .boolean), (cP, .object "StoryHouse$Play")] sz (b_e cB cC cI cJ cZ oA rA Γ ++ b_k cB cC cI cJ cZ oA rA Γ ++ b_p cB cC cI cJ cZ oA rA Γ ++ b_o cB cC cI cJ cZ oA rA Γ ++ b_s cB cC cI cJ cZ oA rA Γ ++ b_c cB cC cI cJ cZ oA rA Γ ++ b_t cB cC cI cJ cZ oA rA Γ ++ b_d cB cC cI cJ cZ oA rA Γ) g_0)) (va_Qv (fun (_ : Unit) => True) (g_Bo (dC, dI) (va_A (b_e cB cC cI cJ cZ oA rA Γ ++ b_k cB cC cI cJ cZ oA rA Γ ++ b_p cB cC cI cJ cZ oA rA Γ ++ b_o cB cC cI cJ cZ oA rA Γ ++ b_s cB cC cI cJ cZ oA rA Γ ++ b_c cB cC cI cJ cZ oA rA Γ ++ b_t cB cC cI cJ cZ oA rA Γ ++ b_d cB cC cI cJ cZ oA rA Γ) sz) (fun (_ : Unit) => (b_e cB cC cI cJ cZ oA rA res.2 ++ b_k cB cC cI cJ cZ oA rA res.2 ++ b_p cB cC cI cJ cZ oA rA res.2 ++ b_o cB cC cI cJ cZ oA rA res.2 ++ b_s cB cC cI cJ cZ oA rA res.2 ++ b_c cB cC cI cJ cZ oA rA res.2 ++ b_t cB cC cI cJ cZ oA rA res.2 ++ b_d cB cC cI cJ cZ oA rA res.2))) (va_A (b_e cB cC cI cJ cZ oA rA Γ ++ b_k cB cC cI cJ cZ oA rA Γ ++ b_p cB cC cI cJ cZ oA rA Γ ++ b_o cB cC cI cJ cZ oA rA Γ ++ b_s cB cC cI cJ cZ oA rA Γ ++ b_c cB cC cI cJ cZ oA rA Γ ++ b_t cB cC cI cJ cZ oA rA Γ ++ b_d cB cC cI cJ cZ oA rA Γ) sz)) 0 0 (va_A (b_e cB cC cI cJ cZ oA rA Γ ++ b_k cB cC cI cJ cZ oA rA Γ ++ b_p cB cC cI cJ cZ oA rA Γ ++ b_o cB cC cI cJ cZ oA rA Γ ++ b_s cB cC cI cJ cZ oA rA Γ ++ b_c cB cC cI cJ cZ oA rA Γ ++ b_t cB cC cI cJ cZ oA rA Γ ++ b_d cB cC cI cJ cZ oA rA Γ) sz) := by
  refine Met.ofW (cc := cX8_inventory) (maxL := 4) (ret := none) (by decide) rfl ?_
  intro p e s m args below meth c s₁ B hml hv
  obtain ⟨rfl, hsz, hP, hK, hD0, hE, hX⟩ := hv
  have hx := B.exec
  have hb := B.bytes
  have hr := B.returns
  have hts0 := atoms_spec (ws := g_ws yX8_inventory cX8_inventory 4 none) B.pre
  have hts : ∀ w ∈ lw_good, w.before ([.ref (oA 11)] : List Value).toArray s = true := fun w z => hts0 w (List.mem_cons_of_mem _ z)
  have hown : s.vm.findClass RX8 = some m.cls := findClass_of_methodNamed B.named
  have hlocks := B.notSynchronized
  subst hsz
  have hD1 := hD0.self (sz := s.heap.size)
  generalize hAe : va_A (b_e cB cC cI cJ cZ oA rA Γ ++ b_k cB cC cI cJ cZ oA rA Γ ++ b_p cB cC cI cJ cZ oA rA Γ ++ b_o cB cC cI cJ cZ oA rA Γ ++ b_s cB cC cI cJ cZ oA rA Γ ++ b_c cB cC cI cJ cZ oA rA Γ ++ b_t cB cC cI cJ cZ oA rA Γ ++ b_d cB cC cI cJ cZ oA rA Γ) s.heap.size = A at hD1 hE hX ⊢
  have hA : ∀ q : Nat, s.heap.size ≤ q → A q := fun q z => by rw [← hAe]; exact Or.inr z
  have hDD : ∀ Γ : HS, va_D A (b_e cB cC cI cJ cZ oA rA Γ ++ b_k cB cC cI cJ cZ oA rA Γ ++ b_p cB cC cI cJ cZ oA rA Γ ++ b_o cB cC cI cJ cZ oA rA Γ ++ b_s cB cC cI cJ cZ oA rA Γ ++ b_c cB cC cI cJ cZ oA rA Γ ++ b_t cB cC cI cJ cZ oA rA Γ ++ b_d cB cC cI cJ cZ oA rA Γ) := fun Γ9 => va_D_fst (ws := (b_e cB cC cI cJ cZ oA rA Γ ++ b_k cB cC cI cJ cZ oA rA Γ ++ b_p cB cC cI cJ cZ oA rA Γ ++ b_o cB cC cI cJ cZ oA rA Γ ++ b_s cB cC cI cJ cZ oA rA Γ ++ b_c cB cC cI cJ cZ oA rA Γ ++ b_t cB cC cI cJ cZ oA rA Γ ++ b_d cB cC cI cJ cZ oA rA Γ)) (ws' := (b_e cB cC cI cJ cZ oA rA Γ9 ++ b_k cB cC cI cJ cZ oA rA Γ9 ++ b_p cB cC cI cJ cZ oA rA Γ9 ++ b_o cB cC cI cJ cZ oA rA Γ9 ++ b_s cB cC cI cJ cZ oA rA Γ9 ++ b_c cB cC cI cJ cZ oA rA Γ9 ++ b_t cB cC cI cJ cZ oA rA Γ9 ++ b_d cB cC cI cJ cZ oA rA Γ9)) rfl hD1
  have hN := hE.1
  have hS : va_S A s.heap s.heap [] := va_S.rf
  have hl := lv_entry ([.ref (oA 11)]) (n := 4) (Nat.le_of_ble_eq_true rfl)
  rw [lg_entry_eq]
  generalize (lg_sl ([.ref (oA 11)]) ++ List.replicate (4 - (lg_sl ([.ref (oA 11)])).length) Slot.unset).toArray = ls at hl ⊢
  have hl : lv_has ls 4 [(0, .ref (oA 11))] := hl
  unfold F_X8_inventory at hF
  refine lv_iconst (v := 0) hx hb dX8_inventory_0 (by decide +kernel) ?_
  refine lv_istore_n (lv' := [(1, .int 0), (0, .ref (oA 11))]) hx hb dX8_inventory_1 rfl hl (by decide) rfl (fun ls hl => ?_)
  refine lv_aload_n hx hb dX8_inventory_2 rfl (lv_at hl 1 rfl) ?_
  refine va_get (D := (dC, dI)) (ci := 8) (v := .ref (oA 9)) (C := RX8) (T := TX8) (N := 16) hx hb hts ii_X8 hown hK hP 0 rfl rfl 0 (by decide) (hts (.fieldLink RX8 22 "StoryHouse$Teller" "play" "LStoryHouse$Play;") wq_286) (fun _ h9 => h9) rfl dX8_inventory_3 ?_
  refine va_get (D := (dC, dI)) (ci := 6) (v := .ref (rA 9 1)) (C := RX6) (T := TX6) (N := 12) hx hb hts ii_X6 hown hK hP 9 rfl rfl 1 (by decide) (hts (.fieldLink RX8 202 "StoryHouse$Play" "firsts" "[I") wq_223) (fun _ h9 => h9) rfl dX8_inventory_6 ?_
  refine lv_iconst (v := 1) hx hb dX8_inventory_9 (by decide +kernel) ?_
  have hPc := hP.sub (ws' := [(rA 9 1, .inl (cI, 121, .inl ((Γ 9).2.1 1)))]) [11] rfl
  have hDc := (hDD Γ).sub (ws' := [(rA 9 1, .inl (cI, 121, .inl ((Γ 9).2.1 1)))]) [11] (by decide +kernel) rfl
  have hFc := va_free (wc := [(rA 9 1, .inl (cI, 121, .inl ((Γ 9).2.1 1)))]) (hDD Γ) hS hA [11] rfl
  refine g_ofi (wc := [(rA 9 1, .inl (cI, 121, .inl ((Γ 9).2.1 1)))]) (wr := (((b_e cB cC cI cJ cZ oA rA Γ ++ b_k cB cC cI cJ cZ oA rA Γ ++ b_p cB cC cI cJ cZ oA rA Γ ++ b_o cB cC cI cJ cZ oA rA Γ ++ b_s cB cC cI cJ cZ oA rA Γ ++ b_c cB cC cI cJ cZ oA rA Γ ++ b_t cB cC cI cJ cZ oA rA Γ ++ b_d cB cC cI cJ cZ oA rA Γ)).eraseIdx 11)) hP (hDD Γ) hS hFc [11] [0, 1, 2, 3, 4, 5, 6, 7, 8, 9, 10, 12, 13, 14, 15, 16, 17, 18, 19, 20, 21, 22, 23, 24, 25, 26, 27, 28, 29, 30, 31, 32, 33, 34, 35, 36, 37, 38, 39, 40, 41, 42, 43, 44, 45, 46, 47, 48, 49] rfl rfl (by decide +kernel) (by decide +kernel) (va_runSN (As := [.ref (rA 9 1), .int 1]) (rest := []) ⟨hx, hb, hml, hown, hts⟩ (c_X11_at l dC dI cB cC cI cJ cZ cP s.heap.size (rA 9 1) 1 121 ((Γ 9).2.1 1) (by decide)) ⟨va_cnB 2 hts (g_gA wq_407) rfl rfl rfl (hN.at 31 rfl) (hts (.initialized RX11) wq_1) (by decide +kernel) ⟨Nat.le_of_ble_eq_true rfl, Nat.le_of_ble_eq_true rfl⟩, (hts (.static yX11_at) wq_406), trivial⟩ (g_preS g_bl0 hK hPc hDc hS hE hFc g_to0) rfl rfl hl.1 rfl (lv_room (Nat.le_of_ble_eq_true rfl)) dX8_inventory_10 ⟨Nat.le_of_ble_eq_true rfl, Nat.le_of_ble_eq_true rfl⟩) (fun r9 u9 H locs hw9 hP' hD' hS => ?_)
  clear hPc hDc hFc hD'
  have hP : va_P (dC, dI) vwCl (b_e cB cC cI cJ cZ oA rA Γ ++ b_k cB cC cI cJ cZ oA rA Γ ++ b_p cB cC cI cJ cZ oA rA Γ ++ b_o cB cC cI cJ cZ oA rA Γ ++ b_s cB cC cI cJ cZ oA rA Γ ++ b_c cB cC cI cJ cZ oA rA Γ ++ b_t cB cC cI cJ cZ oA rA Γ ++ b_d cB cC cI cJ cZ oA rA Γ) H := hP'.sub [0, 1, 2, 3, 4, 5, 6, 7, 8, 9, 10, 49, 11, 12, 13, 14, 15, 16, 17, 18, 19, 20, 21, 22, 23, 24, 25, 26, 27, 28, 29, 30, 31, 32, 33, 34, 35, 36, 37, 38, 39, 40, 41, 42, 43, 44, 45, 46, 47, 48] rfl
  clear hP'
  subst hw9
  obtain ⟨x_1, ex_1, hF_2⟩ := bnd_e hF
  clear hF
  refine m_top ex_1 ?_
  refine lv_istore_n (lv' := [(2, .int x_1), (1, .int 0), (0, .ref (oA 11))]) hx hb dX8_inventory_13 rfl hl (by decide) rfl (fun ls hl => ?_)
  refine lv_iconst (v := 0) hx hb dX8_inventory_14 (by decide +kernel) ?_
  refine lv_istore_n (lv' := [(3, .int 0), (2, .int x_1), (1, .int 0), (0, .ref (oA 11))]) hx hb dX8_inventory_15 rfl hl (by decide) rfl (fun ls hl => ?_)
  refine loopF_ind (P := fun (s_3 : Int32 × Int32 × Int32 × HS) => ∀ (H : Heap) (locs : List Loc), va_P (dC, dI) vwCl (b_e cB cC cI cJ cZ oA rA s_3.2.2.2 ++ b_k cB cC cI cJ cZ oA rA s_3.2.2.2 ++ b_p cB cC cI cJ cZ oA rA s_3.2.2.2 ++ b_o cB cC cI cJ cZ oA rA s_3.2.2.2 ++ b_s cB cC cI cJ cZ oA rA s_3.2.2.2 ++ b_c cB cC cI cJ cZ oA rA s_3.2.2.2 ++ b_t cB cC cI cJ cZ oA rA s_3.2.2.2 ++ b_d cB cC cI cJ cZ oA rA s_3.2.2.2) H → va_S A s.heap H locs → ∀ ls : Array Slot, lv_has ls 4 [(0, .ref (oA 11)), (1, .int s_3.1), (2, .int s_3.2.1), (3, .int s_3.2.2.1)] → W p l e (headSpec (g_ws yX8_inventory cX8_inventory 4 none) { frames := 8, cells := 0, slots := 0, locals := 197 }).room s m ([.ref (oA 11)] : List Value).toArray below meth c H locs 0 0 (MQ below (va_Qv (fun (_ : Unit) => True) (g_Bo (dC, dI) A (fun (_ : Unit) => (b_e cB cC cI cJ cZ oA rA res.2 ++ b_k cB cC cI cJ cZ oA rA res.2 ++ b_p cB cC cI cJ cZ oA rA res.2 ++ b_o cB cC cI cJ cZ oA rA res.2 ++ b_s cB cC cI cJ cZ oA rA res.2 ++ b_c cB cC cI cJ cZ oA rA res.2 ++ b_t cB cC cI cJ cZ oA rA res.2 ++ b_d cB cC cI cJ cZ oA rA res.2))) A) ([.ref (oA 11)] : List Value).toArray s 0 0 A) (F0 m 16 ls [])) ?_ _ _ hF_2 _ _ hP hS ls (lv_sub hl [3, 2, 1, 0] rfl)
  intro again_4 s_3 ih_5 hF_6
  intro H locs hP hS ls hl
  refine lv_iload_n hx hb dX8_inventory_16 rfl (lv_at hl 3 rfl) ?_
  refine lv_bipush (v := 120) hx hb dX8_inventory_17 (by decide +kernel) ?_
  obtain ⟨j_8, ej_8, hF_9⟩ := bnd_e hF_6
  clear hF_6
  have Jj_8 : ∀  (σ_7 : HS), j_8  σ_7 = some res → ∀ (H : Heap) (locs : List Loc), va_P (dC, dI) vwCl (b_e cB cC cI cJ cZ oA rA σ_7 ++ b_k cB cC cI cJ cZ oA rA σ_7 ++ b_p cB cC cI cJ cZ oA rA σ_7 ++ b_o cB cC cI cJ cZ oA rA σ_7 ++ b_s cB cC cI cJ cZ oA rA σ_7 ++ b_c cB cC cI cJ cZ oA rA σ_7 ++ b_t cB cC cI cJ cZ oA rA σ_7 ++ b_d cB cC cI cJ cZ oA rA σ_7) H → va_S A s.heap H locs → ∀ ls : Array Slot, lv_has ls 4 [(0, .ref (oA 11)), (1, .int s_3.1)] → W p l e (headSpec (g_ws yX8_inventory cX8_inventory 4 none) { frames := 8, cells := 0, slots := 0, locals := 197 }).room s m ([.ref (oA 11)] : List Value).toArray below meth c H locs 0 0 (MQ below (va_Qv (fun (_ : Unit) => True) (g_Bo (dC, dI) A (fun (_ : Unit) => (b_e cB cC cI cJ cZ oA rA res.2 ++ b_k cB cC cI cJ cZ oA rA res.2 ++ b_p cB cC cI cJ cZ oA rA res.2 ++ b_o cB cC cI cJ cZ oA rA res.2 ++ b_s cB cC cI cJ cZ oA rA res.2 ++ b_c cB cC cI cJ cZ oA rA res.2 ++ b_t cB cC cI cJ cZ oA rA res.2 ++ b_d cB cC cI cJ cZ oA rA res.2))) A) ([.ref (oA 11)] : List Value).toArray s 0 0 A) (F0 m 96 ls []) := by
    intro  σ_7 hF0 H locs hP hS ls hl
    subst ej_8
    have hF_10 := hF0
    clear hF0
    refine lv_iload_n hx hb dX8_inventory_96 rfl (lv_at hl 1 rfl) ?_
    refine lv_if_ne (tgt := 110) hx hb dX8_inventory_97 (by decide) (fun c_11 => ?_) (fun c_11 => ?_)
    · have hF_18 := ineg c_11 hF_10
      clear hF_10
      have h9 := Option.some.inj hF_18
      subst h9
      exact W.vret hx hb hr (fun t ht hW => ⟨⟨(), rfl, trivial, m_end ht hP, hDD _⟩, hS.F ht⟩) hS.2.2 dX8_inventory_110
    · have hF_12 := ipos c_11 hF_10
      clear hF_10
      refine lv_aload_n hx hb dX8_inventory_100 rfl (lv_at hl 0 rfl) ?_
      refine va_get (D := (dC, dI)) (ci := 8) (v := .ref (oA 8)) (C := RX8) (T := TX8) (N := 16) hx hb hts ii_X8 hown hK hP 0 rfl rfl 1 (by decide) (hts (.fieldLink RX8 26 "StoryHouse$Teller" "told" "LStoryHouse$Out;") wq_287) (fun _ h9 => h9) rfl dX8_inventory_101 ?_
      obtain ⟨q_13, vq_13, hRq_13, hSq_13⟩ := hE.2.2.2.2 _ (List.mem_of_getElem? (i := 50) rfl)
      refine g_ldcwS (own := RX8) (tx := "You carry nothing.") hx hb hown hRq_13 dX8_inventory_104 ?_
      obtain ⟨u_14, hu_14, hF_15⟩ := Option.bind_eq_some_iff.mp hF_12
      clear hF_12
      have hPc := hP.sub (ws' := (b_o cB cC cI cJ cZ oA rA σ_7)) [17, 18] rfl
      have hDc := (hDD σ_7).sub (ws' := (b_o cB cC cI cJ cZ oA rA σ_7)) [17, 18] (by decide +kernel) rfl
      have hFc := va_free (wc := (b_o cB cC cI cJ cZ oA rA σ_7)) (hDD σ_7) hS hA [17, 18] rfl
      refine g_ofv (wc := (b_o cB cC cI cJ cZ oA rA σ_7)) (wr := (b_e cB cC cI cJ cZ oA rA σ_7 ++ b_k cB cC cI cJ cZ oA rA σ_7 ++ b_p cB cC cI cJ cZ oA rA σ_7 ++ b_s cB cC cI cJ cZ oA rA σ_7 ++ b_c cB cC cI cJ cZ oA rA σ_7 ++ b_t cB cC cI cJ cZ oA rA σ_7 ++ b_d cB cC cI cJ cZ oA rA σ_7)) hP (hDD σ_7) hS hFc [17, 18] [0, 1, 2, 3, 4, 5, 6, 7, 8, 9, 10, 11, 12, 13, 14, 15, 16, 19, 20, 21, 22, 23, 24, 25, 26, 27, 28, 29, 30, 31, 32, 33, 34, 35, 36, 37, 38, 39, 40, 41, 42, 43, 44, 45, 46, 47, 48, 49] rfl rfl (by decide +kernel) (by decide +kernel) (va_runV (As := [.ref q_13]) (rest := []) ⟨hx, hb, hml, hown, hts⟩ (k_X5_line l dC dI cB cC cI cJ cZ cP oA rA H.size q_13 _ ([89, 111, 117, 32, 99, 97, 114, 114, 121, 32, 110, 111, 116, 104, 105, 110, 103, 46] : List Int32) σ_7 _ hu_14) (cwV 1 hts (g_gV wq_998 wq_999 wq_1000 wq_9 wq_1001) rfl rfl rfl (by decide +kernel) ⟨Nat.le_of_ble_eq_true rfl, Nat.le_of_ble_eq_true rfl⟩) (g_preV g_blS hK hPc hDc hS hE hFc (g_toS hSq_13 hS hFc) (q0 := 0) (ci := 5) rfl rfl) rfl rfl hl.1 rfl (lv_room (Nat.le_of_ble_eq_true rfl)) dX8_inventory_107 ⟨Nat.le_of_ble_eq_true rfl, Nat.le_of_ble_eq_true rfl⟩) (fun u9 H locs hw9 hP' hD' hS => ?_)
      clear hPc hDc hFc
      obtain ⟨σ_16, eσ_16, hF_17⟩ := bnd_e hF_15
      clear hF_15
      have hP : va_P (dC, dI) vwCl (b_e cB cC cI cJ cZ oA rA σ_16 ++ b_k cB cC cI cJ cZ oA rA σ_16 ++ b_p cB cC cI cJ cZ oA rA σ_16 ++ b_o cB cC cI cJ cZ oA rA σ_16 ++ b_s cB cC cI cJ cZ oA rA σ_16 ++ b_c cB cC cI cJ cZ oA rA σ_16 ++ b_t cB cC cI cJ cZ oA rA σ_16 ++ b_d cB cC cI cJ cZ oA rA σ_16) H := by rw [eσ_16]; exact hP'.sub [0, 1, 2, 3, 4, 5, 6, 7, 8, 9, 10, 11, 12, 13, 14, 15, 16, 48, 49, 17, 18, 19, 20, 21, 22, 23, 24, 25, 26, 27, 28, 29, 30, 31, 32, 33, 34, 35, 36, 37, 38, 39, 40, 41, 42, 43, 44, 45, 46, 47] rfl
      clear hP' hD'
      have h9 := Option.some.inj hF_17
      subst h9
      exact W.vret hx hb hr (fun t ht hW => ⟨⟨(), rfl, trivial, m_end ht hP, hDD _⟩, hS.F ht⟩) hS.2.2 dX8_inventory_110
  refine lv_icmp_ge (tgt := 96) hx hb dX8_inventory_19 (by decide) (fun c_19 => ?_) (fun c_19 => ?_)
  · have hF_20 := ipos c_19 hF_9
    clear hF_9
    exact Jj_8  s_3.2.2.2 hF_20 _ _ hP hS ls (lv_sub hl [0, 1] rfl)
  · have hF_21 := ineg c_19 hF_9
    clear hF_9
    refine lv_iload_n hx hb dX8_inventory_22 rfl (lv_at hl 2 rfl) ?_
    refine lv_if_eq (tgt := 96) hx hb dX8_inventory_23 (by decide) (fun c_22 => ?_) (fun c_22 => ?_)
    · have hF_23 := ipos c_22 hF_21
      clear hF_21
      exact Jj_8  s_3.2.2.2 hF_23 _ _ hP hS ls (lv_sub hl [0, 1] rfl)
    · have hF_24 := ineg c_22 hF_21
      clear hF_21
      refine lv_aload_n hx hb dX8_inventory_26 rfl (lv_at hl 0 rfl) ?_
      refine va_get (D := (dC, dI)) (ci := 8) (v := .ref (oA 9)) (C := RX8) (T := TX8) (N := 16) hx hb hts ii_X8 hown hK hP 0 rfl rfl 0 (by decide) (hts (.fieldLink RX8 22 "StoryHouse$Teller" "play" "LStoryHouse$Play;") wq_286) (fun _ h9 => h9) rfl dX8_inventory_27 ?_
      refine lv_iload_n hx hb dX8_inventory_30 rfl (lv_at hl 2 rfl) ?_
      refine lv_iconst (v := 2) hx hb dX8_inventory_31 (by decide +kernel) ?_
      obtain ⟨u_25, hu_25, hF_26⟩ := Option.bind_eq_some_iff.mp hF_24
      clear hF_24
      have hPc := hP.sub (ws' := (b_p cB cC cI cJ cZ oA rA s_3.2.2.2)) [9, 10, 11, 12, 13, 14, 15, 16] rfl
      have hDc := (hDD s_3.2.2.2).sub (ws' := (b_p cB cC cI cJ cZ oA rA s_3.2.2.2)) [9, 10, 11, 12, 13, 14, 15, 16] (by decide +kernel) rfl
      have hFc := va_free (wc := (b_p cB cC cI cJ cZ oA rA s_3.2.2.2)) (hDD s_3.2.2.2) hS hA [9, 10, 11, 12, 13, 14, 15, 16] rfl
      refine g_ofi (wc := (b_p cB cC cI cJ cZ oA rA s_3.2.2.2)) (wr := (b_e cB cC cI cJ cZ oA rA s_3.2.2.2 ++ b_k cB cC cI cJ cZ oA rA s_3.2.2.2 ++ b_o cB cC cI cJ cZ oA rA s_3.2.2.2 ++ b_s cB cC cI cJ cZ oA rA s_3.2.2.2 ++ b_c cB cC cI cJ cZ oA rA s_3.2.2.2 ++ b_t cB cC cI cJ cZ oA rA s_3.2.2.2 ++ b_d cB cC cI cJ cZ oA rA s_3.2.2.2)) hP (hDD s_3.2.2.2) hS hFc [9, 10, 11, 12, 13, 14, 15, 16] [0, 1, 2, 3, 4, 5, 6, 7, 8, 17, 18, 19, 20, 21, 22, 23, 24, 25, 26, 27, 28, 29, 30, 31, 32, 33, 34, 35, 36, 37, 38, 39, 40, 41, 42, 43, 44, 45, 46, 47, 48, 49] rfl rfl (by decide +kernel) (by decide +kernel) (va_runV (As := [.int s_3.2.1, .int 2]) (rest := []) ⟨hx, hb, hml, hown, hts⟩ (k_X6_bears l dC dI cB cC cI cJ cZ cP oA rA H.size  s_3.2.1 2 s_3.2.2.2 _ hu_25) (cwV 2 hts (g_gV wq_1030 wq_987 wq_988 wq_10 wq_989) rfl rfl rfl (by decide +kernel) ⟨Nat.le_of_ble_eq_true rfl, Nat.le_of_ble_eq_true rfl⟩) (g_preV g_bl0 hK hPc hDc hS hE hFc g_to0 (q0 := 0) (ci := 6) rfl rfl) rfl rfl hl.1 rfl (lv_room (Nat.le_of_ble_eq_true rfl)) dX8_inventory_32 ⟨Nat.le_of_ble_eq_true rfl, Nat.le_of_ble_eq_true rfl⟩) (fun r9 u9 H locs hw9 hP' hD' hS => ?_)
      clear hPc hDc hFc
      subst hw9
      obtain ⟨σ_27, eσ_27, hF_28⟩ := bnd_e hF_26
      clear hF_26
      have hP : va_P (dC, dI) vwCl (b_e cB cC cI cJ cZ oA rA σ_27 ++ b_k cB cC cI cJ cZ oA rA σ_27 ++ b_p cB cC cI cJ cZ oA rA σ_27 ++ b_o cB cC cI cJ cZ oA rA σ_27 ++ b_s cB cC cI cJ cZ oA rA σ_27 ++ b_c cB cC cI cJ cZ oA rA σ_27 ++ b_t cB cC cI cJ cZ oA rA σ_27 ++ b_d cB cC cI cJ cZ oA rA σ_27) H := by rw [eσ_27]; exact hP'.sub [0, 1, 2, 3, 4, 5, 6, 7, 8, 42, 43, 44, 45, 46, 47, 48, 49, 9, 10, 11, 12, 13, 14, 15, 16, 17, 18, 19, 20, 21, 22, 23, 24, 25, 26, 27, 28, 29, 30, 31, 32, 33, 34, 35, 36, 37, 38, 39, 40, 41] rfl
      clear hP' hD'
      obtain ⟨j_31, ej_31, hF_32⟩ := bnd_e hF_28
      clear hF_28
      have Jj_31 : ∀ (v1_29 : Int32) (σ_30 : HS), j_31 v1_29 σ_30 = some res → ∀ (H : Heap) (locs : List Loc), va_P (dC, dI) vwCl (b_e cB cC cI cJ cZ oA rA σ_30 ++ b_k cB cC cI cJ cZ oA rA σ_30 ++ b_p cB cC cI cJ cZ oA rA σ_30 ++ b_o cB cC cI cJ cZ oA rA σ_30 ++ b_s cB cC cI cJ cZ oA rA σ_30 ++ b_c cB cC cI cJ cZ oA rA σ_30 ++ b_t cB cC cI cJ cZ oA rA σ_30 ++ b_d cB cC cI cJ cZ oA rA σ_30) H → va_S A s.heap H locs → ∀ ls : Array Slot, lv_has ls 4 [(0, .ref (oA 11)), (1, .int v1_29), (2, .int s_3.2.1), (3, .int s_3.2.2.1)] → W p l e (headSpec (g_ws yX8_inventory cX8_inventory 4 none) { frames := 8, cells := 0, slots := 0, locals := 197 }).room s m ([.ref (oA 11)] : List Value).toArray below meth c H locs 0 0 (MQ below (va_Qv (fun (_ : Unit) => True) (g_Bo (dC, dI) A (fun (_ : Unit) => (b_e cB cC cI cJ cZ oA rA res.2 ++ b_k cB cC cI cJ cZ oA rA res.2 ++ b_p cB cC cI cJ cZ oA rA res.2 ++ b_o cB cC cI cJ cZ oA rA res.2 ++ b_s cB cC cI cJ cZ oA rA res.2 ++ b_c cB cC cI cJ cZ oA rA res.2 ++ b_t cB cC cI cJ cZ oA rA res.2 ++ b_d cB cC cI cJ cZ oA rA res.2))) A) ([.ref (oA 11)] : List Value).toArray s 0 0 A) (F0 m 78 ls []) := by
        intro v1_29 σ_30 hF0 H locs hP hS ls hl
        subst ej_31
        have hF_33 := hF0
        clear hF0
        refine lv_aload_n hx hb dX8_inventory_78 rfl (lv_at hl 0 rfl) ?_
        refine va_get (D := (dC, dI)) (ci := 8) (v := .ref (oA 9)) (C := RX8) (T := TX8) (N := 16) hx hb hts ii_X8 hown hK hP 0 rfl rfl 0 (by decide) (hts (.fieldLink RX8 22 "StoryHouse$Teller" "play" "LStoryHouse$Play;") wq_286) (fun _ h9 => h9) rfl dX8_inventory_79 ?_
        refine va_get (D := (dC, dI)) (ci := 6) (v := .ref (rA 9 2)) (C := RX6) (T := TX6) (N := 12) hx hb hts ii_X6 hown hK hP 9 rfl rfl 2 (by decide) (hts (.fieldLink RX8 208 "StoryHouse$Play" "nexts" "[I") wq_227) (fun _ h9 => h9) rfl dX8_inventory_82 ?_
        refine lv_iload_n hx hb dX8_inventory_85 rfl (lv_at hl 2 rfl) ?_
        have hPc := hP.sub (ws' := [(rA 9 2, .inl (cI, 121, .inl ((σ_30 9).2.1 2)))]) [12] rfl
        have hDc := (hDD σ_30).sub (ws' := [(rA 9 2, .inl (cI, 121, .inl ((σ_30 9).2.1 2)))]) [12] (by decide +kernel) rfl
        have hFc := va_free (wc := [(rA 9 2, .inl (cI, 121, .inl ((σ_30 9).2.1 2)))]) (hDD σ_30) hS hA [12] rfl
        refine g_ofi (wc := [(rA 9 2, .inl (cI, 121, .inl ((σ_30 9).2.1 2)))]) (wr := (((b_e cB cC cI cJ cZ oA rA σ_30 ++ b_k cB cC cI cJ cZ oA rA σ_30 ++ b_p cB cC cI cJ cZ oA rA σ_30 ++ b_o cB cC cI cJ cZ oA rA σ_30 ++ b_s cB cC cI cJ cZ oA rA σ_30 ++ b_c cB cC cI cJ cZ oA rA σ_30 ++ b_t cB cC cI cJ cZ oA rA σ_30 ++ b_d cB cC cI cJ cZ oA rA σ_30)).eraseIdx 12)) hP (hDD σ_30) hS hFc [12] [0, 1, 2, 3, 4, 5, 6, 7, 8, 9, 10, 11, 13, 14, 15, 16, 17, 18, 19, 20, 21, 22, 23, 24, 25, 26, 27, 28, 29, 30, 31, 32, 33, 34, 35, 36, 37, 38, 39, 40, 41, 42, 43, 44, 45, 46, 47, 48, 49] rfl rfl (by decide +kernel) (by decide +kernel) (va_runSN (As := [.ref (rA 9 2), .int s_3.2.1]) (rest := []) ⟨hx, hb, hml, hown, hts⟩ (c_X11_at l dC dI cB cC cI cJ cZ cP H.size (rA 9 2) s_3.2.1 121 ((σ_30 9).2.1 2) (by decide)) ⟨va_cnB 2 hts (g_gA wq_407) rfl rfl rfl (hN.at 31 rfl) (hts (.initialized RX11) wq_1) (by decide +kernel) ⟨Nat.le_of_ble_eq_true rfl, Nat.le_of_ble_eq_true rfl⟩, (hts (.static yX11_at) wq_406), trivial⟩ (g_preS g_bl0 hK hPc hDc hS hE hFc g_to0) rfl rfl hl.1 rfl (lv_room (Nat.le_of_ble_eq_true rfl)) dX8_inventory_86 ⟨Nat.le_of_ble_eq_true rfl, Nat.le_of_ble_eq_true rfl⟩) (fun r9 u9 H locs hw9 hP' hD' hS => ?_)
        clear hPc hDc hFc hD'
        have hP : va_P (dC, dI) vwCl (b_e cB cC cI cJ cZ oA rA σ_30 ++ b_k cB cC cI cJ cZ oA rA σ_30 ++ b_p cB cC cI cJ cZ oA rA σ_30 ++ b_o cB cC cI cJ cZ oA rA σ_30 ++ b_s cB cC cI cJ cZ oA rA σ_30 ++ b_c cB cC cI cJ cZ oA rA σ_30 ++ b_t cB cC cI cJ cZ oA rA σ_30 ++ b_d cB cC cI cJ cZ oA rA σ_30) H := hP'.sub [0, 1, 2, 3, 4, 5, 6, 7, 8, 9, 10, 11, 49, 12, 13, 14, 15, 16, 17, 18, 19, 20, 21, 22, 23, 24, 25, 26, 27, 28, 29, 30, 31, 32, 33, 34, 35, 36, 37, 38, 39, 40, 41, 42, 43, 44, 45, 46, 47, 48] rfl
        clear hP'
        subst hw9
        obtain ⟨x_34, ex_34, hF_35⟩ := bnd_e hF_33
        clear hF_33
        refine m_top ex_34 ?_
        refine lv_istore_n (lv' := [(2, .int x_34), (0, .ref (oA 11)), (1, .int v1_29), (3, .int s_3.2.2.1)]) hx hb dX8_inventory_89 rfl hl (by decide) rfl (fun ls hl => ?_)
        obtain ⟨x_36, ex_36, hF_37⟩ := bnd_e hF_35
        clear hF_35
        refine lv_iinc (v := x_36) (lv' := [(3, .int x_36), (2, .int x_34), (0, .ref (oA 11)), (1, .int v1_29)]) hx hb dX8_inventory_90 hl (k := 3) rfl (by rw [ex_36]; rfl) (by decide) rfl (fun ls hl => ?_)
        refine lv_goto (tgt := 16) hx hb dX8_inventory_93 (by decide) ?_
        exact ih_5 (v1_29, x_34, x_36, σ_30) hF_37 _ _ hP hS ls (lv_sub hl [2, 3, 1, 0] rfl)
      refine lv_if_ne (tgt := 78) hx hb dX8_inventory_35 (by decide) (fun c_38 => ?_) (fun c_38 => ?_)
      · have hF_71 := ineg c_38 hF_32
        clear hF_32
        exact Jj_31 s_3.1 σ_27 hF_71 _ _ hP hS ls (lv_sub hl [0, 1, 2, 3] rfl)
      · have hF_39 := ipos c_38 hF_32
        clear hF_32
        refine lv_aload_n hx hb dX8_inventory_38 rfl (lv_at hl 0 rfl) ?_
        refine va_get (D := (dC, dI)) (ci := 8) (v := .ref (oA 8)) (C := RX8) (T := TX8) (N := 16) hx hb hts ii_X8 hown hK hP 0 rfl rfl 1 (by decide) (hts (.fieldLink RX8 26 "StoryHouse$Teller" "told" "LStoryHouse$Out;") wq_287) (fun _ h9 => h9) rfl dX8_inventory_39 ?_
        refine lv_iload_n hx hb dX8_inventory_42 rfl (lv_at hl 1 rfl) ?_
        refine lv_if_eq (tgt := 52) hx hb dX8_inventory_43 (by decide) (fun c_40 => ?_) (fun c_40 => ?_)
        · have hF_41 := ipos c_40 hF_39
          clear hF_39
          obtain ⟨q_42, vq_42, hRq_42, hSq_42⟩ := hE.2.2.2.2 _ (List.mem_of_getElem? (i := 49) rfl)
          refine g_ldcwS (own := RX8) (tx := "You carry:\n  ") hx hb hown hRq_42 dX8_inventory_52 ?_
          obtain ⟨u_43, hu_43, hF_44⟩ := Option.bind_eq_some_iff.mp hF_41
          clear hF_41
          have hPc := hP.sub (ws' := (b_o cB cC cI cJ cZ oA rA σ_27)) [17, 18] rfl
          have hDc := (hDD σ_27).sub (ws' := (b_o cB cC cI cJ cZ oA rA σ_27)) [17, 18] (by decide +kernel) rfl
          have hFc := va_free (wc := (b_o cB cC cI cJ cZ oA rA σ_27)) (hDD σ_27) hS hA [17, 18] rfl
          refine g_ofv (wc := (b_o cB cC cI cJ cZ oA rA σ_27)) (wr := (b_e cB cC cI cJ cZ oA rA σ_27 ++ b_k cB cC cI cJ cZ oA rA σ_27 ++ b_p cB cC cI cJ cZ oA rA σ_27 ++ b_s cB cC cI cJ cZ oA rA σ_27 ++ b_c cB cC cI cJ cZ oA rA σ_27 ++ b_t cB cC cI cJ cZ oA rA σ_27 ++ b_d cB cC cI cJ cZ oA rA σ_27)) hP (hDD σ_27) hS hFc [17, 18] [0, 1, 2, 3, 4, 5, 6, 7, 8, 9, 10, 11, 12, 13, 14, 15, 16, 19, 20, 21, 22, 23, 24, 25, 26, 27, 28, 29, 30, 31, 32, 33, 34, 35, 36, 37, 38, 39, 40, 41, 42, 43, 44, 45, 46, 47, 48, 49] rfl rfl (by decide +kernel) (by decide +kernel) (va_runV (As := [.ref q_42]) (rest := []) ⟨hx, hb, hml, hown, hts⟩ (k_X5_text l dC dI cB cC cI cJ cZ cP oA rA H.size q_42 _ ([89, 111, 117, 32, 99, 97, 114, 114, 121, 58, 10, 32, 32] : List Int32) σ_27 _ hu_43) (cwV 1 hts (g_gV wq_1031 wq_1003 wq_1004 wq_9 wq_1005) rfl rfl rfl (by decide +kernel) ⟨Nat.le_of_ble_eq_true rfl, Nat.le_of_ble_eq_true rfl⟩) (g_preV g_blS hK hPc hDc hS hE hFc (g_toS hSq_42 hS hFc) (q0 := 0) (ci := 5) rfl rfl) rfl rfl hl.1 rfl (lv_room (Nat.le_of_ble_eq_true rfl)) dX8_inventory_55 ⟨Nat.le_of_ble_eq_true rfl, Nat.le_of_ble_eq_true rfl⟩) (fun u9 H locs hw9 hP' hD' hS => ?_)
          clear hPc hDc hFc
          obtain ⟨σ_45, eσ_45, hF_46⟩ := bnd_e hF_44
          clear hF_44
          have hP : va_P (dC, dI) vwCl (b_e cB cC cI cJ cZ oA rA σ_45 ++ b_k cB cC cI cJ cZ oA rA σ_45 ++ b_p cB cC cI cJ cZ oA rA σ_45 ++ b_o cB cC cI cJ cZ oA rA σ_45 ++ b_s cB cC cI cJ cZ oA rA σ_45 ++ b_c cB cC cI cJ cZ oA rA σ_45 ++ b_t cB cC cI cJ cZ oA rA σ_45 ++ b_d cB cC cI cJ cZ oA rA σ_45) H := by rw [eσ_45]; exact hP'.sub [0, 1, 2, 3, 4, 5, 6, 7, 8, 9, 10, 11, 12, 13, 14, 15, 16, 48, 49, 17, 18, 19, 20, 21, 22, 23, 24, 25, 26, 27, 28, 29, 30, 31, 32, 33, 34, 35, 36, 37, 38, 39, 40, 41, 42, 43, 44, 45, 46, 47] rfl
          clear hP' hD'
          refine lv_aload_n hx hb dX8_inventory_58 rfl (lv_at hl 0 rfl) ?_
          refine va_get (D := (dC, dI)) (ci := 8) (v := .ref (oA 10)) (C := RX8) (T := TX8) (N := 16) hx hb hts ii_X8 hown hK hP 0 rfl rfl 2 (by decide) (hts (.fieldLink RX8 30 "StoryHouse$Teller" "machine" "LStoryHouse$Machine;") wq_288) (fun _ h9 => h9) rfl dX8_inventory_59 ?_
          refine lv_iload_n hx hb dX8_inventory_62 rfl (lv_at hl 2 rfl) ?_
          obtain ⟨u_47, hu_47, hF_48⟩ := Option.bind_eq_some_iff.mp hF_46
          clear hF_46
          have hPc := hP.sub (ws' := (b_k cB cC cI cJ cZ oA rA σ_45 ++ b_p cB cC cI cJ cZ oA rA σ_45 ++ b_o cB cC cI cJ cZ oA rA σ_45 ++ b_s cB cC cI cJ cZ oA rA σ_45 ++ b_c cB cC cI cJ cZ oA rA σ_45 ++ b_t cB cC cI cJ cZ oA rA σ_45 ++ b_d cB cC cI cJ cZ oA rA σ_45)) [4, 5, 6, 7, 8, 9, 10, 11, 12, 13, 14, 15, 16, 17, 18, 19, 20, 21, 22, 23, 24, 25, 26, 27, 28, 29, 30, 31, 32, 33, 34, 35, 36, 37, 38, 39, 40, 41, 42, 43, 44, 45, 46, 47, 48, 49] rfl
          have hDc := (hDD σ_45).sub (ws' := (b_k cB cC cI cJ cZ oA rA σ_45 ++ b_p cB cC cI cJ cZ oA rA σ_45 ++ b_o cB cC cI cJ cZ oA rA σ_45 ++ b_s cB cC cI cJ cZ oA rA σ_45 ++ b_c cB cC cI cJ cZ oA rA σ_45 ++ b_t cB cC cI cJ cZ oA rA σ_45 ++ b_d cB cC cI cJ cZ oA rA σ_45)) [4, 5, 6, 7, 8, 9, 10, 11, 12, 13, 14, 15, 16, 17, 18, 19, 20, 21, 22, 23, 24, 25, 26, 27, 28, 29, 30, 31, 32, 33, 34, 35, 36, 37, 38, 39, 40, 41, 42, 43, 44, 45, 46, 47, 48, 49] (by decide +kernel) rfl
          have hFc := va_free (wc := (b_k cB cC cI cJ cZ oA rA σ_45 ++ b_p cB cC cI cJ cZ oA rA σ_45 ++ b_o cB cC cI cJ cZ oA rA σ_45 ++ b_s cB cC cI cJ cZ oA rA σ_45 ++ b_c cB cC cI cJ cZ oA rA σ_45 ++ b_t cB cC cI cJ cZ oA rA σ_45 ++ b_d cB cC cI cJ cZ oA rA σ_45)) (hDD σ_45) hS hA [4, 5, 6, 7, 8, 9, 10, 11, 12, 13, 14, 15, 16, 17, 18, 19, 20, 21, 22, 23, 24, 25, 26, 27, 28, 29, 30, 31, 32, 33, 34, 35, 36, 37, 38, 39, 40, 41, 42, 43, 44, 45, 46, 47, 48, 49] rfl
          refine g_ofv (wc := (b_k cB cC cI cJ cZ oA rA σ_45 ++ b_p cB cC cI cJ cZ oA rA σ_45 ++ b_o cB cC cI cJ cZ oA rA σ_45 ++ b_s cB cC cI cJ cZ oA rA σ_45 ++ b_c cB cC cI cJ cZ oA rA σ_45 ++ b_t cB cC cI cJ cZ oA rA σ_45 ++ b_d cB cC cI cJ cZ oA rA σ_45)) (wr := (b_e cB cC cI cJ cZ oA rA σ_45)) hP (hDD σ_45) hS hFc [4, 5, 6, 7, 8, 9, 10, 11, 12, 13, 14, 15, 16, 17, 18, 19, 20, 21, 22, 23, 24, 25, 26, 27, 28, 29, 30, 31, 32, 33, 34, 35, 36, 37, 38, 39, 40, 41, 42, 43, 44, 45, 46, 47, 48, 49] [0, 1, 2, 3] rfl rfl (by decide +kernel) (by decide +kernel) (va_runV (As := [.int s_3.2.1]) (rest := []) ⟨hx, hb, hml, hown, hts⟩ (k_X3_sayName l dC dI cB cC cI cJ cZ cP oA rA H.size  s_3.2.1 σ_45 _ hu_47) (cwV 1 hts (g_gV wq_1013 wq_1014 wq_1015 wq_11 wq_1016) rfl rfl rfl (by decide +kernel) ⟨Nat.le_of_ble_eq_true rfl, Nat.le_of_ble_eq_true rfl⟩) (g_preV g_bl0 hK hPc hDc hS hE hFc g_to0 (q0 := 0) (ci := 3) rfl rfl) rfl rfl hl.1 rfl (lv_room (Nat.le_of_ble_eq_true rfl)) dX8_inventory_63 ⟨Nat.le_of_ble_eq_true rfl, Nat.le_of_ble_eq_true rfl⟩) (fun u9 H locs hw9 hP' hD' hS => ?_)
          clear hPc hDc hFc
          obtain ⟨σ_49, eσ_49, hF_50⟩ := bnd_e hF_48
          clear hF_48
          have hP : va_P (dC, dI) vwCl (b_e cB cC cI cJ cZ oA rA σ_49 ++ b_k cB cC cI cJ cZ oA rA σ_49 ++ b_p cB cC cI cJ cZ oA rA σ_49 ++ b_o cB cC cI cJ cZ oA rA σ_49 ++ b_s cB cC cI cJ cZ oA rA σ_49 ++ b_c cB cC cI cJ cZ oA rA σ_49 ++ b_t cB cC cI cJ cZ oA rA σ_49 ++ b_d cB cC cI cJ cZ oA rA σ_49) H := by rw [eσ_49]; exact hP'.sub [0, 1, 2, 3, 4, 5, 6, 7, 8, 9, 10, 11, 12, 13, 14, 15, 16, 17, 18, 19, 20, 21, 22, 23, 24, 25, 26, 27, 28, 29, 30, 31, 32, 33, 34, 35, 36, 37, 38, 39, 40, 41, 42, 43, 44, 45, 46, 47, 48, 49] rfl
          clear hP' hD'
          refine lv_aload_n hx hb dX8_inventory_66 rfl (lv_at hl 0 rfl) ?_
          refine va_get (D := (dC, dI)) (ci := 8) (v := .ref (oA 8)) (C := RX8) (T := TX8) (N := 16) hx hb hts ii_X8 hown hK hP 0 rfl rfl 1 (by decide) (hts (.fieldLink RX8 26 "StoryHouse$Teller" "told" "LStoryHouse$Out;") wq_287) (fun _ h9 => h9) rfl dX8_inventory_67 ?_
          obtain ⟨q_51, vq_51, hRq_51, hSq_51⟩ := hE.2.2.2.2 _ (List.mem_of_getElem? (i := 28) rfl)
          refine g_ldcwS (own := RX8) (tx := "") hx hb hown hRq_51 dX8_inventory_70 ?_
          obtain ⟨u_52, hu_52, hF_53⟩ := Option.bind_eq_some_iff.mp hF_50
          clear hF_50
          have hPc := hP.sub (ws' := (b_o cB cC cI cJ cZ oA rA σ_49)) [17, 18] rfl
          have hDc := (hDD σ_49).sub (ws' := (b_o cB cC cI cJ cZ oA rA σ_49)) [17, 18] (by decide +kernel) rfl
          have hFc := va_free (wc := (b_o cB cC cI cJ cZ oA rA σ_49)) (hDD σ_49) hS hA [17, 18] rfl
          refine g_ofv (wc := (b_o cB cC cI cJ cZ oA rA σ_49)) (wr := (b_e cB cC cI cJ cZ oA rA σ_49 ++ b_k cB cC cI cJ cZ oA rA σ_49 ++ b_p cB cC cI cJ cZ oA rA σ_49 ++ b_s cB cC cI cJ cZ oA rA σ_49 ++ b_c cB cC cI cJ cZ oA rA σ_49 ++ b_t cB cC cI cJ cZ oA rA σ_49 ++ b_d cB cC cI cJ cZ oA rA σ_49)) hP (hDD σ_49) hS hFc [17, 18] [0, 1, 2, 3, 4, 5, 6, 7, 8, 9, 10, 11, 12, 13, 14, 15, 16, 19, 20, 21, 22, 23, 24, 25, 26, 27, 28, 29, 30, 31, 32, 33, 34, 35, 36, 37, 38, 39, 40, 41, 42, 43, 44, 45, 46, 47, 48, 49] rfl rfl (by decide +kernel) (by decide +kernel) (va_runV (As := [.ref q_51]) (rest := []) ⟨hx, hb, hml, hown, hts⟩ (k_X5_line l dC dI cB cC cI cJ cZ cP oA rA H.size q_51 _ ([] : List Int32) σ_49 _ hu_52) (cwV 1 hts (g_gV wq_998 wq_999 wq_1000 wq_9 wq_1001) rfl rfl rfl (by decide +kernel) ⟨Nat.le_of_ble_eq_true rfl, Nat.le_of_ble_eq_true rfl⟩) (g_preV g_blS hK hPc hDc hS hE hFc (g_toS hSq_51 hS hFc) (q0 := 0) (ci := 5) rfl rfl) rfl rfl hl.1 rfl (lv_room (Nat.le_of_ble_eq_true rfl)) dX8_inventory_73 ⟨Nat.le_of_ble_eq_true rfl, Nat.le_of_ble_eq_true rfl⟩) (fun u9 H locs hw9 hP' hD' hS => ?_)
          clear hPc hDc hFc
          obtain ⟨σ_54, eσ_54, hF_55⟩ := bnd_e hF_53
          clear hF_53
          have hP : va_P (dC, dI) vwCl (b_e cB cC cI cJ cZ oA rA σ_54 ++ b_k cB cC cI cJ cZ oA rA σ_54 ++ b_p cB cC cI cJ cZ oA rA σ_54 ++ b_o cB cC cI cJ cZ oA rA σ_54 ++ b_s cB cC cI cJ cZ oA rA σ_54 ++ b_c cB cC cI cJ cZ oA rA σ_54 ++ b_t cB cC cI cJ cZ oA rA σ_54 ++ b_d cB cC cI cJ cZ oA rA σ_54) H := by rw [eσ_54]; exact hP'.sub [0, 1, 2, 3, 4, 5, 6, 7, 8, 9, 10, 11, 12, 13, 14, 15, 16, 48, 49, 17, 18, 19, 20, 21, 22, 23, 24, 25, 26, 27, 28, 29, 30, 31, 32, 33, 34, 35, 36, 37, 38, 39, 40, 41, 42, 43, 44, 45, 46, 47] rfl
          clear hP' hD'
          refine lv_iconst (v := 1) hx hb dX8_inventory_76 (by decide +kernel) ?_
          refine lv_istore_n (lv' := [(1, .int 1), (0, .ref (oA 11)), (2, .int s_3.2.1), (3, .int s_3.2.2.1)]) hx hb dX8_inventory_77 rfl hl (by decide) rfl (fun ls hl => ?_)
          exact Jj_31 1 σ_54 hF_55 _ _ hP hS ls (lv_sub hl [1, 0, 2, 3] rfl)
        · have hF_56 := ineg c_40 hF_39
          clear hF_39
          obtain ⟨q_57, vq_57, hRq_57, hSq_57⟩ := hE.2.2.2.2 _ (List.mem_of_getElem? (i := 48) rfl)
          refine g_ldcwS (own := RX8) (tx := "  ") hx hb hown hRq_57 dX8_inventory_46 ?_
          refine lv_goto (tgt := 55) hx hb dX8_inventory_49 (by decide) ?_
          obtain ⟨u_58, hu_58, hF_59⟩ := Option.bind_eq_some_iff.mp hF_56
          clear hF_56
          have hPc := hP.sub (ws' := (b_o cB cC cI cJ cZ oA rA σ_27)) [17, 18] rfl
          have hDc := (hDD σ_27).sub (ws' := (b_o cB cC cI cJ cZ oA rA σ_27)) [17, 18] (by decide +kernel) rfl
          have hFc := va_free (wc := (b_o cB cC cI cJ cZ oA rA σ_27)) (hDD σ_27) hS hA [17, 18] rfl
          refine g_ofv (wc := (b_o cB cC cI cJ cZ oA rA σ_27)) (wr := (b_e cB cC cI cJ cZ oA rA σ_27 ++ b_k cB cC cI cJ cZ oA rA σ_27 ++ b_p cB cC cI cJ cZ oA rA σ_27 ++ b_s cB cC cI cJ cZ oA rA σ_27 ++ b_c cB cC cI cJ cZ oA rA σ_27 ++ b_t cB cC cI cJ cZ oA rA σ_27 ++ b_d cB cC cI cJ cZ oA rA σ_27)) hP (hDD σ_27) hS hFc [17, 18] [0, 1, 2, 3, 4, 5, 6, 7, 8, 9, 10, 11, 12, 13, 14, 15, 16, 19, 20, 21, 22, 23, 24, 25, 26, 27, 28, 29, 30, 31, 32, 33, 34, 35, 36, 37, 38, 39, 40, 41, 42, 43, 44, 45, 46, 47, 48, 49] rfl rfl (by decide +kernel) (by decide +kernel) (va_runV (As := [.ref q_57]) (rest := []) ⟨hx, hb, hml, hown, hts⟩ (k_X5_text l dC dI cB cC cI cJ cZ cP oA rA H.size q_57 _ ([32, 32] : List Int32) σ_27 _ hu_58) (cwV 1 hts (g_gV wq_1031 wq_1003 wq_1004 wq_9 wq_1005) rfl rfl rfl (by decide +kernel) ⟨Nat.le_of_ble_eq_true rfl, Nat.le_of_ble_eq_true rfl⟩) (g_preV g_blS hK hPc hDc hS hE hFc (g_toS hSq_57 hS hFc) (q0 := 0) (ci := 5) rfl rfl) rfl rfl hl.1 rfl (lv_room (Nat.le_of_ble_eq_true rfl)) dX8_inventory_55 ⟨Nat.le_of_ble_eq_true rfl, Nat.le_of_ble_eq_true rfl⟩) (fun u9 H locs hw9 hP' hD' hS => ?_)
          clear hPc hDc hFc
          obtain ⟨σ_60, eσ_60, hF_61⟩ := bnd_e hF_59
          clear hF_59
          have hP : va_P (dC, dI) vwCl (b_e cB cC cI cJ cZ oA rA σ_60 ++ b_k cB cC cI cJ cZ oA rA σ_60 ++ b_p cB cC cI cJ cZ oA rA σ_60 ++ b_o cB cC cI cJ cZ oA rA σ_60 ++ b_s cB cC cI cJ cZ oA rA σ_60 ++ b_c cB cC cI cJ cZ oA rA σ_60 ++ b_t cB cC cI cJ cZ oA rA σ_60 ++ b_d cB cC cI cJ cZ oA rA σ_60) H := by rw [eσ_60]; exact hP'.sub [0, 1, 2, 3, 4, 5, 6, 7, 8, 9, 10, 11, 12, 13, 14, 15, 16, 48, 49, 17, 18, 19, 20, 21, 22, 23, 24, 25, 26, 27, 28, 29, 30, 31, 32, 33, 34, 35, 36, 37, 38, 39, 40, 41, 42, 43, 44, 45, 46, 47] rfl
          clear hP' hD'
          refine lv_aload_n hx hb dX8_inventory_58 rfl (lv_at hl 0 rfl) ?_
          refine va_get (D := (dC, dI)) (ci := 8) (v := .ref (oA 10)) (C := RX8) (T := TX8) (N := 16) hx hb hts ii_X8 hown hK hP 0 rfl rfl 2 (by decide) (hts (.fieldLink RX8 30 "StoryHouse$Teller" "machine" "LStoryHouse$Machine;") wq_288) (fun _ h9 => h9) rfl dX8_inventory_59 ?_
          refine lv_iload_n hx hb dX8_inventory_62 rfl (lv_at hl 2 rfl) ?_
          obtain ⟨u_62, hu_62, hF_63⟩ := Option.bind_eq_some_iff.mp hF_61
          clear hF_61
          have hPc := hP.sub (ws' := (b_k cB cC cI cJ cZ oA rA σ_60 ++ b_p cB cC cI cJ cZ oA rA σ_60 ++ b_o cB cC cI cJ cZ oA rA σ_60 ++ b_s cB cC cI cJ cZ oA rA σ_60 ++ b_c cB cC cI cJ cZ oA rA σ_60 ++ b_t cB cC cI cJ cZ oA rA σ_60 ++ b_d cB cC cI cJ cZ oA rA σ_60)) [4, 5, 6, 7, 8, 9, 10, 11, 12, 13, 14, 15, 16, 17, 18, 19, 20, 21, 22, 23, 24, 25, 26, 27, 28, 29, 30, 31, 32, 33, 34, 35, 36, 37, 38, 39, 40, 41, 42, 43, 44, 45, 46, 47, 48, 49] rfl
          have hDc := (hDD σ_60).sub (ws' := (b_k cB cC cI cJ cZ oA rA σ_60 ++ b_p cB cC cI cJ cZ oA rA σ_60 ++ b_o cB cC cI cJ cZ oA rA σ_60 ++ b_s cB cC cI cJ cZ oA rA σ_60 ++ b_c cB cC cI cJ cZ oA rA σ_60 ++ b_t cB cC cI cJ cZ oA rA σ_60 ++ b_d cB cC cI cJ cZ oA rA σ_60)) [4, 5, 6, 7, 8, 9, 10, 11, 12, 13, 14, 15, 16, 17, 18, 19, 20, 21, 22, 23, 24, 25, 26, 27, 28, 29, 30, 31, 32, 33, 34, 35, 36, 37, 38, 39, 40, 41, 42, 43, 44, 45, 46, 47, 48, 49] (by decide +kernel) rfl
          have hFc := va_free (wc := (b_k cB cC cI cJ cZ oA rA σ_60 ++ b_p cB cC cI cJ cZ oA rA σ_60 ++ b_o cB cC cI cJ cZ oA rA σ_60 ++ b_s cB cC cI cJ cZ oA rA σ_60 ++ b_c cB cC cI cJ cZ oA rA σ_60 ++ b_t cB cC cI cJ cZ oA rA σ_60 ++ b_d cB cC cI cJ cZ oA rA σ_60)) (hDD σ_60) hS hA [4, 5, 6, 7, 8, 9, 10, 11, 12, 13, 14, 15, 16, 17, 18, 19, 20, 21, 22, 23, 24, 25, 26, 27, 28, 29, 30, 31, 32, 33, 34, 35, 36, 37, 38, 39, 40, 41, 42, 43, 44, 45, 46, 47, 48, 49] rfl
          refine g_ofv (wc := (b_k cB cC cI cJ cZ oA rA σ_60 ++ b_p cB cC cI cJ cZ oA rA σ_60 ++ b_o cB cC cI cJ cZ oA rA σ_60 ++ b_s cB cC cI cJ cZ oA rA σ_60 ++ b_c cB cC cI cJ cZ oA rA σ_60 ++ b_t cB cC cI cJ cZ oA rA σ_60 ++ b_d cB cC cI cJ cZ oA rA σ_60)) (wr := (b_e cB cC cI cJ cZ oA rA σ_60)) hP (hDD σ_60) hS hFc [4, 5, 6, 7, 8, 9, 10, 11, 12, 13, 14, 15, 16, 17, 18, 19, 20, 21, 22, 23, 24, 25, 26, 27, 28, 29, 30, 31, 32, 33, 34, 35, 36, 37, 38, 39, 40, 41, 42, 43, 44, 45, 46, 47, 48, 49] [0, 1, 2, 3] rfl rfl (by decide +kernel) (by decide +kernel) (va_runV (As := [.int s_3.2.1]) (rest := []) ⟨hx, hb, hml, hown, hts⟩ (k_X3_sayName l dC dI cB cC cI cJ cZ cP oA rA H.size  s_3.2.1 σ_60 _ hu_62) (cwV 1 hts (g_gV wq_1013 wq_1014 wq_1015 wq_11 wq_1016) rfl rfl rfl (by decide +kernel) ⟨Nat.le_of_ble_eq_true rfl, Nat.le_of_ble_eq_true rfl⟩) (g_preV g_bl0 hK hPc hDc hS hE hFc g_to0 (q0 := 0) (ci := 3) rfl rfl) rfl rfl hl.1 rfl (lv_room (Nat.le_of_ble_eq_true rfl)) dX8_inventory_63 ⟨Nat.le_of_ble_eq_true rfl, Nat.le_of_ble_eq_true rfl⟩) (fun u9 H locs hw9 hP' hD' hS => ?_)
          clear hPc hDc hFc
          obtain ⟨σ_64, eσ_64, hF_65⟩ := bnd_e hF_63
          clear hF_63
          have hP : va_P (dC, dI) vwCl (b_e cB cC cI cJ cZ oA rA σ_64 ++ b_k cB cC cI cJ cZ oA rA σ_64 ++ b_p cB cC cI cJ cZ oA rA σ_64 ++ b_o cB cC cI cJ cZ oA rA σ_64 ++ b_s cB cC cI cJ cZ oA rA σ_64 ++ b_c cB cC cI cJ cZ oA rA σ_64 ++ b_t cB cC cI cJ cZ oA rA σ_64 ++ b_d cB cC cI cJ cZ oA rA σ_64) H := by rw [eσ_64]; exact hP'.sub [0, 1, 2, 3, 4, 5, 6, 7, 8, 9, 10, 11, 12, 13, 14, 15, 16, 17, 18, 19, 20, 21, 22, 23, 24, 25, 26, 27, 28, 29, 30, 31, 32, 33, 34, 35, 36, 37, 38, 39, 40, 41, 42, 43, 44, 45, 46, 47, 48, 49] rfl
          clear hP' hD'
          refine lv_aload_n hx hb dX8_inventory_66 rfl (lv_at hl 0 rfl) ?_
          refine va_get (D := (dC, dI)) (ci := 8) (v := .ref (oA 8)) (C := RX8) (T := TX8) (N := 16) hx hb hts ii_X8 hown hK hP 0 rfl rfl 1 (by decide) (hts (.fieldLink RX8 26 "StoryHouse$Teller" "told" "LStoryHouse$Out;") wq_287) (fun _ h9 => h9) rfl dX8_inventory_67 ?_
          obtain ⟨q_66, vq_66, hRq_66, hSq_66⟩ := hE.2.2.2.2 _ (List.mem_of_getElem? (i := 28) rfl)
          refine g_ldcwS (own := RX8) (tx := "") hx hb hown hRq_66 dX8_inventory_70 ?_
          obtain ⟨u_67, hu_67, hF_68⟩ := Option.bind_eq_some_iff.mp hF_65
          clear hF_65
          have hPc := hP.sub (ws' := (b_o cB cC cI cJ cZ oA rA σ_64)) [17, 18] rfl
          have hDc := (hDD σ_64).sub (ws' := (b_o cB cC cI cJ cZ oA rA σ_64)) [17, 18] (by decide +kernel) rfl
          have hFc := va_free (wc := (b_o cB cC cI cJ cZ oA rA σ_64)) (hDD σ_64) hS hA [17, 18] rfl
          refine g_ofv (wc := (b_o cB cC cI cJ cZ oA rA σ_64)) (wr := (b_e cB cC cI cJ cZ oA rA σ_64 ++ b_k cB cC cI cJ cZ oA rA σ_64 ++ b_p cB cC cI cJ cZ oA rA σ_64 ++ b_s cB cC cI cJ cZ oA rA σ_64 ++ b_c cB cC cI cJ cZ oA rA σ_64 ++ b_t cB cC cI cJ cZ oA rA σ_64 ++ b_d cB cC cI cJ cZ oA rA σ_64)) hP (hDD σ_64) hS hFc [17, 18] [0, 1, 2, 3, 4, 5, 6, 7, 8, 9, 10, 11, 12, 13, 14, 15, 16, 19, 20, 21, 22, 23, 24, 25, 26, 27, 28, 29, 30, 31, 32, 33, 34, 35, 36, 37, 38, 39, 40, 41, 42, 43, 44, 45, 46, 47, 48, 49] rfl rfl (by decide +kernel) (by decide +kernel) (va_runV (As := [.ref q_66]) (rest := []) ⟨hx, hb, hml, hown, hts⟩ (k_X5_line l dC dI cB cC cI cJ cZ cP oA rA H.size q_66 _ ([] : List Int32) σ_64 _ hu_67) (cwV 1 hts (g_gV wq_998 wq_999 wq_1000 wq_9 wq_1001) rfl rfl rfl (by decide +kernel) ⟨Nat.le_of_ble_eq_true rfl, Nat.le_of_ble_eq_true rfl⟩) (g_preV g_blS hK hPc hDc hS hE hFc (g_toS hSq_66 hS hFc) (q0 := 0) (ci := 5) rfl rfl) rfl rfl hl.1 rfl (lv_room (Nat.le_of_ble_eq_true rfl)) dX8_inventory_73 ⟨Nat.le_of_ble_eq_true rfl, Nat.le_of_ble_eq_true rfl⟩) (fun u9 H locs hw9 hP' hD' hS => ?_)
          clear hPc hDc hFc
          obtain ⟨σ_69, eσ_69, hF_70⟩ := bnd_e hF_68
          clear hF_68
          have hP : va_P (dC, dI) vwCl (b_e cB cC cI cJ cZ oA rA σ_69 ++ b_k cB cC cI cJ cZ oA rA σ_69 ++ b_p cB cC cI cJ cZ oA rA σ_69 ++ b_o cB cC cI cJ cZ oA rA σ_69 ++ b_s cB cC cI cJ cZ oA rA σ_69 ++ b_c cB cC cI cJ cZ oA rA σ_69 ++ b_t cB cC cI cJ cZ oA rA σ_69 ++ b_d cB cC cI cJ cZ oA rA σ_69) H := by rw [eσ_69]; exact hP'.sub [0, 1, 2, 3, 4, 5, 6, 7, 8, 9, 10, 11, 12, 13, 14, 15, 16, 48, 49, 17, 18, 19, 20, 21, 22, 23, 24, 25, 26, 27, 28, 29, 30, 31, 32, 33, 34, 35, 36, 37, 38, 39, 40, 41, 42, 43, 44, 45, 46, 47] rfl
          clear hP' hD'
          refine lv_iconst (v := 1) hx hb dX8_inventory_76 (by decide +kernel) ?_
          refine lv_istore_n (lv' := [(1, .int 1), (0, .ref (oA 11)), (2, .int s_3.2.1), (3, .int s_3.2.2.1)]) hx hb dX8_inventory_77 rfl hl (by decide) rfl (fun ls hl => ?_)
          exact Jj_31 1 σ_69 hF_70 _ _ hP hS ls (lv_sub hl [1, 0, 2, 3] rfl)
theorem dX8_open_0 : decode cX8_open 0 = .ok (.aload_n 0, 1) := by decide +kernel
theorem dX8_open_1 : decode cX8_open 1 = .ok (.getfield 22, 3) := by decide +kernel
theorem dX8_open_4 : decode cX8_open 4 = .ok (.aload_n 0, 1) := by decide +kernel
theorem dX8_open_5 : decode cX8_open 5 = .ok (.getfield 114, 3) := by decide +kernel
theorem dX8_open_8 : decode cX8_open 8 = .ok (.iconst 0, 1) := by decide +kernel
theorem dX8_open_9 : decode cX8_open 9 = .ok (.invokevirtual 205, 3) := by decide +kernel
theorem dX8_open_12 : decode cX8_open 12 = .ok (.ifCond .ne 16, 3) := by decide +kernel
theorem dX8_open_15 : decode cX8_open 15 = .ok (.aload_n 0, 1) := by decide +kernel
theorem dX8_open_16 : decode cX8_open 16 = .ok (.getfield 26, 3) := by decide +kernel
theorem dX8_open_19 : decode cX8_open 19 = .ok (.ldc_w 367, 3) := by decide +kernel
theorem dX8_open_22 : decode cX8_open 22 = .ok (.invokevirtual 65, 3) := by decide +kernel
theorem dX8_open_25 : decode cX8_open 25 = .ok (.goto 54, 3) := by decide +kernel
theorem dX8_open_28 : decode cX8_open 28 = .ok (.aload_n 0, 1) := by decide +kernel
theorem dX8_open_29 : decode cX8_open 29 = .ok (.getfield 22, 3) := by decide +kernel
theorem dX8_open_32 : decode cX8_open 32 = .ok (.aload_n 0, 1) := by decide +kernel
theorem dX8_open_33 : decode cX8_open 33 = .ok (.getfield 114, 3) := by decide +kernel
theorem dX8_open_36 : decode cX8_open 36 = .ok (.iconst 4, 1) := by decide +kernel
theorem dX8_open_37 : decode cX8_open 37 = .ok (.invokevirtual 205, 3) := by decide +kernel
theorem dX8_open_40 : decode cX8_open 40 = .ok (.ifCond .eq 16, 3) := by decide +kernel
theorem dX8_open_43 : decode cX8_open 43 = .ok (.aload_n 0, 1) := by decide +kernel
theorem dX8_open_44 : decode cX8_open 44 = .ok (.getfield 26, 3) := by decide +kernel
theorem dX8_open_47 : decode cX8_open 47 = .ok (.ldc_w 369, 3) := by decide +kernel
theorem dX8_open_50 : decode cX8_open 50 = .ok (.invokevirtual 65, 3) := by decide +kernel
theorem dX8_open_53 : decode cX8_open 53 = .ok (.goto 26, 3) := by decide +kernel
theorem dX8_open_56 : decode cX8_open 56 = .ok (.aload_n 0, 1) := by decide +kernel
theorem dX8_open_57 : decode cX8_open 57 = .ok (.getfield 22, 3) := by decide +kernel
theorem dX8_open_60 : decode cX8_open 60 = .ok (.aload_n 0, 1) := by decide +kernel
theorem dX8_open_61 : decode cX8_open 61 = .ok (.getfield 114, 3) := by decide +kernel
theorem dX8_open_64 : decode cX8_open 64 = .ok (.iconst 4, 1) := by decide +kernel
theorem dX8_open_65 : decode cX8_open 65 = .ok (.iconst 1, 1) := by decide +kernel
theorem dX8_open_66 : decode cX8_open 66 = .ok (.invokevirtual 371, 3) := by decide +kernel
theorem dX8_open_69 : decode cX8_open 69 = .ok (.aload_n 0, 1) := by decide +kernel
theorem dX8_open_70 : decode cX8_open 70 = .ok (.getfield 26, 3) := by decide +kernel
theorem dX8_open_73 : decode cX8_open 73 = .ok (.ldc_w 375, 3) := by decide +kernel
theorem dX8_open_76 : decode cX8_open 76 = .ok (.invokevirtual 65, 3) := by decide +kernel
theorem dX8_open_79 : decode cX8_open 79 = .ok (.return_, 1) := by decide +kernel
def F_X8_open  (Γ : HS) : HR :=
  (F_X6_bears ((Γ 11).1 10) 0 Γ).bind fun u_1 =>
  bnd (mrg (fun j => j == 9) Γ u_1.2) fun σ_3 =>
  if u_1.1 = 0 then (
    (F_X5_line ([89, 111, 117, 32, 99, 97, 110, 32, 110, 111, 116, 32, 111, 112, 101, 110, 32, 116, 104, 97, 116, 46] : List Int32) σ_3).bind fun u_8 =>
    bnd (mrg (fun j => j == 8) σ_3 u_8.2) fun σ_10 =>
    some (0, σ_10)
  ) else (
    (F_X6_bears ((σ_3 11).1 10) 4 σ_3).bind fun u_13 =>
    bnd (mrg (fun j => j == 9) σ_3 u_13.2) fun σ_15 =>
    if u_13.1 = 0 then (
      (F_X6_give ((σ_15 11).1 10) 4 1 σ_15).bind fun u_19 =>
      bnd (mrg (fun j => j == 9) σ_15 u_19.2) fun σ_21 =>
      (F_X5_line ([79, 112, 101, 110, 101, 100, 46] : List Int32) σ_21).bind fun u_24 =>
      bnd (mrg (fun j => j == 8) σ_21 u_24.2) fun σ_26 =>
      some (0, σ_26)
    ) else (
      (F_X5_line ([84, 104, 97, 116, 32, 105, 115, 32, 111, 112, 101, 110, 46] : List Int32) σ_15).bind fun u_30 =>
      bnd (mrg (fun j => j == 8) σ_15 u_30.2) fun σ_32 =>
      some (0, σ_32)
    )
  )
set_option maxHeartbeats 4000000 in
set_option maxRecDepth 100000 in
theorem k_X8_open (l : Launch) (dC : Nat → ClassId) (dI : Nat → Nat → Nat) (cB cC cI cJ cZ cP : ClassId) (oA : Nat → Nat) (rA : Nat → Nat → Nat) (sz : Nat)   (Γ : HS) (res : Int32 × HS) (hF : F_X8_open  Γ = some res) : Met l yX8_open (g_ws yX8_open cX8_open 1 none) ({ frames := 7, cells := 0, slots := 0, locals := 168 }) (va_Pc [.ref (oA 11)] (g_B (dC, dI) [(cB, .byte), (cC, .char), (cI, .int), (cJ, .long), (cZ, .boolean), (cP, .object "StoryHouse$Play")] sz (b_e cB cC cI cJ cZ oA rA Γ ++ b_k cB cC cI cJ cZ oA rA Γ ++ b_p cB cC cI cJ cZ oA rA Γ ++ b_o cB cC cI cJ cZ oA rA Γ ++ b_s cB cC cI cJ cZ oA rA Γ ++ b_c cB cC cI cJ cZ oA rA Γ ++ b_t cB cC cI cJ cZ oA rA Γ ++ b_d cB cC cI cJ cZ oA rA Γ) g_0)) (va_Qv (fun (_ : Unit) => True) (g_Bo (dC, dI) (va_A (b_e cB cC cI cJ cZ oA rA Γ ++ b_k cB cC cI cJ cZ oA rA Γ ++ b_p cB cC cI cJ cZ oA rA Γ ++ b_o cB cC cI cJ cZ oA rA Γ ++ b_s cB cC cI cJ cZ oA rA Γ ++ b_c cB cC cI cJ cZ oA rA Γ ++ b_t cB cC cI cJ cZ oA rA Γ ++ b_d cB cC cI cJ cZ oA rA Γ) sz) (fun (_ : Unit) => (b_e cB cC cI cJ cZ oA rA res.2 ++ b_k cB cC cI cJ cZ oA rA res.2 ++ b_p cB cC cI cJ cZ oA rA res.2 ++ b_o cB cC cI cJ cZ oA rA res.2 ++ b_s cB cC cI cJ cZ oA rA res.2 ++ b_c cB cC cI cJ cZ oA rA res.2 ++ b_t cB cC cI cJ cZ oA rA res.2 ++ b_d cB cC cI cJ cZ oA rA res.2))) (va_A (b_e cB cC cI cJ cZ oA rA Γ ++ b_k cB cC cI cJ cZ oA rA Γ ++ b_p cB cC cI cJ cZ oA rA Γ ++ b_o cB cC cI cJ cZ oA rA Γ ++ b_s cB cC cI cJ cZ oA rA Γ ++ b_c cB cC cI cJ cZ oA rA Γ ++ b_t cB cC cI cJ cZ oA rA Γ ++ b_d cB cC cI cJ cZ oA rA Γ) sz)) 0 0 (va_A (b_e cB cC cI cJ cZ oA rA Γ ++ b_k cB cC cI cJ cZ oA rA Γ ++ b_p cB cC cI cJ cZ oA rA Γ ++ b_o cB cC cI cJ cZ oA rA Γ ++ b_s cB cC cI cJ cZ oA rA Γ ++ b_c cB cC cI cJ cZ oA rA Γ ++ b_t cB cC cI cJ cZ oA rA Γ ++ b_d cB cC cI cJ cZ oA rA Γ) sz) := by
  refine Met.ofW (cc := cX8_open) (maxL := 1) (ret := none) (by decide) rfl ?_
  intro p e s m args below meth c s₁ B hml hv
  obtain ⟨rfl, hsz, hP, hK, hD0, hE, hX⟩ := hv
  have hx := B.exec
  have hb := B.bytes
  have hr := B.returns
  have hts0 := atoms_spec (ws := g_ws yX8_open cX8_open 1 none) B.pre
  have hts : ∀ w ∈ lw_good, w.before ([.ref (oA 11)] : List Value).toArray s = true := fun w z => hts0 w (List.mem_cons_of_mem _ z)
  have hown : s.vm.findClass RX8 = some m.cls := findClass_of_methodNamed B.named
  have hlocks := B.notSynchronized
  subst hsz
  have hD1 := hD0.self (sz := s.heap.size)
  generalize hAe : va_A (b_e cB cC cI cJ cZ oA rA Γ ++ b_k cB cC cI cJ cZ oA rA Γ ++ b_p cB cC cI cJ cZ oA rA Γ ++ b_o cB cC cI cJ cZ oA rA Γ ++ b_s cB cC cI cJ cZ oA rA Γ ++ b_c cB cC cI cJ cZ oA rA Γ ++ b_t cB cC cI cJ cZ oA rA Γ ++ b_d cB cC cI cJ cZ oA rA Γ) s.heap.size = A at hD1 hE hX ⊢
  have hA : ∀ q : Nat, s.heap.size ≤ q → A q := fun q z => by rw [← hAe]; exact Or.inr z
  have hDD : ∀ Γ : HS, va_D A (b_e cB cC cI cJ cZ oA rA Γ ++ b_k cB cC cI cJ cZ oA rA Γ ++ b_p cB cC cI cJ cZ oA rA Γ ++ b_o cB cC cI cJ cZ oA rA Γ ++ b_s cB cC cI cJ cZ oA rA Γ ++ b_c cB cC cI cJ cZ oA rA Γ ++ b_t cB cC cI cJ cZ oA rA Γ ++ b_d cB cC cI cJ cZ oA rA Γ) := fun Γ9 => va_D_fst (ws := (b_e cB cC cI cJ cZ oA rA Γ ++ b_k cB cC cI cJ cZ oA rA Γ ++ b_p cB cC cI cJ cZ oA rA Γ ++ b_o cB cC cI cJ cZ oA rA Γ ++ b_s cB cC cI cJ cZ oA rA Γ ++ b_c cB cC cI cJ cZ oA rA Γ ++ b_t cB cC cI cJ cZ oA rA Γ ++ b_d cB cC cI cJ cZ oA rA Γ)) (ws' := (b_e cB cC cI cJ cZ oA rA Γ9 ++ b_k cB cC cI cJ cZ oA rA Γ9 ++ b_p cB cC cI cJ cZ oA rA Γ9 ++ b_o cB cC cI cJ cZ oA rA Γ9 ++ b_s cB cC cI cJ cZ oA rA Γ9 ++ b_c cB cC cI cJ cZ oA rA Γ9 ++ b_t cB cC cI cJ cZ oA rA Γ9 ++ b_d cB cC cI cJ cZ oA rA Γ9)) rfl hD1
  have hN := hE.1
  have hS : va_S A s.heap s.heap [] := va_S.rf
  have hl := lv_entry ([.ref (oA 11)]) (n := 1) (Nat.le_of_ble_eq_true rfl)
  rw [lg_entry_eq]
  generalize (lg_sl ([.ref (oA 11)]) ++ List.replicate (1 - (lg_sl ([.ref (oA 11)])).length) Slot.unset).toArray = ls at hl ⊢
  have hl : lv_has ls 1 [(0, .ref (oA 11))] := hl
  unfold F_X8_open at hF
  refine lv_aload_n hx hb dX8_open_0 rfl (lv_at hl 0 rfl) ?_
  refine va_get (D := (dC, dI)) (ci := 8) (v := .ref (oA 9)) (C := RX8) (T := TX8) (N := 16) hx hb hts ii_X8 hown hK hP 0 rfl rfl 0 (by decide) (hts (.fieldLink RX8 22 "StoryHouse$Teller" "play" "LStoryHouse$Play;") wq_286) (fun _ h9 => h9) rfl dX8_open_1 ?_
  refine lv_aload_n hx hb dX8_open_4 rfl (lv_at hl 0 rfl) ?_
  refine va_get (D := (dC, dI)) (ci := 8) (v := .int ((Γ 11).1 10)) (C := RX8) (T := TX8) (N := 16) hx hb hts ii_X8 hown hK hP 0 rfl rfl 10 (by decide) (hts (.fieldLink RX8 114 "StoryHouse$Teller" "noun" "I") wq_297) (fun _ h9 => h9) rfl dX8_open_5 ?_
  refine lv_iconst (v := 0) hx hb dX8_open_8 (by decide +kernel) ?_
  obtain ⟨u_1, hu_1, hF_2⟩ := Option.bind_eq_some_iff.mp hF
  clear hF
  have hPc := hP.sub (ws' := (b_p cB cC cI cJ cZ oA rA Γ)) [9, 10, 11, 12, 13, 14, 15, 16] rfl
  have hDc := (hDD Γ).sub (ws' := (b_p cB cC cI cJ cZ oA rA Γ)) [9, 10, 11, 12, 13, 14, 15, 16] (by decide +kernel) rfl
  have hFc := va_free (wc := (b_p cB cC cI cJ cZ oA rA Γ)) (hDD Γ) hS hA [9, 10, 11, 12, 13, 14, 15, 16] rfl
  refine g_ofi (wc := (b_p cB cC cI cJ cZ oA rA Γ)) (wr := (b_e cB cC cI cJ cZ oA rA Γ ++ b_k cB cC cI cJ cZ oA rA Γ ++ b_o cB cC cI cJ cZ oA rA Γ ++ b_s cB cC cI cJ cZ oA rA Γ ++ b_c cB cC cI cJ cZ oA rA Γ ++ b_t cB cC cI cJ cZ oA rA Γ ++ b_d cB cC cI cJ cZ oA rA Γ)) hP (hDD Γ) hS hFc [9, 10, 11, 12, 13, 14, 15, 16] [0, 1, 2, 3, 4, 5, 6, 7, 8, 17, 18, 19, 20, 21, 22, 23, 24, 25, 26, 27, 28, 29, 30, 31, 32, 33, 34, 35, 36, 37, 38, 39, 40, 41, 42, 43, 44, 45, 46, 47, 48, 49] rfl rfl (by decide +kernel) (by decide +kernel) (va_runV (As := [.int ((Γ 11).1 10), .int 0]) (rest := []) ⟨hx, hb, hml, hown, hts⟩ (k_X6_bears l dC dI cB cC cI cJ cZ cP oA rA s.heap.size  ((Γ 11).1 10) 0 Γ _ hu_1) (cwV 2 hts (g_gV wq_1030 wq_987 wq_988 wq_10 wq_989) rfl rfl rfl (by decide +kernel) ⟨Nat.le_of_ble_eq_true rfl, Nat.le_of_ble_eq_true rfl⟩) (g_preV g_bl0 hK hPc hDc hS hE hFc g_to0 (q0 := 0) (ci := 6) rfl rfl) rfl rfl hl.1 rfl (lv_room (Nat.le_of_ble_eq_true rfl)) dX8_open_9 ⟨Nat.le_of_ble_eq_true rfl, Nat.le_of_ble_eq_true rfl⟩) (fun r9 u9 H locs hw9 hP' hD' hS => ?_)
  clear hPc hDc hFc
  subst hw9
  obtain ⟨σ_3, eσ_3, hF_4⟩ := bnd_e hF_2
  clear hF_2
  have hP : va_P (dC, dI) vwCl (b_e cB cC cI cJ cZ oA rA σ_3 ++ b_k cB cC cI cJ cZ oA rA σ_3 ++ b_p cB cC cI cJ cZ oA rA σ_3 ++ b_o cB cC cI cJ cZ oA rA σ_3 ++ b_s cB cC cI cJ cZ oA rA σ_3 ++ b_c cB cC cI cJ cZ oA rA σ_3 ++ b_t cB cC cI cJ cZ oA rA σ_3 ++ b_d cB cC cI cJ cZ oA rA σ_3) H := by rw [eσ_3]; exact hP'.sub [0, 1, 2, 3, 4, 5, 6, 7, 8, 42, 43, 44, 45, 46, 47, 48, 49, 9, 10, 11, 12, 13, 14, 15, 16, 17, 18, 19, 20, 21, 22, 23, 24, 25, 26, 27, 28, 29, 30, 31, 32, 33, 34, 35, 36, 37, 38, 39, 40, 41] rfl
  clear hP' hD'
  refine lv_if_ne (tgt := 28) hx hb dX8_open_12 (by decide) (fun c_5 => ?_) (fun c_5 => ?_)
  · have hF_12 := ineg c_5 hF_4
    clear hF_4
    refine lv_aload_n hx hb dX8_open_28 rfl (lv_at hl 0 rfl) ?_
    refine va_get (D := (dC, dI)) (ci := 8) (v := .ref (oA 9)) (C := RX8) (T := TX8) (N := 16) hx hb hts ii_X8 hown hK hP 0 rfl rfl 0 (by decide) (hts (.fieldLink RX8 22 "StoryHouse$Teller" "play" "LStoryHouse$Play;") wq_286) (fun _ h9 => h9) rfl dX8_open_29 ?_
    refine lv_aload_n hx hb dX8_open_32 rfl (lv_at hl 0 rfl) ?_
    refine va_get (D := (dC, dI)) (ci := 8) (v := .int ((σ_3 11).1 10)) (C := RX8) (T := TX8) (N := 16) hx hb hts ii_X8 hown hK hP 0 rfl rfl 10 (by decide) (hts (.fieldLink RX8 114 "StoryHouse$Teller" "noun" "I") wq_297) (fun _ h9 => h9) rfl dX8_open_33 ?_
    refine lv_iconst (v := 4) hx hb dX8_open_36 (by decide +kernel) ?_
    obtain ⟨u_13, hu_13, hF_14⟩ := Option.bind_eq_some_iff.mp hF_12
    clear hF_12
    have hPc := hP.sub (ws' := (b_p cB cC cI cJ cZ oA rA σ_3)) [9, 10, 11, 12, 13, 14, 15, 16] rfl
    have hDc := (hDD σ_3).sub (ws' := (b_p cB cC cI cJ cZ oA rA σ_3)) [9, 10, 11, 12, 13, 14, 15, 16] (by decide +kernel) rfl
    have hFc := va_free (wc := (b_p cB cC cI cJ cZ oA rA σ_3)) (hDD σ_3) hS hA [9, 10, 11, 12, 13, 14, 15, 16] rfl
    refine g_ofi (wc := (b_p cB cC cI cJ cZ oA rA σ_3)) (wr := (b_e cB cC cI cJ cZ oA rA σ_3 ++ b_k cB cC cI cJ cZ oA rA σ_3 ++ b_o cB cC cI cJ cZ oA rA σ_3 ++ b_s cB cC cI cJ cZ oA rA σ_3 ++ b_c cB cC cI cJ cZ oA rA σ_3 ++ b_t cB cC cI cJ cZ oA rA σ_3 ++ b_d cB cC cI cJ cZ oA rA σ_3)) hP (hDD σ_3) hS hFc [9, 10, 11, 12, 13, 14, 15, 16] [0, 1, 2, 3, 4, 5, 6, 7, 8, 17, 18, 19, 20, 21, 22, 23, 24, 25, 26, 27, 28, 29, 30, 31, 32, 33, 34, 35, 36, 37, 38, 39, 40, 41, 42, 43, 44, 45, 46, 47, 48, 49] rfl rfl (by decide +kernel) (by decide +kernel) (va_runV (As := [.int ((σ_3 11).1 10), .int 4]) (rest := []) ⟨hx, hb, hml, hown, hts⟩ (k_X6_bears l dC dI cB cC cI cJ cZ cP oA rA H.size  ((σ_3 11).1 10) 4 σ_3 _ hu_13) (cwV 2 hts (g_gV wq_1030 wq_987 wq_988 wq_10 wq_989) rfl rfl rfl (by decide +kernel) ⟨Nat.le_of_ble_eq_true rfl, Nat.le_of_ble_eq_true rfl⟩) (g_preV g_bl0 hK hPc hDc hS hE hFc g_to0 (q0 := 0) (ci := 6) rfl rfl) rfl rfl hl.1 rfl (lv_room (Nat.le_of_ble_eq_true rfl)) dX8_open_37 ⟨Nat.le_of_ble_eq_true rfl, Nat.le_of_ble_eq_true rfl⟩) (fun r9 u9 H locs hw9 hP' hD' hS => ?_)
    clear hPc hDc hFc
    subst hw9
    obtain ⟨σ_15, eσ_15, hF_16⟩ := bnd_e hF_14
    clear hF_14
    have hP : va_P (dC, dI) vwCl (b_e cB cC cI cJ cZ oA rA σ_15 ++ b_k cB cC cI cJ cZ oA rA σ_15 ++ b_p cB cC cI cJ cZ oA rA σ_15 ++ b_o cB cC cI cJ cZ oA rA σ_15 ++ b_s cB cC cI cJ cZ oA rA σ_15 ++ b_c cB cC cI cJ cZ oA rA σ_15 ++ b_t cB cC cI cJ cZ oA rA σ_15 ++ b_d cB cC cI cJ cZ oA rA σ_15) H := by rw [eσ_15]; exact hP'.sub [0, 1, 2, 3, 4, 5, 6, 7, 8, 42, 43, 44, 45, 46, 47, 48, 49, 9, 10, 11, 12, 13, 14, 15, 16, 17, 18, 19, 20, 21, 22, 23, 24, 25, 26, 27, 28, 29, 30, 31, 32, 33, 34, 35, 36, 37, 38, 39, 40, 41] rfl
    clear hP' hD'
    refine lv_if_eq (tgt := 56) hx hb dX8_open_40 (by decide) (fun c_17 => ?_) (fun c_17 => ?_)
    · have hF_18 := ipos c_17 hF_16
      clear hF_16
      refine lv_aload_n hx hb dX8_open_56 rfl (lv_at hl 0 rfl) ?_
      refine va_get (D := (dC, dI)) (ci := 8) (v := .ref (oA 9)) (C := RX8) (T := TX8) (N := 16) hx hb hts ii_X8 hown hK hP 0 rfl rfl 0 (by decide) (hts (.fieldLink RX8 22 "StoryHouse$Teller" "play" "LStoryHouse$Play;") wq_286) (fun _ h9 => h9) rfl dX8_open_57 ?_
      refine lv_aload_n hx hb dX8_open_60 rfl (lv_at hl 0 rfl) ?_
      refine va_get (D := (dC, dI)) (ci := 8) (v := .int ((σ_15 11).1 10)) (C := RX8) (T := TX8) (N := 16) hx hb hts ii_X8 hown hK hP 0 rfl rfl 10 (by decide) (hts (.fieldLink RX8 114 "StoryHouse$Teller" "noun" "I") wq_297) (fun _ h9 => h9) rfl dX8_open_61 ?_
      refine lv_iconst (v := 4) hx hb dX8_open_64 (by decide +kernel) ?_
      refine lv_iconst (v := 1) hx hb dX8_open_65 (by decide +kernel) ?_
      obtain ⟨u_19, hu_19, hF_20⟩ := Option.bind_eq_some_iff.mp hF_18
      clear hF_18
      have hPc := hP.sub (ws' := (b_p cB cC cI cJ cZ oA rA σ_15)) [9, 10, 11, 12, 13, 14, 15, 16] rfl
      have hDc := (hDD σ_15).sub (ws' := (b_p cB cC cI cJ cZ oA rA σ_15)) [9, 10, 11, 12, 13, 14, 15, 16] (by decide +kernel) rfl
      have hFc := va_free (wc := (b_p cB cC cI cJ cZ oA rA σ_15)) (hDD σ_15) hS hA [9, 10, 11, 12, 13, 14, 15, 16] rfl
      refine g_ofv (wc := (b_p cB cC cI cJ cZ oA rA σ_15)) (wr := (b_e cB cC cI cJ cZ oA rA σ_15 ++ b_k cB cC cI cJ cZ oA rA σ_15 ++ b_o cB cC cI cJ cZ oA rA σ_15 ++ b_s cB cC cI cJ cZ oA rA σ_15 ++ b_c cB cC cI cJ cZ oA rA σ_15 ++ b_t cB cC cI cJ cZ oA rA σ_15 ++ b_d cB cC cI cJ cZ oA rA σ_15)) hP (hDD σ_15) hS hFc [9, 10, 11, 12, 13, 14, 15, 16] [0, 1, 2, 3, 4, 5, 6, 7, 8, 17, 18, 19, 20, 21, 22, 23, 24, 25, 26, 27, 28, 29, 30, 31, 32, 33, 34, 35, 36, 37, 38, 39, 40, 41, 42, 43, 44, 45, 46, 47, 48, 49] rfl rfl (by decide +kernel) (by decide +kernel) (va_runV (As := [.int ((σ_15 11).1 10), .int 4, .int 1]) (rest := []) ⟨hx, hb, hml, hown, hts⟩ (k_X6_give l dC dI cB cC cI cJ cZ cP oA rA H.size  ((σ_15 11).1 10) 4 1 σ_15 _ hu_19) (cwV 3 hts (g_gV wq_1239 wq_1172 wq_1173 wq_10 wq_1174) rfl rfl rfl (by decide +kernel) ⟨Nat.le_of_ble_eq_true rfl, Nat.le_of_ble_eq_true rfl⟩) (g_preV g_bl0 hK hPc hDc hS hE hFc g_to0 (q0 := 0) (ci := 6) rfl rfl) rfl rfl hl.1 rfl (lv_room (Nat.le_of_ble_eq_true rfl)) dX8_open_66 ⟨Nat.le_of_ble_eq_true rfl, Nat.le_of_ble_eq_true rfl⟩) (fun u9 H locs hw9 hP' hD' hS => ?_)
      clear hPc hDc hFc
      obtain ⟨σ_21, eσ_21, hF_22⟩ := bnd_e hF_20
      clear hF_20
      have hP : va_P (dC, dI) vwCl (b_e cB cC cI cJ cZ oA rA σ_21 ++ b_k cB cC cI cJ cZ oA rA σ_21 ++ b_p cB cC cI cJ cZ oA rA σ_21 ++ b_o cB cC cI cJ cZ oA rA σ_21 ++ b_s cB cC cI cJ cZ oA rA σ_21 ++ b_c cB cC cI cJ cZ oA rA σ_21 ++ b_t cB cC cI cJ cZ oA rA σ_21 ++ b_d cB cC cI cJ cZ oA rA σ_21) H := by rw [eσ_21]; exact hP'.sub [0, 1, 2, 3, 4, 5, 6, 7, 8, 42, 43, 44, 45, 46, 47, 48, 49, 9, 10, 11, 12, 13, 14, 15, 16, 17, 18, 19, 20, 21, 22, 23, 24, 25, 26, 27, 28, 29, 30, 31, 32, 33, 34, 35, 36, 37, 38, 39, 40, 41] rfl
      clear hP' hD'
      refine lv_aload_n hx hb dX8_open_69 rfl (lv_at hl 0 rfl) ?_
      refine va_get (D := (dC, dI)) (ci := 8) (v := .ref (oA 8)) (C := RX8) (T := TX8) (N := 16) hx hb hts ii_X8 hown hK hP 0 rfl rfl 1 (by decide) (hts (.fieldLink RX8 26 "StoryHouse$Teller" "told" "LStoryHouse$Out;") wq_287) (fun _ h9 => h9) rfl dX8_open_70 ?_
      obtain ⟨q_23, vq_23, hRq_23, hSq_23⟩ := hE.2.2.2.2 _ (List.mem_of_getElem? (i := 60) rfl)
      refine g_ldcwS (own := RX8) (tx := "Opened.") hx hb hown hRq_23 dX8_open_73 ?_
      obtain ⟨u_24, hu_24, hF_25⟩ := Option.bind_eq_some_iff.mp hF_22
      clear hF_22
      have hPc := hP.sub (ws' := (b_o cB cC cI cJ cZ oA rA σ_21)) [17, 18] rfl
      have hDc := (hDD σ_21).sub (ws' := (b_o cB cC cI cJ cZ oA rA σ_21)) [17, 18] (by decide +kernel) rfl
      have hFc := va_free (wc := (b_o cB cC cI cJ cZ oA rA σ_21)) (hDD σ_21) hS hA [17, 18] rfl
      refine g_ofv (wc := (b_o cB cC cI cJ cZ oA rA σ_21)) (wr := (b_e cB cC cI cJ cZ oA rA σ_21 ++ b_k cB cC cI cJ cZ oA rA σ_21 ++ b_p cB cC cI cJ cZ oA rA σ_21 ++ b_s cB cC cI cJ cZ oA rA σ_21 ++ b_c cB cC cI cJ cZ oA rA σ_21 ++ b_t cB cC cI cJ cZ oA rA σ_21 ++ b_d cB cC cI cJ cZ oA rA σ_21)) hP (hDD σ_21) hS hFc [17, 18] [0, 1, 2, 3, 4, 5, 6, 7, 8, 9, 10, 11, 12, 13, 14, 15, 16, 19, 20, 21, 22, 23, 24, 25, 26, 27, 28, 29, 30, 31, 32, 33, 34, 35, 36, 37, 38, 39, 40, 41, 42, 43, 44, 45, 46, 47, 48, 49] rfl rfl (by decide +kernel) (by decide +kernel) (va_runV (As := [.ref q_23]) (rest := []) ⟨hx, hb, hml, hown, hts⟩ (k_X5_line l dC dI cB cC cI cJ cZ cP oA rA H.size q_23 _ ([79, 112, 101, 110, 101, 100, 46] : List Int32) σ_21 _ hu_24) (cwV 1 hts (g_gV wq_998 wq_999 wq_1000 wq_9 wq_1001) rfl rfl rfl (by decide +kernel) ⟨Nat.le_of_ble_eq_true rfl, Nat.le_of_ble_eq_true rfl⟩) (g_preV g_blS hK hPc hDc hS hE hFc (g_toS hSq_23 hS hFc) (q0 := 0) (ci := 5) rfl rfl) rfl rfl hl.1 rfl (lv_room (Nat.le_of_ble_eq_true rfl)) dX8_open_76 ⟨Nat.le_of_ble_eq_true rfl, Nat.le_of_ble_eq_true rfl⟩) (fun u9 H locs hw9 hP' hD' hS => ?_)
      clear hPc hDc hFc
      obtain ⟨σ_26, eσ_26, hF_27⟩ := bnd_e hF_25
      clear hF_25
      have hP : va_P (dC, dI) vwCl (b_e cB cC cI cJ cZ oA rA σ_26 ++ b_k cB cC cI cJ cZ oA rA σ_26 ++ b_p cB cC cI cJ cZ oA rA σ_26 ++ b_o cB cC cI cJ cZ oA rA σ_26 ++ b_s cB cC cI cJ cZ oA rA σ_26 ++ b_c cB cC cI cJ cZ oA rA σ_26 ++ b_t cB cC cI cJ cZ oA rA σ_26 ++ b_d cB cC cI cJ cZ oA rA σ_26) H := by rw [eσ_26]; exact hP'.sub [0, 1, 2, 3, 4, 5, 6, 7, 8, 9, 10, 11, 12, 13, 14, 15, 16, 48, 49, 17, 18, 19, 20, 21, 22, 23, 24, 25, 26, 27, 28, 29, 30, 31, 32, 33, 34, 35, 36, 37, 38, 39, 40, 41, 42, 43, 44, 45, 46, 47] rfl
      clear hP' hD'
      have h9 := Option.some.inj hF_27
      subst h9
      exact W.vret hx hb hr (fun t ht hW => ⟨⟨(), rfl, trivial, m_end ht hP, hDD _⟩, hS.F ht⟩) hS.2.2 dX8_open_79
    · have hF_28 := ineg c_17 hF_16
      clear hF_16
      refine lv_aload_n hx hb dX8_open_43 rfl (lv_at hl 0 rfl) ?_
      refine va_get (D := (dC, dI)) (ci := 8) (v := .ref (oA 8)) (C := RX8) (T := TX8) (N := 16) hx hb hts ii_X8 hown hK hP 0 rfl rfl 1 (by decide) (hts (.fieldLink RX8 26 "StoryHouse$Teller" "told" "LStoryHouse$Out;") wq_287) (fun _ h9 => h9) rfl dX8_open_44 ?_
      obtain ⟨q_29, vq_29, hRq_29, hSq_29⟩ := hE.2.2.2.2 _ (List.mem_of_getElem? (i := 59) rfl)
      refine g_ldcwS (own := RX8) (tx := "That is open.") hx hb hown hRq_29 dX8_open_47 ?_
      obtain ⟨u_30, hu_30, hF_31⟩ := Option.bind_eq_some_iff.mp hF_28
      clear hF_28
      have hPc := hP.sub (ws' := (b_o cB cC cI cJ cZ oA rA σ_15)) [17, 18] rfl
      have hDc := (hDD σ_15).sub (ws' := (b_o cB cC cI cJ cZ oA rA σ_15)) [17, 18] (by decide +kernel) rfl
      have hFc := va_free (wc := (b_o cB cC cI cJ cZ oA rA σ_15)) (hDD σ_15) hS hA [17, 18] rfl
      refine g_ofv (wc := (b_o cB cC cI cJ cZ oA rA σ_15)) (wr := (b_e cB cC cI cJ cZ oA rA σ_15 ++ b_k cB cC cI cJ cZ oA rA σ_15 ++ b_p cB cC cI cJ cZ oA rA σ_15 ++ b_s cB cC cI cJ cZ oA rA σ_15 ++ b_c cB cC cI cJ cZ oA rA σ_15 ++ b_t cB cC cI cJ cZ oA rA σ_15 ++ b_d cB cC cI cJ cZ oA rA σ_15)) hP (hDD σ_15) hS hFc [17, 18] [0, 1, 2, 3, 4, 5, 6, 7, 8, 9, 10, 11, 12, 13, 14, 15, 16, 19, 20, 21, 22, 23, 24, 25, 26, 27, 28, 29, 30, 31, 32, 33, 34, 35, 36, 37, 38, 39, 40, 41, 42, 43, 44, 45, 46, 47, 48, 49] rfl rfl (by decide +kernel) (by decide +kernel) (va_runV (As := [.ref q_29]) (rest := []) ⟨hx, hb, hml, hown, hts⟩ (k_X5_line l dC dI cB cC cI cJ cZ cP oA rA H.size q_29 _ ([84, 104, 97, 116, 32, 105, 115, 32, 111, 112, 101, 110, 46] : List Int32) σ_15 _ hu_30) (cwV 1 hts (g_gV wq_998 wq_999 wq_1000 wq_9 wq_1001) rfl rfl rfl (by decide +kernel) ⟨Nat.le_of_ble_eq_true rfl, Nat.le_of_ble_eq_true rfl⟩) (g_preV g_blS hK hPc hDc hS hE hFc (g_toS hSq_29 hS hFc) (q0 := 0) (ci := 5) rfl rfl) rfl rfl hl.1 rfl (lv_room (Nat.le_of_ble_eq_true rfl)) dX8_open_50 ⟨Nat.le_of_ble_eq_true rfl, Nat.le_of_ble_eq_true rfl⟩) (fun u9 H locs hw9 hP' hD' hS => ?_)
      clear hPc hDc hFc
      obtain ⟨σ_32, eσ_32, hF_33⟩ := bnd_e hF_31
      clear hF_31
      have hP : va_P (dC, dI) vwCl (b_e cB cC cI cJ cZ oA rA σ_32 ++ b_k cB cC cI cJ cZ oA rA σ_32 ++ b_p cB cC cI cJ cZ oA rA σ_32 ++ b_o cB cC cI cJ cZ oA rA σ_32 ++ b_s cB cC cI cJ cZ oA rA σ_32 ++ b_c cB cC cI cJ cZ oA rA σ_32 ++ b_t cB cC cI cJ cZ oA rA σ_32 ++ b_d cB cC cI cJ cZ oA rA σ_32) H := by rw [eσ_32]; exact hP'.sub [0, 1, 2, 3, 4, 5, 6, 7, 8, 9, 10, 11, 12, 13, 14, 15, 16, 48, 49, 17, 18, 19, 20, 21, 22, 23, 24, 25, 26, 27, 28, 29, 30, 31, 32, 33, 34, 35, 36, 37, 38, 39, 40, 41, 42, 43, 44, 45, 46, 47] rfl
      clear hP' hD'
      refine lv_goto (tgt := 79) hx hb dX8_open_53 (by decide) ?_
      have h9 := Option.some.inj hF_33
      subst h9
      exact W.vret hx hb hr (fun t ht hW => ⟨⟨(), rfl, trivial, m_end ht hP, hDD _⟩, hS.F ht⟩) hS.2.2 dX8_open_79
  · have hF_6 := ipos c_5 hF_4
    clear hF_4
    refine lv_aload_n hx hb dX8_open_15 rfl (lv_at hl 0 rfl) ?_
    refine va_get (D := (dC, dI)) (ci := 8) (v := .ref (oA 8)) (C := RX8) (T := TX8) (N := 16) hx hb hts ii_X8 hown hK hP 0 rfl rfl 1 (by decide) (hts (.fieldLink RX8 26 "StoryHouse$Teller" "told" "LStoryHouse$Out;") wq_287) (fun _ h9 => h9) rfl dX8_open_16 ?_
    obtain ⟨q_7, vq_7, hRq_7, hSq_7⟩ := hE.2.2.2.2 _ (List.mem_of_getElem? (i := 58) rfl)
    refine g_ldcwS (own := RX8) (tx := "You can not open that.") hx hb hown hRq_7 dX8_open_19 ?_
    obtain ⟨u_8, hu_8, hF_9⟩ := Option.bind_eq_some_iff.mp hF_6
    clear hF_6
    have hPc := hP.sub (ws' := (b_o cB cC cI cJ cZ oA rA σ_3)) [17, 18] rfl
    have hDc := (hDD σ_3).sub (ws' := (b_o cB cC cI cJ cZ oA rA σ_3)) [17, 18] (by decide +kernel) rfl
    have hFc := va_free (wc := (b_o cB cC cI cJ cZ oA rA σ_3)) (hDD σ_3) hS hA [17, 18] rfl
    refine g_ofv (wc := (b_o cB cC cI cJ cZ oA rA σ_3)) (wr := (b_e cB cC cI cJ cZ oA rA σ_3 ++ b_k cB cC cI cJ cZ oA rA σ_3 ++ b_p cB cC cI cJ cZ oA rA σ_3 ++ b_s cB cC cI cJ cZ oA rA σ_3 ++ b_c cB cC cI cJ cZ oA rA σ_3 ++ b_t cB cC cI cJ cZ oA rA σ_3 ++ b_d cB cC cI cJ cZ oA rA σ_3)) hP (hDD σ_3) hS hFc [17, 18] [0, 1, 2, 3, 4, 5, 6, 7, 8, 9, 10, 11, 12, 13, 14, 15, 16, 19, 20, 21, 22, 23, 24, 25, 26, 27, 28, 29, 30, 31, 32, 33, 34, 35, 36, 37, 38, 39, 40, 41, 42, 43, 44, 45, 46, 47, 48, 49] rfl rfl (by decide +kernel) (by decide +kernel) (va_runV (As := [.ref q_7]) (rest := []) ⟨hx, hb, hml, hown, hts⟩ (k_X5_line l dC dI cB cC cI cJ cZ cP oA rA H.size q_7 _ ([89, 111, 117, 32, 99, 97, 110, 32, 110, 111, 116, 32, 111, 112, 101, 110, 32, 116, 104, 97, 116, 46] : List Int32) σ_3 _ hu_8) (cwV 1 hts (g_gV wq_998 wq_999 wq_1000 wq_9 wq_1001) rfl rfl rfl (by decide +kernel) ⟨Nat.le_of_ble_eq_true rfl, Nat.le_of_ble_eq_true rfl⟩) (g_preV g_blS hK hPc hDc hS hE hFc (g_toS hSq_7 hS hFc) (q0 := 0) (ci := 5) rfl rfl) rfl rfl hl.1 rfl (lv_room (Nat.le_of_ble_eq_true rfl)) dX8_open_22 ⟨Nat.le_of_ble_eq_true rfl, Nat.le_of_ble_eq_true rfl⟩) (fun u9 H locs hw9 hP' hD' hS => ?_)
    clear hPc hDc hFc
    obtain ⟨σ_10, eσ_10, hF_11⟩ := bnd_e hF_9
    clear hF_9
    have hP : va_P (dC, dI) vwCl (b_e cB cC cI cJ cZ oA rA σ_10 ++ b_k cB cC cI cJ cZ oA rA σ_10 ++ b_p cB cC cI cJ cZ oA rA σ_10 ++ b_o cB cC cI cJ cZ oA rA σ_10 ++ b_s cB cC cI cJ cZ oA rA σ_10 ++ b_c cB cC cI cJ cZ oA rA σ_10 ++ b_t cB cC cI cJ cZ oA rA σ_10 ++ b_d cB cC cI cJ cZ oA rA σ_10) H := by rw [eσ_10]; exact hP'.sub [0, 1, 2, 3, 4, 5, 6, 7, 8, 9, 10, 11, 12, 13, 14, 15, 16, 48, 49, 17, 18, 19, 20, 21, 22, 23, 24, 25, 26, 27, 28, 29, 30, 31, 32, 33, 34, 35, 36, 37, 38, 39, 40, 41, 42, 43, 44, 45, 46, 47] rfl
    clear hP' hD'
    refine lv_goto (tgt := 79) hx hb dX8_open_25 (by decide) ?_
    have h9 := Option.some.inj hF_11
    subst h9
    exact W.vret hx hb hr (fun t ht hW => ⟨⟨(), rfl, trivial, m_end ht hP, hDD _⟩, hS.F ht⟩) hS.2.2 dX8_open_79
