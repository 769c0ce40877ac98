/-! methods of the class: what each does is its function -/
theorem dX8_examine_0 : decode cX8_examine 0 = .ok (.aload_n 0, 1) := by decide +kernel
theorem dX8_examine_1 : decode cX8_examine 1 = .ok (.getfield 85, 3) := by decide +kernel
theorem dX8_examine_4 : decode cX8_examine 4 = .ok (.getfield 318, 3) := by decide +kernel
theorem dX8_examine_7 : decode cX8_examine 7 = .ok (.aload_n 0, 1) := by decide +kernel
theorem dX8_examine_8 : decode cX8_examine 8 = .ok (.getfield 114, 3) := by decide +kernel
theorem dX8_examine_11 : decode cX8_examine 11 = .ok (.invokestatic 70, 3) := by decide +kernel
theorem dX8_examine_14 : decode cX8_examine 14 = .ok (.iconst (-1), 1) := by decide +kernel
theorem dX8_examine_15 : decode cX8_examine 15 = .ok (.if_icmp .ne 16, 3) := by decide +kernel
theorem dX8_examine_18 : decode cX8_examine 18 = .ok (.aload_n 0, 1) := by decide +kernel
theorem dX8_examine_19 : decode cX8_examine 19 = .ok (.getfield 26, 3) := by decide +kernel
theorem dX8_examine_22 : decode cX8_examine 22 = .ok (.ldc_w 365, 3) := by decide +kernel
theorem dX8_examine_25 : decode cX8_examine 25 = .ok (.invokevirtual 65, 3) := by decide +kernel
theorem dX8_examine_28 : decode cX8_examine 28 = .ok (.goto 34, 3) := by decide +kernel
theorem dX8_examine_31 : decode cX8_examine 31 = .ok (.aload_n 0, 1) := by decide +kernel
theorem dX8_examine_32 : decode cX8_examine 32 = .ok (.getfield 30, 3) := by decide +kernel
theorem dX8_examine_35 : decode cX8_examine 35 = .ok (.aload_n 0, 1) := by decide +kernel
theorem dX8_examine_36 : decode cX8_examine 36 = .ok (.getfield 85, 3) := by decide +kernel
theorem dX8_examine_39 : decode cX8_examine 39 = .ok (.getfield 318, 3) := by decide +kernel
theorem dX8_examine_42 : decode cX8_examine 42 = .ok (.aload_n 0, 1) := by decide +kernel
theorem dX8_examine_43 : decode cX8_examine 43 = .ok (.getfield 114, 3) := by decide +kernel
theorem dX8_examine_46 : decode cX8_examine 46 = .ok (.invokestatic 70, 3) := by decide +kernel
theorem dX8_examine_49 : decode cX8_examine 49 = .ok (.invokevirtual 321, 3) := by decide +kernel
theorem dX8_examine_52 : decode cX8_examine 52 = .ok (.aload_n 0, 1) := by decide +kernel
theorem dX8_examine_53 : decode cX8_examine 53 = .ok (.getfield 26, 3) := by decide +kernel
theorem dX8_examine_56 : decode cX8_examine 56 = .ok (.ldc_w 316, 3) := by decide +kernel
theorem dX8_examine_59 : decode cX8_examine 59 = .ok (.invokevirtual 65, 3) := by decide +kernel
theorem dX8_examine_62 : decode cX8_examine 62 = .ok (.return_, 1) := by decide +kernel
def F_X8_examine  (Γ : HS) : HR :=
  bnd (((Γ 11).1 10)) fun (x_1 : Int32) =>
  bnd ((g_at 121 ((Γ 4).2.1 3) x_1)) fun (x_3 : Int32) =>
  if x_3 = (-1) then (
    (F_X5_line ([89, 111, 117, 32, 115, 101, 101, 32, 110, 111, 116, 104, 105, 110, 103, 32, 115, 112, 101, 99, 105, 97, 108, 46] : List Int32) Γ).bind fun u_8 =>
    bnd (mrg (fun j => j == 8) Γ u_8.2) fun σ_10 =>
    some (0, σ_10)
  ) else (
    bnd (((Γ 11).1 10)) fun (x_13 : Int32) =>
    bnd ((g_at 121 ((Γ 4).2.1 3) x_13)) fun (x_15 : Int32) =>
    (F_X3_sayText x_15 Γ).bind fun u_17 =>
    bnd (mrg (fun j => j == 10 || j == 9 || j == 8 || j == 4 || j == 5 || j == 6 || j == 7) Γ u_17.2) fun σ_19 =>
    (F_X5_line ([] : List Int32) σ_19).bind fun u_22 =>
    bnd (mrg (fun j => j == 8) σ_19 u_22.2) fun σ_24 =>
    some (0, σ_24)
  )
set_option maxHeartbeats 4000000 in
set_option maxRecDepth 100000 in
theorem k_X8_examine (l : Launch) (dC : Nat → ClassId) (dI : Nat → Nat → Nat) (cB cC cI cJ cZ cP : ClassId) (oA : Nat → Nat) (rA : Nat → Nat → Nat) (sz : Nat)   (Γ : HS) (res : Int32 × HS) (hF : F_X8_examine  Γ = some res) : Met l yX8_examine (g_ws yX8_examine cX8_examine 1 none) ({ frames := 7, cells := 0, slots := 0, locals := 176 }) (va_Pc [.ref (oA 11)] (g_B (dC, dI) [(cB, .byte), (cC, .char), (cI, .int), (cJ, .long), (cZ, .boolean), (cP, .object "StoryHouse$Play")] sz (b_e cB cC cI cJ cZ oA rA Γ ++ b_k cB cC cI cJ cZ oA rA Γ ++ b_p cB cC cI cJ cZ oA rA Γ ++ b_o cB cC cI cJ cZ oA rA Γ ++ b_s cB cC cI cJ cZ oA rA Γ ++ b_c cB cC cI cJ cZ oA rA Γ ++ b_t cB cC cI cJ cZ oA rA Γ ++ b_d cB cC cI cJ cZ oA rA Γ) g_0)) (va_Qv (fun (_ : Unit) => True) (g_Bo (dC, dI) (va_A (b_e cB cC cI cJ cZ oA rA Γ ++ b_k cB cC cI cJ cZ oA rA Γ ++ b_p cB cC cI cJ cZ oA rA Γ ++ b_o cB cC cI cJ cZ oA rA Γ ++ b_s cB cC cI cJ cZ oA rA Γ ++ b_c cB cC cI cJ cZ oA rA Γ ++ b_t cB cC cI cJ cZ oA rA Γ ++ b_d cB cC cI cJ cZ oA rA Γ) sz) (fun (_ : Unit) => (b_e cB cC cI cJ cZ oA rA res.2 ++ b_k cB cC cI cJ cZ oA rA res.2 ++ b_p cB cC cI cJ cZ oA rA res.2 ++ b_o cB cC cI cJ cZ oA rA res.2 ++ b_s cB cC cI cJ cZ oA rA res.2 ++ b_c cB cC cI cJ cZ oA rA res.2 ++ b_t cB cC cI cJ cZ oA rA res.2 ++ b_d cB cC cI cJ cZ oA rA res.2))) (va_A (b_e cB cC cI cJ cZ oA rA Γ ++ b_k cB cC cI cJ cZ oA rA Γ ++ b_p cB cC cI cJ cZ oA rA Γ ++ b_o cB cC cI cJ cZ oA rA Γ ++ b_s cB cC cI cJ cZ oA rA Γ ++ b_c cB cC cI cJ cZ oA rA Γ ++ b_t cB cC cI cJ cZ oA rA Γ ++ b_d cB cC cI cJ cZ oA rA Γ) sz)) 0 0 (va_A (b_e cB cC cI cJ cZ oA rA Γ ++ b_k cB cC cI cJ cZ oA rA Γ ++ b_p cB cC cI cJ cZ oA rA Γ ++ b_o cB cC cI cJ cZ oA rA Γ ++ b_s cB cC cI cJ cZ oA rA Γ ++ b_c cB cC cI cJ cZ oA rA Γ ++ b_t cB cC cI cJ cZ oA rA Γ ++ b_d cB cC cI cJ cZ oA rA Γ) sz) := by
  refine Met.ofW (cc := cX8_examine) (maxL := 1) (ret := none) (by decide) rfl ?_
  intro p e s m args below meth c s₁ B hml hv
  obtain ⟨rfl, hsz, hP, hK, hD0, hE, hX⟩ := hv
  have hx := B.exec
  have hb := B.bytes
  have hr := B.returns
  have hts0 := atoms_spec (ws := g_ws yX8_examine cX8_examine 1 none) B.pre
  have hts : ∀ w ∈ lw_good, w.before ([.ref (oA 11)] : List Value).toArray s = true := fun w z => hts0 w (List.mem_cons_of_mem _ z)
  have hown : s.vm.findClass RX8 = some m.cls := findClass_of_methodNamed B.named
  have hlocks := B.notSynchronized
  subst hsz
  have hD1 := hD0.self (sz := s.heap.size)
  generalize hAe : va_A (b_e cB cC cI cJ cZ oA rA Γ ++ b_k cB cC cI cJ cZ oA rA Γ ++ b_p cB cC cI cJ cZ oA rA Γ ++ b_o cB cC cI cJ cZ oA rA Γ ++ b_s cB cC cI cJ cZ oA rA Γ ++ b_c cB cC cI cJ cZ oA rA Γ ++ b_t cB cC cI cJ cZ oA rA Γ ++ b_d cB cC cI cJ cZ oA rA Γ) s.heap.size = A at hD1 hE hX ⊢
  have hA : ∀ q : Nat, s.heap.size ≤ q → A q := fun q z => by rw [← hAe]; exact Or.inr z
  have hDD : ∀ Γ : HS, va_D A (b_e cB cC cI cJ cZ oA rA Γ ++ b_k cB cC cI cJ cZ oA rA Γ ++ b_p cB cC cI cJ cZ oA rA Γ ++ b_o cB cC cI cJ cZ oA rA Γ ++ b_s cB cC cI cJ cZ oA rA Γ ++ b_c cB cC cI cJ cZ oA rA Γ ++ b_t cB cC cI cJ cZ oA rA Γ ++ b_d cB cC cI cJ cZ oA rA Γ) := fun Γ9 => va_D_fst (ws := (b_e cB cC cI cJ cZ oA rA Γ ++ b_k cB cC cI cJ cZ oA rA Γ ++ b_p cB cC cI cJ cZ oA rA Γ ++ b_o cB cC cI cJ cZ oA rA Γ ++ b_s cB cC cI cJ cZ oA rA Γ ++ b_c cB cC cI cJ cZ oA rA Γ ++ b_t cB cC cI cJ cZ oA rA Γ ++ b_d cB cC cI cJ cZ oA rA Γ)) (ws' := (b_e cB cC cI cJ cZ oA rA Γ9 ++ b_k cB cC cI cJ cZ oA rA Γ9 ++ b_p cB cC cI cJ cZ oA rA Γ9 ++ b_o cB cC cI cJ cZ oA rA Γ9 ++ b_s cB cC cI cJ cZ oA rA Γ9 ++ b_c cB cC cI cJ cZ oA rA Γ9 ++ b_t cB cC cI cJ cZ oA rA Γ9 ++ b_d cB cC cI cJ cZ oA rA Γ9)) rfl hD1
  have hN := hE.1
  have hS : va_S A s.heap s.heap [] := va_S.rf
  have hl := lv_entry ([.ref (oA 11)]) (n := 1) (Nat.le_of_ble_eq_true rfl)
  rw [lg_entry_eq]
  generalize (lg_sl ([.ref (oA 11)]) ++ List.replicate (1 - (lg_sl ([.ref (oA 11)])).length) Slot.unset).toArray = ls at hl ⊢
  have hl : lv_has ls 1 [(0, .ref (oA 11))] := hl
  unfold F_X8_examine at hF
  refine lv_aload_n hx hb dX8_examine_0 rfl (lv_at hl 0 rfl) ?_
  refine va_get (D := (dC, dI)) (ci := 8) (v := .ref (oA 4)) (C := RX8) (T := TX8) (N := 16) hx hb hts ii_X8 hown hK hP 0 rfl rfl 3 (by decide) (hts (.fieldLink RX8 85 "StoryHouse$Teller" "story" "LStoryHouse$Story;") wq_290) (fun _ h9 => h9) rfl dX8_examine_1 ?_
  refine va_get (D := (dC, dI)) (ci := 7) (v := .ref (rA 4 3)) (C := RX7) (T := TX7) (N := 19) hx hb hts ii_X7 hown hK hP 19 rfl rfl 3 (by decide) (hts (.fieldLink RX8 318 "StoryHouse$Story" "described" "[I") wq_161) (fun _ h9 => h9) rfl dX8_examine_4 ?_
  refine lv_aload_n hx hb dX8_examine_7 rfl (lv_at hl 0 rfl) ?_
  refine va_get (D := (dC, dI)) (ci := 8) (v := .int ((Γ 11).1 10)) (C := RX8) (T := TX8) (N := 16) hx hb hts ii_X8 hown hK hP 0 rfl rfl 10 (by decide) (hts (.fieldLink RX8 114 "StoryHouse$Teller" "noun" "I") wq_297) (fun _ h9 => h9) rfl dX8_examine_8 ?_
  obtain ⟨x_1, ex_1, hF_2⟩ := bnd_e hF
  clear hF
  refine m_top ex_1 ?_
  have hq9 : ((b_e cB cC cI cJ cZ oA rA Γ ++ b_k cB cC cI cJ cZ oA rA Γ ++ b_p cB cC cI cJ cZ oA rA Γ ++ b_o cB cC cI cJ cZ oA rA Γ ++ b_s cB cC cI cJ cZ oA rA Γ ++ b_c cB cC cI cJ cZ oA rA Γ ++ b_t cB cC cI cJ cZ oA rA Γ ++ b_d cB cC cI cJ cZ oA rA Γ))[23]? = some (rA 4 3, .inl (cI, 121, .inl ((Γ 4).2.1 3))) := rfl
  have hPc := hP.sub (ws' := [(rA 4 3, .inl (cI, 121, .inl ((Γ 4).2.1 3)))]) [23] (pk_fm (er_C hq9))
  have hDc := (hDD Γ).sub (ws' := [(rA 4 3, .inl (cI, 121, .inl ((Γ 4).2.1 3)))]) [23] (by decide +kernel) (er_C hq9)
  have hFc := va_free (wc := [(rA 4 3, .inl (cI, 121, .inl ((Γ 4).2.1 3)))]) (hDD Γ) hS hA [23] (er_C hq9)
  refine g_ofi (wc := [(rA 4 3, .inl (cI, 121, .inl ((Γ 4).2.1 3)))]) (wr := (((b_e cB cC cI cJ cZ oA rA Γ ++ b_k cB cC cI cJ cZ oA rA Γ ++ b_p cB cC cI cJ cZ oA rA Γ ++ b_o cB cC cI cJ cZ oA rA Γ ++ b_s cB cC cI cJ cZ oA rA Γ ++ b_c cB cC cI cJ cZ oA rA Γ ++ b_t cB cC cI cJ cZ oA rA Γ ++ b_d cB cC cI cJ cZ oA rA Γ)).eraseIdx 23)) hP (hDD Γ) hS hFc [23] ((List.range ((b_e cB cC cI cJ cZ oA rA Γ ++ b_k cB cC cI cJ cZ oA rA Γ ++ b_p cB cC cI cJ cZ oA rA Γ ++ b_o cB cC cI cJ cZ oA rA Γ ++ b_s cB cC cI cJ cZ oA rA Γ ++ b_c cB cC cI cJ cZ oA rA Γ ++ b_t cB cC cI cJ cZ oA rA Γ ++ b_d cB cC cI cJ cZ oA rA Γ)).length).eraseIdx 23) (er_C hq9) er_R er_n er_d (va_runSN (As := [.ref (rA 4 3), .int x_1]) (rest := []) ⟨hx, hb, hml, hown, hts⟩ (c_X11_at l dC dI cB cC cI cJ cZ cP s.heap.size (rA 4 3) x_1 121 ((Γ 4).2.1 3) (by decide)) ⟨va_cnB 2 hts (g_gA wq_407) rfl rfl rfl (nw_31 hN) (hts (.initialized RX11) wq_1) (by decide +kernel) ⟨Nat.le_of_ble_eq_true rfl, Nat.le_of_ble_eq_true rfl⟩, (hts (.static yX11_at) wq_406), trivial⟩ (g_preS g_bl0 hK hPc hDc hS hE hFc g_to0) rfl rfl hl.1 rfl (lv_room (Nat.le_of_ble_eq_true rfl)) dX8_examine_11 ⟨Nat.le_of_ble_eq_true rfl, Nat.le_of_ble_eq_true rfl⟩) (fun r9 u9 H locs hw9 hP' hD' hS => ?_)
  clear hPc hDc hFc hD'
  have hP : va_P (dC, dI) vwCl (b_e cB cC cI cJ cZ oA rA Γ ++ b_k cB cC cI cJ cZ oA rA Γ ++ b_p cB cC cI cJ cZ oA rA Γ ++ b_o cB cC cI cJ cZ oA rA Γ ++ b_s cB cC cI cJ cZ oA rA Γ ++ b_c cB cC cI cJ cZ oA rA Γ ++ b_t cB cC cI cJ cZ oA rA Γ ++ b_d cB cC cI cJ cZ oA rA Γ) H := er_I hP' hq9
  clear hP' hq9
  subst hw9
  obtain ⟨x_3, ex_3, hF_4⟩ := bnd_e hF_2
  clear hF_2
  refine m_top ex_3 ?_
  refine lv_iconst (v := (-1)) hx hb dX8_examine_14 (by decide +kernel) ?_
  refine lv_icmp_ne (tgt := 31) hx hb dX8_examine_15 (by decide) (fun c_5 => ?_) (fun c_5 => ?_)
  · have hF_12 := ineg c_5 hF_4
    clear hF_4
    refine lv_aload_n hx hb dX8_examine_31 rfl (lv_at hl 0 rfl) ?_
    refine va_get (D := (dC, dI)) (ci := 8) (v := .ref (oA 10)) (C := RX8) (T := TX8) (N := 16) hx hb hts ii_X8 hown hK hP 0 rfl rfl 2 (by decide) (hts (.fieldLink RX8 30 "StoryHouse$Teller" "machine" "LStoryHouse$Machine;") wq_288) (fun _ h9 => h9) rfl dX8_examine_32 ?_
    refine lv_aload_n hx hb dX8_examine_35 rfl (lv_at hl 0 rfl) ?_
    refine va_get (D := (dC, dI)) (ci := 8) (v := .ref (oA 4)) (C := RX8) (T := TX8) (N := 16) hx hb hts ii_X8 hown hK hP 0 rfl rfl 3 (by decide) (hts (.fieldLink RX8 85 "StoryHouse$Teller" "story" "LStoryHouse$Story;") wq_290) (fun _ h9 => h9) rfl dX8_examine_36 ?_
    refine va_get (D := (dC, dI)) (ci := 7) (v := .ref (rA 4 3)) (C := RX7) (T := TX7) (N := 19) hx hb hts ii_X7 hown hK hP 19 rfl rfl 3 (by decide) (hts (.fieldLink RX8 318 "StoryHouse$Story" "described" "[I") wq_161) (fun _ h9 => h9) rfl dX8_examine_39 ?_
    refine lv_aload_n hx hb dX8_examine_42 rfl (lv_at hl 0 rfl) ?_
    refine va_get (D := (dC, dI)) (ci := 8) (v := .int ((Γ 11).1 10)) (C := RX8) (T := TX8) (N := 16) hx hb hts ii_X8 hown hK hP 0 rfl rfl 10 (by decide) (hts (.fieldLink RX8 114 "StoryHouse$Teller" "noun" "I") wq_297) (fun _ h9 => h9) rfl dX8_examine_43 ?_
    obtain ⟨x_13, ex_13, hF_14⟩ := bnd_e hF_12
    clear hF_12
    refine m_top ex_13 ?_
    have hq9 : ((b_e cB cC cI cJ cZ oA rA Γ ++ b_k cB cC cI cJ cZ oA rA Γ ++ b_p cB cC cI cJ cZ oA rA Γ ++ b_o cB cC cI cJ cZ oA rA Γ ++ b_s cB cC cI cJ cZ oA rA Γ ++ b_c cB cC cI cJ cZ oA rA Γ ++ b_t cB cC cI cJ cZ oA rA Γ ++ b_d cB cC cI cJ cZ oA rA Γ))[23]? = some (rA 4 3, .inl (cI, 121, .inl ((Γ 4).2.1 3))) := rfl
    have hPc := hP.sub (ws' := [(rA 4 3, .inl (cI, 121, .inl ((Γ 4).2.1 3)))]) [23] (pk_fm (er_C hq9))
    have hDc := (hDD Γ).sub (ws' := [(rA 4 3, .inl (cI, 121, .inl ((Γ 4).2.1 3)))]) [23] (by decide +kernel) (er_C hq9)
    have hFc := va_free (wc := [(rA 4 3, .inl (cI, 121, .inl ((Γ 4).2.1 3)))]) (hDD Γ) hS hA [23] (er_C hq9)
    refine g_ofi (wc := [(rA 4 3, .inl (cI, 121, .inl ((Γ 4).2.1 3)))]) (wr := (((b_e cB cC cI cJ cZ oA rA Γ ++ b_k cB cC cI cJ cZ oA rA Γ ++ b_p cB cC cI cJ cZ oA rA Γ ++ b_o cB cC cI cJ cZ oA rA Γ ++ b_s cB cC cI cJ cZ oA rA Γ ++ b_c cB cC cI cJ cZ oA rA Γ ++ b_t cB cC cI cJ cZ oA rA Γ ++ b_d cB cC cI cJ cZ oA rA Γ)).eraseIdx 23)) hP (hDD Γ) hS hFc [23] ((List.range ((b_e cB cC cI cJ cZ oA rA Γ ++ b_k cB cC cI cJ cZ oA rA Γ ++ b_p cB cC cI cJ cZ oA rA Γ ++ b_o cB cC cI cJ cZ oA rA Γ ++ b_s cB cC cI cJ cZ oA rA Γ ++ b_c cB cC cI cJ cZ oA rA Γ ++ b_t cB cC cI cJ cZ oA rA Γ ++ b_d cB cC cI cJ cZ oA rA Γ)).length).eraseIdx 23) (er_C hq9) er_R er_n er_d (va_runSN (As := [.ref (rA 4 3), .int x_13]) (rest := [.ref (oA 10)]) ⟨hx, hb, hml, hown, hts⟩ (c_X11_at l dC dI cB cC cI cJ cZ cP H.size (rA 4 3) x_13 121 ((Γ 4).2.1 3) (by decide)) ⟨va_cnB 2 hts (g_gA wq_407) rfl rfl rfl (nw_31 hN) (hts (.initialized RX11) wq_1) (by decide +kernel) ⟨Nat.le_of_ble_eq_true rfl, Nat.le_of_ble_eq_true rfl⟩, (hts (.static yX11_at) wq_406), trivial⟩ (g_preS g_bl0 hK hPc hDc hS hE hFc g_to0) rfl rfl hl.1 rfl (lv_room (Nat.le_of_ble_eq_true rfl)) dX8_examine_46 ⟨Nat.le_of_ble_eq_true rfl, Nat.le_of_ble_eq_true rfl⟩) (fun r9 u9 H locs hw9 hP' hD' hS => ?_)
    clear hPc hDc hFc hD'
    have hP : va_P (dC, dI) vwCl (b_e cB cC cI cJ cZ oA rA Γ ++ b_k cB cC cI cJ cZ oA rA Γ ++ b_p cB cC cI cJ cZ oA rA Γ ++ b_o cB cC cI cJ cZ oA rA Γ ++ b_s cB cC cI cJ cZ oA rA Γ ++ b_c cB cC cI cJ cZ oA rA Γ ++ b_t cB cC cI cJ cZ oA rA Γ ++ b_d cB cC cI cJ cZ oA rA Γ) H := er_I hP' hq9
    clear hP' hq9
    subst hw9
    obtain ⟨x_15, ex_15, hF_16⟩ := bnd_e hF_14
    clear hF_14
    refine m_top ex_15 ?_
    obtain ⟨u_17, hu_17, hF_18⟩ := Option.bind_eq_some_iff.mp hF_16
    clear hF_16
    have hPc := bx_P (bs := [b_e cB cC cI cJ cZ oA rA Γ, b_k cB cC cI cJ cZ oA rA Γ, b_p cB cC cI cJ cZ oA rA Γ, b_o cB cC cI cJ cZ oA rA Γ, b_s cB cC cI cJ cZ oA rA Γ, b_c cB cC cI cJ cZ oA rA Γ, b_t cB cC cI cJ cZ oA rA Γ, b_d cB cC cI cJ cZ oA rA Γ]) (bs' := [b_k cB cC cI cJ cZ oA rA Γ, b_p cB cC cI cJ cZ oA rA Γ, b_o cB cC cI cJ cZ oA rA Γ, b_s cB cC cI cJ cZ oA rA Γ, b_c cB cC cI cJ cZ oA rA Γ, b_t cB cC cI cJ cZ oA rA Γ, b_d cB cC cI cJ cZ oA rA Γ]) (ws' := (b_k cB cC cI cJ cZ oA rA Γ ++ b_p cB cC cI cJ cZ oA rA Γ ++ b_o cB cC cI cJ cZ oA rA Γ ++ b_s cB cC cI cJ cZ oA rA Γ ++ b_c cB cC cI cJ cZ oA rA Γ ++ b_t cB cC cI cJ cZ oA rA Γ ++ b_d cB cC cI cJ cZ oA rA Γ)) hP fl_8 fl_7 [1, 2, 3, 4, 5, 6, 7] rfl
    have hDc := bx_D (bs := [b_e cB cC cI cJ cZ oA rA Γ, b_k cB cC cI cJ cZ oA rA Γ, b_p cB cC cI cJ cZ oA rA Γ, b_o cB cC cI cJ cZ oA rA Γ, b_s cB cC cI cJ cZ oA rA Γ, b_c cB cC cI cJ cZ oA rA Γ, b_t cB cC cI cJ cZ oA rA Γ, b_d cB cC cI cJ cZ oA rA Γ]) (bs' := [b_k cB cC cI cJ cZ oA rA Γ, b_p cB cC cI cJ cZ oA rA Γ, b_o cB cC cI cJ cZ oA rA Γ, b_s cB cC cI cJ cZ oA rA Γ, b_c cB cC cI cJ cZ oA rA Γ, b_t cB cC cI cJ cZ oA rA Γ, b_d cB cC cI cJ cZ oA rA Γ]) (ws' := (b_k cB cC cI cJ cZ oA rA Γ ++ b_p cB cC cI cJ cZ oA rA Γ ++ b_o cB cC cI cJ cZ oA rA Γ ++ b_s cB cC cI cJ cZ oA rA Γ ++ b_c cB cC cI cJ cZ oA rA Γ ++ b_t cB cC cI cJ cZ oA rA Γ ++ b_d cB cC cI cJ cZ oA rA Γ)) (hDD Γ) fl_8 fl_7 [1, 2, 3, 4, 5, 6, 7] (by decide +kernel) rfl
    have hFc := bx_F (bs := [b_e cB cC cI cJ cZ oA rA Γ, b_k cB cC cI cJ cZ oA rA Γ, b_p cB cC cI cJ cZ oA rA Γ, b_o cB cC cI cJ cZ oA rA Γ, b_s cB cC cI cJ cZ oA rA Γ, b_c cB cC cI cJ cZ oA rA Γ, b_t cB cC cI cJ cZ oA rA Γ, b_d cB cC cI cJ cZ oA rA Γ]) (bs' := [b_k cB cC cI cJ cZ oA rA Γ, b_p cB cC cI cJ cZ oA rA Γ, b_o cB cC cI cJ cZ oA rA Γ, b_s cB cC cI cJ cZ oA rA Γ, b_c cB cC cI cJ cZ oA rA Γ, b_t cB cC cI cJ cZ oA rA Γ, b_d cB cC cI cJ cZ oA rA Γ]) (wc := (b_k cB cC cI cJ cZ oA rA Γ ++ b_p cB cC cI cJ cZ oA rA Γ ++ b_o cB cC cI cJ cZ oA rA Γ ++ b_s cB cC cI cJ cZ oA rA Γ ++ b_c cB cC cI cJ cZ oA rA Γ ++ b_t cB cC cI cJ cZ oA rA Γ ++ b_d cB cC cI cJ cZ oA rA Γ)) (hDD Γ) hS hA fl_8 fl_7 [1, 2, 3, 4, 5, 6, 7] rfl
    refine g_ofv (wc := (b_k cB cC cI cJ cZ oA rA Γ ++ b_p cB cC cI cJ cZ oA rA Γ ++ b_o cB cC cI cJ cZ oA rA Γ ++ b_s cB cC cI cJ cZ oA rA Γ ++ b_c cB cC cI cJ cZ oA rA Γ ++ b_t cB cC cI cJ cZ oA rA Γ ++ b_d cB cC cI cJ cZ oA rA Γ)) (wr := (b_e cB cC cI cJ cZ oA rA Γ)) hP (hDD Γ) hS hFc (bx_ix [b_e cB cC cI cJ cZ oA rA Γ, b_k cB cC cI cJ cZ oA rA Γ, b_p cB cC cI cJ cZ oA rA Γ, b_o cB cC cI cJ cZ oA rA Γ, b_s cB cC cI cJ cZ oA rA Γ, b_c cB cC cI cJ cZ oA rA Γ, b_t cB cC cI cJ cZ oA rA Γ, b_d cB cC cI cJ cZ oA rA Γ] [1, 2, 3, 4, 5, 6, 7]) (bx_ix [b_e cB cC cI cJ cZ oA rA Γ, b_k cB cC cI cJ cZ oA rA Γ, b_p cB cC cI cJ cZ oA rA Γ, b_o cB cC cI cJ cZ oA rA Γ, b_s cB cC cI cJ cZ oA rA Γ, b_c cB cC cI cJ cZ oA rA Γ, b_t cB cC cI cJ cZ oA rA Γ, b_d cB cC cI cJ cZ oA rA Γ] [0]) (bx_C (bs := [b_e cB cC cI cJ cZ oA rA Γ, b_k cB cC cI cJ cZ oA rA Γ, b_p cB cC cI cJ cZ oA rA Γ, b_o cB cC cI cJ cZ oA rA Γ, b_s cB cC cI cJ cZ oA rA Γ, b_c cB cC cI cJ cZ oA rA Γ, b_t cB cC cI cJ cZ oA rA Γ, b_d cB cC cI cJ cZ oA rA Γ]) (bs' := [b_k cB cC cI cJ cZ oA rA Γ, b_p cB cC cI cJ cZ oA rA Γ, b_o cB cC cI cJ cZ oA rA Γ, b_s cB cC cI cJ cZ oA rA Γ, b_c cB cC cI cJ cZ oA rA Γ, b_t cB cC cI cJ cZ oA rA Γ, b_d cB cC cI cJ cZ oA rA Γ]) (is := [1, 2, 3, 4, 5, 6, 7]) fl_8 fl_7 rfl) (bx_C (bs := [b_e cB cC cI cJ cZ oA rA Γ, b_k cB cC cI cJ cZ oA rA Γ, b_p cB cC cI cJ cZ oA rA Γ, b_o cB cC cI cJ cZ oA rA Γ, b_s cB cC cI cJ cZ oA rA Γ, b_c cB cC cI cJ cZ oA rA Γ, b_t cB cC cI cJ cZ oA rA Γ, b_d cB cC cI cJ cZ oA rA Γ]) (bs' := [b_e cB cC cI cJ cZ oA rA Γ]) (is := [0]) fl_8 fl_1 rfl) (bx_n (by decide +kernel)) (bx_d (by decide +kernel)) (va_runV (As := [.int x_15]) (rest := []) ⟨hx, hb, hml, hown, hts⟩ (k_X3_sayText l dC dI cB cC cI cJ cZ cP oA rA H.size  x_15 Γ _ hu_17) (cwV 1 hts (g_gV wq_1029 wq_1019 wq_1020 wq_11 wq_1021) rfl rfl rfl (by decide +kernel) ⟨Nat.le_of_ble_eq_true rfl, Nat.le_of_ble_eq_true rfl⟩) (g_preV g_bl0 hK hPc hDc hS hE hFc g_to0 (q0 := 0) (ci := 3) rfl rfl) rfl rfl hl.1 rfl (lv_room (Nat.le_of_ble_eq_true rfl)) dX8_examine_49 ⟨Nat.le_of_ble_eq_true rfl, Nat.le_of_ble_eq_true rfl⟩) (fun u9 H locs hw9 hP' hD' hS => ?_)
    clear hPc hDc hFc
    obtain ⟨σ_19, eσ_19, hF_20⟩ := bnd_e hF_18
    clear hF_18
    have hP : va_P (dC, dI) vwCl (b_e cB cC cI cJ cZ oA rA σ_19 ++ b_k cB cC cI cJ cZ oA rA σ_19 ++ b_p cB cC cI cJ cZ oA rA σ_19 ++ b_o cB cC cI cJ cZ oA rA σ_19 ++ b_s cB cC cI cJ cZ oA rA σ_19 ++ b_c cB cC cI cJ cZ oA rA σ_19 ++ b_t cB cC cI cJ cZ oA rA σ_19 ++ b_d cB cC cI cJ cZ oA rA σ_19) H := by rw [eσ_19]; exact bx_P (bs := [b_e cB cC cI cJ cZ oA rA Γ] ++ [b_k cB cC cI cJ cZ oA rA u_17.2, b_p cB cC cI cJ cZ oA rA u_17.2, b_o cB cC cI cJ cZ oA rA u_17.2, b_s cB cC cI cJ cZ oA rA u_17.2, b_c cB cC cI cJ cZ oA rA u_17.2, b_t cB cC cI cJ cZ oA rA u_17.2, b_d cB cC cI cJ cZ oA rA u_17.2]) (bs' := [b_e cB cC cI cJ cZ oA rA (mrg (fun j => j == 10 || j == 9 || j == 8 || j == 4 || j == 5 || j == 6 || j == 7) Γ u_17.2), b_k cB cC cI cJ cZ oA rA (mrg (fun j => j == 10 || j == 9 || j == 8 || j == 4 || j == 5 || j == 6 || j == 7) Γ u_17.2), b_p cB cC cI cJ cZ oA rA (mrg (fun j => j == 10 || j == 9 || j == 8 || j == 4 || j == 5 || j == 6 || j == 7) Γ u_17.2), b_o cB cC cI cJ cZ oA rA (mrg (fun j => j == 10 || j == 9 || j == 8 || j == 4 || j == 5 || j == 6 || j == 7) Γ u_17.2), b_s cB cC cI cJ cZ oA rA (mrg (fun j => j == 10 || j == 9 || j == 8 || j == 4 || j == 5 || j == 6 || j == 7) Γ u_17.2), b_c cB cC cI cJ cZ oA rA (mrg (fun j => j == 10 || j == 9 || j == 8 || j == 4 || j == 5 || j == 6 || j == 7) Γ u_17.2), b_t cB cC cI cJ cZ oA rA (mrg (fun j => j == 10 || j == 9 || j == 8 || j == 4 || j == 5 || j == 6 || j == 7) Γ u_17.2), b_d cB cC cI cJ cZ oA rA (mrg (fun j => j == 10 || j == 9 || j == 8 || j == 4 || j == 5 || j == 6 || j == 7) Γ u_17.2)]) hP' (fl_a fl_1 fl_7) fl_8 [0, 1, 2, 3, 4, 5, 6, 7] rfl
    clear hP' hD'
    refine lv_aload_n hx hb dX8_examine_52 rfl (lv_at hl 0 rfl) ?_
    refine va_get (D := (dC, dI)) (ci := 8) (v := .ref (oA 8)) (C := RX8) (T := TX8) (N := 16) hx hb hts ii_X8 hown hK hP 0 rfl rfl 1 (by decide) (hts (.fieldLink RX8 26 "StoryHouse$Teller" "told" "LStoryHouse$Out;") wq_287) (fun _ h9 => h9) rfl dX8_examine_53 ?_
    obtain ⟨q_21, vq_21, hRq_21, hSq_21⟩ := hE.2.2.2.2 _ (List.mem_of_getElem? (i := 28) rfl)
    refine g_ldcwS (own := RX8) (tx := "") hx hb hown hRq_21 dX8_examine_56 ?_
    obtain ⟨u_22, hu_22, hF_23⟩ := Option.bind_eq_some_iff.mp hF_20
    clear hF_20
    have hPc := bx_P (bs := [b_e cB cC cI cJ cZ oA rA σ_19, b_k cB cC cI cJ cZ oA rA σ_19, b_p cB cC cI cJ cZ oA rA σ_19, b_o cB cC cI cJ cZ oA rA σ_19, b_s cB cC cI cJ cZ oA rA σ_19, b_c cB cC cI cJ cZ oA rA σ_19, b_t cB cC cI cJ cZ oA rA σ_19, b_d cB cC cI cJ cZ oA rA σ_19]) (bs' := [b_o cB cC cI cJ cZ oA rA σ_19]) (ws' := (b_o cB cC cI cJ cZ oA rA σ_19)) hP fl_8 fl_1 [3] rfl
    have hDc := bx_D (bs := [b_e cB cC cI cJ cZ oA rA σ_19, b_k cB cC cI cJ cZ oA rA σ_19, b_p cB cC cI cJ cZ oA rA σ_19, b_o cB cC cI cJ cZ oA rA σ_19, b_s cB cC cI cJ cZ oA rA σ_19, b_c cB cC cI cJ cZ oA rA σ_19, b_t cB cC cI cJ cZ oA rA σ_19, b_d cB cC cI cJ cZ oA rA σ_19]) (bs' := [b_o cB cC cI cJ cZ oA rA σ_19]) (ws' := (b_o cB cC cI cJ cZ oA rA σ_19)) (hDD σ_19) fl_8 fl_1 [3] (by decide +kernel) rfl
    have hFc := bx_F (bs := [b_e cB cC cI cJ cZ oA rA σ_19, b_k cB cC cI cJ cZ oA rA σ_19, b_p cB cC cI cJ cZ oA rA σ_19, b_o cB cC cI cJ cZ oA rA σ_19, b_s cB cC cI cJ cZ oA rA σ_19, b_c cB cC cI cJ cZ oA rA σ_19, b_t cB cC cI cJ cZ oA rA σ_19, b_d cB cC cI cJ cZ oA rA σ_19]) (bs' := [b_o cB cC cI cJ cZ oA rA σ_19]) (wc := (b_o cB cC cI cJ cZ oA rA σ_19)) (hDD σ_19) hS hA fl_8 fl_1 [3] rfl
    refine g_ofv (wc := (b_o cB cC cI cJ cZ oA rA σ_19)) (wr := (b_e cB cC cI cJ cZ oA rA σ_19 ++ b_k cB cC cI cJ cZ oA rA σ_19 ++ b_p cB cC cI cJ cZ oA rA σ_19 ++ b_s cB cC cI cJ cZ oA rA σ_19 ++ b_c cB cC cI cJ cZ oA rA σ_19 ++ b_t cB cC cI cJ cZ oA rA σ_19 ++ b_d cB cC cI cJ cZ oA rA σ_19)) hP (hDD σ_19) hS hFc (bx_ix [b_e cB cC cI cJ cZ oA rA σ_19, b_k cB cC cI cJ cZ oA rA σ_19, b_p cB cC cI cJ cZ oA rA σ_19, b_o cB cC cI cJ cZ oA rA σ_19, b_s cB cC cI cJ cZ oA rA σ_19, b_c cB cC cI cJ cZ oA rA σ_19, b_t cB cC cI cJ cZ oA rA σ_19, b_d cB cC cI cJ cZ oA rA σ_19] [3]) (bx_ix [b_e cB cC cI cJ cZ oA rA σ_19, b_k cB cC cI cJ cZ oA rA σ_19, b_p cB cC cI cJ cZ oA rA σ_19, b_o cB cC cI cJ cZ oA rA σ_19, b_s cB cC cI cJ cZ oA rA σ_19, b_c cB cC cI cJ cZ oA rA σ_19, b_t cB cC cI cJ cZ oA rA σ_19, b_d cB cC cI cJ cZ oA rA σ_19] [0, 1, 2, 4, 5, 6, 7]) (bx_C (bs := [b_e cB cC cI cJ cZ oA rA σ_19, b_k cB cC cI cJ cZ oA rA σ_19, b_p cB cC cI cJ cZ oA rA σ_19, b_o cB cC cI cJ cZ oA rA σ_19, b_s cB cC cI cJ cZ oA rA σ_19, b_c cB cC cI cJ cZ oA rA σ_19, b_t cB cC cI cJ cZ oA rA σ_19, b_d cB cC cI cJ cZ oA rA σ_19]) (bs' := [b_o cB cC cI cJ cZ oA rA σ_19]) (is := [3]) fl_8 fl_1 rfl) (bx_C (bs := [b_e cB cC cI cJ cZ oA rA σ_19, b_k cB cC cI cJ cZ oA rA σ_19, b_p cB cC cI cJ cZ oA rA σ_19, b_o cB cC cI cJ cZ oA rA σ_19, b_s cB cC cI cJ cZ oA rA σ_19, b_c cB cC cI cJ cZ oA rA σ_19, b_t cB cC cI cJ cZ oA rA σ_19, b_d cB cC cI cJ cZ oA rA σ_19]) (bs' := [b_e cB cC cI cJ cZ oA rA σ_19, b_k cB cC cI cJ cZ oA rA σ_19, b_p cB cC cI cJ cZ oA rA σ_19, b_s cB cC cI cJ cZ oA rA σ_19, b_c cB cC cI cJ cZ oA rA σ_19, b_t cB cC cI cJ cZ oA rA σ_19, b_d cB cC cI cJ cZ oA rA σ_19]) (is := [0, 1, 2, 4, 5, 6, 7]) fl_8 fl_7 rfl) (bx_n (by decide +kernel)) (bx_d (by decide +kernel)) (va_runV (As := [.ref q_21]) (rest := []) ⟨hx, hb, hml, hown, hts⟩ (k_X5_line l dC dI cB cC cI cJ cZ cP oA rA H.size q_21 _ ([] : List Int32) σ_19 _ hu_22) (cwV 1 hts (g_gV wq_998 wq_999 wq_1000 wq_9 wq_1001) rfl rfl rfl (by decide +kernel) ⟨Nat.le_of_ble_eq_true rfl, Nat.le_of_ble_eq_true rfl⟩) (g_preV g_blS hK hPc hDc hS hE hFc (g_toS hSq_21 hS hFc) (q0 := 0) (ci := 5) rfl rfl) rfl rfl hl.1 rfl (lv_room (Nat.le_of_ble_eq_true rfl)) dX8_examine_59 ⟨Nat.le_of_ble_eq_true rfl, Nat.le_of_ble_eq_true rfl⟩) (fun u9 H locs hw9 hP' hD' hS => ?_)
    clear hPc hDc hFc
    obtain ⟨σ_24, eσ_24, hF_25⟩ := bnd_e hF_23
    clear hF_23
    have hP : va_P (dC, dI) vwCl (b_e cB cC cI cJ cZ oA rA σ_24 ++ b_k cB cC cI cJ cZ oA rA σ_24 ++ b_p cB cC cI cJ cZ oA rA σ_24 ++ b_o cB cC cI cJ cZ oA rA σ_24 ++ b_s cB cC cI cJ cZ oA rA σ_24 ++ b_c cB cC cI cJ cZ oA rA σ_24 ++ b_t cB cC cI cJ cZ oA rA σ_24 ++ b_d cB cC cI cJ cZ oA rA σ_24) H := by rw [eσ_24]; exact bx_P (bs := [b_e cB cC cI cJ cZ oA rA σ_19, b_k cB cC cI cJ cZ oA rA σ_19, b_p cB cC cI cJ cZ oA rA σ_19, b_s cB cC cI cJ cZ oA rA σ_19, b_c cB cC cI cJ cZ oA rA σ_19, b_t cB cC cI cJ cZ oA rA σ_19, b_d cB cC cI cJ cZ oA rA σ_19] ++ [b_o cB cC cI cJ cZ oA rA u_22.2]) (bs' := [b_e cB cC cI cJ cZ oA rA (mrg (fun j => j == 8) σ_19 u_22.2), b_k cB cC cI cJ cZ oA rA (mrg (fun j => j == 8) σ_19 u_22.2), b_p cB cC cI cJ cZ oA rA (mrg (fun j => j == 8) σ_19 u_22.2), b_o cB cC cI cJ cZ oA rA (mrg (fun j => j == 8) σ_19 u_22.2), b_s cB cC cI cJ cZ oA rA (mrg (fun j => j == 8) σ_19 u_22.2), b_c cB cC cI cJ cZ oA rA (mrg (fun j => j == 8) σ_19 u_22.2), b_t cB cC cI cJ cZ oA rA (mrg (fun j => j == 8) σ_19 u_22.2), b_d cB cC cI cJ cZ oA rA (mrg (fun j => j == 8) σ_19 u_22.2)]) hP' (fl_a fl_7 fl_1) fl_8 [0, 1, 2, 7, 3, 4, 5, 6] rfl
    clear hP' hD'
    have h9 := Option.some.inj hF_25
    subst h9
    exact W.vret hx hb hr (fun t ht hW => ⟨⟨(), rfl, trivial, m_end ht hP, hDD _⟩, hS.F ht⟩) hS.2.2 dX8_examine_62
  · have hF_6 := ipos c_5 hF_4
    clear hF_4
    refine lv_aload_n hx hb dX8_examine_18 rfl (lv_at hl 0 rfl) ?_
    refine va_get (D := (dC, dI)) (ci := 8) (v := .ref (oA 8)) (C := RX8) (T := TX8) (N := 16) hx hb hts ii_X8 hown hK hP 0 rfl rfl 1 (by decide) (hts (.fieldLink RX8 26 "StoryHouse$Teller" "told" "LStoryHouse$Out;") wq_287) (fun _ h9 => h9) rfl dX8_examine_19 ?_
    obtain ⟨q_7, vq_7, hRq_7, hSq_7⟩ := hE.2.2.2.2 _ (List.mem_of_getElem? (i := 57) rfl)
    refine g_ldcwS (own := RX8) (tx := "You see nothing special.") hx hb hown hRq_7 dX8_examine_22 ?_
    obtain ⟨u_8, hu_8, hF_9⟩ := Option.bind_eq_some_iff.mp hF_6
    clear hF_6
    have hPc := bx_P (bs := [b_e cB cC cI cJ cZ oA rA Γ, b_k cB cC cI cJ cZ oA rA Γ, b_p cB cC cI cJ cZ oA rA Γ, b_o cB cC cI cJ cZ oA rA Γ, b_s cB cC cI cJ cZ oA rA Γ, b_c cB cC cI cJ cZ oA rA Γ, b_t cB cC cI cJ cZ oA rA Γ, b_d cB cC cI cJ cZ oA rA Γ]) (bs' := [b_o cB cC cI cJ cZ oA rA Γ]) (ws' := (b_o cB cC cI cJ cZ oA rA Γ)) hP fl_8 fl_1 [3] rfl
    have hDc := bx_D (bs := [b_e cB cC cI cJ cZ oA rA Γ, b_k cB cC cI cJ cZ oA rA Γ, b_p cB cC cI cJ cZ oA rA Γ, b_o cB cC cI cJ cZ oA rA Γ, b_s cB cC cI cJ cZ oA rA Γ, b_c cB cC cI cJ cZ oA rA Γ, b_t cB cC cI cJ cZ oA rA Γ, b_d cB cC cI cJ cZ oA rA Γ]) (bs' := [b_o cB cC cI cJ cZ oA rA Γ]) (ws' := (b_o cB cC cI cJ cZ oA rA Γ)) (hDD Γ) fl_8 fl_1 [3] (by decide +kernel) rfl
    have hFc := bx_F (bs := [b_e cB cC cI cJ cZ oA rA Γ, b_k cB cC cI cJ cZ oA rA Γ, b_p cB cC cI cJ cZ oA rA Γ, b_o cB cC cI cJ cZ oA rA Γ, b_s cB cC cI cJ cZ oA rA Γ, b_c cB cC cI cJ cZ oA rA Γ, b_t cB cC cI cJ cZ oA rA Γ, b_d cB cC cI cJ cZ oA rA Γ]) (bs' := [b_o cB cC cI cJ cZ oA rA Γ]) (wc := (b_o cB cC cI cJ cZ oA rA Γ)) (hDD Γ) hS hA fl_8 fl_1 [3] rfl
    refine g_ofv (wc := (b_o cB cC cI cJ cZ oA rA Γ)) (wr := (b_e cB cC cI cJ cZ oA rA Γ ++ b_k cB cC cI cJ cZ oA rA Γ ++ b_p cB cC cI cJ cZ oA rA Γ ++ b_s cB cC cI cJ cZ oA rA Γ ++ b_c cB cC cI cJ cZ oA rA Γ ++ b_t cB cC cI cJ cZ oA rA Γ ++ b_d cB cC cI cJ cZ oA rA Γ)) hP (hDD Γ) hS hFc (bx_ix [b_e cB cC cI cJ cZ oA rA Γ, b_k cB cC cI cJ cZ oA rA Γ, b_p cB cC cI cJ cZ oA rA Γ, b_o cB cC cI cJ cZ oA rA Γ, b_s cB cC cI cJ cZ oA rA Γ, b_c cB cC cI cJ cZ oA rA Γ, b_t cB cC cI cJ cZ oA rA Γ, b_d cB cC cI cJ cZ oA rA Γ] [3]) (bx_ix [b_e cB cC cI cJ cZ oA rA Γ, b_k cB cC cI cJ cZ oA rA Γ, b_p cB cC cI cJ cZ oA rA Γ, b_o cB cC cI cJ cZ oA rA Γ, b_s cB cC cI cJ cZ oA rA Γ, b_c cB cC cI cJ cZ oA rA Γ, b_t cB cC cI cJ cZ oA rA Γ, b_d cB cC cI cJ cZ oA rA Γ] [0, 1, 2, 4, 5, 6, 7]) (bx_C (bs := [b_e cB cC cI cJ cZ oA rA Γ, b_k cB cC cI cJ cZ oA rA Γ, b_p cB cC cI cJ cZ oA rA Γ, b_o cB cC cI cJ cZ oA rA Γ, b_s cB cC cI cJ cZ oA rA Γ, b_c cB cC cI cJ cZ oA rA Γ, b_t cB cC cI cJ cZ oA rA Γ, b_d cB cC cI cJ cZ oA rA Γ]) (bs' := [b_o cB cC cI cJ cZ oA rA Γ]) (is := [3]) fl_8 fl_1 rfl) (bx_C (bs := [b_e cB cC cI cJ cZ oA rA Γ, b_k cB cC cI cJ cZ oA rA Γ, b_p cB cC cI cJ cZ oA rA Γ, b_o cB cC cI cJ cZ oA rA Γ, b_s cB cC cI cJ cZ oA rA Γ, b_c cB cC cI cJ cZ oA rA Γ, b_t cB cC cI cJ cZ oA rA Γ, b_d cB cC cI cJ cZ oA rA Γ]) (bs' := [b_e cB cC cI cJ cZ oA rA Γ, b_k cB cC cI cJ cZ oA rA Γ, b_p cB cC cI cJ cZ oA rA Γ, b_s cB cC cI cJ cZ oA rA Γ, b_c cB cC cI cJ cZ oA rA Γ, b_t cB cC cI cJ cZ oA rA Γ, b_d cB cC cI cJ cZ oA rA Γ]) (is := [0, 1, 2, 4, 5, 6, 7]) fl_8 fl_7 rfl) (bx_n (by decide +kernel)) (bx_d (by decide +kernel)) (va_runV (As := [.ref q_7]) (rest := []) ⟨hx, hb, hml, hown, hts⟩ (k_X5_line l dC dI cB cC cI cJ cZ cP oA rA H.size q_7 _ ([89, 111, 117, 32, 115, 101, 101, 32, 110, 111, 116, 104, 105, 110, 103, 32, 115, 112, 101, 99, 105, 97, 108, 46] : List Int32) Γ _ hu_8) (cwV 1 hts (g_gV wq_998 wq_999 wq_1000 wq_9 wq_1001) rfl rfl rfl (by decide +kernel) ⟨Nat.le_of_ble_eq_true rfl, Nat.le_of_ble_eq_true rfl⟩) (g_preV g_blS hK hPc hDc hS hE hFc (g_toS hSq_7 hS hFc) (q0 := 0) (ci := 5) rfl rfl) rfl rfl hl.1 rfl (lv_room (Nat.le_of_ble_eq_true rfl)) dX8_examine_25 ⟨Nat.le_of_ble_eq_true rfl, Nat.le_of_ble_eq_true rfl⟩) (fun u9 H locs hw9 hP' hD' hS => ?_)
    clear hPc hDc hFc
    obtain ⟨σ_10, eσ_10, hF_11⟩ := bnd_e hF_9
    clear hF_9
    have hP : va_P (dC, dI) vwCl (b_e cB cC cI cJ cZ oA rA σ_10 ++ b_k cB cC cI cJ cZ oA rA σ_10 ++ b_p cB cC cI cJ cZ oA rA σ_10 ++ b_o cB cC cI cJ cZ oA rA σ_10 ++ b_s cB cC cI cJ cZ oA rA σ_10 ++ b_c cB cC cI cJ cZ oA rA σ_10 ++ b_t cB cC cI cJ cZ oA rA σ_10 ++ b_d cB cC cI cJ cZ oA rA σ_10) H := by rw [eσ_10]; exact bx_P (bs := [b_e cB cC cI cJ cZ oA rA Γ, b_k cB cC cI cJ cZ oA rA Γ, b_p cB cC cI cJ cZ oA rA Γ, b_s cB cC cI cJ cZ oA rA Γ, b_c cB cC cI cJ cZ oA rA Γ, b_t cB cC cI cJ cZ oA rA Γ, b_d cB cC cI cJ cZ oA rA Γ] ++ [b_o cB cC cI cJ cZ oA rA u_8.2]) (bs' := [b_e cB cC cI cJ cZ oA rA (mrg (fun j => j == 8) Γ u_8.2), b_k cB cC cI cJ cZ oA rA (mrg (fun j => j == 8) Γ u_8.2), b_p cB cC cI cJ cZ oA rA (mrg (fun j => j == 8) Γ u_8.2), b_o cB cC cI cJ cZ oA rA (mrg (fun j => j == 8) Γ u_8.2), b_s cB cC cI cJ cZ oA rA (mrg (fun j => j == 8) Γ u_8.2), b_c cB cC cI cJ cZ oA rA (mrg (fun j => j == 8) Γ u_8.2), b_t cB cC cI cJ cZ oA rA (mrg (fun j => j == 8) Γ u_8.2), b_d cB cC cI cJ cZ oA rA (mrg (fun j => j == 8) Γ u_8.2)]) hP' (fl_a fl_7 fl_1) fl_8 [0, 1, 2, 7, 3, 4, 5, 6] rfl
    clear hP' hD'
    refine lv_goto (tgt := 62) hx hb dX8_examine_28 (by decide) ?_
    have h9 := Option.some.inj hF_11
    subst h9
    exact W.vret hx hb hr (fun t ht hW => ⟨⟨(), rfl, trivial, m_end ht hP, hDD _⟩, hS.F ht⟩) hS.2.2 dX8_examine_62
theorem dX8_go_0 : decode cX8_go 0 = .ok (.aload_n 0, 1) := by decide +kernel
theorem dX8_go_1 : decode cX8_go 1 = .ok (.getfield 85, 3) := by decide +kernel
theorem dX8_go_4 : decode cX8_go 4 = .ok (.aload_n 0, 1) := by decide +kernel
theorem dX8_go_5 : decode cX8_go 5 = .ok (.getfield 22, 3) := by decide +kernel
theorem dX8_go_8 : decode cX8_go 8 = .ok (.invokevirtual 195, 3) := by decide +kernel
theorem dX8_go_11 : decode cX8_go 11 = .ok (.aload_n 0, 1) := by decide +kernel
theorem dX8_go_12 : decode cX8_go 12 = .ok (.getfield 114, 3) := by decide +kernel
theorem dX8_go_15 : decode cX8_go 15 = .ok (.invokevirtual 390, 3) := by decide +kernel
theorem dX8_go_18 : decode cX8_go 18 = .ok (.istore_n 1, 1) := by decide +kernel
theorem dX8_go_19 : decode cX8_go 19 = .ok (.iload_n 1, 1) := by decide +kernel
theorem dX8_go_20 : decode cX8_go 20 = .ok (.ifCond .ne 16, 3) := by decide +kernel
theorem dX8_go_23 : decode cX8_go 23 = .ok (.aload_n 0, 1) := by decide +kernel
theorem dX8_go_24 : decode cX8_go 24 = .ok (.getfield 26, 3) := by decide +kernel
theorem dX8_go_27 : decode cX8_go 27 = .ok (.ldc_w 393, 3) := by decide +kernel
theorem dX8_go_30 : decode cX8_go 30 = .ok (.invokevirtual 65, 3) := by decide +kernel
theorem dX8_go_33 : decode cX8_go 33 = .ok (.goto 12, 3) := by decide +kernel
theorem dX8_go_36 : decode cX8_go 36 = .ok (.aload_n 0, 1) := by decide +kernel
theorem dX8_go_37 : decode cX8_go 37 = .ok (.getfield 22, 3) := by decide +kernel
theorem dX8_go_40 : decode cX8_go 40 = .ok (.iconst 1, 1) := by decide +kernel
theorem dX8_go_41 : decode cX8_go 41 = .ok (.iload_n 1, 1) := by decide +kernel
theorem dX8_go_42 : decode cX8_go 42 = .ok (.invokevirtual 355, 3) := by decide +kernel
theorem dX8_go_45 : decode cX8_go 45 = .ok (.iload_n 1, 1) := by decide +kernel
theorem dX8_go_46 : decode cX8_go 46 = .ok (.ifCond .eq 7, 3) := by decide +kernel
theorem dX8_go_49 : decode cX8_go 49 = .ok (.iconst 1, 1) := by decide +kernel
theorem dX8_go_50 : decode cX8_go 50 = .ok (.goto 4, 3) := by decide +kernel
theorem dX8_go_53 : decode cX8_go 53 = .ok (.iconst 0, 1) := by decide +kernel
theorem dX8_go_54 : decode cX8_go 54 = .ok (.ireturn, 1) := by decide +kernel
def F_X8_go  (Γ : HS) : HR :=
  (F_X6_here Γ).bind fun u_1 =>
  bnd (mrg (fun j => j == 9) Γ u_1.2) fun σ_3 =>
  (F_X7_exitOf u_1.1 ((σ_3 11).1 10) σ_3).bind fun u_5 =>
  bnd (mrg (fun j => j == 4 || j == 5 || j == 6 || j == 7) σ_3 u_5.2) fun σ_7 =>
  bnd (fun  (σ_9 : HS) => (
    if u_5.1 = 0 then (
      some (0, σ_9)
    ) else (
      some (1, σ_9)
    )
  ) : HS → HR) fun j_10 =>
  if u_5.1 = 0 then (
    (F_X5_line ([89, 111, 117, 32, 99, 97, 110, 32, 110, 111, 116, 32, 103, 111, 32, 116, 104, 101, 114, 101, 46] : List Int32) σ_7).bind fun u_19 =>
    bnd (mrg (fun j => j == 8) σ_7 u_19.2) fun σ_21 =>
    j_10  σ_21
  ) else (
    (F_X6_moveInto 1 u_5.1 σ_7).bind fun u_24 =>
    bnd (mrg (fun j => j == 9) σ_7 u_24.2) fun σ_26 =>
    j_10  σ_26
  )
set_option maxHeartbeats 4000000 in
set_option maxRecDepth 100000 in
theorem k_X8_go (l : Launch) (dC : Nat → ClassId) (dI : Nat → Nat → Nat) (cB cC cI cJ cZ cP : ClassId) (oA : Nat → Nat) (rA : Nat → Nat → Nat) (sz : Nat)   (Γ : HS) (res : Int32 × HS) (hF : F_X8_go  Γ = some res) : Met l yX8_go (g_ws yX8_go cX8_go 2 (some .boolean)) ({ frames := 7, cells := 0, slots := 0, locals := 168 }) (va_Pc [.ref (oA 11)] (g_B (dC, dI) [(cB, .byte), (cC, .char), (cI, .int), (cJ, .long), (cZ, .boolean), (cP, .object "StoryHouse$Play")] sz (b_e cB cC cI cJ cZ oA rA Γ ++ b_k cB cC cI cJ cZ oA rA Γ ++ b_p cB cC cI cJ cZ oA rA Γ ++ b_o cB cC cI cJ cZ oA rA Γ ++ b_s cB cC cI cJ cZ oA rA Γ ++ b_c cB cC cI cJ cZ oA rA Γ ++ b_t cB cC cI cJ cZ oA rA Γ ++ b_d cB cC cI cJ cZ oA rA Γ) g_0)) (va_Qi (fun r (_ : Unit) => r = res.1) (g_Bo (dC, dI) (va_A (b_e cB cC cI cJ cZ oA rA Γ ++ b_k cB cC cI cJ cZ oA rA Γ ++ b_p cB cC cI cJ cZ oA rA Γ ++ b_o cB cC cI cJ cZ oA rA Γ ++ b_s cB cC cI cJ cZ oA rA Γ ++ b_c cB cC cI cJ cZ oA rA Γ ++ b_t cB cC cI cJ cZ oA rA Γ ++ b_d cB cC cI cJ cZ oA rA Γ) sz) (fun (_ : Unit) => (b_e cB cC cI cJ cZ oA rA res.2 ++ b_k cB cC cI cJ cZ oA rA res.2 ++ b_p cB cC cI cJ cZ oA rA res.2 ++ b_o cB cC cI cJ cZ oA rA res.2 ++ b_s cB cC cI cJ cZ oA rA res.2 ++ b_c cB cC cI cJ cZ oA rA res.2 ++ b_t cB cC cI cJ cZ oA rA res.2 ++ b_d cB cC cI cJ cZ oA rA res.2))) (va_A (b_e cB cC cI cJ cZ oA rA Γ ++ b_k cB cC cI cJ cZ oA rA Γ ++ b_p cB cC cI cJ cZ oA rA Γ ++ b_o cB cC cI cJ cZ oA rA Γ ++ b_s cB cC cI cJ cZ oA rA Γ ++ b_c cB cC cI cJ cZ oA rA Γ ++ b_t cB cC cI cJ cZ oA rA Γ ++ b_d cB cC cI cJ cZ oA rA Γ) sz)) 0 0 (va_A (b_e cB cC cI cJ cZ oA rA Γ ++ b_k cB cC cI cJ cZ oA rA Γ ++ b_p cB cC cI cJ cZ oA rA Γ ++ b_o cB cC cI cJ cZ oA rA Γ ++ b_s cB cC cI cJ cZ oA rA Γ ++ b_c cB cC cI cJ cZ oA rA Γ ++ b_t cB cC cI cJ cZ oA rA Γ ++ b_d cB cC cI cJ cZ oA rA Γ) sz) := by
  refine Met.ofW (cc := cX8_go) (maxL := 2) (ret := (some .boolean)) (by decide) rfl ?_
  intro p e s m args below meth c s₁ B hml hv
  obtain ⟨rfl, hsz, hP, hK, hD0, hE, hX⟩ := hv
  have hx := B.exec
  have hb := B.bytes
  have hr := B.returns
  have hts0 := atoms_spec (ws := g_ws yX8_go cX8_go 2 (some .boolean)) B.pre
  have hts : ∀ w ∈ lw_good, w.before ([.ref (oA 11)] : List Value).toArray s = true := fun w z => hts0 w (List.mem_cons_of_mem _ z)
  have hown : s.vm.findClass RX8 = some m.cls := findClass_of_methodNamed B.named
  have hlocks := B.notSynchronized
  subst hsz
  have hD1 := hD0.self (sz := s.heap.size)
  generalize hAe : va_A (b_e cB cC cI cJ cZ oA rA Γ ++ b_k cB cC cI cJ cZ oA rA Γ ++ b_p cB cC cI cJ cZ oA rA Γ ++ b_o cB cC cI cJ cZ oA rA Γ ++ b_s cB cC cI cJ cZ oA rA Γ ++ b_c cB cC cI cJ cZ oA rA Γ ++ b_t cB cC cI cJ cZ oA rA Γ ++ b_d cB cC cI cJ cZ oA rA Γ) s.heap.size = A at hD1 hE hX ⊢
  have hA : ∀ q : Nat, s.heap.size ≤ q → A q := fun q z => by rw [← hAe]; exact Or.inr z
  have hDD : ∀ Γ : HS, va_D A (b_e cB cC cI cJ cZ oA rA Γ ++ b_k cB cC cI cJ cZ oA rA Γ ++ b_p cB cC cI cJ cZ oA rA Γ ++ b_o cB cC cI cJ cZ oA rA Γ ++ b_s cB cC cI cJ cZ oA rA Γ ++ b_c cB cC cI cJ cZ oA rA Γ ++ b_t cB cC cI cJ cZ oA rA Γ ++ b_d cB cC cI cJ cZ oA rA Γ) := fun Γ9 => va_D_fst (ws := (b_e cB cC cI cJ cZ oA rA Γ ++ b_k cB cC cI cJ cZ oA rA Γ ++ b_p cB cC cI cJ cZ oA rA Γ ++ b_o cB cC cI cJ cZ oA rA Γ ++ b_s cB cC cI cJ cZ oA rA Γ ++ b_c cB cC cI cJ cZ oA rA Γ ++ b_t cB cC cI cJ cZ oA rA Γ ++ b_d cB cC cI cJ cZ oA rA Γ)) (ws' := (b_e cB cC cI cJ cZ oA rA Γ9 ++ b_k cB cC cI cJ cZ oA rA Γ9 ++ b_p cB cC cI cJ cZ oA rA Γ9 ++ b_o cB cC cI cJ cZ oA rA Γ9 ++ b_s cB cC cI cJ cZ oA rA Γ9 ++ b_c cB cC cI cJ cZ oA rA Γ9 ++ b_t cB cC cI cJ cZ oA rA Γ9 ++ b_d cB cC cI cJ cZ oA rA Γ9)) rfl hD1
  have hN := hE.1
  have hS : va_S A s.heap s.heap [] := va_S.rf
  have hl := lv_entry ([.ref (oA 11)]) (n := 2) (Nat.le_of_ble_eq_true rfl)
  rw [lg_entry_eq]
  generalize (lg_sl ([.ref (oA 11)]) ++ List.replicate (2 - (lg_sl ([.ref (oA 11)])).length) Slot.unset).toArray = ls at hl ⊢
  have hl : lv_has ls 2 [(0, .ref (oA 11))] := hl
  unfold F_X8_go at hF
  refine lv_aload_n hx hb dX8_go_0 rfl (lv_at hl 0 rfl) ?_
  refine va_get (D := (dC, dI)) (ci := 8) (v := .ref (oA 4)) (C := RX8) (T := TX8) (N := 16) hx hb hts ii_X8 hown hK hP 0 rfl rfl 3 (by decide) (hts (.fieldLink RX8 85 "StoryHouse$Teller" "story" "LStoryHouse$Story;") wq_290) (fun _ h9 => h9) rfl dX8_go_1 ?_
  refine lv_aload_n hx hb dX8_go_4 rfl (lv_at hl 0 rfl) ?_
  refine va_get (D := (dC, dI)) (ci := 8) (v := .ref (oA 9)) (C := RX8) (T := TX8) (N := 16) hx hb hts ii_X8 hown hK hP 0 rfl rfl 0 (by decide) (hts (.fieldLink RX8 22 "StoryHouse$Teller" "play" "LStoryHouse$Play;") wq_286) (fun _ h9 => h9) rfl dX8_go_5 ?_
  obtain ⟨u_1, hu_1, hF_2⟩ := Option.bind_eq_some_iff.mp hF
  clear hF
  have hPc := bx_P (bs := [b_e cB cC cI cJ cZ oA rA Γ, b_k cB cC cI cJ cZ oA rA Γ, b_p cB cC cI cJ cZ oA rA Γ, b_o cB cC cI cJ cZ oA rA Γ, b_s cB cC cI cJ cZ oA rA Γ, b_c cB cC cI cJ cZ oA rA Γ, b_t cB cC cI cJ cZ oA rA Γ, b_d cB cC cI cJ cZ oA rA Γ]) (bs' := [b_p cB cC cI cJ cZ oA rA Γ]) (ws' := (b_p cB cC cI cJ cZ oA rA Γ)) hP fl_8 fl_1 [2] rfl
  have hDc := bx_D (bs := [b_e cB cC cI cJ cZ oA rA Γ, b_k cB cC cI cJ cZ oA rA Γ, b_p cB cC cI cJ cZ oA rA Γ, b_o cB cC cI cJ cZ oA rA Γ, b_s cB cC cI cJ cZ oA rA Γ, b_c cB cC cI cJ cZ oA rA Γ, b_t cB cC cI cJ cZ oA rA Γ, b_d cB cC cI cJ cZ oA rA Γ]) (bs' := [b_p cB cC cI cJ cZ oA rA Γ]) (ws' := (b_p cB cC cI cJ cZ oA rA Γ)) (hDD Γ) fl_8 fl_1 [2] (by decide +kernel) rfl
  have hFc := bx_F (bs := [b_e cB cC cI cJ cZ oA rA Γ, b_k cB cC cI cJ cZ oA rA Γ, b_p cB cC cI cJ cZ oA rA Γ, b_o cB cC cI cJ cZ oA rA Γ, b_s cB cC cI cJ cZ oA rA Γ, b_c cB cC cI cJ cZ oA rA Γ, b_t cB cC cI cJ cZ oA rA Γ, b_d cB cC cI cJ cZ oA rA Γ]) (bs' := [b_p cB cC cI cJ cZ oA rA Γ]) (wc := (b_p cB cC cI cJ cZ oA rA Γ)) (hDD Γ) hS hA fl_8 fl_1 [2] rfl
  refine g_ofi (wc := (b_p cB cC cI cJ cZ oA rA Γ)) (wr := (b_e cB cC cI cJ cZ oA rA Γ ++ b_k cB cC cI cJ cZ oA rA Γ ++ b_o cB cC cI cJ cZ oA rA Γ ++ b_s cB cC cI cJ cZ oA rA Γ ++ b_c cB cC cI cJ cZ oA rA Γ ++ b_t cB cC cI cJ cZ oA rA Γ ++ b_d cB cC cI cJ cZ oA rA Γ)) hP (hDD Γ) hS hFc (bx_ix [b_e cB cC cI cJ cZ oA rA Γ, b_k cB cC cI cJ cZ oA rA Γ, b_p cB cC cI cJ cZ oA rA Γ, b_o cB cC cI cJ cZ oA rA Γ, b_s cB cC cI cJ cZ oA rA Γ, b_c cB cC cI cJ cZ oA rA Γ, b_t cB cC cI cJ cZ oA rA Γ, b_d cB cC cI cJ cZ oA rA Γ] [2]) (bx_ix [b_e cB cC cI cJ cZ oA rA Γ, b_k cB cC cI cJ cZ oA rA Γ, b_p cB cC cI cJ cZ oA rA Γ, b_o cB cC cI cJ cZ oA rA Γ, b_s cB cC cI cJ cZ oA rA Γ, b_c cB cC cI cJ cZ oA rA Γ, b_t cB cC cI cJ cZ oA rA Γ, b_d cB cC cI cJ cZ oA rA Γ] [0, 1, 3, 4, 5, 6, 7]) (bx_C (bs := [b_e cB cC cI cJ cZ oA rA Γ, b_k cB cC cI cJ cZ oA rA Γ, b_p cB cC cI cJ cZ oA rA Γ, b_o cB cC cI cJ cZ oA rA Γ, b_s cB cC cI cJ cZ oA rA Γ, b_c cB cC cI cJ cZ oA rA Γ, b_t cB cC cI cJ cZ oA rA Γ, b_d cB cC cI cJ cZ oA rA Γ]) (bs' := [b_p cB cC cI cJ cZ oA rA Γ]) (is := [2]) fl_8 fl_1 rfl) (bx_C (bs := [b_e cB cC cI cJ cZ oA rA Γ, b_k cB cC cI cJ cZ oA rA Γ, b_p cB cC cI cJ cZ oA rA Γ, b_o cB cC cI cJ cZ oA rA Γ, b_s cB cC cI cJ cZ oA rA Γ, b_c cB cC cI cJ cZ oA rA Γ, b_t cB cC cI cJ cZ oA rA Γ, b_d cB cC cI cJ cZ oA rA Γ]) (bs' := [b_e cB cC cI cJ cZ oA rA Γ, b_k cB cC cI cJ cZ oA rA Γ, b_o cB cC cI cJ cZ oA rA Γ, b_s cB cC cI cJ cZ oA rA Γ, b_c cB cC cI cJ cZ oA rA Γ, b_t cB cC cI cJ cZ oA rA Γ, b_d cB cC cI cJ cZ oA rA Γ]) (is := [0, 1, 3, 4, 5, 6, 7]) fl_8 fl_7 rfl) (bx_n (by decide +kernel)) (bx_d (by decide +kernel)) (va_runV (As := []) (rest := [.ref (oA 4)]) ⟨hx, hb, hml, hown, hts⟩ (k_X6_here l dC dI cB cC cI cJ cZ cP oA rA s.heap.size  Γ _ hu_1) (cwV 0 hts (g_gV wq_1012 wq_983 wq_984 wq_10 wq_985) rfl rfl rfl (by decide +kernel) ⟨Nat.le_of_ble_eq_true rfl, Nat.le_of_ble_eq_true rfl⟩) (g_preV g_bl0 hK hPc hDc hS hE hFc g_to0 (q0 := 0) (ci := 6) rfl rfl) rfl rfl hl.1 rfl (lv_room (Nat.le_of_ble_eq_true rfl)) dX8_go_8 ⟨Nat.le_of_ble_eq_true rfl, Nat.le_of_ble_eq_true rfl⟩) (fun r9 u9 H locs hw9 hP' hD' hS => ?_)
  clear hPc hDc hFc
  subst hw9
  obtain ⟨σ_3, eσ_3, hF_4⟩ := bnd_e hF_2
  clear hF_2
  have hP : va_P (dC, dI) vwCl (b_e cB cC cI cJ cZ oA rA σ_3 ++ b_k cB cC cI cJ cZ oA rA σ_3 ++ b_p cB cC cI cJ cZ oA rA σ_3 ++ b_o cB cC cI cJ cZ oA rA σ_3 ++ b_s cB cC cI cJ cZ oA rA σ_3 ++ b_c cB cC cI cJ cZ oA rA σ_3 ++ b_t cB cC cI cJ cZ oA rA σ_3 ++ b_d cB cC cI cJ cZ oA rA σ_3) H := by rw [eσ_3]; exact bx_P (bs := [b_e cB cC cI cJ cZ oA rA Γ, b_k cB cC cI cJ cZ oA rA Γ, b_o cB cC cI cJ cZ oA rA Γ, b_s cB cC cI cJ cZ oA rA Γ, b_c cB cC cI cJ cZ oA rA Γ, b_t cB cC cI cJ cZ oA rA Γ, b_d cB cC cI cJ cZ oA rA Γ] ++ [b_p cB cC cI cJ cZ oA rA u_1.2]) (bs' := [b_e cB cC cI cJ cZ oA rA (mrg (fun j => j == 9) Γ u_1.2), b_k cB cC cI cJ cZ oA rA (mrg (fun j => j == 9) Γ u_1.2), b_p cB cC cI cJ cZ oA rA (mrg (fun j => j == 9) Γ u_1.2), b_o cB cC cI cJ cZ oA rA (mrg (fun j => j == 9) Γ u_1.2), b_s cB cC cI cJ cZ oA rA (mrg (fun j => j == 9) Γ u_1.2), b_c cB cC cI cJ cZ oA rA (mrg (fun j => j == 9) Γ u_1.2), b_t cB cC cI cJ cZ oA rA (mrg (fun j => j == 9) Γ u_1.2), b_d cB cC cI cJ cZ oA rA (mrg (fun j => j == 9) Γ u_1.2)]) hP' (fl_a fl_7 fl_1) fl_8 [0, 1, 7, 2, 3, 4, 5, 6] rfl
  clear hP' hD'
  refine lv_aload_n hx hb dX8_go_11 rfl (lv_at hl 0 rfl) ?_
  refine va_get (D := (dC, dI)) (ci := 8) (v := .int ((σ_3 11).1 10)) (C := RX8) (T := TX8) (N := 16) hx hb hts ii_X8 hown hK hP 0 rfl rfl 10 (by decide) (hts (.fieldLink RX8 114 "StoryHouse$Teller" "noun" "I") wq_297) (fun _ h9 => h9) rfl dX8_go_12 ?_
  obtain ⟨u_5, hu_5, hF_6⟩ := Option.bind_eq_some_iff.mp hF_4
  clear hF_4
  have hPc := bx_P (bs := [b_e cB cC cI cJ cZ oA rA σ_3, b_k cB cC cI cJ cZ oA rA σ_3, b_p cB cC cI cJ cZ oA rA σ_3, b_o cB cC cI cJ cZ oA rA σ_3, b_s cB cC cI cJ cZ oA rA σ_3, b_c cB cC cI cJ cZ oA rA σ_3, b_t cB cC cI cJ cZ oA rA σ_3, b_d cB cC cI cJ cZ oA rA σ_3]) (bs' := [b_s cB cC cI cJ cZ oA rA σ_3, b_c cB cC cI cJ cZ oA rA σ_3, b_t cB cC cI cJ cZ oA rA σ_3, b_d cB cC cI cJ cZ oA rA σ_3]) (ws' := (b_s cB cC cI cJ cZ oA rA σ_3 ++ b_c cB cC cI cJ cZ oA rA σ_3 ++ b_t cB cC cI cJ cZ oA rA σ_3 ++ b_d cB cC cI cJ cZ oA rA σ_3)) hP fl_8 fl_4 [4, 5, 6, 7] rfl
  have hDc := bx_D (bs := [b_e cB cC cI cJ cZ oA rA σ_3, b_k cB cC cI cJ cZ oA rA σ_3, b_p cB cC cI cJ cZ oA rA σ_3, b_o cB cC cI cJ cZ oA rA σ_3, b_s cB cC cI cJ cZ oA rA σ_3, b_c cB cC cI cJ cZ oA rA σ_3, b_t cB cC cI cJ cZ oA rA σ_3, b_d cB cC cI cJ cZ oA rA σ_3]) (bs' := [b_s cB cC cI cJ cZ oA rA σ_3, b_c cB cC cI cJ cZ oA rA σ_3, b_t cB cC cI cJ cZ oA rA σ_3, b_d cB cC cI cJ cZ oA rA σ_3]) (ws' := (b_s cB cC cI cJ cZ oA rA σ_3 ++ b_c cB cC cI cJ cZ oA rA σ_3 ++ b_t cB cC cI cJ cZ oA rA σ_3 ++ b_d cB cC cI cJ cZ oA rA σ_3)) (hDD σ_3) fl_8 fl_4 [4, 5, 6, 7] (by decide +kernel) rfl
  have hFc := bx_F (bs := [b_e cB cC cI cJ cZ oA rA σ_3, b_k cB cC cI cJ cZ oA rA σ_3, b_p cB cC cI cJ cZ oA rA σ_3, b_o cB cC cI cJ cZ oA rA σ_3, b_s cB cC cI cJ cZ oA rA σ_3, b_c cB cC cI cJ cZ oA rA σ_3, b_t cB cC cI cJ cZ oA rA σ_3, b_d cB cC cI cJ cZ oA rA σ_3]) (bs' := [b_s cB cC cI cJ cZ oA rA σ_3, b_c cB cC cI cJ cZ oA rA σ_3, b_t cB cC cI cJ cZ oA rA σ_3, b_d cB cC cI cJ cZ oA rA σ_3]) (wc := (b_s cB cC cI cJ cZ oA rA σ_3 ++ b_c cB cC cI cJ cZ oA rA σ_3 ++ b_t cB cC cI cJ cZ oA rA σ_3 ++ b_d cB cC cI cJ cZ oA rA σ_3)) (hDD σ_3) hS hA fl_8 fl_4 [4, 5, 6, 7] rfl
  refine g_ofi (wc := (b_s cB cC cI cJ cZ oA rA σ_3 ++ b_c cB cC cI cJ cZ oA rA σ_3 ++ b_t cB cC cI cJ cZ oA rA σ_3 ++ b_d cB cC cI cJ cZ oA rA σ_3)) (wr := (b_e cB cC cI cJ cZ oA rA σ_3 ++ b_k cB cC cI cJ cZ oA rA σ_3 ++ b_p cB cC cI cJ cZ oA rA σ_3 ++ b_o cB cC cI cJ cZ oA rA σ_3)) hP (hDD σ_3) hS hFc (bx_ix [b_e cB cC cI cJ cZ oA rA σ_3, b_k cB cC cI cJ cZ oA rA σ_3, b_p cB cC cI cJ cZ oA rA σ_3, b_o cB cC cI cJ cZ oA rA σ_3, b_s cB cC cI cJ cZ oA rA σ_3, b_c cB cC cI cJ cZ oA rA σ_3, b_t cB cC cI cJ cZ oA rA σ_3, b_d cB cC cI cJ cZ oA rA σ_3] [4, 5, 6, 7]) (bx_ix [b_e cB cC cI cJ cZ oA rA σ_3, b_k cB cC cI cJ cZ oA rA σ_3, b_p cB cC cI cJ cZ oA rA σ_3, b_o cB cC cI cJ cZ oA rA σ_3, b_s cB cC cI cJ cZ oA rA σ_3, b_c cB cC cI cJ cZ oA rA σ_3, b_t cB cC cI cJ cZ oA rA σ_3, b_d cB cC cI cJ cZ oA rA σ_3] [0, 1, 2, 3]) (bx_C (bs := [b_e cB cC cI cJ cZ oA rA σ_3, b_k cB cC cI cJ cZ oA rA σ_3, b_p cB cC cI cJ cZ oA rA σ_3, b_o cB cC cI cJ cZ oA rA σ_3, b_s cB cC cI cJ cZ oA rA σ_3, b_c cB cC cI cJ cZ oA rA σ_3, b_t cB cC cI cJ cZ oA rA σ_3, b_d cB cC cI cJ cZ oA rA σ_3]) (bs' := [b_s cB cC cI cJ cZ oA rA σ_3, b_c cB cC cI cJ cZ oA rA σ_3, b_t cB cC cI cJ cZ oA rA σ_3, b_d cB cC cI cJ cZ oA rA σ_3]) (is := [4, 5, 6, 7]) fl_8 fl_4 rfl) (bx_C (bs := [b_e cB cC cI cJ cZ oA rA σ_3, b_k cB cC cI cJ cZ oA rA σ_3, b_p cB cC cI cJ cZ oA rA σ_3, b_o cB cC cI cJ cZ oA rA σ_3, b_s cB cC cI cJ cZ oA rA σ_3, b_c cB cC cI cJ cZ oA rA σ_3, b_t cB cC cI cJ cZ oA rA σ_3, b_d cB cC cI cJ cZ oA rA σ_3]) (bs' := [b_e cB cC cI cJ cZ oA rA σ_3, b_k cB cC cI cJ cZ oA rA σ_3, b_p cB cC cI cJ cZ oA rA σ_3, b_o cB cC cI cJ cZ oA rA σ_3]) (is := [0, 1, 2, 3]) fl_8 fl_4 rfl) (bx_n (by decide +kernel)) (bx_d (by decide +kernel)) (va_runV (As := [.int u_1.1, .int ((σ_3 11).1 10)]) (rest := []) ⟨hx, hb, hml, hown, hts⟩ (k_X7_exitOf l dC dI cB cC cI cJ cZ cP oA rA H.size  u_1.1 ((σ_3 11).1 10) σ_3 _ hu_5) (cwV 2 hts (g_gV wq_1250 wq_1251 wq_1252 wq_5 wq_1253) rfl rfl rfl (by decide +kernel) ⟨Nat.le_of_ble_eq_true rfl, Nat.le_of_ble_eq_true rfl⟩) (g_preV g_bl0 hK hPc hDc hS hE hFc g_to0 (q0 := 0) (ci := 7) rfl rfl) rfl rfl hl.1 rfl (lv_room (Nat.le_of_ble_eq_true rfl)) dX8_go_15 ⟨Nat.le_of_ble_eq_true rfl, Nat.le_of_ble_eq_true rfl⟩) (fun r9 u9 H locs hw9 hP' hD' hS => ?_)
  clear hPc hDc hFc
  subst hw9
  obtain ⟨σ_7, eσ_7, hF_8⟩ := bnd_e hF_6
  clear hF_6
  have hP : va_P (dC, dI) vwCl (b_e cB cC cI cJ cZ oA rA σ_7 ++ b_k cB cC cI cJ cZ oA rA σ_7 ++ b_p cB cC cI cJ cZ oA rA σ_7 ++ b_o cB cC cI cJ cZ oA rA σ_7 ++ b_s cB cC cI cJ cZ oA rA σ_7 ++ b_c cB cC cI cJ cZ oA rA σ_7 ++ b_t cB cC cI cJ cZ oA rA σ_7 ++ b_d cB cC cI cJ cZ oA rA σ_7) H := by rw [eσ_7]; exact bx_P (bs := [b_e cB cC cI cJ cZ oA rA σ_3, b_k cB cC cI cJ cZ oA rA σ_3, b_p cB cC cI cJ cZ oA rA σ_3, b_o cB cC cI cJ cZ oA rA σ_3] ++ [b_s cB cC cI cJ cZ oA rA u_5.2, b_c cB cC cI cJ cZ oA rA u_5.2, b_t cB cC cI cJ cZ oA rA u_5.2, b_d cB cC cI cJ cZ oA rA u_5.2]) (bs' := [b_e cB cC cI cJ cZ oA rA (mrg (fun j => j == 4 || j == 5 || j == 6 || j == 7) σ_3 u_5.2), b_k cB cC cI cJ cZ oA rA (mrg (fun j => j == 4 || j == 5 || j == 6 || j == 7) σ_3 u_5.2), b_p cB cC cI cJ cZ oA rA (mrg (fun j => j == 4 || j == 5 || j == 6 || j == 7) σ_3 u_5.2), b_o cB cC cI cJ cZ oA rA (mrg (fun j => j == 4 || j == 5 || j == 6 || j == 7) σ_3 u_5.2), b_s cB cC cI cJ cZ oA rA (mrg (fun j => j == 4 || j == 5 || j == 6 || j == 7) σ_3 u_5.2), b_c cB cC cI cJ cZ oA rA (mrg (fun j => j == 4 || j == 5 || j == 6 || j == 7) σ_3 u_5.2), b_t cB cC cI cJ cZ oA rA (mrg (fun j => j == 4 || j == 5 || j == 6 || j == 7) σ_3 u_5.2), b_d cB cC cI cJ cZ oA rA (mrg (fun j => j == 4 || j == 5 || j == 6 || j == 7) σ_3 u_5.2)]) hP' (fl_a fl_4 fl_4) fl_8 [0, 1, 2, 3, 4, 5, 6, 7] rfl
  clear hP' hD'
  refine lv_istore_n (lv' := [(1, .int u_5.1), (0, .ref (oA 11))]) hx hb dX8_go_18 rfl hl (by decide) rfl (fun ls hl => ?_)
  refine lv_iload_n hx hb dX8_go_19 rfl (lv_at hl 0 rfl) ?_
  obtain ⟨j_10, ej_10, hF_11⟩ := bnd_e hF_8
  clear hF_8
  have Jj_10 : ∀  (σ_9 : HS), j_10  σ_9 = some res → ∀ (H : Heap) (locs : List Loc), va_P (dC, dI) vwCl (b_e cB cC cI cJ cZ oA rA σ_9 ++ b_k cB cC cI cJ cZ oA rA σ_9 ++ b_p cB cC cI cJ cZ oA rA σ_9 ++ b_o cB cC cI cJ cZ oA rA σ_9 ++ b_s cB cC cI cJ cZ oA rA σ_9 ++ b_c cB cC cI cJ cZ oA rA σ_9 ++ b_t cB cC cI cJ cZ oA rA σ_9 ++ b_d cB cC cI cJ cZ oA rA σ_9) H → va_S A s.heap H locs → ∀ ls : Array Slot, lv_has ls 2 [(1, .int u_5.1)] → W p l e (headSpec (g_ws yX8_go cX8_go 2 (some .boolean)) { frames := 7, cells := 0, slots := 0, locals := 168 }).room s m ([.ref (oA 11)] : List Value).toArray below meth c H locs 0 0 (MQ below (va_Qi (fun r (_ : Unit) => r = res.1) (g_Bo (dC, dI) A (fun (_ : Unit) => (b_e cB cC cI cJ cZ oA rA res.2 ++ b_k cB cC cI cJ cZ oA rA res.2 ++ b_p cB cC cI cJ cZ oA rA res.2 ++ b_o cB cC cI cJ cZ oA rA res.2 ++ b_s cB cC cI cJ cZ oA rA res.2 ++ b_c cB cC cI cJ cZ oA rA res.2 ++ b_t cB cC cI cJ cZ oA rA res.2 ++ b_d cB cC cI cJ cZ oA rA res.2))) A) ([.ref (oA 11)] : List Value).toArray s 0 0 A) (F0 m 45 ls []) := by
    intro  σ_9 hF0 H locs hP hS ls hl
    subst ej_10
    have hF_12 := hF0
    clear hF0
    refine lv_iload_n hx hb dX8_go_45 rfl (lv_at hl 0 rfl) ?_
    refine lv_if_eq (tgt := 53) hx hb dX8_go_46 (by decide) (fun c_13 => ?_) (fun c_13 => ?_)
    · have hF_14 := ipos c_13 hF_12
      clear hF_12
      refine lv_iconst (v := 0) hx hb dX8_go_53 (by decide +kernel) ?_
      have h9 := Option.some.inj hF_14
      subst h9
      exact W.zret (v := 0) hx hb hr (by decide +kernel) (fun t ht hW => ⟨⟨0, (), rfl, rfl, m_end ht hP, hDD _⟩, hS.F ht⟩) hS.2.2 dX8_go_54
    · have hF_15 := ineg c_13 hF_12
      clear hF_12
      refine lv_iconst (v := 1) hx hb dX8_go_49 (by decide +kernel) ?_
      refine lv_goto (tgt := 54) hx hb dX8_go_50 (by decide) ?_
      have h9 := Option.some.inj hF_15
      subst h9
      exact W.zret (v := 1) hx hb hr (by decide +kernel) (fun t ht hW => ⟨⟨1, (), rfl, rfl, m_end ht hP, hDD _⟩, hS.F ht⟩) hS.2.2 dX8_go_54
  refine lv_if_ne (tgt := 36) hx hb dX8_go_20 (by decide) (fun c_16 => ?_) (fun c_16 => ?_)
  · have hF_23 := ineg c_16 hF_11
    clear hF_11
    refine lv_aload_n hx hb dX8_go_36 rfl (lv_at hl 1 rfl) ?_
    refine va_get (D := (dC, dI)) (ci := 8) (v := .ref (oA 9)) (C := RX8) (T := TX8) (N := 16) hx hb hts ii_X8 hown hK hP 0 rfl rfl 0 (by decide) (hts (.fieldLink RX8 22 "StoryHouse$Teller" "play" "LStoryHouse$Play;") wq_286) (fun _ h9 => h9) rfl dX8_go_37 ?_
    refine lv_iconst (v := 1) hx hb dX8_go_40 (by decide +kernel) ?_
    refine lv_iload_n hx hb dX8_go_41 rfl (lv_at hl 0 rfl) ?_
    obtain ⟨u_24, hu_24, hF_25⟩ := Option.bind_eq_some_iff.mp hF_23
    clear hF_23
    have hPc := bx_P (bs := [b_e cB cC cI cJ cZ oA rA σ_7, b_k cB cC cI cJ cZ oA rA σ_7, b_p cB cC cI cJ cZ oA rA σ_7, b_o cB cC cI cJ cZ oA rA σ_7, b_s cB cC cI cJ cZ oA rA σ_7, b_c cB cC cI cJ cZ oA rA σ_7, b_t cB cC cI cJ cZ oA rA σ_7, b_d cB cC cI cJ cZ oA rA σ_7]) (bs' := [b_p cB cC cI cJ cZ oA rA σ_7]) (ws' := (b_p cB cC cI cJ cZ oA rA σ_7)) hP fl_8 fl_1 [2] rfl
    have hDc := bx_D (bs := [b_e cB cC cI cJ cZ oA rA σ_7, b_k cB cC cI cJ cZ oA rA σ_7, b_p cB cC cI cJ cZ oA rA σ_7, b_o cB cC cI cJ cZ oA rA σ_7, b_s cB cC cI cJ cZ oA rA σ_7, b_c cB cC cI cJ cZ oA rA σ_7, b_t cB cC cI cJ cZ oA rA σ_7, b_d cB cC cI cJ cZ oA rA σ_7]) (bs' := [b_p cB cC cI cJ cZ oA rA σ_7]) (ws' := (b_p cB cC cI cJ cZ oA rA σ_7)) (hDD σ_7) fl_8 fl_1 [2] (by decide +kernel) rfl
    have hFc := bx_F (bs := [b_e cB cC cI cJ cZ oA rA σ_7, b_k cB cC cI cJ cZ oA rA σ_7, b_p cB cC cI cJ cZ oA rA σ_7, b_o cB cC cI cJ cZ oA rA σ_7, b_s cB cC cI cJ cZ oA rA σ_7, b_c cB cC cI cJ cZ oA rA σ_7, b_t cB cC cI cJ cZ oA rA σ_7, b_d cB cC cI cJ cZ oA rA σ_7]) (bs' := [b_p cB cC cI cJ cZ oA rA σ_7]) (wc := (b_p cB cC cI cJ cZ oA rA σ_7)) (hDD σ_7) hS hA fl_8 fl_1 [2] rfl
    refine g_ofv (wc := (b_p cB cC cI cJ cZ oA rA σ_7)) (wr := (b_e cB cC cI cJ cZ oA rA σ_7 ++ b_k cB cC cI cJ cZ oA rA σ_7 ++ b_o cB cC cI cJ cZ oA rA σ_7 ++ b_s cB cC cI cJ cZ oA rA σ_7 ++ b_c cB cC cI cJ cZ oA rA σ_7 ++ b_t cB cC cI cJ cZ oA rA σ_7 ++ b_d cB cC cI cJ cZ oA rA σ_7)) hP (hDD σ_7) hS hFc (bx_ix [b_e cB cC cI cJ cZ oA rA σ_7, b_k cB cC cI cJ cZ oA rA σ_7, b_p cB cC cI cJ cZ oA rA σ_7, b_o cB cC cI cJ cZ oA rA σ_7, b_s cB cC cI cJ cZ oA rA σ_7, b_c cB cC cI cJ cZ oA rA σ_7, b_t cB cC cI cJ cZ oA rA σ_7, b_d cB cC cI cJ cZ oA rA σ_7] [2]) (bx_ix [b_e cB cC cI cJ cZ oA rA σ_7, b_k cB cC cI cJ cZ oA rA σ_7, b_p cB cC cI cJ cZ oA rA σ_7, b_o cB cC cI cJ cZ oA rA σ_7, b_s cB cC cI cJ cZ oA rA σ_7, b_c cB cC cI cJ cZ oA rA σ_7, b_t cB cC cI cJ cZ oA rA σ_7, b_d cB cC cI cJ cZ oA rA σ_7] [0, 1, 3, 4, 5, 6, 7]) (bx_C (bs := [b_e cB cC cI cJ cZ oA rA σ_7, b_k cB cC cI cJ cZ oA rA σ_7, b_p cB cC cI cJ cZ oA rA σ_7, b_o cB cC cI cJ cZ oA rA σ_7, b_s cB cC cI cJ cZ oA rA σ_7, b_c cB cC cI cJ cZ oA rA σ_7, b_t cB cC cI cJ cZ oA rA σ_7, b_d cB cC cI cJ cZ oA rA σ_7]) (bs' := [b_p cB cC cI cJ cZ oA rA σ_7]) (is := [2]) fl_8 fl_1 rfl) (bx_C (bs := [b_e cB cC cI cJ cZ oA rA σ_7, b_k cB cC cI cJ cZ oA rA σ_7, b_p cB cC cI cJ cZ oA rA σ_7, b_o cB cC cI cJ cZ oA rA σ_7, b_s cB cC cI cJ cZ oA rA σ_7, b_c cB cC cI cJ cZ oA rA σ_7, b_t cB cC cI cJ cZ oA rA σ_7, b_d cB cC cI cJ cZ oA rA σ_7]) (bs' := [b_e cB cC cI cJ cZ oA rA σ_7, b_k cB cC cI cJ cZ oA rA σ_7, b_o cB cC cI cJ cZ oA rA σ_7, b_s cB cC cI cJ cZ oA rA σ_7, b_c cB cC cI cJ cZ oA rA σ_7, b_t cB cC cI cJ cZ oA rA σ_7, b_d cB cC cI cJ cZ oA rA σ_7]) (is := [0, 1, 3, 4, 5, 6, 7]) fl_8 fl_7 rfl) (bx_n (by decide +kernel)) (bx_d (by decide +kernel)) (va_runV (As := [.int 1, .int u_5.1]) (rest := []) ⟨hx, hb, hml, hown, hts⟩ (k_X6_moveInto l dC dI cB cC cI cJ cZ cP oA rA H.size  1 u_5.1 σ_7 _ hu_24) (cwV 2 hts (g_gV wq_1229 wq_963 wq_964 wq_10 wq_965) rfl rfl rfl (by decide +kernel) ⟨Nat.le_of_ble_eq_true rfl, Nat.le_of_ble_eq_true rfl⟩) (g_preV g_bl0 hK hPc hDc hS hE hFc g_to0 (q0 := 0) (ci := 6) rfl rfl) rfl rfl hl.1 rfl (lv_room (Nat.le_of_ble_eq_true rfl)) dX8_go_42 ⟨Nat.le_of_ble_eq_true rfl, Nat.le_of_ble_eq_true rfl⟩) (fun u9 H locs hw9 hP' hD' hS => ?_)
    clear hPc hDc hFc
    obtain ⟨σ_26, eσ_26, hF_27⟩ := bnd_e hF_25
    clear hF_25
    have hP : va_P (dC, dI) vwCl (b_e cB cC cI cJ cZ oA rA σ_26 ++ b_k cB cC cI cJ cZ oA rA σ_26 ++ b_p cB cC cI cJ cZ oA rA σ_26 ++ b_o cB cC cI cJ cZ oA rA σ_26 ++ b_s cB cC cI cJ cZ oA rA σ_26 ++ b_c cB cC cI cJ cZ oA rA σ_26 ++ b_t cB cC cI cJ cZ oA rA σ_26 ++ b_d cB cC cI cJ cZ oA rA σ_26) H := by rw [eσ_26]; exact bx_P (bs := [b_e cB cC cI cJ cZ oA rA σ_7, b_k cB cC cI cJ cZ oA rA σ_7, b_o cB cC cI cJ cZ oA rA σ_7, b_s cB cC cI cJ cZ oA rA σ_7, b_c cB cC cI cJ cZ oA rA σ_7, b_t cB cC cI cJ cZ oA rA σ_7, b_d cB cC cI cJ cZ oA rA σ_7] ++ [b_p cB cC cI cJ cZ oA rA u_24.2]) (bs' := [b_e cB cC cI cJ cZ oA rA (mrg (fun j => j == 9) σ_7 u_24.2), b_k cB cC cI cJ cZ oA rA (mrg (fun j => j == 9) σ_7 u_24.2), b_p cB cC cI cJ cZ oA rA (mrg (fun j => j == 9) σ_7 u_24.2), b_o cB cC cI cJ cZ oA rA (mrg (fun j => j == 9) σ_7 u_24.2), b_s cB cC cI cJ cZ oA rA (mrg (fun j => j == 9) σ_7 u_24.2), b_c cB cC cI cJ cZ oA rA (mrg (fun j => j == 9) σ_7 u_24.2), b_t cB cC cI cJ cZ oA rA (mrg (fun j => j == 9) σ_7 u_24.2), b_d cB cC cI cJ cZ oA rA (mrg (fun j => j == 9) σ_7 u_24.2)]) hP' (fl_a fl_7 fl_1) fl_8 [0, 1, 7, 2, 3, 4, 5, 6] rfl
    clear hP' hD'
    exact Jj_10  σ_26 hF_27 _ _ hP hS ls (lv_sub hl [0] rfl)
  · have hF_17 := ipos c_16 hF_11
    clear hF_11
    refine lv_aload_n hx hb dX8_go_23 rfl (lv_at hl 1 rfl) ?_
    refine va_get (D := (dC, dI)) (ci := 8) (v := .ref (oA 8)) (C := RX8) (T := TX8) (N := 16) hx hb hts ii_X8 hown hK hP 0 rfl rfl 1 (by decide) (hts (.fieldLink RX8 26 "StoryHouse$Teller" "told" "LStoryHouse$Out;") wq_287) (fun _ h9 => h9) rfl dX8_go_24 ?_
    obtain ⟨q_18, vq_18, hRq_18, hSq_18⟩ := hE.2.2.2.2 _ (List.mem_of_getElem? (i := 66) rfl)
    refine g_ldcwS (own := RX8) (tx := "You can not go there.") hx hb hown hRq_18 dX8_go_27 ?_
    obtain ⟨u_19, hu_19, hF_20⟩ := Option.bind_eq_some_iff.mp hF_17
    clear hF_17
    have hPc := bx_P (bs := [b_e cB cC cI cJ cZ oA rA σ_7, b_k cB cC cI cJ cZ oA rA σ_7, b_p cB cC cI cJ cZ oA rA σ_7, b_o cB cC cI cJ cZ oA rA σ_7, b_s cB cC cI cJ cZ oA rA σ_7, b_c cB cC cI cJ cZ oA rA σ_7, b_t cB cC cI cJ cZ oA rA σ_7, b_d cB cC cI cJ cZ oA rA σ_7]) (bs' := [b_o cB cC cI cJ cZ oA rA σ_7]) (ws' := (b_o cB cC cI cJ cZ oA rA σ_7)) hP fl_8 fl_1 [3] rfl
    have hDc := bx_D (bs := [b_e cB cC cI cJ cZ oA rA σ_7, b_k cB cC cI cJ cZ oA rA σ_7, b_p cB cC cI cJ cZ oA rA σ_7, b_o cB cC cI cJ cZ oA rA σ_7, b_s cB cC cI cJ cZ oA rA σ_7, b_c cB cC cI cJ cZ oA rA σ_7, b_t cB cC cI cJ cZ oA rA σ_7, b_d cB cC cI cJ cZ oA rA σ_7]) (bs' := [b_o cB cC cI cJ cZ oA rA σ_7]) (ws' := (b_o cB cC cI cJ cZ oA rA σ_7)) (hDD σ_7) fl_8 fl_1 [3] (by decide +kernel) rfl
    have hFc := bx_F (bs := [b_e cB cC cI cJ cZ oA rA σ_7, b_k cB cC cI cJ cZ oA rA σ_7, b_p cB cC cI cJ cZ oA rA σ_7, b_o cB cC cI cJ cZ oA rA σ_7, b_s cB cC cI cJ cZ oA rA σ_7, b_c cB cC cI cJ cZ oA rA σ_7, b_t cB cC cI cJ cZ oA rA σ_7, b_d cB cC cI cJ cZ oA rA σ_7]) (bs' := [b_o cB cC cI cJ cZ oA rA σ_7]) (wc := (b_o cB cC cI cJ cZ oA rA σ_7)) (hDD σ_7) hS hA fl_8 fl_1 [3] rfl
    refine g_ofv (wc := (b_o cB cC cI cJ cZ oA rA σ_7)) (wr := (b_e cB cC cI cJ cZ oA rA σ_7 ++ b_k cB cC cI cJ cZ oA rA σ_7 ++ b_p cB cC cI cJ cZ oA rA σ_7 ++ b_s cB cC cI cJ cZ oA rA σ_7 ++ b_c cB cC cI cJ cZ oA rA σ_7 ++ b_t cB cC cI cJ cZ oA rA σ_7 ++ b_d cB cC cI cJ cZ oA rA σ_7)) hP (hDD σ_7) hS hFc (bx_ix [b_e cB cC cI cJ cZ oA rA σ_7, b_k cB cC cI cJ cZ oA rA σ_7, b_p cB cC cI cJ cZ oA rA σ_7, b_o cB cC cI cJ cZ oA rA σ_7, b_s cB cC cI cJ cZ oA rA σ_7, b_c cB cC cI cJ cZ oA rA σ_7, b_t cB cC cI cJ cZ oA rA σ_7, b_d cB cC cI cJ cZ oA rA σ_7] [3]) (bx_ix [b_e cB cC cI cJ cZ oA rA σ_7, b_k cB cC cI cJ cZ oA rA σ_7, b_p cB cC cI cJ cZ oA rA σ_7, b_o cB cC cI cJ cZ oA rA σ_7, b_s cB cC cI cJ cZ oA rA σ_7, b_c cB cC cI cJ cZ oA rA σ_7, b_t cB cC cI cJ cZ oA rA σ_7, b_d cB cC cI cJ cZ oA rA σ_7] [0, 1, 2, 4, 5, 6, 7]) (bx_C (bs := [b_e cB cC cI cJ cZ oA rA σ_7, b_k cB cC cI cJ cZ oA rA σ_7, b_p cB cC cI cJ cZ oA rA σ_7, b_o cB cC cI cJ cZ oA rA σ_7, b_s cB cC cI cJ cZ oA rA σ_7, b_c cB cC cI cJ cZ oA rA σ_7, b_t cB cC cI cJ cZ oA rA σ_7, b_d cB cC cI cJ cZ oA rA σ_7]) (bs' := [b_o cB cC cI cJ cZ oA rA σ_7]) (is := [3]) fl_8 fl_1 rfl) (bx_C (bs := [b_e cB cC cI cJ cZ oA rA σ_7, b_k cB cC cI cJ cZ oA rA σ_7, b_p cB cC cI cJ cZ oA rA σ_7, b_o cB cC cI cJ cZ oA rA σ_7, b_s cB cC cI cJ cZ oA rA σ_7, b_c cB cC cI cJ cZ oA rA σ_7, b_t cB cC cI cJ cZ oA rA σ_7, b_d cB cC cI cJ cZ oA rA σ_7]) (bs' := [b_e cB cC cI cJ cZ oA rA σ_7, b_k cB cC cI cJ cZ oA rA σ_7, b_p cB cC cI cJ cZ oA rA σ_7, b_s cB cC cI cJ cZ oA rA σ_7, b_c cB cC cI cJ cZ oA rA σ_7, b_t cB cC cI cJ cZ oA rA σ_7, b_d cB cC cI cJ cZ oA rA σ_7]) (is := [0, 1, 2, 4, 5, 6, 7]) fl_8 fl_7 rfl) (bx_n (by decide +kernel)) (bx_d (by decide +kernel)) (va_runV (As := [.ref q_18]) (rest := []) ⟨hx, hb, hml, hown, hts⟩ (k_X5_line l dC dI cB cC cI cJ cZ cP oA rA H.size q_18 _ ([89, 111, 117, 32, 99, 97, 110, 32, 110, 111, 116, 32, 103, 111, 32, 116, 104, 101, 114, 101, 46] : List Int32) σ_7 _ hu_19) (cwV 1 hts (g_gV wq_998 wq_999 wq_1000 wq_9 wq_1001) rfl rfl rfl (by decide +kernel) ⟨Nat.le_of_ble_eq_true rfl, Nat.le_of_ble_eq_true rfl⟩) (g_preV g_blS hK hPc hDc hS hE hFc (g_toS hSq_18 hS hFc) (q0 := 0) (ci := 5) rfl rfl) rfl rfl hl.1 rfl (lv_room (Nat.le_of_ble_eq_true rfl)) dX8_go_30 ⟨Nat.le_of_ble_eq_true rfl, Nat.le_of_ble_eq_true rfl⟩) (fun u9 H locs hw9 hP' hD' hS => ?_)
    clear hPc hDc hFc
    obtain ⟨σ_21, eσ_21, hF_22⟩ := bnd_e hF_20
    clear hF_20
    have hP : va_P (dC, dI) vwCl (b_e cB cC cI cJ cZ oA rA σ_21 ++ b_k cB cC cI cJ cZ oA rA σ_21 ++ b_p cB cC cI cJ cZ oA rA σ_21 ++ b_o cB cC cI cJ cZ oA rA σ_21 ++ b_s cB cC cI cJ cZ oA rA σ_21 ++ b_c cB cC cI cJ cZ oA rA σ_21 ++ b_t cB cC cI cJ cZ oA rA σ_21 ++ b_d cB cC cI cJ cZ oA rA σ_21) H := by rw [eσ_21]; exact bx_P (bs := [b_e cB cC cI cJ cZ oA rA σ_7, b_k cB cC cI cJ cZ oA rA σ_7, b_p cB cC cI cJ cZ oA rA σ_7, b_s cB cC cI cJ cZ oA rA σ_7, b_c cB cC cI cJ cZ oA rA σ_7, b_t cB cC cI cJ cZ oA rA σ_7, b_d cB cC cI cJ cZ oA rA σ_7] ++ [b_o cB cC cI cJ cZ oA rA u_19.2]) (bs' := [b_e cB cC cI cJ cZ oA rA (mrg (fun j => j == 8) σ_7 u_19.2), b_k cB cC cI cJ cZ oA rA (mrg (fun j => j == 8) σ_7 u_19.2), b_p cB cC cI cJ cZ oA rA (mrg (fun j => j == 8) σ_7 u_19.2), b_o cB cC cI cJ cZ oA rA (mrg (fun j => j == 8) σ_7 u_19.2), b_s cB cC cI cJ cZ oA rA (mrg (fun j => j == 8) σ_7 u_19.2), b_c cB cC cI cJ cZ oA rA (mrg (fun j => j == 8) σ_7 u_19.2), b_t cB cC cI cJ cZ oA rA (mrg (fun j => j == 8) σ_7 u_19.2), b_d cB cC cI cJ cZ oA rA (mrg (fun j => j == 8) σ_7 u_19.2)]) hP' (fl_a fl_7 fl_1) fl_8 [0, 1, 2, 7, 3, 4, 5, 6] rfl
    clear hP' hD'
    refine lv_goto (tgt := 45) hx hb dX8_go_33 (by decide) ?_
    exact Jj_10  σ_21 hF_22 _ _ hP hS ls (lv_sub hl [0] rfl)
