/-! methods of the class: what each does is its function -/
theorem dX4_see_0 : decode cX4_see 0 = .ok (.aload_n 0, 1) := by decide +kernel
theorem dX4_see_1 : decode cX4_see 1 = .ok (.dup, 1) := by decide +kernel
theorem dX4_see_2 : decode cX4_see 2 = .ok (.getfield 129, 3) := by decide +kernel
theorem dX4_see_5 : decode cX4_see 5 = .ok (.iconst 1, 1) := by decide +kernel
theorem dX4_see_6 : decode cX4_see 6 = .ok (.iadd, 1) := by decide +kernel
theorem dX4_see_7 : decode cX4_see 7 = .ok (.putfield 129, 3) := by decide +kernel
theorem dX4_see_10 : decode cX4_see 10 = .ok (.aload_n 0, 1) := by decide +kernel
theorem dX4_see_11 : decode cX4_see 11 = .ok (.getfield 23, 3) := by decide +kernel
theorem dX4_see_14 : decode cX4_see 14 = .ok (.iload_n 1, 1) := by decide +kernel
theorem dX4_see_15 : decode cX4_see 15 = .ok (.aload_n 0, 1) := by decide +kernel
theorem dX4_see_16 : decode cX4_see 16 = .ok (.getfield 129, 3) := by decide +kernel
theorem dX4_see_19 : decode cX4_see 19 = .ok (.invokestatic 112, 3) := by decide +kernel
theorem dX4_see_22 : decode cX4_see 22 = .ok (.aload_n 0, 1) := by decide +kernel
theorem dX4_see_23 : decode cX4_see 23 = .ok (.getfield 26, 3) := by decide +kernel
theorem dX4_see_26 : decode cX4_see 26 = .ok (.aload_n 0, 1) := by decide +kernel
theorem dX4_see_27 : decode cX4_see 27 = .ok (.getfield 126, 3) := by decide +kernel
theorem dX4_see_30 : decode cX4_see 30 = .ok (.iload_n 1, 1) := by decide +kernel
theorem dX4_see_31 : decode cX4_see 31 = .ok (.invokestatic 112, 3) := by decide +kernel
theorem dX4_see_34 : decode cX4_see 34 = .ok (.aload_n 0, 1) := by decide +kernel
theorem dX4_see_35 : decode cX4_see 35 = .ok (.dup, 1) := by decide +kernel
theorem dX4_see_36 : decode cX4_see 36 = .ok (.getfield 126, 3) := by decide +kernel
theorem dX4_see_39 : decode cX4_see 39 = .ok (.iconst 1, 1) := by decide +kernel
theorem dX4_see_40 : decode cX4_see 40 = .ok (.iadd, 1) := by decide +kernel
theorem dX4_see_41 : decode cX4_see 41 = .ok (.putfield 126, 3) := by decide +kernel
theorem dX4_see_44 : decode cX4_see 44 = .ok (.return_, 1) := by decide +kernel
def F_X4_see (p0 : Int32) (Γ : HS) : HR :=
  bnd (cI' Γ 3 8 (((Γ 3).1 8) + 1)) fun σ_1 =>
  bnd (((σ_1 3).1 8)) fun (x_3 : Int32) =>
  bnd (cA' σ_1 3 5 (g_put 4500 ((σ_1 3).2.1 5) p0 x_3)) fun σ_5 =>
  bnd (cA' σ_5 3 6 (g_put 14 ((σ_5 3).2.1 6) ((σ_5 3).1 7) p0)) fun σ_7 =>
  bnd (cI' σ_7 3 7 (((σ_7 3).1 7) + 1)) fun σ_9 =>
  some (0, σ_9)
set_option maxHeartbeats 4000000 in
set_option maxRecDepth 100000 in
theorem k_X4_see (l : Launch) (dC : Nat → ClassId) (dI : Nat → Nat → Nat) (cB cC cI cJ cZ cP : ClassId) (oA : Nat → Nat) (rA : Nat → Nat → Nat) (sz : Nat)  (p0 : Int32) (Γ : HS) (res : Int32 × HS) (hF : F_X4_see p0 Γ = some res) : Met l yX4_see (g_ws yX4_see cX4_see 2 none) ({ frames := 3, cells := 0, slots := 0, locals := 82 }) (va_Pc [.ref (oA 3), .int p0] (g_B (dC, dI) [(cB, .byte), (cC, .char), (cI, .int), (cJ, .long), (cZ, .boolean), (cP, .object "StoryHouse$Play")] sz (b_m cB cC cI cJ cZ oA rA Γ ++ b_w cB cC cI cJ cZ oA rA Γ ++ b_s cB cC cI cJ cZ oA rA Γ ++ b_c cB cC cI cJ cZ oA rA Γ ++ b_t cB cC cI cJ cZ oA rA Γ ++ b_d cB cC cI cJ cZ oA rA Γ) g_0)) (va_Qv (fun (_ : Unit) => True) (g_Bo (dC, dI) (va_A (b_m cB cC cI cJ cZ oA rA Γ ++ b_w cB cC cI cJ cZ oA rA Γ ++ b_s cB cC cI cJ cZ oA rA Γ ++ b_c cB cC cI cJ cZ oA rA Γ ++ b_t cB cC cI cJ cZ oA rA Γ ++ b_d cB cC cI cJ cZ oA rA Γ) sz) (fun (_ : Unit) => (b_m cB cC cI cJ cZ oA rA res.2 ++ b_w cB cC cI cJ cZ oA rA res.2 ++ b_s cB cC cI cJ cZ oA rA res.2 ++ b_c cB cC cI cJ cZ oA rA res.2 ++ b_t cB cC cI cJ cZ oA rA res.2 ++ b_d cB cC cI cJ cZ oA rA res.2))) (va_A (b_m cB cC cI cJ cZ oA rA Γ ++ b_w cB cC cI cJ cZ oA rA Γ ++ b_s cB cC cI cJ cZ oA rA Γ ++ b_c cB cC cI cJ cZ oA rA Γ ++ b_t cB cC cI cJ cZ oA rA Γ ++ b_d cB cC cI cJ cZ oA rA Γ) sz)) 0 0 (va_A (b_m cB cC cI cJ cZ oA rA Γ ++ b_w cB cC cI cJ cZ oA rA Γ ++ b_s cB cC cI cJ cZ oA rA Γ ++ b_c cB cC cI cJ cZ oA rA Γ ++ b_t cB cC cI cJ cZ oA rA Γ ++ b_d cB cC cI cJ cZ oA rA Γ) sz) := by
  refine Met.ofW (cc := cX4_see) (maxL := 2) (ret := none) (by decide) rfl ?_
  intro p e s m args below meth c s₁ B hml hv
  obtain ⟨rfl, hsz, hP, hK, hD0, hE, hX⟩ := hv
  have hx := B.exec
  have hb := B.bytes
  have hr := B.returns
  have hts0 := atoms_spec (ws := g_ws yX4_see cX4_see 2 none) B.pre
  have hts : ∀ w ∈ lw_good, w.before ([.ref (oA 3), .int p0] : List Value).toArray s = true := fun w z => hts0 w (List.mem_cons_of_mem _ z)
  have hown : s.vm.findClass RX4 = some m.cls := findClass_of_methodNamed B.named
  have hlocks := B.notSynchronized
  subst hsz
  have hD1 := hD0.self (sz := s.heap.size)
  generalize hAe : va_A (b_m cB cC cI cJ cZ oA rA Γ ++ b_w cB cC cI cJ cZ oA rA Γ ++ b_s cB cC cI cJ cZ oA rA Γ ++ b_c cB cC cI cJ cZ oA rA Γ ++ b_t cB cC cI cJ cZ oA rA Γ ++ b_d cB cC cI cJ cZ oA rA Γ) s.heap.size = A at hD1 hE hX ⊢
  have hA : ∀ q : Nat, s.heap.size ≤ q → A q := fun q z => by rw [← hAe]; exact Or.inr z
  have hDD : ∀ Γ : HS, va_D A (b_m cB cC cI cJ cZ oA rA Γ ++ b_w cB cC cI cJ cZ oA rA Γ ++ b_s cB cC cI cJ cZ oA rA Γ ++ b_c cB cC cI cJ cZ oA rA Γ ++ b_t cB cC cI cJ cZ oA rA Γ ++ b_d cB cC cI cJ cZ oA rA Γ) := fun Γ9 => va_D_fst (ws := (b_m cB cC cI cJ cZ oA rA Γ ++ b_w cB cC cI cJ cZ oA rA Γ ++ b_s cB cC cI cJ cZ oA rA Γ ++ b_c cB cC cI cJ cZ oA rA Γ ++ b_t cB cC cI cJ cZ oA rA Γ ++ b_d cB cC cI cJ cZ oA rA Γ)) (ws' := (b_m cB cC cI cJ cZ oA rA Γ9 ++ b_w cB cC cI cJ cZ oA rA Γ9 ++ b_s cB cC cI cJ cZ oA rA Γ9 ++ b_c cB cC cI cJ cZ oA rA Γ9 ++ b_t cB cC cI cJ cZ oA rA Γ9 ++ b_d cB cC cI cJ cZ oA rA Γ9)) rfl hD1
  have hN := hE.1
  have hS : va_S A s.heap s.heap [] := va_S.rf
  have hl := lv_entry ([.ref (oA 3), .int p0]) (n := 2) (Nat.le_of_ble_eq_true rfl)
  rw [lg_entry_eq]
  generalize (lg_sl ([.ref (oA 3), .int p0]) ++ List.replicate (2 - (lg_sl ([.ref (oA 3), .int p0])).length) Slot.unset).toArray = ls at hl ⊢
  have hl : lv_has ls 2 [(0, .ref (oA 3)), (1, .int p0)] := hl
  unfold F_X4_see at hF
  refine lv_aload_n hx hb dX4_see_0 rfl (lv_at hl 0 rfl) ?_
  refine lv_dup hx hb dX4_see_1 rfl ?_
  refine va_get (D := (dC, dI)) (ci := 4) (v := .int ((Γ 3).1 8)) (C := RX4) (T := TX4) (N := 18) hx hb hts ii_X4 hown hK hP 0 rfl rfl 8 (by decide) (hts (.fieldLink RX4 129 "StoryHouse$Meanings" "slots" "I") wq_94) (fun _ h9 => h9) rfl dX4_see_2 ?_
  refine lv_iconst (v := 1) hx hb dX4_see_5 (by decide +kernel) ?_
  refine lv_iadd hx hb dX4_see_6 ?_
  obtain ⟨σ_1, eσ_1, hF_2⟩ := bnd_e hF
  clear hF
  refine va_put (D := (dC, dI)) (ci := 4) (v := .int (((Γ 3).1 8) + 1)) (ty := .int) (C := RX4) (T := TX4) (N := 18) hx hb hts ii_X4 tyX4 tyX4_ok nmX4 hown hK hP (hDD _) hS 0 rfl rfl 8 (by decide) (hts (.fieldLink RX4 129 "StoryHouse$Meanings" "slots" "I") wq_94) (fun _ h9 => h9) rfl (by decide +kernel) rfl rfl (Nat.le_of_ble_eq_true rfl) dX4_see_7 (fun H locs hP' _ hS => ?_)
  have hP : va_P (dC, dI) vwCl (b_m cB cC cI cJ cZ oA rA σ_1 ++ b_w cB cC cI cJ cZ oA rA σ_1 ++ b_s cB cC cI cJ cZ oA rA σ_1 ++ b_c cB cC cI cJ cZ oA rA σ_1 ++ b_t cB cC cI cJ cZ oA rA σ_1 ++ b_d cB cC cI cJ cZ oA rA σ_1) H := by rw [eσ_1]; exact cs_mwsctd_m_8 ▸ hP'
  clear hP'
  refine lv_aload_n hx hb dX4_see_10 rfl (lv_at hl 0 rfl) ?_
  refine va_get (D := (dC, dI)) (ci := 4) (v := .ref (rA 3 5)) (C := RX4) (T := TX4) (N := 18) hx hb hts ii_X4 hown hK hP 0 rfl rfl 5 (by decide) (hts (.fieldLink RX4 23 "StoryHouse$Meanings" "seen" "[I") wq_91) (fun _ h9 => h9) rfl dX4_see_11 ?_
  refine lv_iload_n hx hb dX4_see_14 rfl (lv_at hl 1 rfl) ?_
  refine lv_aload_n hx hb dX4_see_15 rfl (lv_at hl 0 rfl) ?_
  refine va_get (D := (dC, dI)) (ci := 4) (v := .int ((σ_1 3).1 8)) (C := RX4) (T := TX4) (N := 18) hx hb hts ii_X4 hown hK hP 0 rfl rfl 8 (by decide) (hts (.fieldLink RX4 129 "StoryHouse$Meanings" "slots" "I") wq_94) (fun _ h9 => h9) rfl dX4_see_16 ?_
  obtain ⟨x_3, ex_3, hF_4⟩ := bnd_e hF_2
  clear hF_2
  refine m_top ex_3 ?_
  have hq9 : ((b_m cB cC cI cJ cZ oA rA σ_1 ++ b_w cB cC cI cJ cZ oA rA σ_1 ++ b_s cB cC cI cJ cZ oA rA σ_1 ++ b_c cB cC cI cJ cZ oA rA σ_1 ++ b_t cB cC cI cJ cZ oA rA σ_1 ++ b_d cB cC cI cJ cZ oA rA σ_1))[4]? = some (rA 3 5, .inl (cI, 4500, .inl ((σ_1 3).2.1 5))) := rfl
  have hPc := hP.sub (ws' := [(rA 3 5, .inl (cI, 4500, .inl ((σ_1 3).2.1 5)))]) [4] (pk_fm (er_C hq9))
  have hDc := (hDD σ_1).sub (ws' := [(rA 3 5, .inl (cI, 4500, .inl ((σ_1 3).2.1 5)))]) [4] (by decide +kernel) (er_C hq9)
  have hFc := va_free (wc := [(rA 3 5, .inl (cI, 4500, .inl ((σ_1 3).2.1 5)))]) (hDD σ_1) hS hA [4] (er_C hq9)
  refine g_ofv (wc := [(rA 3 5, .inl (cI, 4500, .inl ((σ_1 3).2.1 5)))]) (wr := (((b_m cB cC cI cJ cZ oA rA σ_1 ++ b_w cB cC cI cJ cZ oA rA σ_1 ++ b_s cB cC cI cJ cZ oA rA σ_1 ++ b_c cB cC cI cJ cZ oA rA σ_1 ++ b_t cB cC cI cJ cZ oA rA σ_1 ++ b_d cB cC cI cJ cZ oA rA σ_1)).eraseIdx 4)) hP (hDD σ_1) hS hFc [4] ((List.range ((b_m cB cC cI cJ cZ oA rA σ_1 ++ b_w cB cC cI cJ cZ oA rA σ_1 ++ b_s cB cC cI cJ cZ oA rA σ_1 ++ b_c cB cC cI cJ cZ oA rA σ_1 ++ b_t cB cC cI cJ cZ oA rA σ_1 ++ b_d cB cC cI cJ cZ oA rA σ_1)).length).eraseIdx 4) (er_C hq9) er_R er_n er_d (va_runSN (As := [.ref (rA 3 5), .int p0, .int x_3]) (rest := []) ⟨hx, hb, hml, hown, hts⟩ (c_X11_put l dC dI cB cC cI cJ cZ cP H.size (rA 3 5) p0 x_3 4500 ((σ_1 3).2.1 5) (by decide)) ⟨va_cnB 3 hts (g_gA wq_412) rfl rfl rfl (nw_23 hN) (hts (.initialized RX11) wq_1) (by decide +kernel) ⟨Nat.le_of_ble_eq_true rfl, Nat.le_of_ble_eq_true rfl⟩, (hts (.static yX11_put) wq_411), trivial⟩ (g_preS g_bl0 hK hPc hDc hS hE hFc g_to0) rfl rfl hl.1 rfl (lv_room (Nat.le_of_ble_eq_true rfl)) dX4_see_19 ⟨Nat.le_of_ble_eq_true rfl, Nat.le_of_ble_eq_true rfl⟩) (fun g9 H locs hw9 hP' hD' hS => ?_)
  clear hPc hDc hFc hD'
  obtain ⟨σ_5, eσ_5, hF_6⟩ := bnd_e hF_4
  clear hF_4
  subst hw9
  have hP : va_P (dC, dI) vwCl (b_m cB cC cI cJ cZ oA rA σ_5 ++ b_w cB cC cI cJ cZ oA rA σ_5 ++ b_s cB cC cI cJ cZ oA rA σ_5 ++ b_c cB cC cI cJ cZ oA rA σ_5 ++ b_t cB cC cI cJ cZ oA rA σ_5 ++ b_d cB cC cI cJ cZ oA rA σ_5) H := by rw [eσ_5]; exact cs_mwsctd_m_5 ▸ er_P hP' (er_lt hq9)
  clear hP' hq9
  refine lv_aload_n hx hb dX4_see_22 rfl (lv_at hl 0 rfl) ?_
  refine va_get (D := (dC, dI)) (ci := 4) (v := .ref (rA 3 6)) (C := RX4) (T := TX4) (N := 18) hx hb hts ii_X4 hown hK hP 0 rfl rfl 6 (by decide) (hts (.fieldLink RX4 26 "StoryHouse$Meanings" "seenNames" "[I") wq_92) (fun _ h9 => h9) rfl dX4_see_23 ?_
  refine lv_aload_n hx hb dX4_see_26 rfl (lv_at hl 0 rfl) ?_
  refine va_get (D := (dC, dI)) (ci := 4) (v := .int ((σ_5 3).1 7)) (C := RX4) (T := TX4) (N := 18) hx hb hts ii_X4 hown hK hP 0 rfl rfl 7 (by decide) (hts (.fieldLink RX4 126 "StoryHouse$Meanings" "seenCount" "I") wq_93) (fun _ h9 => h9) rfl dX4_see_27 ?_
  refine lv_iload_n hx hb dX4_see_30 rfl (lv_at hl 1 rfl) ?_
  have hq9 : ((b_m cB cC cI cJ cZ oA rA σ_5 ++ b_w cB cC cI cJ cZ oA rA σ_5 ++ b_s cB cC cI cJ cZ oA rA σ_5 ++ b_c cB cC cI cJ cZ oA rA σ_5 ++ b_t cB cC cI cJ cZ oA rA σ_5 ++ b_d cB cC cI cJ cZ oA rA σ_5))[5]? = some (rA 3 6, .inl (cI, 14, .inl ((σ_5 3).2.1 6))) := rfl
  have hPc := hP.sub (ws' := [(rA 3 6, .inl (cI, 14, .inl ((σ_5 3).2.1 6)))]) [5] (pk_fm (er_C hq9))
  have hDc := (hDD σ_5).sub (ws' := [(rA 3 6, .inl (cI, 14, .inl ((σ_5 3).2.1 6)))]) [5] (by decide +kernel) (er_C hq9)
  have hFc := va_free (wc := [(rA 3 6, .inl (cI, 14, .inl ((σ_5 3).2.1 6)))]) (hDD σ_5) hS hA [5] (er_C hq9)
  refine g_ofv (wc := [(rA 3 6, .inl (cI, 14, .inl ((σ_5 3).2.1 6)))]) (wr := (((b_m cB cC cI cJ cZ oA rA σ_5 ++ b_w cB cC cI cJ cZ oA rA σ_5 ++ b_s cB cC cI cJ cZ oA rA σ_5 ++ b_c cB cC cI cJ cZ oA rA σ_5 ++ b_t cB cC cI cJ cZ oA rA σ_5 ++ b_d cB cC cI cJ cZ oA rA σ_5)).eraseIdx 5)) hP (hDD σ_5) hS hFc [5] ((List.range ((b_m cB cC cI cJ cZ oA rA σ_5 ++ b_w cB cC cI cJ cZ oA rA σ_5 ++ b_s cB cC cI cJ cZ oA rA σ_5 ++ b_c cB cC cI cJ cZ oA rA σ_5 ++ b_t cB cC cI cJ cZ oA rA σ_5 ++ b_d cB cC cI cJ cZ oA rA σ_5)).length).eraseIdx 5) (er_C hq9) er_R er_n er_d (va_runSN (As := [.ref (rA 3 6), .int ((σ_5 3).1 7), .int p0]) (rest := []) ⟨hx, hb, hml, hown, hts⟩ (c_X11_put l dC dI cB cC cI cJ cZ cP H.size (rA 3 6) ((σ_5 3).1 7) p0 14 ((σ_5 3).2.1 6) (by decide)) ⟨va_cnB 3 hts (g_gA wq_412) rfl rfl rfl (nw_23 hN) (hts (.initialized RX11) wq_1) (by decide +kernel) ⟨Nat.le_of_ble_eq_true rfl, Nat.le_of_ble_eq_true rfl⟩, (hts (.static yX11_put) wq_411), trivial⟩ (g_preS g_bl0 hK hPc hDc hS hE hFc g_to0) rfl rfl hl.1 rfl (lv_room (Nat.le_of_ble_eq_true rfl)) dX4_see_31 ⟨Nat.le_of_ble_eq_true rfl, Nat.le_of_ble_eq_true rfl⟩) (fun g9 H locs hw9 hP' hD' hS => ?_)
  clear hPc hDc hFc hD'
  obtain ⟨σ_7, eσ_7, hF_8⟩ := bnd_e hF_6
  clear hF_6
  subst hw9
  have hP : va_P (dC, dI) vwCl (b_m cB cC cI cJ cZ oA rA σ_7 ++ b_w cB cC cI cJ cZ oA rA σ_7 ++ b_s cB cC cI cJ cZ oA rA σ_7 ++ b_c cB cC cI cJ cZ oA rA σ_7 ++ b_t cB cC cI cJ cZ oA rA σ_7 ++ b_d cB cC cI cJ cZ oA rA σ_7) H := by rw [eσ_7]; exact cs_mwsctd_m_6 ▸ er_P hP' (er_lt hq9)
  clear hP' hq9
  refine lv_aload_n hx hb dX4_see_34 rfl (lv_at hl 0 rfl) ?_
  refine lv_dup hx hb dX4_see_35 rfl ?_
  refine va_get (D := (dC, dI)) (ci := 4) (v := .int ((σ_7 3).1 7)) (C := RX4) (T := TX4) (N := 18) hx hb hts ii_X4 hown hK hP 0 rfl rfl 7 (by decide) (hts (.fieldLink RX4 126 "StoryHouse$Meanings" "seenCount" "I") wq_93) (fun _ h9 => h9) rfl dX4_see_36 ?_
  refine lv_iconst (v := 1) hx hb dX4_see_39 (by decide +kernel) ?_
  refine lv_iadd hx hb dX4_see_40 ?_
  obtain ⟨σ_9, eσ_9, hF_10⟩ := bnd_e hF_8
  clear hF_8
  refine va_put (D := (dC, dI)) (ci := 4) (v := .int (((σ_7 3).1 7) + 1)) (ty := .int) (C := RX4) (T := TX4) (N := 18) hx hb hts ii_X4 tyX4 tyX4_ok nmX4 hown hK hP (hDD _) hS 0 rfl rfl 7 (by decide) (hts (.fieldLink RX4 126 "StoryHouse$Meanings" "seenCount" "I") wq_93) (fun _ h9 => h9) rfl (by decide +kernel) rfl rfl (Nat.le_of_ble_eq_true rfl) dX4_see_41 (fun H locs hP' _ hS => ?_)
  have hP : va_P (dC, dI) vwCl (b_m cB cC cI cJ cZ oA rA σ_9 ++ b_w cB cC cI cJ cZ oA rA σ_9 ++ b_s cB cC cI cJ cZ oA rA σ_9 ++ b_c cB cC cI cJ cZ oA rA σ_9 ++ b_t cB cC cI cJ cZ oA rA σ_9 ++ b_d cB cC cI cJ cZ oA rA σ_9) H := by rw [eσ_9]; exact cs_mwsctd_m_7 ▸ hP'
  clear hP'
  have h9 := Option.some.inj hF_10
  subst h9
  exact W.vret hx hb hr (fun t ht hW => ⟨⟨(), rfl, trivial, m_end ht hP, hDD _⟩, hS.F ht⟩) hS.2.2 dX4_see_44
theorem dX4_shutBlock_0 : decode cX4_shutBlock 0 = .ok (.aload_n 0, 1) := by decide +kernel
theorem dX4_shutBlock_1 : decode cX4_shutBlock 1 = .ok (.dup, 1) := by decide +kernel
theorem dX4_shutBlock_2 : decode cX4_shutBlock 2 = .ok (.getfield 66, 3) := by decide +kernel
theorem dX4_shutBlock_5 : decode cX4_shutBlock 5 = .ok (.iconst 1, 1) := by decide +kernel
theorem dX4_shutBlock_6 : decode cX4_shutBlock 6 = .ok (.isub, 1) := by decide +kernel
theorem dX4_shutBlock_7 : decode cX4_shutBlock 7 = .ok (.putfield 66, 3) := by decide +kernel
theorem dX4_shutBlock_10 : decode cX4_shutBlock 10 = .ok (.aload_n 0, 1) := by decide +kernel
theorem dX4_shutBlock_11 : decode cX4_shutBlock 11 = .ok (.getfield 66, 3) := by decide +kernel
theorem dX4_shutBlock_14 : decode cX4_shutBlock 14 = .ok (.ifCond .le 17, 3) := by decide +kernel
theorem dX4_shutBlock_17 : decode cX4_shutBlock 17 = .ok (.aload_n 0, 1) := by decide +kernel
theorem dX4_shutBlock_18 : decode cX4_shutBlock 18 = .ok (.getfield 29, 3) := by decide +kernel
theorem dX4_shutBlock_21 : decode cX4_shutBlock 21 = .ok (.aload_n 0, 1) := by decide +kernel
theorem dX4_shutBlock_22 : decode cX4_shutBlock 22 = .ok (.getfield 66, 3) := by decide +kernel
theorem dX4_shutBlock_25 : decode cX4_shutBlock 25 = .ok (.invokestatic 122, 3) := by decide +kernel
theorem dX4_shutBlock_28 : decode cX4_shutBlock 28 = .ok (.goto 4, 3) := by decide +kernel
theorem dX4_shutBlock_31 : decode cX4_shutBlock 31 = .ok (.iconst 0, 1) := by decide +kernel
theorem dX4_shutBlock_32 : decode cX4_shutBlock 32 = .ok (.istore_n 1, 1) := by decide +kernel
theorem dX4_shutBlock_33 : decode cX4_shutBlock 33 = .ok (.iload_n 1, 1) := by decide +kernel
theorem dX4_shutBlock_34 : decode cX4_shutBlock 34 = .ok (.istore_n 2, 1) := by decide +kernel
theorem dX4_shutBlock_35 : decode cX4_shutBlock 35 = .ok (.iload_n 2, 1) := by decide +kernel
theorem dX4_shutBlock_36 : decode cX4_shutBlock 36 = .ok (.aload_n 0, 1) := by decide +kernel
theorem dX4_shutBlock_37 : decode cX4_shutBlock 37 = .ok (.getfield 126, 3) := by decide +kernel
theorem dX4_shutBlock_40 : decode cX4_shutBlock 40 = .ok (.if_icmp .ge 25, 3) := by decide +kernel
theorem dX4_shutBlock_43 : decode cX4_shutBlock 43 = .ok (.aload_n 0, 1) := by decide +kernel
theorem dX4_shutBlock_44 : decode cX4_shutBlock 44 = .ok (.getfield 23, 3) := by decide +kernel
theorem dX4_shutBlock_47 : decode cX4_shutBlock 47 = .ok (.aload_n 0, 1) := by decide +kernel
theorem dX4_shutBlock_48 : decode cX4_shutBlock 48 = .ok (.getfield 26, 3) := by decide +kernel
theorem dX4_shutBlock_51 : decode cX4_shutBlock 51 = .ok (.iload_n 2, 1) := by decide +kernel
theorem dX4_shutBlock_52 : decode cX4_shutBlock 52 = .ok (.invokestatic 122, 3) := by decide +kernel
theorem dX4_shutBlock_55 : decode cX4_shutBlock 55 = .ok (.iconst 0, 1) := by decide +kernel
theorem dX4_shutBlock_56 : decode cX4_shutBlock 56 = .ok (.invokestatic 112, 3) := by decide +kernel
theorem dX4_shutBlock_59 : decode cX4_shutBlock 59 = .ok (.iinc 2 1, 3) := by decide +kernel
theorem dX4_shutBlock_62 : decode cX4_shutBlock 62 = .ok (.goto (-27), 3) := by decide +kernel
theorem dX4_shutBlock_65 : decode cX4_shutBlock 65 = .ok (.aload_n 0, 1) := by decide +kernel
theorem dX4_shutBlock_66 : decode cX4_shutBlock 66 = .ok (.iload_n 1, 1) := by decide +kernel
theorem dX4_shutBlock_67 : decode cX4_shutBlock 67 = .ok (.putfield 126, 3) := by decide +kernel
theorem dX4_shutBlock_70 : decode cX4_shutBlock 70 = .ok (.aload_n 0, 1) := by decide +kernel
theorem dX4_shutBlock_71 : decode cX4_shutBlock 71 = .ok (.getfield 66, 3) := by decide +kernel
theorem dX4_shutBlock_74 : decode cX4_shutBlock 74 = .ok (.ifCond .ne 13, 3) := by decide +kernel
theorem dX4_shutBlock_77 : decode cX4_shutBlock 77 = .ok (.aload_n 0, 1) := by decide +kernel
theorem dX4_shutBlock_78 : decode cX4_shutBlock 78 = .ok (.iconst 0, 1) := by decide +kernel
theorem dX4_shutBlock_79 : decode cX4_shutBlock 79 = .ok (.putfield 63, 3) := by decide +kernel
theorem dX4_shutBlock_82 : decode cX4_shutBlock 82 = .ok (.aload_n 0, 1) := by decide +kernel
theorem dX4_shutBlock_83 : decode cX4_shutBlock 83 = .ok (.iconst 0, 1) := by decide +kernel
theorem dX4_shutBlock_84 : decode cX4_shutBlock 84 = .ok (.putfield 129, 3) := by decide +kernel
theorem dX4_shutBlock_87 : decode cX4_shutBlock 87 = .ok (.return_, 1) := by decide +kernel
def F_X4_shutBlock  (Γ : HS) : HR :=
  bnd (cI' Γ 3 11 (((Γ 3).1 11) - 1)) fun σ_1 =>
  bnd (fun (t_3 : Int32) (σ_4 : HS) => (
    loopF (fun (again_9 : (Int32 × HS) → HR) (s_8 : Int32 × HS) => (
      if ((s_8.2 3).1 7) ≤ s_8.1 then (
        bnd (cI' s_8.2 3 7 t_3) fun σ_14 =>
        if ((σ_14 3).1 11) = 0 then (
          bnd (cI' σ_14 3 12 0) fun σ_18 =>
          bnd (cI' σ_18 3 8 0) fun σ_20 =>
          some (0, σ_20)
        ) else (
          some (0, σ_14)
        )
      ) else (
        bnd ((g_at 14 ((s_8.2 3).2.1 6) s_8.1)) fun (x_24 : Int32) =>
        bnd (cA' s_8.2 3 5 (g_put 4500 ((s_8.2 3).2.1 5) x_24 0)) fun σ_26 =>
        bnd (s_8.1 + 1) fun (x_28 : Int32) =>
        again_9 (x_28, σ_26)
      )
    )) FU (t_3, σ_4)
  ) : Int32 → HS → HR) fun j_5 =>
  if ((σ_1 3).1 11) ≤ 0 then (
    j_5 0 σ_1
  ) else (
    bnd (((σ_1 3).1 11)) fun (x_33 : Int32) =>
    bnd ((g_at 31 ((σ_1 3).2.1 10) x_33)) fun (x_35 : Int32) =>
    j_5 x_35 σ_1
  )
set_option maxHeartbeats 4000000 in
set_option maxRecDepth 100000 in
theorem k_X4_shutBlock (l : Launch) (dC : Nat → ClassId) (dI : Nat → Nat → Nat) (cB cC cI cJ cZ cP : ClassId) (oA : Nat → Nat) (rA : Nat → Nat → Nat) (sz : Nat)   (Γ : HS) (res : Int32 × HS) (hF : F_X4_shutBlock  Γ = some res) : Met l yX4_shutBlock (g_ws yX4_shutBlock cX4_shutBlock 3 none) ({ frames := 3, cells := 0, slots := 0, locals := 82 }) (va_Pc [.ref (oA 3)] (g_B (dC, dI) [(cB, .byte), (cC, .char), (cI, .int), (cJ, .long), (cZ, .boolean), (cP, .object "StoryHouse$Play")] sz (b_m cB cC cI cJ cZ oA rA Γ ++ b_w cB cC cI cJ cZ oA rA Γ ++ b_s cB cC cI cJ cZ oA rA Γ ++ b_c cB cC cI cJ cZ oA rA Γ ++ b_t cB cC cI cJ cZ oA rA Γ ++ b_d cB cC cI cJ cZ oA rA Γ) g_0)) (va_Qv (fun (_ : Unit) => True) (g_Bo (dC, dI) (va_A (b_m cB cC cI cJ cZ oA rA Γ ++ b_w cB cC cI cJ cZ oA rA Γ ++ b_s cB cC cI cJ cZ oA rA Γ ++ b_c cB cC cI cJ cZ oA rA Γ ++ b_t cB cC cI cJ cZ oA rA Γ ++ b_d cB cC cI cJ cZ oA rA Γ) sz) (fun (_ : Unit) => (b_m cB cC cI cJ cZ oA rA res.2 ++ b_w cB cC cI cJ cZ oA rA res.2 ++ b_s cB cC cI cJ cZ oA rA res.2 ++ b_c cB cC cI cJ cZ oA rA res.2 ++ b_t cB cC cI cJ cZ oA rA res.2 ++ b_d cB cC cI cJ cZ oA rA res.2))) (va_A (b_m cB cC cI cJ cZ oA rA Γ ++ b_w cB cC cI cJ cZ oA rA Γ ++ b_s cB cC cI cJ cZ oA rA Γ ++ b_c cB cC cI cJ cZ oA rA Γ ++ b_t cB cC cI cJ cZ oA rA Γ ++ b_d cB cC cI cJ cZ oA rA Γ) sz)) 0 0 (va_A (b_m cB cC cI cJ cZ oA rA Γ ++ b_w cB cC cI cJ cZ oA rA Γ ++ b_s cB cC cI cJ cZ oA rA Γ ++ b_c cB cC cI cJ cZ oA rA Γ ++ b_t cB cC cI cJ cZ oA rA Γ ++ b_d cB cC cI cJ cZ oA rA Γ) sz) := by
  refine Met.ofW (cc := cX4_shutBlock) (maxL := 3) (ret := none) (by decide) rfl ?_
  intro p e s m args below meth c s₁ B hml hv
  obtain ⟨rfl, hsz, hP, hK, hD0, hE, hX⟩ := hv
  have hx := B.exec
  have hb := B.bytes
  have hr := B.returns
  have hts0 := atoms_spec (ws := g_ws yX4_shutBlock cX4_shutBlock 3 none) B.pre
  have hts : ∀ w ∈ lw_good, w.before ([.ref (oA 3)] : List Value).toArray s = true := fun w z => hts0 w (List.mem_cons_of_mem _ z)
  have hown : s.vm.findClass RX4 = some m.cls := findClass_of_methodNamed B.named
  have hlocks := B.notSynchronized
  subst hsz
  have hD1 := hD0.self (sz := s.heap.size)
  generalize hAe : va_A (b_m cB cC cI cJ cZ oA rA Γ ++ b_w cB cC cI cJ cZ oA rA Γ ++ b_s cB cC cI cJ cZ oA rA Γ ++ b_c cB cC cI cJ cZ oA rA Γ ++ b_t cB cC cI cJ cZ oA rA Γ ++ b_d cB cC cI cJ cZ oA rA Γ) s.heap.size = A at hD1 hE hX ⊢
  have hA : ∀ q : Nat, s.heap.size ≤ q → A q := fun q z => by rw [← hAe]; exact Or.inr z
  have hDD : ∀ Γ : HS, va_D A (b_m cB cC cI cJ cZ oA rA Γ ++ b_w cB cC cI cJ cZ oA rA Γ ++ b_s cB cC cI cJ cZ oA rA Γ ++ b_c cB cC cI cJ cZ oA rA Γ ++ b_t cB cC cI cJ cZ oA rA Γ ++ b_d cB cC cI cJ cZ oA rA Γ) := fun Γ9 => va_D_fst (ws := (b_m cB cC cI cJ cZ oA rA Γ ++ b_w cB cC cI cJ cZ oA rA Γ ++ b_s cB cC cI cJ cZ oA rA Γ ++ b_c cB cC cI cJ cZ oA rA Γ ++ b_t cB cC cI cJ cZ oA rA Γ ++ b_d cB cC cI cJ cZ oA rA Γ)) (ws' := (b_m cB cC cI cJ cZ oA rA Γ9 ++ b_w cB cC cI cJ cZ oA rA Γ9 ++ b_s cB cC cI cJ cZ oA rA Γ9 ++ b_c cB cC cI cJ cZ oA rA Γ9 ++ b_t cB cC cI cJ cZ oA rA Γ9 ++ b_d cB cC cI cJ cZ oA rA Γ9)) rfl hD1
  have hN := hE.1
  have hS : va_S A s.heap s.heap [] := va_S.rf
  have hl := lv_entry ([.ref (oA 3)]) (n := 3) (Nat.le_of_ble_eq_true rfl)
  rw [lg_entry_eq]
  generalize (lg_sl ([.ref (oA 3)]) ++ List.replicate (3 - (lg_sl ([.ref (oA 3)])).length) Slot.unset).toArray = ls at hl ⊢
  have hl : lv_has ls 3 [(0, .ref (oA 3))] := hl
  unfold F_X4_shutBlock at hF
  refine lv_aload_n hx hb dX4_shutBlock_0 rfl (lv_at hl 0 rfl) ?_
  refine lv_dup hx hb dX4_shutBlock_1 rfl ?_
  refine va_get (D := (dC, dI)) (ci := 4) (v := .int ((Γ 3).1 11)) (C := RX4) (T := TX4) (N := 18) hx hb hts ii_X4 hown hK hP 0 rfl rfl 11 (by decide) (hts (.fieldLink RX4 66 "StoryHouse$Meanings" "depth" "I") wq_97) (fun _ h9 => h9) rfl dX4_shutBlock_2 ?_
  refine lv_iconst (v := 1) hx hb dX4_shutBlock_5 (by decide +kernel) ?_
  refine lv_isub hx hb dX4_shutBlock_6 ?_
  obtain ⟨σ_1, eσ_1, hF_2⟩ := bnd_e hF
  clear hF
  refine va_put (D := (dC, dI)) (ci := 4) (v := .int (((Γ 3).1 11) - 1)) (ty := .int) (C := RX4) (T := TX4) (N := 18) hx hb hts ii_X4 tyX4 tyX4_ok nmX4 hown hK hP (hDD _) hS 0 rfl rfl 11 (by decide) (hts (.fieldLink RX4 66 "StoryHouse$Meanings" "depth" "I") wq_97) (fun _ h9 => h9) rfl (by decide +kernel) rfl rfl (Nat.le_of_ble_eq_true rfl) dX4_shutBlock_7 (fun H locs hP' _ hS => ?_)
  have hP : va_P (dC, dI) vwCl (b_m cB cC cI cJ cZ oA rA σ_1 ++ b_w cB cC cI cJ cZ oA rA σ_1 ++ b_s cB cC cI cJ cZ oA rA σ_1 ++ b_c cB cC cI cJ cZ oA rA σ_1 ++ b_t cB cC cI cJ cZ oA rA σ_1 ++ b_d cB cC cI cJ cZ oA rA σ_1) H := by rw [eσ_1]; exact cs_mwsctd_m_11 ▸ hP'
  clear hP'
  refine lv_aload_n hx hb dX4_shutBlock_10 rfl (lv_at hl 0 rfl) ?_
  refine va_get (D := (dC, dI)) (ci := 4) (v := .int ((σ_1 3).1 11)) (C := RX4) (T := TX4) (N := 18) hx hb hts ii_X4 hown hK hP 0 rfl rfl 11 (by decide) (hts (.fieldLink RX4 66 "StoryHouse$Meanings" "depth" "I") wq_97) (fun _ h9 => h9) rfl dX4_shutBlock_11 ?_
  obtain ⟨j_5, ej_5, hF_6⟩ := bnd_e hF_2
  clear hF_2
  have Jj_5 : ∀ (t_3 : Int32) (σ_4 : HS), j_5 t_3 σ_4 = some res → ∀ (H : Heap) (locs : List Loc), va_P (dC, dI) vwCl (b_m cB cC cI cJ cZ oA rA σ_4 ++ b_w cB cC cI cJ cZ oA rA σ_4 ++ b_s cB cC cI cJ cZ oA rA σ_4 ++ b_c cB cC cI cJ cZ oA rA σ_4 ++ b_t cB cC cI cJ cZ oA rA σ_4 ++ b_d cB cC cI cJ cZ oA rA σ_4) H → va_S A s.heap H locs → ∀ ls : Array Slot, lv_has ls 3 [(0, .ref (oA 3))] → W p l e (headSpec (g_ws yX4_shutBlock cX4_shutBlock 3 none) { frames := 3, cells := 0, slots := 0, locals := 82 }).room s m ([.ref (oA 3)] : List Value).toArray below meth c H locs 0 0 (MQ below (va_Qv (fun (_ : Unit) => True) (g_Bo (dC, dI) A (fun (_ : Unit) => (b_m cB cC cI cJ cZ oA rA res.2 ++ b_w cB cC cI cJ cZ oA rA res.2 ++ b_s cB cC cI cJ cZ oA rA res.2 ++ b_c cB cC cI cJ cZ oA rA res.2 ++ b_t cB cC cI cJ cZ oA rA res.2 ++ b_d cB cC cI cJ cZ oA rA res.2))) A) ([.ref (oA 3)] : List Value).toArray s 0 0 A) (F0 m 32 ls [.int t_3]) := by
    intro t_3 σ_4 hF0 H locs hP hS ls hl
    subst ej_5
    have hF_7 := hF0
    clear hF0
    refine lv_istore_n (lv' := [(1, .int t_3), (0, .ref (oA 3))]) hx hb dX4_shutBlock_32 rfl hl (by decide) rfl (fun ls hl => ?_)
    refine lv_iload_n hx hb dX4_shutBlock_33 rfl (lv_at hl 0 rfl) ?_
    refine lv_istore_n (lv' := [(2, .int t_3), (1, .int t_3), (0, .ref (oA 3))]) hx hb dX4_shutBlock_34 rfl hl (by decide) rfl (fun ls hl => ?_)
    refine loopF_ind (P := fun (s_8 : Int32 × HS) => ∀ (H : Heap) (locs : List Loc), va_P (dC, dI) vwCl (b_m cB cC cI cJ cZ oA rA s_8.2 ++ b_w cB cC cI cJ cZ oA rA s_8.2 ++ b_s cB cC cI cJ cZ oA rA s_8.2 ++ b_c cB cC cI cJ cZ oA rA s_8.2 ++ b_t cB cC cI cJ cZ oA rA s_8.2 ++ b_d cB cC cI cJ cZ oA rA s_8.2) H → va_S A s.heap H locs → ∀ ls : Array Slot, lv_has ls 3 [(0, .ref (oA 3)), (1, .int t_3), (2, .int s_8.1)] → W p l e (headSpec (g_ws yX4_shutBlock cX4_shutBlock 3 none) { frames := 3, cells := 0, slots := 0, locals := 82 }).room s m ([.ref (oA 3)] : List Value).toArray below meth c H locs 0 0 (MQ below (va_Qv (fun (_ : Unit) => True) (g_Bo (dC, dI) A (fun (_ : Unit) => (b_m cB cC cI cJ cZ oA rA res.2 ++ b_w cB cC cI cJ cZ oA rA res.2 ++ b_s cB cC cI cJ cZ oA rA res.2 ++ b_c cB cC cI cJ cZ oA rA res.2 ++ b_t cB cC cI cJ cZ oA rA res.2 ++ b_d cB cC cI cJ cZ oA rA res.2))) A) ([.ref (oA 3)] : List Value).toArray s 0 0 A) (F0 m 35 ls [])) ?_ _ _ hF_7 _ _ hP hS ls (lv_sub hl [2, 1, 0] rfl)
    intro again_9 s_8 ih_10 hF_11
    intro H locs hP hS ls hl
    refine lv_iload_n hx hb dX4_shutBlock_35 rfl (lv_at hl 2 rfl) ?_
    refine lv_aload_n hx hb dX4_shutBlock_36 rfl (lv_at hl 0 rfl) ?_
    refine va_get (D := (dC, dI)) (ci := 4) (v := .int ((s_8.2 3).1 7)) (C := RX4) (T := TX4) (N := 18) hx hb hts ii_X4 hown hK hP 0 rfl rfl 7 (by decide) (hts (.fieldLink RX4 126 "StoryHouse$Meanings" "seenCount" "I") wq_93) (fun _ h9 => h9) rfl dX4_shutBlock_37 ?_
    refine lv_icmp_ge (tgt := 65) hx hb dX4_shutBlock_40 (by decide) (fun c_12 => ?_) (fun c_12 => ?_)
    · have hF_13 := ipos c_12 hF_11
      clear hF_11
      refine lv_aload_n hx hb dX4_shutBlock_65 rfl (lv_at hl 0 rfl) ?_
      refine lv_iload_n hx hb dX4_shutBlock_66 rfl (lv_at hl 1 rfl) ?_
      obtain ⟨σ_14, eσ_14, hF_15⟩ := bnd_e hF_13
      clear hF_13
      refine va_put (D := (dC, dI)) (ci := 4) (v := .int t_3) (ty := .int) (C := RX4) (T := TX4) (N := 18) hx hb hts ii_X4 tyX4 tyX4_ok nmX4 hown hK hP (hDD _) hS 0 rfl rfl 7 (by decide) (hts (.fieldLink RX4 126 "StoryHouse$Meanings" "seenCount" "I") wq_93) (fun _ h9 => h9) rfl (by decide +kernel) rfl rfl (Nat.le_of_ble_eq_true rfl) dX4_shutBlock_67 (fun H locs hP' _ hS => ?_)
      have hP : va_P (dC, dI) vwCl (b_m cB cC cI cJ cZ oA rA σ_14 ++ b_w cB cC cI cJ cZ oA rA σ_14 ++ b_s cB cC cI cJ cZ oA rA σ_14 ++ b_c cB cC cI cJ cZ oA rA σ_14 ++ b_t cB cC cI cJ cZ oA rA σ_14 ++ b_d cB cC cI cJ cZ oA rA σ_14) H := by rw [eσ_14]; exact cs_mwsctd_m_7 ▸ hP'
      clear hP'
      refine lv_aload_n hx hb dX4_shutBlock_70 rfl (lv_at hl 0 rfl) ?_
      refine va_get (D := (dC, dI)) (ci := 4) (v := .int ((σ_14 3).1 11)) (C := RX4) (T := TX4) (N := 18) hx hb hts ii_X4 hown hK hP 0 rfl rfl 11 (by decide) (hts (.fieldLink RX4 66 "StoryHouse$Meanings" "depth" "I") wq_97) (fun _ h9 => h9) rfl dX4_shutBlock_71 ?_
      refine lv_if_ne (tgt := 87) hx hb dX4_shutBlock_74 (by decide) (fun c_16 => ?_) (fun c_16 => ?_)
      · have hF_22 := ineg c_16 hF_15
        clear hF_15
        have h9 := Option.some.inj hF_22
        subst h9
        exact W.vret hx hb hr (fun t ht hW => ⟨⟨(), rfl, trivial, m_end ht hP, hDD _⟩, hS.F ht⟩) hS.2.2 dX4_shutBlock_87
      · have hF_17 := ipos c_16 hF_15
        clear hF_15
        refine lv_aload_n hx hb dX4_shutBlock_77 rfl (lv_at hl 0 rfl) ?_
        refine lv_iconst (v := 0) hx hb dX4_shutBlock_78 (by decide +kernel) ?_
        obtain ⟨σ_18, eσ_18, hF_19⟩ := bnd_e hF_17
        clear hF_17
        refine va_put (D := (dC, dI)) (ci := 4) (v := .int 0) (ty := .int) (C := RX4) (T := TX4) (N := 18) hx hb hts ii_X4 tyX4 tyX4_ok nmX4 hown hK hP (hDD _) hS 0 rfl rfl 12 (by decide) (hts (.fieldLink RX4 63 "StoryHouse$Meanings" "routine" "I") wq_98) (fun _ h9 => h9) rfl (by decide +kernel) rfl rfl (Nat.le_of_ble_eq_true rfl) dX4_shutBlock_79 (fun H locs hP' _ hS => ?_)
        have hP : va_P (dC, dI) vwCl (b_m cB cC cI cJ cZ oA rA σ_18 ++ b_w cB cC cI cJ cZ oA rA σ_18 ++ b_s cB cC cI cJ cZ oA rA σ_18 ++ b_c cB cC cI cJ cZ oA rA σ_18 ++ b_t cB cC cI cJ cZ oA rA σ_18 ++ b_d cB cC cI cJ cZ oA rA σ_18) H := by rw [eσ_18]; exact cs_mwsctd_m_12 ▸ hP'
        clear hP'
        refine lv_aload_n hx hb dX4_shutBlock_82 rfl (lv_at hl 0 rfl) ?_
        refine lv_iconst (v := 0) hx hb dX4_shutBlock_83 (by decide +kernel) ?_
        obtain ⟨σ_20, eσ_20, hF_21⟩ := bnd_e hF_19
        clear hF_19
        refine va_put (D := (dC, dI)) (ci := 4) (v := .int 0) (ty := .int) (C := RX4) (T := TX4) (N := 18) hx hb hts ii_X4 tyX4 tyX4_ok nmX4 hown hK hP (hDD _) hS 0 rfl rfl 8 (by decide) (hts (.fieldLink RX4 129 "StoryHouse$Meanings" "slots" "I") wq_94) (fun _ h9 => h9) rfl (by decide +kernel) rfl rfl (Nat.le_of_ble_eq_true rfl) dX4_shutBlock_84 (fun H locs hP' _ hS => ?_)
        have hP : va_P (dC, dI) vwCl (b_m cB cC cI cJ cZ oA rA σ_20 ++ b_w cB cC cI cJ cZ oA rA σ_20 ++ b_s cB cC cI cJ cZ oA rA σ_20 ++ b_c cB cC cI cJ cZ oA rA σ_20 ++ b_t cB cC cI cJ cZ oA rA σ_20 ++ b_d cB cC cI cJ cZ oA rA σ_20) H := by rw [eσ_20]; exact cs_mwsctd_m_8 ▸ hP'
        clear hP'
        have h9 := Option.some.inj hF_21
        subst h9
        exact W.vret hx hb hr (fun t ht hW => ⟨⟨(), rfl, trivial, m_end ht hP, hDD _⟩, hS.F ht⟩) hS.2.2 dX4_shutBlock_87
    · have hF_23 := ineg c_12 hF_11
      clear hF_11
      refine lv_aload_n hx hb dX4_shutBlock_43 rfl (lv_at hl 0 rfl) ?_
      refine va_get (D := (dC, dI)) (ci := 4) (v := .ref (rA 3 5)) (C := RX4) (T := TX4) (N := 18) hx hb hts ii_X4 hown hK hP 0 rfl rfl 5 (by decide) (hts (.fieldLink RX4 23 "StoryHouse$Meanings" "seen" "[I") wq_91) (fun _ h9 => h9) rfl dX4_shutBlock_44 ?_
      refine lv_aload_n hx hb dX4_shutBlock_47 rfl (lv_at hl 0 rfl) ?_
      refine va_get (D := (dC, dI)) (ci := 4) (v := .ref (rA 3 6)) (C := RX4) (T := TX4) (N := 18) hx hb hts ii_X4 hown hK hP 0 rfl rfl 6 (by decide) (hts (.fieldLink RX4 26 "StoryHouse$Meanings" "seenNames" "[I") wq_92) (fun _ h9 => h9) rfl dX4_shutBlock_48 ?_
      refine lv_iload_n hx hb dX4_shutBlock_51 rfl (lv_at hl 2 rfl) ?_
      have hq9 : ((b_m cB cC cI cJ cZ oA rA s_8.2 ++ b_w cB cC cI cJ cZ oA rA s_8.2 ++ b_s cB cC cI cJ cZ oA rA s_8.2 ++ b_c cB cC cI cJ cZ oA rA s_8.2 ++ b_t cB cC cI cJ cZ oA rA s_8.2 ++ b_d cB cC cI cJ cZ oA rA s_8.2))[5]? = some (rA 3 6, .inl (cI, 14, .inl ((s_8.2 3).2.1 6))) := rfl
      have hPc := hP.sub (ws' := [(rA 3 6, .inl (cI, 14, .inl ((s_8.2 3).2.1 6)))]) [5] (pk_fm (er_C hq9))
      have hDc := (hDD s_8.2).sub (ws' := [(rA 3 6, .inl (cI, 14, .inl ((s_8.2 3).2.1 6)))]) [5] (by decide +kernel) (er_C hq9)
      have hFc := va_free (wc := [(rA 3 6, .inl (cI, 14, .inl ((s_8.2 3).2.1 6)))]) (hDD s_8.2) hS hA [5] (er_C hq9)
      refine g_ofi (wc := [(rA 3 6, .inl (cI, 14, .inl ((s_8.2 3).2.1 6)))]) (wr := (((b_m cB cC cI cJ cZ oA rA s_8.2 ++ b_w cB cC cI cJ cZ oA rA s_8.2 ++ b_s cB cC cI cJ cZ oA rA s_8.2 ++ b_c cB cC cI cJ cZ oA rA s_8.2 ++ b_t cB cC cI cJ cZ oA rA s_8.2 ++ b_d cB cC cI cJ cZ oA rA s_8.2)).eraseIdx 5)) hP (hDD s_8.2) hS hFc [5] ((List.range ((b_m cB cC cI cJ cZ oA rA s_8.2 ++ b_w cB cC cI cJ cZ oA rA s_8.2 ++ b_s cB cC cI cJ cZ oA rA s_8.2 ++ b_c cB cC cI cJ cZ oA rA s_8.2 ++ b_t cB cC cI cJ cZ oA rA s_8.2 ++ b_d cB cC cI cJ cZ oA rA s_8.2)).length).eraseIdx 5) (er_C hq9) er_R er_n er_d (va_runSN (As := [.ref (rA 3 6), .int s_8.1]) (rest := [.ref (rA 3 5)]) ⟨hx, hb, hml, hown, hts⟩ (c_X11_at l dC dI cB cC cI cJ cZ cP H.size (rA 3 6) s_8.1 14 ((s_8.2 3).2.1 6) (by decide)) ⟨va_cnB 2 hts (g_gA wq_407) rfl rfl rfl (nw_24 hN) (hts (.initialized RX11) wq_1) (by decide +kernel) ⟨Nat.le_of_ble_eq_true rfl, Nat.le_of_ble_eq_true rfl⟩, (hts (.static yX11_at) wq_406), trivial⟩ (g_preS g_bl0 hK hPc hDc hS hE hFc g_to0) rfl rfl hl.1 rfl (lv_room (Nat.le_of_ble_eq_true rfl)) dX4_shutBlock_52 ⟨Nat.le_of_ble_eq_true rfl, Nat.le_of_ble_eq_true rfl⟩) (fun r9 u9 H locs hw9 hP' hD' hS => ?_)
      clear hPc hDc hFc hD'
      have hP : va_P (dC, dI) vwCl (b_m cB cC cI cJ cZ oA rA s_8.2 ++ b_w cB cC cI cJ cZ oA rA s_8.2 ++ b_s cB cC cI cJ cZ oA rA s_8.2 ++ b_c cB cC cI cJ cZ oA rA s_8.2 ++ b_t cB cC cI cJ cZ oA rA s_8.2 ++ b_d cB cC cI cJ cZ oA rA s_8.2) H := er_I hP' hq9
      clear hP' hq9
      subst hw9
      obtain ⟨x_24, ex_24, hF_25⟩ := bnd_e hF_23
      clear hF_23
      refine m_top ex_24 ?_
      refine lv_iconst (v := 0) hx hb dX4_shutBlock_55 (by decide +kernel) ?_
      have hq9 : ((b_m cB cC cI cJ cZ oA rA s_8.2 ++ b_w cB cC cI cJ cZ oA rA s_8.2 ++ b_s cB cC cI cJ cZ oA rA s_8.2 ++ b_c cB cC cI cJ cZ oA rA s_8.2 ++ b_t cB cC cI cJ cZ oA rA s_8.2 ++ b_d cB cC cI cJ cZ oA rA s_8.2))[4]? = some (rA 3 5, .inl (cI, 4500, .inl ((s_8.2 3).2.1 5))) := rfl
      have hPc := hP.sub (ws' := [(rA 3 5, .inl (cI, 4500, .inl ((s_8.2 3).2.1 5)))]) [4] (pk_fm (er_C hq9))
      have hDc := (hDD s_8.2).sub (ws' := [(rA 3 5, .inl (cI, 4500, .inl ((s_8.2 3).2.1 5)))]) [4] (by decide +kernel) (er_C hq9)
      have hFc := va_free (wc := [(rA 3 5, .inl (cI, 4500, .inl ((s_8.2 3).2.1 5)))]) (hDD s_8.2) hS hA [4] (er_C hq9)
      refine g_ofv (wc := [(rA 3 5, .inl (cI, 4500, .inl ((s_8.2 3).2.1 5)))]) (wr := (((b_m cB cC cI cJ cZ oA rA s_8.2 ++ b_w cB cC cI cJ cZ oA rA s_8.2 ++ b_s cB cC cI cJ cZ oA rA s_8.2 ++ b_c cB cC cI cJ cZ oA rA s_8.2 ++ b_t cB cC cI cJ cZ oA rA s_8.2 ++ b_d cB cC cI cJ cZ oA rA s_8.2)).eraseIdx 4)) hP (hDD s_8.2) hS hFc [4] ((List.range ((b_m cB cC cI cJ cZ oA rA s_8.2 ++ b_w cB cC cI cJ cZ oA rA s_8.2 ++ b_s cB cC cI cJ cZ oA rA s_8.2 ++ b_c cB cC cI cJ cZ oA rA s_8.2 ++ b_t cB cC cI cJ cZ oA rA s_8.2 ++ b_d cB cC cI cJ cZ oA rA s_8.2)).length).eraseIdx 4) (er_C hq9) er_R er_n er_d (va_runSN (As := [.ref (rA 3 5), .int x_24, .int 0]) (rest := []) ⟨hx, hb, hml, hown, hts⟩ (c_X11_put l dC dI cB cC cI cJ cZ cP H.size (rA 3 5) x_24 0 4500 ((s_8.2 3).2.1 5) (by decide)) ⟨va_cnB 3 hts (g_gA wq_412) rfl rfl rfl (nw_23 hN) (hts (.initialized RX11) wq_1) (by decide +kernel) ⟨Nat.le_of_ble_eq_true rfl, Nat.le_of_ble_eq_true rfl⟩, (hts (.static yX11_put) wq_411), trivial⟩ (g_preS g_bl0 hK hPc hDc hS hE hFc g_to0) rfl rfl hl.1 rfl (lv_room (Nat.le_of_ble_eq_true rfl)) dX4_shutBlock_56 ⟨Nat.le_of_ble_eq_true rfl, Nat.le_of_ble_eq_true rfl⟩) (fun g9 H locs hw9 hP' hD' hS => ?_)
      clear hPc hDc hFc hD'
      obtain ⟨σ_26, eσ_26, hF_27⟩ := bnd_e hF_25
      clear hF_25
      subst hw9
      have hP : va_P (dC, dI) vwCl (b_m cB cC cI cJ cZ oA rA σ_26 ++ b_w cB cC cI cJ cZ oA rA σ_26 ++ b_s cB cC cI cJ cZ oA rA σ_26 ++ b_c cB cC cI cJ cZ oA rA σ_26 ++ b_t cB cC cI cJ cZ oA rA σ_26 ++ b_d cB cC cI cJ cZ oA rA σ_26) H := by rw [eσ_26]; exact cs_mwsctd_m_5 ▸ er_P hP' (er_lt hq9)
      clear hP' hq9
      obtain ⟨x_28, ex_28, hF_29⟩ := bnd_e hF_27
      clear hF_27
      refine lv_iinc (v := x_28) (lv' := [(2, .int x_28), (0, .ref (oA 3)), (1, .int t_3)]) hx hb dX4_shutBlock_59 hl (k := 2) rfl (by rw [ex_28]; rfl) (by decide) rfl (fun ls hl => ?_)
      refine lv_goto (tgt := 35) hx hb dX4_shutBlock_62 (by decide) ?_
      exact ih_10 (x_28, σ_26) hF_29 _ _ hP hS ls (lv_sub hl [1, 2, 0] rfl)
  refine lv_if_le (tgt := 31) hx hb dX4_shutBlock_14 (by decide) (fun c_30 => ?_) (fun c_30 => ?_)
  · have hF_31 := ipos c_30 hF_6
    clear hF_6
    refine lv_iconst (v := 0) hx hb dX4_shutBlock_31 (by decide +kernel) ?_
    exact Jj_5 0 σ_1 hF_31 _ _ hP hS ls (lv_sub hl [0] rfl)
  · have hF_32 := ineg c_30 hF_6
    clear hF_6
    refine lv_aload_n hx hb dX4_shutBlock_17 rfl (lv_at hl 0 rfl) ?_
    refine va_get (D := (dC, dI)) (ci := 4) (v := .ref (rA 3 10)) (C := RX4) (T := TX4) (N := 18) hx hb hts ii_X4 hown hK hP 0 rfl rfl 10 (by decide) (hts (.fieldLink RX4 29 "StoryHouse$Meanings" "marks" "[I") wq_96) (fun _ h9 => h9) rfl dX4_shutBlock_18 ?_
    refine lv_aload_n hx hb dX4_shutBlock_21 rfl (lv_at hl 0 rfl) ?_
    refine va_get (D := (dC, dI)) (ci := 4) (v := .int ((σ_1 3).1 11)) (C := RX4) (T := TX4) (N := 18) hx hb hts ii_X4 hown hK hP 0 rfl rfl 11 (by decide) (hts (.fieldLink RX4 66 "StoryHouse$Meanings" "depth" "I") wq_97) (fun _ h9 => h9) rfl dX4_shutBlock_22 ?_
    obtain ⟨x_33, ex_33, hF_34⟩ := bnd_e hF_32
    clear hF_32
    refine m_top ex_33 ?_
    have hq9 : ((b_m cB cC cI cJ cZ oA rA σ_1 ++ b_w cB cC cI cJ cZ oA rA σ_1 ++ b_s cB cC cI cJ cZ oA rA σ_1 ++ b_c cB cC cI cJ cZ oA rA σ_1 ++ b_t cB cC cI cJ cZ oA rA σ_1 ++ b_d cB cC cI cJ cZ oA rA σ_1))[6]? = some (rA 3 10, .inl (cI, 31, .inl ((σ_1 3).2.1 10))) := rfl
    have hPc := hP.sub (ws' := [(rA 3 10, .inl (cI, 31, .inl ((σ_1 3).2.1 10)))]) [6] (pk_fm (er_C hq9))
    have hDc := (hDD σ_1).sub (ws' := [(rA 3 10, .inl (cI, 31, .inl ((σ_1 3).2.1 10)))]) [6] (by decide +kernel) (er_C hq9)
    have hFc := va_free (wc := [(rA 3 10, .inl (cI, 31, .inl ((σ_1 3).2.1 10)))]) (hDD σ_1) hS hA [6] (er_C hq9)
    refine g_ofi (wc := [(rA 3 10, .inl (cI, 31, .inl ((σ_1 3).2.1 10)))]) (wr := (((b_m cB cC cI cJ cZ oA rA σ_1 ++ b_w cB cC cI cJ cZ oA rA σ_1 ++ b_s cB cC cI cJ cZ oA rA σ_1 ++ b_c cB cC cI cJ cZ oA rA σ_1 ++ b_t cB cC cI cJ cZ oA rA σ_1 ++ b_d cB cC cI cJ cZ oA rA σ_1)).eraseIdx 6)) hP (hDD σ_1) hS hFc [6] ((List.range ((b_m cB cC cI cJ cZ oA rA σ_1 ++ b_w cB cC cI cJ cZ oA rA σ_1 ++ b_s cB cC cI cJ cZ oA rA σ_1 ++ b_c cB cC cI cJ cZ oA rA σ_1 ++ b_t cB cC cI cJ cZ oA rA σ_1 ++ b_d cB cC cI cJ cZ oA rA σ_1)).length).eraseIdx 6) (er_C hq9) er_R er_n er_d (va_runSN (As := [.ref (rA 3 10), .int x_33]) (rest := []) ⟨hx, hb, hml, hown, hts⟩ (c_X11_at l dC dI cB cC cI cJ cZ cP H.size (rA 3 10) x_33 31 ((σ_1 3).2.1 10) (by decide)) ⟨va_cnB 2 hts (g_gA wq_407) rfl rfl rfl (nw_24 hN) (hts (.initialized RX11) wq_1) (by decide +kernel) ⟨Nat.le_of_ble_eq_true rfl, Nat.le_of_ble_eq_true rfl⟩, (hts (.static yX11_at) wq_406), trivial⟩ (g_preS g_bl0 hK hPc hDc hS hE hFc g_to0) rfl rfl hl.1 rfl (lv_room (Nat.le_of_ble_eq_true rfl)) dX4_shutBlock_25 ⟨Nat.le_of_ble_eq_true rfl, Nat.le_of_ble_eq_true rfl⟩) (fun r9 u9 H locs hw9 hP' hD' hS => ?_)
    clear hPc hDc hFc hD'
    have hP : va_P (dC, dI) vwCl (b_m cB cC cI cJ cZ oA rA σ_1 ++ b_w cB cC cI cJ cZ oA rA σ_1 ++ b_s cB cC cI cJ cZ oA rA σ_1 ++ b_c cB cC cI cJ cZ oA rA σ_1 ++ b_t cB cC cI cJ cZ oA rA σ_1 ++ b_d cB cC cI cJ cZ oA rA σ_1) H := er_I hP' hq9
    clear hP' hq9
    subst hw9
    obtain ⟨x_35, ex_35, hF_36⟩ := bnd_e hF_34
    clear hF_34
    refine m_top ex_35 ?_
    refine lv_goto (tgt := 32) hx hb dX4_shutBlock_28 (by decide) ?_
    exact Jj_5 x_35 σ_1 hF_36 _ _ hP hS ls (lv_sub hl [0] rfl)
theorem dX4_followScope_0 : decode cX4_followScope 0 = .ok (.aload_n 0, 1) := by decide +kernel
theorem dX4_followScope_1 : decode cX4_followScope 1 = .ok (.getfield 32, 3) := by decide +kernel
theorem dX4_followScope_4 : decode cX4_followScope 4 = .ok (.iload_n 1, 1) := by decide +kernel
theorem dX4_followScope_5 : decode cX4_followScope 5 = .ok (.invokevirtual 116, 3) := by decide +kernel
theorem dX4_followScope_8 : decode cX4_followScope 8 = .ok (.lookupswitch 159 #[(59, 100), (123, 124), (125, 152), (235, 68), (236, 68), (237, 68), (242, 83)], 68) := by decide +kernel
theorem dX4_followScope_76 : decode cX4_followScope 76 = .ok (.aload_n 0, 1) := by decide +kernel
theorem dX4_followScope_77 : decode cX4_followScope 77 = .ok (.aload_n 0, 1) := by decide +kernel
theorem dX4_followScope_78 : decode cX4_followScope 78 = .ok (.getfield 32, 3) := by decide +kernel
theorem dX4_followScope_81 : decode cX4_followScope 81 = .ok (.iload_n 1, 1) := by decide +kernel
theorem dX4_followScope_82 : decode cX4_followScope 82 = .ok (.invokevirtual 116, 3) := by decide +kernel
theorem dX4_followScope_85 : decode cX4_followScope 85 = .ok (.putfield 63, 3) := by decide +kernel
theorem dX4_followScope_88 : decode cX4_followScope 88 = .ok (.goto 79, 3) := by decide +kernel
theorem dX4_followScope_91 : decode cX4_followScope 91 = .ok (.aload_n 0, 1) := by decide +kernel
theorem dX4_followScope_92 : decode cX4_followScope 92 = .ok (.aload_n 0, 1) := by decide +kernel
theorem dX4_followScope_93 : decode cX4_followScope 93 = .ok (.getfield 32, 3) := by decide +kernel
theorem dX4_followScope_96 : decode cX4_followScope 96 = .ok (.iload_n 1, 1) := by decide +kernel
theorem dX4_followScope_97 : decode cX4_followScope 97 = .ok (.iconst 1, 1) := by decide +kernel
theorem dX4_followScope_98 : decode cX4_followScope 98 = .ok (.iadd, 1) := by decide +kernel
theorem dX4_followScope_99 : decode cX4_followScope 99 = .ok (.invokevirtual 119, 3) := by decide +kernel
theorem dX4_followScope_102 : decode cX4_followScope 102 = .ok (.putfield 132, 3) := by decide +kernel
theorem dX4_followScope_105 : decode cX4_followScope 105 = .ok (.goto 62, 3) := by decide +kernel
theorem dX4_followScope_108 : decode cX4_followScope 108 = .ok (.aload_n 0, 1) := by decide +kernel
theorem dX4_followScope_109 : decode cX4_followScope 109 = .ok (.getfield 132, 3) := by decide +kernel
theorem dX4_followScope_112 : decode cX4_followScope 112 = .ok (.iconst (-1), 1) := by decide +kernel
theorem dX4_followScope_113 : decode cX4_followScope 113 = .ok (.if_icmp .eq 11, 3) := by decide +kernel
theorem dX4_followScope_116 : decode cX4_followScope 116 = .ok (.aload_n 0, 1) := by decide +kernel
theorem dX4_followScope_117 : decode cX4_followScope 117 = .ok (.aload_n 0, 1) := by decide +kernel
theorem dX4_followScope_118 : decode cX4_followScope 118 = .ok (.getfield 132, 3) := by decide +kernel
theorem dX4_followScope_121 : decode cX4_followScope 121 = .ok (.invokevirtual 178, 3) := by decide +kernel
theorem dX4_followScope_124 : decode cX4_followScope 124 = .ok (.aload_n 0, 1) := by decide +kernel
theorem dX4_followScope_125 : decode cX4_followScope 125 = .ok (.iconst (-1), 1) := by decide +kernel
theorem dX4_followScope_126 : decode cX4_followScope 126 = .ok (.putfield 132, 3) := by decide +kernel
theorem dX4_followScope_129 : decode cX4_followScope 129 = .ok (.goto 38, 3) := by decide +kernel
theorem dX4_followScope_132 : decode cX4_followScope 132 = .ok (.aload_n 0, 1) := by decide +kernel
theorem dX4_followScope_133 : decode cX4_followScope 133 = .ok (.getfield 29, 3) := by decide +kernel
theorem dX4_followScope_136 : decode cX4_followScope 136 = .ok (.aload_n 0, 1) := by decide +kernel
theorem dX4_followScope_137 : decode cX4_followScope 137 = .ok (.getfield 66, 3) := by decide +kernel
theorem dX4_followScope_140 : decode cX4_followScope 140 = .ok (.aload_n 0, 1) := by decide +kernel
theorem dX4_followScope_141 : decode cX4_followScope 141 = .ok (.getfield 126, 3) := by decide +kernel
theorem dX4_followScope_144 : decode cX4_followScope 144 = .ok (.invokestatic 112, 3) := by decide +kernel
theorem dX4_followScope_147 : decode cX4_followScope 147 = .ok (.aload_n 0, 1) := by decide +kernel
theorem dX4_followScope_148 : decode cX4_followScope 148 = .ok (.dup, 1) := by decide +kernel
theorem dX4_followScope_149 : decode cX4_followScope 149 = .ok (.getfield 66, 3) := by decide +kernel
theorem dX4_followScope_152 : decode cX4_followScope 152 = .ok (.iconst 1, 1) := by decide +kernel
theorem dX4_followScope_153 : decode cX4_followScope 153 = .ok (.iadd, 1) := by decide +kernel
theorem dX4_followScope_154 : decode cX4_followScope 154 = .ok (.putfield 66, 3) := by decide +kernel
theorem dX4_followScope_157 : decode cX4_followScope 157 = .ok (.goto 10, 3) := by decide +kernel
theorem dX4_followScope_160 : decode cX4_followScope 160 = .ok (.aload_n 0, 1) := by decide +kernel
theorem dX4_followScope_161 : decode cX4_followScope 161 = .ok (.invokevirtual 184, 3) := by decide +kernel
theorem dX4_followScope_164 : decode cX4_followScope 164 = .ok (.goto 3, 3) := by decide +kernel
theorem dX4_followScope_167 : decode cX4_followScope 167 = .ok (.return_, 1) := by decide +kernel
def F_X4_followScope (p0 : Int32) (Γ : HS) : HR :=
  (F_X10_kindOf p0 Γ).bind fun u_1 =>
  bnd (mrg (fun j => j == 1) Γ u_1.2) fun σ_3 =>
  if u_1.1 = 59 then (
    bnd (fun  (σ_7 : HS) => (
      bnd (cI' σ_7 3 9 (-1)) fun σ_11 =>
      some (0, σ_11)
    ) : HS → HR) fun j_8 =>
    if ((σ_3 3).1 9) = (-1) then (
      j_8  σ_3
    ) else (
      (F_X4_see ((σ_3 3).1 9) σ_3).bind fun u_16 =>
      j_8  u_16.2
    )
  ) else
  if u_1.1 = 123 then (
    bnd (((σ_3 3).1 7)) fun (x_21 : Int32) =>
    bnd (cA' σ_3 3 10 (g_put 31 ((σ_3 3).2.1 10) ((σ_3 3).1 11) x_21)) fun σ_23 =>
    bnd (cI' σ_23 3 11 (((σ_23 3).1 11) + 1)) fun σ_25 =>
    some (0, σ_25)
  ) else
  if u_1.1 = 125 then (
    (F_X4_shutBlock σ_3).bind fun u_30 =>
    some (0, u_30.2)
  ) else
  if u_1.1 = 235 ∨ u_1.1 = 236 ∨ u_1.1 = 237 then (
    (F_X10_kindOf p0 σ_3).bind fun u_35 =>
    bnd (mrg (fun j => j == 1) σ_3 u_35.2) fun σ_37 =>
    bnd (cI' σ_37 3 12 u_35.1) fun σ_39 =>
    some (0, σ_39)
  ) else
  if u_1.1 = 242 then (
    (F_X10_worthOf (p0 + 1) σ_3).bind fun u_44 =>
    bnd (mrg (fun j => j == 1) σ_3 u_44.2) fun σ_46 =>
    bnd (cI' σ_46 3 9 u_44.1) fun σ_48 =>
    some (0, σ_48)
  ) else
  (
    some (0, σ_3)
  )
set_option maxHeartbeats 4000000 in
set_option maxRecDepth 100000 in
theorem k_X4_followScope (l : Launch) (dC : Nat → ClassId) (dI : Nat → Nat → Nat) (cB cC cI cJ cZ cP : ClassId) (oA : Nat → Nat) (rA : Nat → Nat → Nat) (sz : Nat)  (p0 : Int32) (Γ : HS) (res : Int32 × HS) (hF : F_X4_followScope p0 Γ = some res) : Met l yX4_followScope (g_ws yX4_followScope cX4_followScope 2 none) ({ frames := 4, cells := 0, slots := 0, locals := 104 }) (va_Pc [.ref (oA 3), .int p0] (g_B (dC, dI) [(cB, .byte), (cC, .char), (cI, .int), (cJ, .long), (cZ, .boolean), (cP, .object "StoryHouse$Play")] sz (b_m cB cC cI cJ cZ oA rA Γ ++ b_w cB cC cI cJ cZ oA rA Γ ++ b_s cB cC cI cJ cZ oA rA Γ ++ b_c cB cC cI cJ cZ oA rA Γ ++ b_t cB cC cI cJ cZ oA rA Γ ++ b_d cB cC cI cJ cZ oA rA Γ) g_0)) (va_Qv (fun (_ : Unit) => True) (g_Bo (dC, dI) (va_A (b_m cB cC cI cJ cZ oA rA Γ ++ b_w cB cC cI cJ cZ oA rA Γ ++ b_s cB cC cI cJ cZ oA rA Γ ++ b_c cB cC cI cJ cZ oA rA Γ ++ b_t cB cC cI cJ cZ oA rA Γ ++ b_d cB cC cI cJ cZ oA rA Γ) sz) (fun (_ : Unit) => (b_m cB cC cI cJ cZ oA rA res.2 ++ b_w cB cC cI cJ cZ oA rA res.2 ++ b_s cB cC cI cJ cZ oA rA res.2 ++ b_c cB cC cI cJ cZ oA rA res.2 ++ b_t cB cC cI cJ cZ oA rA res.2 ++ b_d cB cC cI cJ cZ oA rA res.2))) (va_A (b_m cB cC cI cJ cZ oA rA Γ ++ b_w cB cC cI cJ cZ oA rA Γ ++ b_s cB cC cI cJ cZ oA rA Γ ++ b_c cB cC cI cJ cZ oA rA Γ ++ b_t cB cC cI cJ cZ oA rA Γ ++ b_d cB cC cI cJ cZ oA rA Γ) sz)) 0 0 (va_A (b_m cB cC cI cJ cZ oA rA Γ ++ b_w cB cC cI cJ cZ oA rA Γ ++ b_s cB cC cI cJ cZ oA rA Γ ++ b_c cB cC cI cJ cZ oA rA Γ ++ b_t cB cC cI cJ cZ oA rA Γ ++ b_d cB cC cI cJ cZ oA rA Γ) sz) := by
  refine Met.ofW (cc := cX4_followScope) (maxL := 2) (ret := none) (by decide) rfl ?_
  intro p e s m args below meth c s₁ B hml hv
  obtain ⟨rfl, hsz, hP, hK, hD0, hE, hX⟩ := hv
  have hx := B.exec
  have hb := B.bytes
  have hr := B.returns
  have hts0 := atoms_spec (ws := g_ws yX4_followScope cX4_followScope 2 none) B.pre
  have hts : ∀ w ∈ lw_good, w.before ([.ref (oA 3), .int p0] : List Value).toArray s = true := fun w z => hts0 w (List.mem_cons_of_mem _ z)
  have hown : s.vm.findClass RX4 = some m.cls := findClass_of_methodNamed B.named
  have hlocks := B.notSynchronized
  subst hsz
  have hD1 := hD0.self (sz := s.heap.size)
  generalize hAe : va_A (b_m cB cC cI cJ cZ oA rA Γ ++ b_w cB cC cI cJ cZ oA rA Γ ++ b_s cB cC cI cJ cZ oA rA Γ ++ b_c cB cC cI cJ cZ oA rA Γ ++ b_t cB cC cI cJ cZ oA rA Γ ++ b_d cB cC cI cJ cZ oA rA Γ) s.heap.size = A at hD1 hE hX ⊢
  have hA : ∀ q : Nat, s.heap.size ≤ q → A q := fun q z => by rw [← hAe]; exact Or.inr z
  have hDD : ∀ Γ : HS, va_D A (b_m cB cC cI cJ cZ oA rA Γ ++ b_w cB cC cI cJ cZ oA rA Γ ++ b_s cB cC cI cJ cZ oA rA Γ ++ b_c cB cC cI cJ cZ oA rA Γ ++ b_t cB cC cI cJ cZ oA rA Γ ++ b_d cB cC cI cJ cZ oA rA Γ) := fun Γ9 => va_D_fst (ws := (b_m cB cC cI cJ cZ oA rA Γ ++ b_w cB cC cI cJ cZ oA rA Γ ++ b_s cB cC cI cJ cZ oA rA Γ ++ b_c cB cC cI cJ cZ oA rA Γ ++ b_t cB cC cI cJ cZ oA rA Γ ++ b_d cB cC cI cJ cZ oA rA Γ)) (ws' := (b_m cB cC cI cJ cZ oA rA Γ9 ++ b_w cB cC cI cJ cZ oA rA Γ9 ++ b_s cB cC cI cJ cZ oA rA Γ9 ++ b_c cB cC cI cJ cZ oA rA Γ9 ++ b_t cB cC cI cJ cZ oA rA Γ9 ++ b_d cB cC cI cJ cZ oA rA Γ9)) rfl hD1
  have hN := hE.1
  have hS : va_S A s.heap s.heap [] := va_S.rf
  have hl := lv_entry ([.ref (oA 3), .int p0]) (n := 2) (Nat.le_of_ble_eq_true rfl)
  rw [lg_entry_eq]
  generalize (lg_sl ([.ref (oA 3), .int p0]) ++ List.replicate (2 - (lg_sl ([.ref (oA 3), .int p0])).length) Slot.unset).toArray = ls at hl ⊢
  have hl : lv_has ls 2 [(0, .ref (oA 3)), (1, .int p0)] := hl
  unfold F_X4_followScope at hF
  refine lv_aload_n hx hb dX4_followScope_0 rfl (lv_at hl 0 rfl) ?_
  refine va_get (D := (dC, dI)) (ci := 4) (v := .ref (oA 1)) (C := RX4) (T := TX4) (N := 18) hx hb hts ii_X4 hown hK hP 0 rfl rfl 0 (by decide) (hts (.fieldLink RX4 32 "StoryHouse$Meanings" "words" "LStoryHouse$Words;") wq_86) (fun _ h9 => h9) rfl dX4_followScope_1 ?_
  refine lv_iload_n hx hb dX4_followScope_4 rfl (lv_at hl 1 rfl) ?_
  obtain ⟨u_1, hu_1, hF_2⟩ := Option.bind_eq_some_iff.mp hF
  clear hF
  have hPc := bx_P (bs := [b_m cB cC cI cJ cZ oA rA Γ, b_w cB cC cI cJ cZ oA rA Γ, b_s cB cC cI cJ cZ oA rA Γ, b_c cB cC cI cJ cZ oA rA Γ, b_t cB cC cI cJ cZ oA rA Γ, b_d cB cC cI cJ cZ oA rA Γ]) (bs' := [b_w cB cC cI cJ cZ oA rA Γ]) (ws' := (b_w cB cC cI cJ cZ oA rA Γ)) hP fl_6 fl_1 [1] rfl
  have hDc := bx_D (bs := [b_m cB cC cI cJ cZ oA rA Γ, b_w cB cC cI cJ cZ oA rA Γ, b_s cB cC cI cJ cZ oA rA Γ, b_c cB cC cI cJ cZ oA rA Γ, b_t cB cC cI cJ cZ oA rA Γ, b_d cB cC cI cJ cZ oA rA Γ]) (bs' := [b_w cB cC cI cJ cZ oA rA Γ]) (ws' := (b_w cB cC cI cJ cZ oA rA Γ)) (hDD Γ) fl_6 fl_1 [1] (by decide +kernel) rfl
  have hFc := bx_F (bs := [b_m cB cC cI cJ cZ oA rA Γ, b_w cB cC cI cJ cZ oA rA Γ, b_s cB cC cI cJ cZ oA rA Γ, b_c cB cC cI cJ cZ oA rA Γ, b_t cB cC cI cJ cZ oA rA Γ, b_d cB cC cI cJ cZ oA rA Γ]) (bs' := [b_w cB cC cI cJ cZ oA rA Γ]) (wc := (b_w cB cC cI cJ cZ oA rA Γ)) (hDD Γ) hS hA fl_6 fl_1 [1] rfl
  refine g_ofi (wc := (b_w cB cC cI cJ cZ oA rA Γ)) (wr := (b_m cB cC cI cJ cZ oA rA Γ ++ b_s cB cC cI cJ cZ oA rA Γ ++ b_c cB cC cI cJ cZ oA rA Γ ++ b_t cB cC cI cJ cZ oA rA Γ ++ b_d cB cC cI cJ cZ oA rA Γ)) hP (hDD Γ) hS hFc (bx_ix [b_m cB cC cI cJ cZ oA rA Γ, b_w cB cC cI cJ cZ oA rA Γ, b_s cB cC cI cJ cZ oA rA Γ, b_c cB cC cI cJ cZ oA rA Γ, b_t cB cC cI cJ cZ oA rA Γ, b_d cB cC cI cJ cZ oA rA Γ] [1]) (bx_ix [b_m cB cC cI cJ cZ oA rA Γ, b_w cB cC cI cJ cZ oA rA Γ, b_s cB cC cI cJ cZ oA rA Γ, b_c cB cC cI cJ cZ oA rA Γ, b_t cB cC cI cJ cZ oA rA Γ, b_d cB cC cI cJ cZ oA rA Γ] [0, 2, 3, 4, 5]) (bx_C (bs := [b_m cB cC cI cJ cZ oA rA Γ, b_w cB cC cI cJ cZ oA rA Γ, b_s cB cC cI cJ cZ oA rA Γ, b_c cB cC cI cJ cZ oA rA Γ, b_t cB cC cI cJ cZ oA rA Γ, b_d cB cC cI cJ cZ oA rA Γ]) (bs' := [b_w cB cC cI cJ cZ oA rA Γ]) (is := [1]) fl_6 fl_1 rfl) (bx_C (bs := [b_m cB cC cI cJ cZ oA rA Γ, b_w cB cC cI cJ cZ oA rA Γ, b_s cB cC cI cJ cZ oA rA Γ, b_c cB cC cI cJ cZ oA rA Γ, b_t cB cC cI cJ cZ oA rA Γ, b_d cB cC cI cJ cZ oA rA Γ]) (bs' := [b_m cB cC cI cJ cZ oA rA Γ, b_s cB cC cI cJ cZ oA rA Γ, b_c cB cC cI cJ cZ oA rA Γ, b_t cB cC cI cJ cZ oA rA Γ, b_d cB cC cI cJ cZ oA rA Γ]) (is := [0, 2, 3, 4, 5]) fl_6 fl_5 rfl) (bx_n (by decide +kernel)) (bx_d (by decide +kernel)) (va_runV (As := [.int p0]) (rest := []) ⟨hx, hb, hml, hown, hts⟩ (k_X10_kindOf l dC dI cB cC cI cJ cZ cP oA rA s.heap.size  p0 Γ _ hu_1) (cwV 1 hts (g_gV wq_714 wq_543 wq_544 wq_2 wq_545) rfl rfl rfl (by decide +kernel) ⟨Nat.le_of_ble_eq_true rfl, Nat.le_of_ble_eq_true rfl⟩) (g_preV g_bl0 hK hPc hDc hS hE hFc g_to0 (q0 := 0) (ci := 10) rfl rfl) rfl rfl hl.1 rfl (lv_room (Nat.le_of_ble_eq_true rfl)) dX4_followScope_5 ⟨Nat.le_of_ble_eq_true rfl, Nat.le_of_ble_eq_true rfl⟩) (fun r9 u9 H locs hw9 hP' hD' hS => ?_)
  clear hPc hDc hFc
  subst hw9
  obtain ⟨σ_3, eσ_3, hF_4⟩ := bnd_e hF_2
  clear hF_2
  have hP : va_P (dC, dI) vwCl (b_m cB cC cI cJ cZ oA rA σ_3 ++ b_w cB cC cI cJ cZ oA rA σ_3 ++ b_s cB cC cI cJ cZ oA rA σ_3 ++ b_c cB cC cI cJ cZ oA rA σ_3 ++ b_t cB cC cI cJ cZ oA rA σ_3 ++ b_d cB cC cI cJ cZ oA rA σ_3) H := by rw [eσ_3]; exact bx_P (bs := [b_m cB cC cI cJ cZ oA rA Γ, b_s cB cC cI cJ cZ oA rA Γ, b_c cB cC cI cJ cZ oA rA Γ, b_t cB cC cI cJ cZ oA rA Γ, b_d cB cC cI cJ cZ oA rA Γ] ++ [b_w cB cC cI cJ cZ oA rA u_1.2]) (bs' := [b_m cB cC cI cJ cZ oA rA (mrg (fun j => j == 1) Γ u_1.2), b_w cB cC cI cJ cZ oA rA (mrg (fun j => j == 1) Γ u_1.2), b_s cB cC cI cJ cZ oA rA (mrg (fun j => j == 1) Γ u_1.2), b_c cB cC cI cJ cZ oA rA (mrg (fun j => j == 1) Γ u_1.2), b_t cB cC cI cJ cZ oA rA (mrg (fun j => j == 1) Γ u_1.2), b_d cB cC cI cJ cZ oA rA (mrg (fun j => j == 1) Γ u_1.2)]) hP' (fl_a fl_5 fl_1) fl_6 [0, 5, 1, 2, 3, 4] rfl
  clear hP' hD'
  by_cases c_5 : u_1.1 = 59
  · have hF_6 := ipos c_5 hF_4
    clear hF_4
    refine lv_lookup (off := 100) (tgt := 108) hx hb dX4_followScope_8 (by decide +kernel) (by rw [c_5]; decide +kernel) (by decide) ?_
    refine lv_aload_n hx hb dX4_followScope_108 rfl (lv_at hl 0 rfl) ?_
    refine va_get (D := (dC, dI)) (ci := 4) (v := .int ((σ_3 3).1 9)) (C := RX4) (T := TX4) (N := 18) hx hb hts ii_X4 hown hK hP 0 rfl rfl 9 (by decide) (hts (.fieldLink RX4 132 "StoryHouse$Meanings" "pendingLet" "I") wq_95) (fun _ h9 => h9) rfl dX4_followScope_109 ?_
    refine lv_iconst (v := (-1)) hx hb dX4_followScope_112 (by decide +kernel) ?_
    obtain ⟨j_8, ej_8, hF_9⟩ := bnd_e hF_6
    clear hF_6
    have Jj_8 : ∀  (σ_7 : HS), j_8  σ_7 = some res → ∀ (H : Heap) (locs : List Loc), va_P (dC, dI) vwCl (b_m cB cC cI cJ cZ oA rA σ_7 ++ b_w cB cC cI cJ cZ oA rA σ_7 ++ b_s cB cC cI cJ cZ oA rA σ_7 ++ b_c cB cC cI cJ cZ oA rA σ_7 ++ b_t cB cC cI cJ cZ oA rA σ_7 ++ b_d cB cC cI cJ cZ oA rA σ_7) H → va_S A s.heap H locs → ∀ ls : Array Slot, lv_has ls 2 [(0, .ref (oA 3))] → W p l e (headSpec (g_ws yX4_followScope cX4_followScope 2 none) { frames := 4, cells := 0, slots := 0, locals := 104 }).room s m ([.ref (oA 3), .int p0] : List Value).toArray below meth c H locs 0 0 (MQ below (va_Qv (fun (_ : Unit) => True) (g_Bo (dC, dI) A (fun (_ : Unit) => (b_m cB cC cI cJ cZ oA rA res.2 ++ b_w cB cC cI cJ cZ oA rA res.2 ++ b_s cB cC cI cJ cZ oA rA res.2 ++ b_c cB cC cI cJ cZ oA rA res.2 ++ b_t cB cC cI cJ cZ oA rA res.2 ++ b_d cB cC cI cJ cZ oA rA res.2))) A) ([.ref (oA 3), .int p0] : List Value).toArray s 0 0 A) (F0 m 124 ls []) := by
      intro  σ_7 hF0 H locs hP hS ls hl
      subst ej_8
      have hF_10 := hF0
      clear hF0
      refine lv_aload_n hx hb dX4_followScope_124 rfl (lv_at hl 0 rfl) ?_
      refine lv_iconst (v := (-1)) hx hb dX4_followScope_125 (by decide +kernel) ?_
      obtain ⟨σ_11, eσ_11, hF_12⟩ := bnd_e hF_10
      clear hF_10
      refine va_put (D := (dC, dI)) (ci := 4) (v := .int (-1)) (ty := .int) (C := RX4) (T := TX4) (N := 18) hx hb hts ii_X4 tyX4 tyX4_ok nmX4 hown hK hP (hDD _) hS 0 rfl rfl 9 (by decide) (hts (.fieldLink RX4 132 "StoryHouse$Meanings" "pendingLet" "I") wq_95) (fun _ h9 => h9) rfl (by decide +kernel) rfl rfl (Nat.le_of_ble_eq_true rfl) dX4_followScope_126 (fun H locs hP' _ hS => ?_)
      have hP : va_P (dC, dI) vwCl (b_m cB cC cI cJ cZ oA rA σ_11 ++ b_w cB cC cI cJ cZ oA rA σ_11 ++ b_s cB cC cI cJ cZ oA rA σ_11 ++ b_c cB cC cI cJ cZ oA rA σ_11 ++ b_t cB cC cI cJ cZ oA rA σ_11 ++ b_d cB cC cI cJ cZ oA rA σ_11) H := by rw [eσ_11]; exact cs_mwsctd_m_9 ▸ hP'
      clear hP'
      refine lv_goto (tgt := 167) hx hb dX4_followScope_129 (by decide) ?_
      have h9 := Option.some.inj hF_12
      subst h9
      exact W.vret hx hb hr (fun t ht hW => ⟨⟨(), rfl, trivial, m_end ht hP, hDD _⟩, hS.F ht⟩) hS.2.2 dX4_followScope_167
    refine lv_icmp_eq (tgt := 124) hx hb dX4_followScope_113 (by decide) (fun c_13 => ?_) (fun c_13 => ?_)
    · have hF_14 := ipos c_13 hF_9
      clear hF_9
      exact Jj_8  σ_3 hF_14 _ _ hP hS ls (lv_sub hl [0] rfl)
    · have hF_15 := ineg c_13 hF_9
      clear hF_9
      refine lv_aload_n hx hb dX4_followScope_116 rfl (lv_at hl 0 rfl) ?_
      refine lv_aload_n hx hb dX4_followScope_117 rfl (lv_at hl 0 rfl) ?_
      refine va_get (D := (dC, dI)) (ci := 4) (v := .int ((σ_3 3).1 9)) (C := RX4) (T := TX4) (N := 18) hx hb hts ii_X4 hown hK hP 0 rfl rfl 9 (by decide) (hts (.fieldLink RX4 132 "StoryHouse$Meanings" "pendingLet" "I") wq_95) (fun _ h9 => h9) rfl dX4_followScope_118 ?_
      obtain ⟨u_16, hu_16, hF_17⟩ := Option.bind_eq_some_iff.mp hF_15
      clear hF_15
      have hPc := bx_P (bs := [b_m cB cC cI cJ cZ oA rA σ_3, b_w cB cC cI cJ cZ oA rA σ_3, b_s cB cC cI cJ cZ oA rA σ_3, b_c cB cC cI cJ cZ oA rA σ_3, b_t cB cC cI cJ cZ oA rA σ_3, b_d cB cC cI cJ cZ oA rA σ_3]) (bs' := [b_m cB cC cI cJ cZ oA rA σ_3, b_w cB cC cI cJ cZ oA rA σ_3, b_s cB cC cI cJ cZ oA rA σ_3, b_c cB cC cI cJ cZ oA rA σ_3, b_t cB cC cI cJ cZ oA rA σ_3, b_d cB cC cI cJ cZ oA rA σ_3]) (ws' := (b_m cB cC cI cJ cZ oA rA σ_3 ++ b_w cB cC cI cJ cZ oA rA σ_3 ++ b_s cB cC cI cJ cZ oA rA σ_3 ++ b_c cB cC cI cJ cZ oA rA σ_3 ++ b_t cB cC cI cJ cZ oA rA σ_3 ++ b_d cB cC cI cJ cZ oA rA σ_3)) hP fl_6 fl_6 [0, 1, 2, 3, 4, 5] rfl
      have hDc := bx_D (bs := [b_m cB cC cI cJ cZ oA rA σ_3, b_w cB cC cI cJ cZ oA rA σ_3, b_s cB cC cI cJ cZ oA rA σ_3, b_c cB cC cI cJ cZ oA rA σ_3, b_t cB cC cI cJ cZ oA rA σ_3, b_d cB cC cI cJ cZ oA rA σ_3]) (bs' := [b_m cB cC cI cJ cZ oA rA σ_3, b_w cB cC cI cJ cZ oA rA σ_3, b_s cB cC cI cJ cZ oA rA σ_3, b_c cB cC cI cJ cZ oA rA σ_3, b_t cB cC cI cJ cZ oA rA σ_3, b_d cB cC cI cJ cZ oA rA σ_3]) (ws' := (b_m cB cC cI cJ cZ oA rA σ_3 ++ b_w cB cC cI cJ cZ oA rA σ_3 ++ b_s cB cC cI cJ cZ oA rA σ_3 ++ b_c cB cC cI cJ cZ oA rA σ_3 ++ b_t cB cC cI cJ cZ oA rA σ_3 ++ b_d cB cC cI cJ cZ oA rA σ_3)) (hDD σ_3) fl_6 fl_6 [0, 1, 2, 3, 4, 5] (by decide +kernel) rfl
      have hFc := bx_F (bs := [b_m cB cC cI cJ cZ oA rA σ_3, b_w cB cC cI cJ cZ oA rA σ_3, b_s cB cC cI cJ cZ oA rA σ_3, b_c cB cC cI cJ cZ oA rA σ_3, b_t cB cC cI cJ cZ oA rA σ_3, b_d cB cC cI cJ cZ oA rA σ_3]) (bs' := [b_m cB cC cI cJ cZ oA rA σ_3, b_w cB cC cI cJ cZ oA rA σ_3, b_s cB cC cI cJ cZ oA rA σ_3, b_c cB cC cI cJ cZ oA rA σ_3, b_t cB cC cI cJ cZ oA rA σ_3, b_d cB cC cI cJ cZ oA rA σ_3]) (wc := (b_m cB cC cI cJ cZ oA rA σ_3 ++ b_w cB cC cI cJ cZ oA rA σ_3 ++ b_s cB cC cI cJ cZ oA rA σ_3 ++ b_c cB cC cI cJ cZ oA rA σ_3 ++ b_t cB cC cI cJ cZ oA rA σ_3 ++ b_d cB cC cI cJ cZ oA rA σ_3)) (hDD σ_3) hS hA fl_6 fl_6 [0, 1, 2, 3, 4, 5] rfl
      refine g_ofv (wc := (b_m cB cC cI cJ cZ oA rA σ_3 ++ b_w cB cC cI cJ cZ oA rA σ_3 ++ b_s cB cC cI cJ cZ oA rA σ_3 ++ b_c cB cC cI cJ cZ oA rA σ_3 ++ b_t cB cC cI cJ cZ oA rA σ_3 ++ b_d cB cC cI cJ cZ oA rA σ_3)) (wr := ([] : va_W)) hP (hDD σ_3) hS hFc (bx_ix [b_m cB cC cI cJ cZ oA rA σ_3, b_w cB cC cI cJ cZ oA rA σ_3, b_s cB cC cI cJ cZ oA rA σ_3, b_c cB cC cI cJ cZ oA rA σ_3, b_t cB cC cI cJ cZ oA rA σ_3, b_d cB cC cI cJ cZ oA rA σ_3] [0, 1, 2, 3, 4, 5]) (bx_ix [b_m cB cC cI cJ cZ oA rA σ_3, b_w cB cC cI cJ cZ oA rA σ_3, b_s cB cC cI cJ cZ oA rA σ_3, b_c cB cC cI cJ cZ oA rA σ_3, b_t cB cC cI cJ cZ oA rA σ_3, b_d cB cC cI cJ cZ oA rA σ_3] []) (bx_C (bs := [b_m cB cC cI cJ cZ oA rA σ_3, b_w cB cC cI cJ cZ oA rA σ_3, b_s cB cC cI cJ cZ oA rA σ_3, b_c cB cC cI cJ cZ oA rA σ_3, b_t cB cC cI cJ cZ oA rA σ_3, b_d cB cC cI cJ cZ oA rA σ_3]) (bs' := [b_m cB cC cI cJ cZ oA rA σ_3, b_w cB cC cI cJ cZ oA rA σ_3, b_s cB cC cI cJ cZ oA rA σ_3, b_c cB cC cI cJ cZ oA rA σ_3, b_t cB cC cI cJ cZ oA rA σ_3, b_d cB cC cI cJ cZ oA rA σ_3]) (is := [0, 1, 2, 3, 4, 5]) fl_6 fl_6 rfl) (bx_C (bs := [b_m cB cC cI cJ cZ oA rA σ_3, b_w cB cC cI cJ cZ oA rA σ_3, b_s cB cC cI cJ cZ oA rA σ_3, b_c cB cC cI cJ cZ oA rA σ_3, b_t cB cC cI cJ cZ oA rA σ_3, b_d cB cC cI cJ cZ oA rA σ_3]) (bs' := []) (is := []) fl_6 fl_0 rfl) (bx_n (by decide +kernel)) (bx_d (by decide +kernel)) (va_runV (As := [.int ((σ_3 3).1 9)]) (rest := []) ⟨hx, hb, hml, hown, hts⟩ (k_X4_see l dC dI cB cC cI cJ cZ cP oA rA H.size  ((σ_3 3).1 9) σ_3 _ hu_16) (cwV 1 hts (g_gV wq_747 wq_748 wq_2044 wq_4 wq_749) rfl rfl rfl (by decide +kernel) ⟨Nat.le_of_ble_eq_true rfl, Nat.le_of_ble_eq_true rfl⟩) (g_preV g_bl0 hK hPc hDc hS hE hFc g_to0 (q0 := 0) (ci := 4) rfl rfl) rfl rfl hl.1 rfl (lv_room (Nat.le_of_ble_eq_true rfl)) dX4_followScope_121 ⟨Nat.le_of_ble_eq_true rfl, Nat.le_of_ble_eq_true rfl⟩) (fun u9 H locs hw9 hP' hD' hS => ?_)
      clear hPc hDc hFc
      have hP : va_P (dC, dI) vwCl (b_m cB cC cI cJ cZ oA rA u_16.2 ++ b_w cB cC cI cJ cZ oA rA u_16.2 ++ b_s cB cC cI cJ cZ oA rA u_16.2 ++ b_c cB cC cI cJ cZ oA rA u_16.2 ++ b_t cB cC cI cJ cZ oA rA u_16.2 ++ b_d cB cC cI cJ cZ oA rA u_16.2) H := hP'
      clear hP' hD'
      exact Jj_8  u_16.2 hF_17 _ _ hP hS ls (lv_sub hl [0] rfl)
  have hF_18 := ineg c_5 hF_4
  clear hF_4
  by_cases c_19 : u_1.1 = 123
  · have hF_20 := ipos c_19 hF_18
    clear hF_18
    refine lv_lookup (off := 124) (tgt := 132) hx hb dX4_followScope_8 (by decide +kernel) (by rw [c_19]; decide +kernel) (by decide) ?_
    refine lv_aload_n hx hb dX4_followScope_132 rfl (lv_at hl 0 rfl) ?_
    refine va_get (D := (dC, dI)) (ci := 4) (v := .ref (rA 3 10)) (C := RX4) (T := TX4) (N := 18) hx hb hts ii_X4 hown hK hP 0 rfl rfl 10 (by decide) (hts (.fieldLink RX4 29 "StoryHouse$Meanings" "marks" "[I") wq_96) (fun _ h9 => h9) rfl dX4_followScope_133 ?_
    refine lv_aload_n hx hb dX4_followScope_136 rfl (lv_at hl 0 rfl) ?_
    refine va_get (D := (dC, dI)) (ci := 4) (v := .int ((σ_3 3).1 11)) (C := RX4) (T := TX4) (N := 18) hx hb hts ii_X4 hown hK hP 0 rfl rfl 11 (by decide) (hts (.fieldLink RX4 66 "StoryHouse$Meanings" "depth" "I") wq_97) (fun _ h9 => h9) rfl dX4_followScope_137 ?_
    refine lv_aload_n hx hb dX4_followScope_140 rfl (lv_at hl 0 rfl) ?_
    refine va_get (D := (dC, dI)) (ci := 4) (v := .int ((σ_3 3).1 7)) (C := RX4) (T := TX4) (N := 18) hx hb hts ii_X4 hown hK hP 0 rfl rfl 7 (by decide) (hts (.fieldLink RX4 126 "StoryHouse$Meanings" "seenCount" "I") wq_93) (fun _ h9 => h9) rfl dX4_followScope_141 ?_
    obtain ⟨x_21, ex_21, hF_22⟩ := bnd_e hF_20
    clear hF_20
    refine m_top ex_21 ?_
    have hq9 : ((b_m cB cC cI cJ cZ oA rA σ_3 ++ b_w cB cC cI cJ cZ oA rA σ_3 ++ b_s cB cC cI cJ cZ oA rA σ_3 ++ b_c cB cC cI cJ cZ oA rA σ_3 ++ b_t cB cC cI cJ cZ oA rA σ_3 ++ b_d cB cC cI cJ cZ oA rA σ_3))[6]? = some (rA 3 10, .inl (cI, 31, .inl ((σ_3 3).2.1 10))) := rfl
    have hPc := hP.sub (ws' := [(rA 3 10, .inl (cI, 31, .inl ((σ_3 3).2.1 10)))]) [6] (pk_fm (er_C hq9))
    have hDc := (hDD σ_3).sub (ws' := [(rA 3 10, .inl (cI, 31, .inl ((σ_3 3).2.1 10)))]) [6] (by decide +kernel) (er_C hq9)
    have hFc := va_free (wc := [(rA 3 10, .inl (cI, 31, .inl ((σ_3 3).2.1 10)))]) (hDD σ_3) hS hA [6] (er_C hq9)
    refine g_ofv (wc := [(rA 3 10, .inl (cI, 31, .inl ((σ_3 3).2.1 10)))]) (wr := (((b_m cB cC cI cJ cZ oA rA σ_3 ++ b_w cB cC cI cJ cZ oA rA σ_3 ++ b_s cB cC cI cJ cZ oA rA σ_3 ++ b_c cB cC cI cJ cZ oA rA σ_3 ++ b_t cB cC cI cJ cZ oA rA σ_3 ++ b_d cB cC cI cJ cZ oA rA σ_3)).eraseIdx 6)) hP (hDD σ_3) hS hFc [6] ((List.range ((b_m cB cC cI cJ cZ oA rA σ_3 ++ b_w cB cC cI cJ cZ oA rA σ_3 ++ b_s cB cC cI cJ cZ oA rA σ_3 ++ b_c cB cC cI cJ cZ oA rA σ_3 ++ b_t cB cC cI cJ cZ oA rA σ_3 ++ b_d cB cC cI cJ cZ oA rA σ_3)).length).eraseIdx 6) (er_C hq9) er_R er_n er_d (va_runSN (As := [.ref (rA 3 10), .int ((σ_3 3).1 11), .int x_21]) (rest := []) ⟨hx, hb, hml, hown, hts⟩ (c_X11_put l dC dI cB cC cI cJ cZ cP H.size (rA 3 10) ((σ_3 3).1 11) x_21 31 ((σ_3 3).2.1 10) (by decide)) ⟨va_cnB 3 hts (g_gA wq_412) rfl rfl rfl (nw_23 hN) (hts (.initialized RX11) wq_1) (by decide +kernel) ⟨Nat.le_of_ble_eq_true rfl, Nat.le_of_ble_eq_true rfl⟩, (hts (.static yX11_put) wq_411), trivial⟩ (g_preS g_bl0 hK hPc hDc hS hE hFc g_to0) rfl rfl hl.1 rfl (lv_room (Nat.le_of_ble_eq_true rfl)) dX4_followScope_144 ⟨Nat.le_of_ble_eq_true rfl, Nat.le_of_ble_eq_true rfl⟩) (fun g9 H locs hw9 hP' hD' hS => ?_)
    clear hPc hDc hFc hD'
    obtain ⟨σ_23, eσ_23, hF_24⟩ := bnd_e hF_22
    clear hF_22
    subst hw9
    have hP : va_P (dC, dI) vwCl (b_m cB cC cI cJ cZ oA rA σ_23 ++ b_w cB cC cI cJ cZ oA rA σ_23 ++ b_s cB cC cI cJ cZ oA rA σ_23 ++ b_c cB cC cI cJ cZ oA rA σ_23 ++ b_t cB cC cI cJ cZ oA rA σ_23 ++ b_d cB cC cI cJ cZ oA rA σ_23) H := by rw [eσ_23]; exact cs_mwsctd_m_10 ▸ er_P hP' (er_lt hq9)
    clear hP' hq9
    refine lv_aload_n hx hb dX4_followScope_147 rfl (lv_at hl 0 rfl) ?_
    refine lv_dup hx hb dX4_followScope_148 rfl ?_
    refine va_get (D := (dC, dI)) (ci := 4) (v := .int ((σ_23 3).1 11)) (C := RX4) (T := TX4) (N := 18) hx hb hts ii_X4 hown hK hP 0 rfl rfl 11 (by decide) (hts (.fieldLink RX4 66 "StoryHouse$Meanings" "depth" "I") wq_97) (fun _ h9 => h9) rfl dX4_followScope_149 ?_
    refine lv_iconst (v := 1) hx hb dX4_followScope_152 (by decide +kernel) ?_
    refine lv_iadd hx hb dX4_followScope_153 ?_
    obtain ⟨σ_25, eσ_25, hF_26⟩ := bnd_e hF_24
    clear hF_24
    refine va_put (D := (dC, dI)) (ci := 4) (v := .int (((σ_23 3).1 11) + 1)) (ty := .int) (C := RX4) (T := TX4) (N := 18) hx hb hts ii_X4 tyX4 tyX4_ok nmX4 hown hK hP (hDD _) hS 0 rfl rfl 11 (by decide) (hts (.fieldLink RX4 66 "StoryHouse$Meanings" "depth" "I") wq_97) (fun _ h9 => h9) rfl (by decide +kernel) rfl rfl (Nat.le_of_ble_eq_true rfl) dX4_followScope_154 (fun H locs hP' _ hS => ?_)
    have hP : va_P (dC, dI) vwCl (b_m cB cC cI cJ cZ oA rA σ_25 ++ b_w cB cC cI cJ cZ oA rA σ_25 ++ b_s cB cC cI cJ cZ oA rA σ_25 ++ b_c cB cC cI cJ cZ oA rA σ_25 ++ b_t cB cC cI cJ cZ oA rA σ_25 ++ b_d cB cC cI cJ cZ oA rA σ_25) H := by rw [eσ_25]; exact cs_mwsctd_m_11 ▸ hP'
    clear hP'
    refine lv_goto (tgt := 167) hx hb dX4_followScope_157 (by decide) ?_
    have h9 := Option.some.inj hF_26
    subst h9
    exact W.vret hx hb hr (fun t ht hW => ⟨⟨(), rfl, trivial, m_end ht hP, hDD _⟩, hS.F ht⟩) hS.2.2 dX4_followScope_167
  have hF_27 := ineg c_19 hF_18
  clear hF_18
  by_cases c_28 : u_1.1 = 125
  · have hF_29 := ipos c_28 hF_27
    clear hF_27
    refine lv_lookup (off := 152) (tgt := 160) hx hb dX4_followScope_8 (by decide +kernel) (by rw [c_28]; decide +kernel) (by decide) ?_
    refine lv_aload_n hx hb dX4_followScope_160 rfl (lv_at hl 0 rfl) ?_
    obtain ⟨u_30, hu_30, hF_31⟩ := Option.bind_eq_some_iff.mp hF_29
    clear hF_29
    have hPc := bx_P (bs := [b_m cB cC cI cJ cZ oA rA σ_3, b_w cB cC cI cJ cZ oA rA σ_3, b_s cB cC cI cJ cZ oA rA σ_3, b_c cB cC cI cJ cZ oA rA σ_3, b_t cB cC cI cJ cZ oA rA σ_3, b_d cB cC cI cJ cZ oA rA σ_3]) (bs' := [b_m cB cC cI cJ cZ oA rA σ_3, b_w cB cC cI cJ cZ oA rA σ_3, b_s cB cC cI cJ cZ oA rA σ_3, b_c cB cC cI cJ cZ oA rA σ_3, b_t cB cC cI cJ cZ oA rA σ_3, b_d cB cC cI cJ cZ oA rA σ_3]) (ws' := (b_m cB cC cI cJ cZ oA rA σ_3 ++ b_w cB cC cI cJ cZ oA rA σ_3 ++ b_s cB cC cI cJ cZ oA rA σ_3 ++ b_c cB cC cI cJ cZ oA rA σ_3 ++ b_t cB cC cI cJ cZ oA rA σ_3 ++ b_d cB cC cI cJ cZ oA rA σ_3)) hP fl_6 fl_6 [0, 1, 2, 3, 4, 5] rfl
    have hDc := bx_D (bs := [b_m cB cC cI cJ cZ oA rA σ_3, b_w cB cC cI cJ cZ oA rA σ_3, b_s cB cC cI cJ cZ oA rA σ_3, b_c cB cC cI cJ cZ oA rA σ_3, b_t cB cC cI cJ cZ oA rA σ_3, b_d cB cC cI cJ cZ oA rA σ_3]) (bs' := [b_m cB cC cI cJ cZ oA rA σ_3, b_w cB cC cI cJ cZ oA rA σ_3, b_s cB cC cI cJ cZ oA rA σ_3, b_c cB cC cI cJ cZ oA rA σ_3, b_t cB cC cI cJ cZ oA rA σ_3, b_d cB cC cI cJ cZ oA rA σ_3]) (ws' := (b_m cB cC cI cJ cZ oA rA σ_3 ++ b_w cB cC cI cJ cZ oA rA σ_3 ++ b_s cB cC cI cJ cZ oA rA σ_3 ++ b_c cB cC cI cJ cZ oA rA σ_3 ++ b_t cB cC cI cJ cZ oA rA σ_3 ++ b_d cB cC cI cJ cZ oA rA σ_3)) (hDD σ_3) fl_6 fl_6 [0, 1, 2, 3, 4, 5] (by decide +kernel) rfl
    have hFc := bx_F (bs := [b_m cB cC cI cJ cZ oA rA σ_3, b_w cB cC cI cJ cZ oA rA σ_3, b_s cB cC cI cJ cZ oA rA σ_3, b_c cB cC cI cJ cZ oA rA σ_3, b_t cB cC cI cJ cZ oA rA σ_3, b_d cB cC cI cJ cZ oA rA σ_3]) (bs' := [b_m cB cC cI cJ cZ oA rA σ_3, b_w cB cC cI cJ cZ oA rA σ_3, b_s cB cC cI cJ cZ oA rA σ_3, b_c cB cC cI cJ cZ oA rA σ_3, b_t cB cC cI cJ cZ oA rA σ_3, b_d cB cC cI cJ cZ oA rA σ_3]) (wc := (b_m cB cC cI cJ cZ oA rA σ_3 ++ b_w cB cC cI cJ cZ oA rA σ_3 ++ b_s cB cC cI cJ cZ oA rA σ_3 ++ b_c cB cC cI cJ cZ oA rA σ_3 ++ b_t cB cC cI cJ cZ oA rA σ_3 ++ b_d cB cC cI cJ cZ oA rA σ_3)) (hDD σ_3) hS hA fl_6 fl_6 [0, 1, 2, 3, 4, 5] rfl
    refine g_ofv (wc := (b_m cB cC cI cJ cZ oA rA σ_3 ++ b_w cB cC cI cJ cZ oA rA σ_3 ++ b_s cB cC cI cJ cZ oA rA σ_3 ++ b_c cB cC cI cJ cZ oA rA σ_3 ++ b_t cB cC cI cJ cZ oA rA σ_3 ++ b_d cB cC cI cJ cZ oA rA σ_3)) (wr := ([] : va_W)) hP (hDD σ_3) hS hFc (bx_ix [b_m cB cC cI cJ cZ oA rA σ_3, b_w cB cC cI cJ cZ oA rA σ_3, b_s cB cC cI cJ cZ oA rA σ_3, b_c cB cC cI cJ cZ oA rA σ_3, b_t cB cC cI cJ cZ oA rA σ_3, b_d cB cC cI cJ cZ oA rA σ_3] [0, 1, 2, 3, 4, 5]) (bx_ix [b_m cB cC cI cJ cZ oA rA σ_3, b_w cB cC cI cJ cZ oA rA σ_3, b_s cB cC cI cJ cZ oA rA σ_3, b_c cB cC cI cJ cZ oA rA σ_3, b_t cB cC cI cJ cZ oA rA σ_3, b_d cB cC cI cJ cZ oA rA σ_3] []) (bx_C (bs := [b_m cB cC cI cJ cZ oA rA σ_3, b_w cB cC cI cJ cZ oA rA σ_3, b_s cB cC cI cJ cZ oA rA σ_3, b_c cB cC cI cJ cZ oA rA σ_3, b_t cB cC cI cJ cZ oA rA σ_3, b_d cB cC cI cJ cZ oA rA σ_3]) (bs' := [b_m cB cC cI cJ cZ oA rA σ_3, b_w cB cC cI cJ cZ oA rA σ_3, b_s cB cC cI cJ cZ oA rA σ_3, b_c cB cC cI cJ cZ oA rA σ_3, b_t cB cC cI cJ cZ oA rA σ_3, b_d cB cC cI cJ cZ oA rA σ_3]) (is := [0, 1, 2, 3, 4, 5]) fl_6 fl_6 rfl) (bx_C (bs := [b_m cB cC cI cJ cZ oA rA σ_3, b_w cB cC cI cJ cZ oA rA σ_3, b_s cB cC cI cJ cZ oA rA σ_3, b_c cB cC cI cJ cZ oA rA σ_3, b_t cB cC cI cJ cZ oA rA σ_3, b_d cB cC cI cJ cZ oA rA σ_3]) (bs' := []) (is := []) fl_6 fl_0 rfl) (bx_n (by decide +kernel)) (bx_d (by decide +kernel)) (va_runV (As := []) (rest := []) ⟨hx, hb, hml, hown, hts⟩ (k_X4_shutBlock l dC dI cB cC cI cJ cZ cP oA rA H.size  σ_3 _ hu_30) (cwV 0 hts (g_gV wq_756 wq_757 wq_2047 wq_4 wq_758) rfl rfl rfl (by decide +kernel) ⟨Nat.le_of_ble_eq_true rfl, Nat.le_of_ble_eq_true rfl⟩) (g_preV g_bl0 hK hPc hDc hS hE hFc g_to0 (q0 := 0) (ci := 4) rfl rfl) rfl rfl hl.1 rfl (lv_room (Nat.le_of_ble_eq_true rfl)) dX4_followScope_161 ⟨Nat.le_of_ble_eq_true rfl, Nat.le_of_ble_eq_true rfl⟩) (fun u9 H locs hw9 hP' hD' hS => ?_)
    clear hPc hDc hFc
    have hP : va_P (dC, dI) vwCl (b_m cB cC cI cJ cZ oA rA u_30.2 ++ b_w cB cC cI cJ cZ oA rA u_30.2 ++ b_s cB cC cI cJ cZ oA rA u_30.2 ++ b_c cB cC cI cJ cZ oA rA u_30.2 ++ b_t cB cC cI cJ cZ oA rA u_30.2 ++ b_d cB cC cI cJ cZ oA rA u_30.2) H := hP'
    clear hP' hD'
    refine lv_goto (tgt := 167) hx hb dX4_followScope_164 (by decide) ?_
    have h9 := Option.some.inj hF_31
    subst h9
    exact W.vret hx hb hr (fun t ht hW => ⟨⟨(), rfl, trivial, m_end ht hP, hDD _⟩, hS.F ht⟩) hS.2.2 dX4_followScope_167
  have hF_32 := ineg c_28 hF_27
  clear hF_27
  by_cases c_33 : u_1.1 = 235 ∨ u_1.1 = 236 ∨ u_1.1 = 237
  · have hF_34 := ipos c_33 hF_32
    clear hF_32
    refine lv_lookup (off := 68) (tgt := 76) hx hb dX4_followScope_8 (by decide +kernel) (by rcases c_33 with q9 | q9 | q9 <;> (rw [q9]; decide +kernel)) (by decide) ?_
    refine lv_aload_n hx hb dX4_followScope_76 rfl (lv_at hl 0 rfl) ?_
    refine lv_aload_n hx hb dX4_followScope_77 rfl (lv_at hl 0 rfl) ?_
    refine va_get (D := (dC, dI)) (ci := 4) (v := .ref (oA 1)) (C := RX4) (T := TX4) (N := 18) hx hb hts ii_X4 hown hK hP 0 rfl rfl 0 (by decide) (hts (.fieldLink RX4 32 "StoryHouse$Meanings" "words" "LStoryHouse$Words;") wq_86) (fun _ h9 => h9) rfl dX4_followScope_78 ?_
    refine lv_iload_n hx hb dX4_followScope_81 rfl (lv_at hl 1 rfl) ?_
    obtain ⟨u_35, hu_35, hF_36⟩ := Option.bind_eq_some_iff.mp hF_34
    clear hF_34
    have hPc := bx_P (bs := [b_m cB cC cI cJ cZ oA rA σ_3, b_w cB cC cI cJ cZ oA rA σ_3, b_s cB cC cI cJ cZ oA rA σ_3, b_c cB cC cI cJ cZ oA rA σ_3, b_t cB cC cI cJ cZ oA rA σ_3, b_d cB cC cI cJ cZ oA rA σ_3]) (bs' := [b_w cB cC cI cJ cZ oA rA σ_3]) (ws' := (b_w cB cC cI cJ cZ oA rA σ_3)) hP fl_6 fl_1 [1] rfl
    have hDc := bx_D (bs := [b_m cB cC cI cJ cZ oA rA σ_3, b_w cB cC cI cJ cZ oA rA σ_3, b_s cB cC cI cJ cZ oA rA σ_3, b_c cB cC cI cJ cZ oA rA σ_3, b_t cB cC cI cJ cZ oA rA σ_3, b_d cB cC cI cJ cZ oA rA σ_3]) (bs' := [b_w cB cC cI cJ cZ oA rA σ_3]) (ws' := (b_w cB cC cI cJ cZ oA rA σ_3)) (hDD σ_3) fl_6 fl_1 [1] (by decide +kernel) rfl
    have hFc := bx_F (bs := [b_m cB cC cI cJ cZ oA rA σ_3, b_w cB cC cI cJ cZ oA rA σ_3, b_s cB cC cI cJ cZ oA rA σ_3, b_c cB cC cI cJ cZ oA rA σ_3, b_t cB cC cI cJ cZ oA rA σ_3, b_d cB cC cI cJ cZ oA rA σ_3]) (bs' := [b_w cB cC cI cJ cZ oA rA σ_3]) (wc := (b_w cB cC cI cJ cZ oA rA σ_3)) (hDD σ_3) hS hA fl_6 fl_1 [1] rfl
    refine g_ofi (wc := (b_w cB cC cI cJ cZ oA rA σ_3)) (wr := (b_m cB cC cI cJ cZ oA rA σ_3 ++ b_s cB cC cI cJ cZ oA rA σ_3 ++ b_c cB cC cI cJ cZ oA rA σ_3 ++ b_t cB cC cI cJ cZ oA rA σ_3 ++ b_d cB cC cI cJ cZ oA rA σ_3)) hP (hDD σ_3) hS hFc (bx_ix [b_m cB cC cI cJ cZ oA rA σ_3, b_w cB cC cI cJ cZ oA rA σ_3, b_s cB cC cI cJ cZ oA rA σ_3, b_c cB cC cI cJ cZ oA rA σ_3, b_t cB cC cI cJ cZ oA rA σ_3, b_d cB cC cI cJ cZ oA rA σ_3] [1]) (bx_ix [b_m cB cC cI cJ cZ oA rA σ_3, b_w cB cC cI cJ cZ oA rA σ_3, b_s cB cC cI cJ cZ oA rA σ_3, b_c cB cC cI cJ cZ oA rA σ_3, b_t cB cC cI cJ cZ oA rA σ_3, b_d cB cC cI cJ cZ oA rA σ_3] [0, 2, 3, 4, 5]) (bx_C (bs := [b_m cB cC cI cJ cZ oA rA σ_3, b_w cB cC cI cJ cZ oA rA σ_3, b_s cB cC cI cJ cZ oA rA σ_3, b_c cB cC cI cJ cZ oA rA σ_3, b_t cB cC cI cJ cZ oA rA σ_3, b_d cB cC cI cJ cZ oA rA σ_3]) (bs' := [b_w cB cC cI cJ cZ oA rA σ_3]) (is := [1]) fl_6 fl_1 rfl) (bx_C (bs := [b_m cB cC cI cJ cZ oA rA σ_3, b_w cB cC cI cJ cZ oA rA σ_3, b_s cB cC cI cJ cZ oA rA σ_3, b_c cB cC cI cJ cZ oA rA σ_3, b_t cB cC cI cJ cZ oA rA σ_3, b_d cB cC cI cJ cZ oA rA σ_3]) (bs' := [b_m cB cC cI cJ cZ oA rA σ_3, b_s cB cC cI cJ cZ oA rA σ_3, b_c cB cC cI cJ cZ oA rA σ_3, b_t cB cC cI cJ cZ oA rA σ_3, b_d cB cC cI cJ cZ oA rA σ_3]) (is := [0, 2, 3, 4, 5]) fl_6 fl_5 rfl) (bx_n (by decide +kernel)) (bx_d (by decide +kernel)) (va_runV (As := [.int p0]) (rest := [.ref (oA 3)]) ⟨hx, hb, hml, hown, hts⟩ (k_X10_kindOf l dC dI cB cC cI cJ cZ cP oA rA H.size  p0 σ_3 _ hu_35) (cwV 1 hts (g_gV wq_714 wq_543 wq_544 wq_2 wq_545) rfl rfl rfl (by decide +kernel) ⟨Nat.le_of_ble_eq_true rfl, Nat.le_of_ble_eq_true rfl⟩) (g_preV g_bl0 hK hPc hDc hS hE hFc g_to0 (q0 := 0) (ci := 10) rfl rfl) rfl rfl hl.1 rfl (lv_room (Nat.le_of_ble_eq_true rfl)) dX4_followScope_82 ⟨Nat.le_of_ble_eq_true rfl, Nat.le_of_ble_eq_true rfl⟩) (fun r9 u9 H locs hw9 hP' hD' hS => ?_)
    clear hPc hDc hFc
    subst hw9
    obtain ⟨σ_37, eσ_37, hF_38⟩ := bnd_e hF_36
    clear hF_36
    have hP : va_P (dC, dI) vwCl (b_m cB cC cI cJ cZ oA rA σ_37 ++ b_w cB cC cI cJ cZ oA rA σ_37 ++ b_s cB cC cI cJ cZ oA rA σ_37 ++ b_c cB cC cI cJ cZ oA rA σ_37 ++ b_t cB cC cI cJ cZ oA rA σ_37 ++ b_d cB cC cI cJ cZ oA rA σ_37) H := by rw [eσ_37]; exact bx_P (bs := [b_m cB cC cI cJ cZ oA rA σ_3, b_s cB cC cI cJ cZ oA rA σ_3, b_c cB cC cI cJ cZ oA rA σ_3, b_t cB cC cI cJ cZ oA rA σ_3, b_d cB cC cI cJ cZ oA rA σ_3] ++ [b_w cB cC cI cJ cZ oA rA u_35.2]) (bs' := [b_m cB cC cI cJ cZ oA rA (mrg (fun j => j == 1) σ_3 u_35.2), b_w cB cC cI cJ cZ oA rA (mrg (fun j => j == 1) σ_3 u_35.2), b_s cB cC cI cJ cZ oA rA (mrg (fun j => j == 1) σ_3 u_35.2), b_c cB cC cI cJ cZ oA rA (mrg (fun j => j == 1) σ_3 u_35.2), b_t cB cC cI cJ cZ oA rA (mrg (fun j => j == 1) σ_3 u_35.2), b_d cB cC cI cJ cZ oA rA (mrg (fun j => j == 1) σ_3 u_35.2)]) hP' (fl_a fl_5 fl_1) fl_6 [0, 5, 1, 2, 3, 4] rfl
    clear hP' hD'
    obtain ⟨σ_39, eσ_39, hF_40⟩ := bnd_e hF_38
    clear hF_38
    refine va_put (D := (dC, dI)) (ci := 4) (v := .int u_35.1) (ty := .int) (C := RX4) (T := TX4) (N := 18) hx hb hts ii_X4 tyX4 tyX4_ok nmX4 hown hK hP (hDD _) hS 0 rfl rfl 12 (by decide) (hts (.fieldLink RX4 63 "StoryHouse$Meanings" "routine" "I") wq_98) (fun _ h9 => h9) rfl (by decide +kernel) rfl rfl (Nat.le_of_ble_eq_true rfl) dX4_followScope_85 (fun H locs hP' _ hS => ?_)
    have hP : va_P (dC, dI) vwCl (b_m cB cC cI cJ cZ oA rA σ_39 ++ b_w cB cC cI cJ cZ oA rA σ_39 ++ b_s cB cC cI cJ cZ oA rA σ_39 ++ b_c cB cC cI cJ cZ oA rA σ_39 ++ b_t cB cC cI cJ cZ oA rA σ_39 ++ b_d cB cC cI cJ cZ oA rA σ_39) H := by rw [eσ_39]; exact cs_mwsctd_m_12 ▸ hP'
    clear hP'
    refine lv_goto (tgt := 167) hx hb dX4_followScope_88 (by decide) ?_
    have h9 := Option.some.inj hF_40
    subst h9
    exact W.vret hx hb hr (fun t ht hW => ⟨⟨(), rfl, trivial, m_end ht hP, hDD _⟩, hS.F ht⟩) hS.2.2 dX4_followScope_167
  have hF_41 := ineg c_33 hF_32
  clear hF_32
  by_cases c_42 : u_1.1 = 242
  · have hF_43 := ipos c_42 hF_41
    clear hF_41
    refine lv_lookup (off := 83) (tgt := 91) hx hb dX4_followScope_8 (by decide +kernel) (by rw [c_42]; decide +kernel) (by decide) ?_
    refine lv_aload_n hx hb dX4_followScope_91 rfl (lv_at hl 0 rfl) ?_
    refine lv_aload_n hx hb dX4_followScope_92 rfl (lv_at hl 0 rfl) ?_
    refine va_get (D := (dC, dI)) (ci := 4) (v := .ref (oA 1)) (C := RX4) (T := TX4) (N := 18) hx hb hts ii_X4 hown hK hP 0 rfl rfl 0 (by decide) (hts (.fieldLink RX4 32 "StoryHouse$Meanings" "words" "LStoryHouse$Words;") wq_86) (fun _ h9 => h9) rfl dX4_followScope_93 ?_
    refine lv_iload_n hx hb dX4_followScope_96 rfl (lv_at hl 1 rfl) ?_
    refine lv_iconst (v := 1) hx hb dX4_followScope_97 (by decide +kernel) ?_
    refine lv_iadd hx hb dX4_followScope_98 ?_
    obtain ⟨u_44, hu_44, hF_45⟩ := Option.bind_eq_some_iff.mp hF_43
    clear hF_43
    have hPc := bx_P (bs := [b_m cB cC cI cJ cZ oA rA σ_3, b_w cB cC cI cJ cZ oA rA σ_3, b_s cB cC cI cJ cZ oA rA σ_3, b_c cB cC cI cJ cZ oA rA σ_3, b_t cB cC cI cJ cZ oA rA σ_3, b_d cB cC cI cJ cZ oA rA σ_3]) (bs' := [b_w cB cC cI cJ cZ oA rA σ_3]) (ws' := (b_w cB cC cI cJ cZ oA rA σ_3)) hP fl_6 fl_1 [1] rfl
    have hDc := bx_D (bs := [b_m cB cC cI cJ cZ oA rA σ_3, b_w cB cC cI cJ cZ oA rA σ_3, b_s cB cC cI cJ cZ oA rA σ_3, b_c cB cC cI cJ cZ oA rA σ_3, b_t cB cC cI cJ cZ oA rA σ_3, b_d cB cC cI cJ cZ oA rA σ_3]) (bs' := [b_w cB cC cI cJ cZ oA rA σ_3]) (ws' := (b_w cB cC cI cJ cZ oA rA σ_3)) (hDD σ_3) fl_6 fl_1 [1] (by decide +kernel) rfl
    have hFc := bx_F (bs := [b_m cB cC cI cJ cZ oA rA σ_3, b_w cB cC cI cJ cZ oA rA σ_3, b_s cB cC cI cJ cZ oA rA σ_3, b_c cB cC cI cJ cZ oA rA σ_3, b_t cB cC cI cJ cZ oA rA σ_3, b_d cB cC cI cJ cZ oA rA σ_3]) (bs' := [b_w cB cC cI cJ cZ oA rA σ_3]) (wc := (b_w cB cC cI cJ cZ oA rA σ_3)) (hDD σ_3) hS hA fl_6 fl_1 [1] rfl
    refine g_ofi (wc := (b_w cB cC cI cJ cZ oA rA σ_3)) (wr := (b_m cB cC cI cJ cZ oA rA σ_3 ++ b_s cB cC cI cJ cZ oA rA σ_3 ++ b_c cB cC cI cJ cZ oA rA σ_3 ++ b_t cB cC cI cJ cZ oA rA σ_3 ++ b_d cB cC cI cJ cZ oA rA σ_3)) hP (hDD σ_3) hS hFc (bx_ix [b_m cB cC cI cJ cZ oA rA σ_3, b_w cB cC cI cJ cZ oA rA σ_3, b_s cB cC cI cJ cZ oA rA σ_3, b_c cB cC cI cJ cZ oA rA σ_3, b_t cB cC cI cJ cZ oA rA σ_3, b_d cB cC cI cJ cZ oA rA σ_3] [1]) (bx_ix [b_m cB cC cI cJ cZ oA rA σ_3, b_w cB cC cI cJ cZ oA rA σ_3, b_s cB cC cI cJ cZ oA rA σ_3, b_c cB cC cI cJ cZ oA rA σ_3, b_t cB cC cI cJ cZ oA rA σ_3, b_d cB cC cI cJ cZ oA rA σ_3] [0, 2, 3, 4, 5]) (bx_C (bs := [b_m cB cC cI cJ cZ oA rA σ_3, b_w cB cC cI cJ cZ oA rA σ_3, b_s cB cC cI cJ cZ oA rA σ_3, b_c cB cC cI cJ cZ oA rA σ_3, b_t cB cC cI cJ cZ oA rA σ_3, b_d cB cC cI cJ cZ oA rA σ_3]) (bs' := [b_w cB cC cI cJ cZ oA rA σ_3]) (is := [1]) fl_6 fl_1 rfl) (bx_C (bs := [b_m cB cC cI cJ cZ oA rA σ_3, b_w cB cC cI cJ cZ oA rA σ_3, b_s cB cC cI cJ cZ oA rA σ_3, b_c cB cC cI cJ cZ oA rA σ_3, b_t cB cC cI cJ cZ oA rA σ_3, b_d cB cC cI cJ cZ oA rA σ_3]) (bs' := [b_m cB cC cI cJ cZ oA rA σ_3, b_s cB cC cI cJ cZ oA rA σ_3, b_c cB cC cI cJ cZ oA rA σ_3, b_t cB cC cI cJ cZ oA rA σ_3, b_d cB cC cI cJ cZ oA rA σ_3]) (is := [0, 2, 3, 4, 5]) fl_6 fl_5 rfl) (bx_n (by decide +kernel)) (bx_d (by decide +kernel)) (va_runV (As := [.int (p0 + 1)]) (rest := [.ref (oA 3)]) ⟨hx, hb, hml, hown, hts⟩ (k_X10_worthOf l dC dI cB cC cI cJ cZ cP oA rA H.size  (p0 + 1) σ_3 _ hu_44) (cwV 1 hts (g_gV wq_715 wq_653 wq_654 wq_2 wq_655) rfl rfl rfl (by decide +kernel) ⟨Nat.le_of_ble_eq_true rfl, Nat.le_of_ble_eq_true rfl⟩) (g_preV g_bl0 hK hPc hDc hS hE hFc g_to0 (q0 := 0) (ci := 10) rfl rfl) rfl rfl hl.1 rfl (lv_room (Nat.le_of_ble_eq_true rfl)) dX4_followScope_99 ⟨Nat.le_of_ble_eq_true rfl, Nat.le_of_ble_eq_true rfl⟩) (fun r9 u9 H locs hw9 hP' hD' hS => ?_)
    clear hPc hDc hFc
    subst hw9
    obtain ⟨σ_46, eσ_46, hF_47⟩ := bnd_e hF_45
    clear hF_45
    have hP : va_P (dC, dI) vwCl (b_m cB cC cI cJ cZ oA rA σ_46 ++ b_w cB cC cI cJ cZ oA rA σ_46 ++ b_s cB cC cI cJ cZ oA rA σ_46 ++ b_c cB cC cI cJ cZ oA rA σ_46 ++ b_t cB cC cI cJ cZ oA rA σ_46 ++ b_d cB cC cI cJ cZ oA rA σ_46) H := by rw [eσ_46]; exact bx_P (bs := [b_m cB cC cI cJ cZ oA rA σ_3, b_s cB cC cI cJ cZ oA rA σ_3, b_c cB cC cI cJ cZ oA rA σ_3, b_t cB cC cI cJ cZ oA rA σ_3, b_d cB cC cI cJ cZ oA rA σ_3] ++ [b_w cB cC cI cJ cZ oA rA u_44.2]) (bs' := [b_m cB cC cI cJ cZ oA rA (mrg (fun j => j == 1) σ_3 u_44.2), b_w cB cC cI cJ cZ oA rA (mrg (fun j => j == 1) σ_3 u_44.2), b_s cB cC cI cJ cZ oA rA (mrg (fun j => j == 1) σ_3 u_44.2), b_c cB cC cI cJ cZ oA rA (mrg (fun j => j == 1) σ_3 u_44.2), b_t cB cC cI cJ cZ oA rA (mrg (fun j => j == 1) σ_3 u_44.2), b_d cB cC cI cJ cZ oA rA (mrg (fun j => j == 1) σ_3 u_44.2)]) hP' (fl_a fl_5 fl_1) fl_6 [0, 5, 1, 2, 3, 4] rfl
    clear hP' hD'
    obtain ⟨σ_48, eσ_48, hF_49⟩ := bnd_e hF_47
    clear hF_47
    refine va_put (D := (dC, dI)) (ci := 4) (v := .int u_44.1) (ty := .int) (C := RX4) (T := TX4) (N := 18) hx hb hts ii_X4 tyX4 tyX4_ok nmX4 hown hK hP (hDD _) hS 0 rfl rfl 9 (by decide) (hts (.fieldLink RX4 132 "StoryHouse$Meanings" "pendingLet" "I") wq_95) (fun _ h9 => h9) rfl (by decide +kernel) rfl rfl (Nat.le_of_ble_eq_true rfl) dX4_followScope_102 (fun H locs hP' _ hS => ?_)
    have hP : va_P (dC, dI) vwCl (b_m cB cC cI cJ cZ oA rA σ_48 ++ b_w cB cC cI cJ cZ oA rA σ_48 ++ b_s cB cC cI cJ cZ oA rA σ_48 ++ b_c cB cC cI cJ cZ oA rA σ_48 ++ b_t cB cC cI cJ cZ oA rA σ_48 ++ b_d cB cC cI cJ cZ oA rA σ_48) H := by rw [eσ_48]; exact cs_mwsctd_m_9 ▸ hP'
    clear hP'
    refine lv_goto (tgt := 167) hx hb dX4_followScope_105 (by decide) ?_
    have h9 := Option.some.inj hF_49
    subst h9
    exact W.vret hx hb hr (fun t ht hW => ⟨⟨(), rfl, trivial, m_end ht hP, hDD _⟩, hS.F ht⟩) hS.2.2 dX4_followScope_167
  have hF_50 := ineg c_42 hF_41
  clear hF_41
  refine lv_lookup (off := 159) (tgt := 167) hx hb dX4_followScope_8 (by decide +kernel) ((lv_osw (k := 59) c_5 (by decide +kernel)).trans ((lv_osw (k := 123) c_19 (by decide +kernel)).trans ((lv_osw (k := 125) c_28 (by decide +kernel)).trans ((lv_osw (k := 235) (fun z9 => c_33 (Or.inl z9)) (by decide +kernel)).trans ((lv_osw (k := 236) (fun z9 => c_33 (Or.inr (Or.inl z9))) (by decide +kernel)).trans ((lv_osw (k := 237) (fun z9 => c_33 (Or.inr (Or.inr (z9)))) (by decide +kernel)).trans ((lv_osw (k := 242) c_42 (by decide +kernel)).trans rfl))))))) (by decide) ?_
  have h9 := Option.some.inj hF_50
  subst h9
  exact W.vret hx hb hr (fun t ht hW => ⟨⟨(), rfl, trivial, m_end ht hP, hDD _⟩, hS.F ht⟩) hS.2.2 dX4_followScope_167
theorem dX10_rememberName_0 : decode cX10_rememberName 0 = .ok (.aload_n 0, 1) := by decide +kernel
theorem dX10_rememberName_1 : decode cX10_rememberName 1 = .ok (.getfield 63, 3) := by decide +kernel
theorem dX10_rememberName_4 : decode cX10_rememberName 4 = .ok (.aload_n 0, 1) := by decide +kernel
theorem dX10_rememberName_5 : decode cX10_rememberName 5 = .ok (.getfield 31, 3) := by decide +kernel
theorem dX10_rememberName_8 : decode cX10_rememberName 8 = .ok (.arraylength, 1) := by decide +kernel
theorem dX10_rememberName_9 : decode cX10_rememberName 9 = .ok (.if_icmp .lt 5, 3) := by decide +kernel
theorem dX10_rememberName_12 : decode cX10_rememberName 12 = .ok (.iconst 0, 1) := by decide +kernel
theorem dX10_rememberName_13 : decode cX10_rememberName 13 = .ok (.ireturn, 1) := by decide +kernel
theorem dX10_rememberName_14 : decode cX10_rememberName 14 = .ok (.aload_n 0, 1) := by decide +kernel
theorem dX10_rememberName_15 : decode cX10_rememberName 15 = .ok (.getfield 31, 3) := by decide +kernel
theorem dX10_rememberName_18 : decode cX10_rememberName 18 = .ok (.aload_n 0, 1) := by decide +kernel
theorem dX10_rememberName_19 : decode cX10_rememberName 19 = .ok (.getfield 63, 3) := by decide +kernel
theorem dX10_rememberName_22 : decode cX10_rememberName 22 = .ok (.lload_n 2, 1) := by decide +kernel
theorem dX10_rememberName_23 : decode cX10_rememberName 23 = .ok (.lastore, 1) := by decide +kernel
theorem dX10_rememberName_24 : decode cX10_rememberName 24 = .ok (.aload_n 0, 1) := by decide +kernel
theorem dX10_rememberName_25 : decode cX10_rememberName 25 = .ok (.dup, 1) := by decide +kernel
theorem dX10_rememberName_26 : decode cX10_rememberName 26 = .ok (.getfield 63, 3) := by decide +kernel
theorem dX10_rememberName_29 : decode cX10_rememberName 29 = .ok (.iconst 1, 1) := by decide +kernel
theorem dX10_rememberName_30 : decode cX10_rememberName 30 = .ok (.iadd, 1) := by decide +kernel
theorem dX10_rememberName_31 : decode cX10_rememberName 31 = .ok (.putfield 63, 3) := by decide +kernel
theorem dX10_rememberName_34 : decode cX10_rememberName 34 = .ok (.aload_n 0, 1) := by decide +kernel
theorem dX10_rememberName_35 : decode cX10_rememberName 35 = .ok (.getfield 35, 3) := by decide +kernel
theorem dX10_rememberName_38 : decode cX10_rememberName 38 = .ok (.iload_n 1, 1) := by decide +kernel
theorem dX10_rememberName_39 : decode cX10_rememberName 39 = .ok (.aload_n 0, 1) := by decide +kernel
theorem dX10_rememberName_40 : decode cX10_rememberName 40 = .ok (.getfield 63, 3) := by decide +kernel
theorem dX10_rememberName_43 : decode cX10_rememberName 43 = .ok (.invokestatic 109, 3) := by decide +kernel
theorem dX10_rememberName_46 : decode cX10_rememberName 46 = .ok (.aload_n 0, 1) := by decide +kernel
theorem dX10_rememberName_47 : decode cX10_rememberName 47 = .ok (.getfield 63, 3) := by decide +kernel
theorem dX10_rememberName_50 : decode cX10_rememberName 50 = .ok (.iconst 1, 1) := by decide +kernel
theorem dX10_rememberName_51 : decode cX10_rememberName 51 = .ok (.isub, 1) := by decide +kernel
theorem dX10_rememberName_52 : decode cX10_rememberName 52 = .ok (.ireturn, 1) := by decide +kernel
def F_X10_rememberName (p0 : Int32) (p1 : Int64) (Γ : HS) : HR :=
  if ((Γ 1).1 10) < 4500 then (
    if ((Γ 1).1 10) < 0 ∨ 4500 ≤ ((Γ 1).1 10).toNatClampNeg then none else
    bnd (cL' Γ 1 8 (vp_updL ((Γ 1).2.2 8) ((Γ 1).1 10).toNatClampNeg p1)) fun σ_5 =>
    bnd (cI' σ_5 1 10 (((σ_5 1).1 10) + 1)) fun σ_7 =>
    bnd (((σ_7 1).1 10)) fun (x_9 : Int32) =>
    bnd (cA' σ_7 1 9 (g_put 8192 ((σ_7 1).2.1 9) p0 x_9)) fun σ_11 =>
    some ((((σ_11 1).1 10) - 1), σ_11)
  ) else (
    some (0, Γ)
  )
set_option maxHeartbeats 4000000 in
set_option maxRecDepth 100000 in
theorem k_X10_rememberName (l : Launch) (dC : Nat → ClassId) (dI : Nat → Nat → Nat) (cB cC cI cJ cZ cP : ClassId) (oA : Nat → Nat) (rA : Nat → Nat → Nat) (sz : Nat)  (p0 : Int32) (p1 : Int64) (Γ : HS) (res : Int32 × HS) (hF : F_X10_rememberName p0 p1 Γ = some res) : Met l yX10_rememberName (g_ws yX10_rememberName cX10_rememberName 4 (some .int)) ({ frames := 3, cells := 0, slots := 0, locals := 82 }) (va_Pc [.ref (oA 1), .int p0, .long p1] (g_B (dC, dI) [(cB, .byte), (cC, .char), (cI, .int), (cJ, .long), (cZ, .boolean), (cP, .object "StoryHouse$Play")] sz (b_w cB cC cI cJ cZ oA rA Γ) g_0)) (va_Qi (fun r (_ : Unit) => r = res.1) (g_Bo (dC, dI) (va_A (b_w cB cC cI cJ cZ oA rA Γ) sz) (fun (_ : Unit) => (b_w cB cC cI cJ cZ oA rA res.2))) (va_A (b_w cB cC cI cJ cZ oA rA Γ) sz)) 0 0 (va_A (b_w cB cC cI cJ cZ oA rA Γ) sz) := by
  refine Met.ofW (cc := cX10_rememberName) (maxL := 4) (ret := (some .int)) (by decide) rfl ?_
  intro p e s m args below meth c s₁ B hml hv
  obtain ⟨rfl, hsz, hP, hK, hD0, hE, hX⟩ := hv
  have hx := B.exec
  have hb := B.bytes
  have hr := B.returns
  have hts0 := atoms_spec (ws := g_ws yX10_rememberName cX10_rememberName 4 (some .int)) B.pre
  have hts : ∀ w ∈ lw_good, w.before ([.ref (oA 1), .int p0, .long p1] : List Value).toArray s = true := fun w z => hts0 w (List.mem_cons_of_mem _ z)
  have hown : s.vm.findClass RX10 = some m.cls := findClass_of_methodNamed B.named
  have hlocks := B.notSynchronized
  subst hsz
  have hD1 := hD0.self (sz := s.heap.size)
  generalize hAe : va_A (b_w cB cC cI cJ cZ oA rA Γ) s.heap.size = A at hD1 hE hX ⊢
  have hA : ∀ q : Nat, s.heap.size ≤ q → A q := fun q z => by rw [← hAe]; exact Or.inr z
  have hDD : ∀ Γ : HS, va_D A (b_w cB cC cI cJ cZ oA rA Γ) := fun Γ9 => va_D_fst (ws := (b_w cB cC cI cJ cZ oA rA Γ)) (ws' := (b_w cB cC cI cJ cZ oA rA Γ9)) rfl hD1
  have hN := hE.1
  have hS : va_S A s.heap s.heap [] := va_S.rf
  have hl := lv_entry ([.ref (oA 1), .int p0, .long p1]) (n := 4) (Nat.le_of_ble_eq_true rfl)
  rw [lg_entry_eq]
  generalize (lg_sl ([.ref (oA 1), .int p0, .long p1]) ++ List.replicate (4 - (lg_sl ([.ref (oA 1), .int p0, .long p1])).length) Slot.unset).toArray = ls at hl ⊢
  have hl : lv_has ls 4 [(0, .ref (oA 1)), (1, .int p0), (2, .long p1)] := hl
  unfold F_X10_rememberName at hF
  refine lv_aload_n hx hb dX10_rememberName_0 rfl (lv_at hl 0 rfl) ?_
  refine va_get (D := (dC, dI)) (ci := 10) (v := .int ((Γ 1).1 10)) (C := RX10) (T := TX10) (N := 12) hx hb hts ii_X10 hown hK hP 0 rfl rfl 10 (by decide) (hts (.fieldLink RX10 63 "StoryHouse$Words" "named" "I") wq_60) (fun _ h9 => h9) rfl dX10_rememberName_1 ?_
  refine lv_aload_n hx hb dX10_rememberName_4 rfl (lv_at hl 0 rfl) ?_
  refine va_get (D := (dC, dI)) (ci := 10) (v := .ref (rA 1 8)) (C := RX10) (T := TX10) (N := 12) hx hb hts ii_X10 hown hK hP 0 rfl rfl 8 (by decide) (hts (.fieldLink RX10 31 "StoryHouse$Words" "names" "[J") wq_58) (fun _ h9 => h9) rfl dX10_rememberName_5 ?_
  refine va_alen (v := 4500) hx hb hK hP 7 3 rfl rfl (by first | rfl | decide +kernel) dX10_rememberName_8 ?_
  refine lv_icmp_lt (tgt := 14) hx hb dX10_rememberName_9 (by decide) (fun c_1 => ?_) (fun c_1 => ?_)
  · have hF_2 := ipos c_1 hF
    clear hF
    refine lv_aload_n hx hb dX10_rememberName_14 rfl (lv_at hl 0 rfl) ?_
    refine va_get (D := (dC, dI)) (ci := 10) (v := .ref (rA 1 8)) (C := RX10) (T := TX10) (N := 12) hx hb hts ii_X10 hown hK hP 0 rfl rfl 8 (by decide) (hts (.fieldLink RX10 31 "StoryHouse$Words" "names" "[J") wq_58) (fun _ h9 => h9) rfl dX10_rememberName_15 ?_
    refine lv_aload_n hx hb dX10_rememberName_18 rfl (lv_at hl 0 rfl) ?_
    refine va_get (D := (dC, dI)) (ci := 10) (v := .int ((Γ 1).1 10)) (C := RX10) (T := TX10) (N := 12) hx hb hts ii_X10 hown hK hP 0 rfl rfl 10 (by decide) (hts (.fieldLink RX10 63 "StoryHouse$Words" "named" "I") wq_60) (fun _ h9 => h9) rfl dX10_rememberName_19 ?_
    refine lv_lload_n hx hb dX10_rememberName_22 rfl (lv_at hl 2 rfl) ?_
    obtain ⟨g_3, hF_4⟩ := nif_e hF_2
    clear hF_2
    obtain ⟨σ_5, eσ_5, hF_6⟩ := bnd_e hF_4
    clear hF_4
    refine va_last (f := (Γ 1).2.2 8) hx hb hK hP (hDD _) hS 7 3 rfl rfl g_3 dX10_rememberName_23 (fun H locs hP' _ hS => ?_)
    have hP : va_P (dC, dI) vwCl (b_w cB cC cI cJ cZ oA rA σ_5) H := by rw [eσ_5]; exact cs_w_w_8 ▸ hP'
    clear hP'
    refine lv_aload_n hx hb dX10_rememberName_24 rfl (lv_at hl 0 rfl) ?_
    refine lv_dup hx hb dX10_rememberName_25 rfl ?_
    refine va_get (D := (dC, dI)) (ci := 10) (v := .int ((σ_5 1).1 10)) (C := RX10) (T := TX10) (N := 12) hx hb hts ii_X10 hown hK hP 0 rfl rfl 10 (by decide) (hts (.fieldLink RX10 63 "StoryHouse$Words" "named" "I") wq_60) (fun _ h9 => h9) rfl dX10_rememberName_26 ?_
    refine lv_iconst (v := 1) hx hb dX10_rememberName_29 (by decide +kernel) ?_
    refine lv_iadd hx hb dX10_rememberName_30 ?_
    obtain ⟨σ_7, eσ_7, hF_8⟩ := bnd_e hF_6
    clear hF_6
    refine va_put (D := (dC, dI)) (ci := 10) (v := .int (((σ_5 1).1 10) + 1)) (ty := .int) (C := RX10) (T := TX10) (N := 12) hx hb hts ii_X10 tyX10 tyX10_ok nmX10 hown hK hP (hDD _) hS 0 rfl rfl 10 (by decide) (hts (.fieldLink RX10 63 "StoryHouse$Words" "named" "I") wq_60) (fun _ h9 => h9) rfl (by decide +kernel) rfl rfl (Nat.le_of_ble_eq_true rfl) dX10_rememberName_31 (fun H locs hP' _ hS => ?_)
    have hP : va_P (dC, dI) vwCl (b_w cB cC cI cJ cZ oA rA σ_7) H := by rw [eσ_7]; exact cs_w_w_10 ▸ hP'
    clear hP'
    refine lv_aload_n hx hb dX10_rememberName_34 rfl (lv_at hl 0 rfl) ?_
    refine va_get (D := (dC, dI)) (ci := 10) (v := .ref (rA 1 9)) (C := RX10) (T := TX10) (N := 12) hx hb hts ii_X10 hown hK hP 0 rfl rfl 9 (by decide) (hts (.fieldLink RX10 35 "StoryHouse$Words" "slots" "[I") wq_59) (fun _ h9 => h9) rfl dX10_rememberName_35 ?_
    refine lv_iload_n hx hb dX10_rememberName_38 rfl (lv_at hl 1 rfl) ?_
    refine lv_aload_n hx hb dX10_rememberName_39 rfl (lv_at hl 0 rfl) ?_
    refine va_get (D := (dC, dI)) (ci := 10) (v := .int ((σ_7 1).1 10)) (C := RX10) (T := TX10) (N := 12) hx hb hts ii_X10 hown hK hP 0 rfl rfl 10 (by decide) (hts (.fieldLink RX10 63 "StoryHouse$Words" "named" "I") wq_60) (fun _ h9 => h9) rfl dX10_rememberName_40 ?_
    obtain ⟨x_9, ex_9, hF_10⟩ := bnd_e hF_8
    clear hF_8
    refine m_top ex_9 ?_
    have hq9 : ((b_w cB cC cI cJ cZ oA rA σ_7))[8]? = some (rA 1 9, .inl (cI, 8192, .inl ((σ_7 1).2.1 9))) := rfl
    have hPc := hP.sub (ws' := [(rA 1 9, .inl (cI, 8192, .inl ((σ_7 1).2.1 9)))]) [8] (pk_fm (er_C hq9))
    have hDc := (hDD σ_7).sub (ws' := [(rA 1 9, .inl (cI, 8192, .inl ((σ_7 1).2.1 9)))]) [8] (by decide +kernel) (er_C hq9)
    have hFc := va_free (wc := [(rA 1 9, .inl (cI, 8192, .inl ((σ_7 1).2.1 9)))]) (hDD σ_7) hS hA [8] (er_C hq9)
    refine g_ofv (wc := [(rA 1 9, .inl (cI, 8192, .inl ((σ_7 1).2.1 9)))]) (wr := (((b_w cB cC cI cJ cZ oA rA σ_7)).eraseIdx 8)) hP (hDD σ_7) hS hFc [8] ((List.range ((b_w cB cC cI cJ cZ oA rA σ_7)).length).eraseIdx 8) (er_C hq9) er_R er_n er_d (va_runSN (As := [.ref (rA 1 9), .int p0, .int x_9]) (rest := []) ⟨hx, hb, hml, hown, hts⟩ (c_X11_put l dC dI cB cC cI cJ cZ cP H.size (rA 1 9) p0 x_9 8192 ((σ_7 1).2.1 9) (by decide)) ⟨va_cnB 3 hts (g_gA wq_412) rfl rfl rfl (nw_10 hN) (hts (.initialized RX11) wq_1) (by decide +kernel) ⟨Nat.le_of_ble_eq_true rfl, Nat.le_of_ble_eq_true rfl⟩, (hts (.static yX11_put) wq_411), trivial⟩ (g_preS g_bl0 hK hPc hDc hS hE hFc g_to0) rfl rfl hl.1 rfl (lv_room (Nat.le_of_ble_eq_true rfl)) dX10_rememberName_43 ⟨Nat.le_of_ble_eq_true rfl, Nat.le_of_ble_eq_true rfl⟩) (fun g9 H locs hw9 hP' hD' hS => ?_)
    clear hPc hDc hFc hD'
    obtain ⟨σ_11, eσ_11, hF_12⟩ := bnd_e hF_10
    clear hF_10
    subst hw9
    have hP : va_P (dC, dI) vwCl (b_w cB cC cI cJ cZ oA rA σ_11) H := by rw [eσ_11]; exact cs_w_w_9 ▸ er_P hP' (er_lt hq9)
    clear hP' hq9
    refine lv_aload_n hx hb dX10_rememberName_46 rfl (lv_at hl 0 rfl) ?_
    refine va_get (D := (dC, dI)) (ci := 10) (v := .int ((σ_11 1).1 10)) (C := RX10) (T := TX10) (N := 12) hx hb hts ii_X10 hown hK hP 0 rfl rfl 10 (by decide) (hts (.fieldLink RX10 63 "StoryHouse$Words" "named" "I") wq_60) (fun _ h9 => h9) rfl dX10_rememberName_47 ?_
    refine lv_iconst (v := 1) hx hb dX10_rememberName_50 (by decide +kernel) ?_
    refine lv_isub hx hb dX10_rememberName_51 ?_
    have h9 := Option.some.inj hF_12
    subst h9
    exact W.iret (v := (((σ_11 1).1 10) - 1)) hx hb hr (fun t ht hW => ⟨⟨(((σ_11 1).1 10) - 1), (), rfl, rfl, m_end ht hP, hDD _⟩, hS.F ht⟩) hS.2.2 dX10_rememberName_52
  · have hF_13 := ineg c_1 hF
    clear hF
    refine lv_iconst (v := 0) hx hb dX10_rememberName_12 (by decide +kernel) ?_
    have h9 := Option.some.inj hF_13
    subst h9
    exact W.iret (v := 0) hx hb hr (fun t ht hW => ⟨⟨0, (), rfl, rfl, m_end ht hP, hDD _⟩, hS.F ht⟩) hS.2.2 dX10_rememberName_13
theorem dX10_numberOf_0 : decode cX10_numberOf 0 = .ok (.lload_n 1, 1) := by decide +kernel
theorem dX10_numberOf_1 : decode cX10_numberOf 1 = .ok (.ldc2_w 103, 3) := by decide +kernel
theorem dX10_numberOf_4 : decode cX10_numberOf 4 = .ok (.lmul, 1) := by decide +kernel
theorem dX10_numberOf_5 : decode cX10_numberOf 5 = .ok (.bipush 40, 2) := by decide +kernel
theorem dX10_numberOf_7 : decode cX10_numberOf 7 = .ok (.lushr, 1) := by decide +kernel
theorem dX10_numberOf_8 : decode cX10_numberOf 8 = .ok (.l2i, 1) := by decide +kernel
theorem dX10_numberOf_9 : decode cX10_numberOf 9 = .ok (.sipush 8191, 3) := by decide +kernel
theorem dX10_numberOf_12 : decode cX10_numberOf 12 = .ok (.iand, 1) := by decide +kernel
theorem dX10_numberOf_13 : decode cX10_numberOf 13 = .ok (.istore_n 3, 1) := by decide +kernel
theorem dX10_numberOf_14 : decode cX10_numberOf 14 = .ok (.iconst 0, 1) := by decide +kernel
theorem dX10_numberOf_15 : decode cX10_numberOf 15 = .ok (.istore 4, 2) := by decide +kernel
theorem dX10_numberOf_17 : decode cX10_numberOf 17 = .ok (.iload 4, 2) := by decide +kernel
theorem dX10_numberOf_19 : decode cX10_numberOf 19 = .ok (.sipush 8192, 3) := by decide +kernel
theorem dX10_numberOf_22 : decode cX10_numberOf 22 = .ok (.if_icmp .ge 70, 3) := by decide +kernel
theorem dX10_numberOf_25 : decode cX10_numberOf 25 = .ok (.iload_n 3, 1) := by decide +kernel
theorem dX10_numberOf_26 : decode cX10_numberOf 26 = .ok (.iload 4, 2) := by decide +kernel
theorem dX10_numberOf_28 : decode cX10_numberOf 28 = .ok (.iadd, 1) := by decide +kernel
theorem dX10_numberOf_29 : decode cX10_numberOf 29 = .ok (.sipush 8191, 3) := by decide +kernel
theorem dX10_numberOf_32 : decode cX10_numberOf 32 = .ok (.iand, 1) := by decide +kernel
theorem dX10_numberOf_33 : decode cX10_numberOf 33 = .ok (.istore 5, 2) := by decide +kernel
theorem dX10_numberOf_35 : decode cX10_numberOf 35 = .ok (.aload_n 0, 1) := by decide +kernel
theorem dX10_numberOf_36 : decode cX10_numberOf 36 = .ok (.getfield 35, 3) := by decide +kernel
theorem dX10_numberOf_39 : decode cX10_numberOf 39 = .ok (.iload 5, 2) := by decide +kernel
theorem dX10_numberOf_41 : decode cX10_numberOf 41 = .ok (.invokestatic 97, 3) := by decide +kernel
theorem dX10_numberOf_44 : decode cX10_numberOf 44 = .ok (.iconst 1, 1) := by decide +kernel
theorem dX10_numberOf_45 : decode cX10_numberOf 45 = .ok (.isub, 1) := by decide +kernel
theorem dX10_numberOf_46 : decode cX10_numberOf 46 = .ok (.istore 6, 2) := by decide +kernel
theorem dX10_numberOf_48 : decode cX10_numberOf 48 = .ok (.iload 6, 2) := by decide +kernel
theorem dX10_numberOf_50 : decode cX10_numberOf 50 = .ok (.ifCond .ge 11, 3) := by decide +kernel
theorem dX10_numberOf_53 : decode cX10_numberOf 53 = .ok (.aload_n 0, 1) := by decide +kernel
theorem dX10_numberOf_54 : decode cX10_numberOf 54 = .ok (.iload 5, 2) := by decide +kernel
theorem dX10_numberOf_56 : decode cX10_numberOf 56 = .ok (.lload_n 1, 1) := by decide +kernel
theorem dX10_numberOf_57 : decode cX10_numberOf 57 = .ok (.invokevirtual 105, 3) := by decide +kernel
theorem dX10_numberOf_60 : decode cX10_numberOf 60 = .ok (.ireturn, 1) := by decide +kernel
theorem dX10_numberOf_61 : decode cX10_numberOf 61 = .ok (.iload 6, 2) := by decide +kernel
theorem dX10_numberOf_63 : decode cX10_numberOf 63 = .ok (.aload_n 0, 1) := by decide +kernel
theorem dX10_numberOf_64 : decode cX10_numberOf 64 = .ok (.getfield 31, 3) := by decide +kernel
theorem dX10_numberOf_67 : decode cX10_numberOf 67 = .ok (.arraylength, 1) := by decide +kernel
theorem dX10_numberOf_68 : decode cX10_numberOf 68 = .ok (.if_icmp .ge 18, 3) := by decide +kernel
theorem dX10_numberOf_71 : decode cX10_numberOf 71 = .ok (.aload_n 0, 1) := by decide +kernel
theorem dX10_numberOf_72 : decode cX10_numberOf 72 = .ok (.getfield 31, 3) := by decide +kernel
theorem dX10_numberOf_75 : decode cX10_numberOf 75 = .ok (.iload 6, 2) := by decide +kernel
theorem dX10_numberOf_77 : decode cX10_numberOf 77 = .ok (.laload, 1) := by decide +kernel
theorem dX10_numberOf_78 : decode cX10_numberOf 78 = .ok (.lload_n 1, 1) := by decide +kernel
theorem dX10_numberOf_79 : decode cX10_numberOf 79 = .ok (.lcmp, 1) := by decide +kernel
theorem dX10_numberOf_80 : decode cX10_numberOf 80 = .ok (.ifCond .ne 6, 3) := by decide +kernel
theorem dX10_numberOf_83 : decode cX10_numberOf 83 = .ok (.iload 6, 2) := by decide +kernel
theorem dX10_numberOf_85 : decode cX10_numberOf 85 = .ok (.ireturn, 1) := by decide +kernel
theorem dX10_numberOf_86 : decode cX10_numberOf 86 = .ok (.iinc 4 1, 3) := by decide +kernel
theorem dX10_numberOf_89 : decode cX10_numberOf 89 = .ok (.goto (-72), 3) := by decide +kernel
theorem dX10_numberOf_92 : decode cX10_numberOf 92 = .ok (.iconst 0, 1) := by decide +kernel
theorem dX10_numberOf_93 : decode cX10_numberOf 93 = .ok (.ireturn, 1) := by decide +kernel
def F_X10_numberOf (p0 : Int64) (Γ : HS) : HR :=
  bnd (((((p0 * (-7046029254386353131)).toUInt64 >>> ((40 : Int32).toInt64.toUInt64 &&& Int64.toUInt64 63)).toInt64).toInt32 &&& 8191)) fun (x_1 : Int32) =>
  loopF (fun (again_4 : (Int32 × HS) → HR) (s_3 : Int32 × HS) => (
    if 8192 ≤ s_3.1 then (
      some (0, s_3.2)
    ) else (
      bnd (((x_1 + s_3.1) &&& 8191)) fun (x_10 : Int32) =>
      bnd ((g_at 8192 ((s_3.2 1).2.1 9) x_10)) fun (x_12 : Int32) =>
      if 0 ≤ (x_12 - 1) then (
        bnd (fun  (σ_16 : HS) => (
          bnd (s_3.1 + 1) fun (x_20 : Int32) =>
          again_4 (x_20, σ_16)
        ) : HS → HR) fun j_17 =>
        if 4500 ≤ (x_12 - 1) then (
          j_17  s_3.2
        ) else (
          bnd ((x_12 - 1)) fun (x_25 : Int32) =>
          if x_25 < 0 ∨ 4500 ≤ x_25.toNatClampNeg then none else
          bnd ((lg_cmp ((s_3.2 1).2.2 8 x_25.toNatClampNeg) p0)) fun (x_29 : Int32) =>
          if x_29 = 0 then (
            some ((x_12 - 1), s_3.2)
          ) else (
            j_17  s_3.2
          )
        )
      ) else (
        (F_X10_rememberName x_10 p0 s_3.2).bind fun u_35 =>
        some (u_35.1, u_35.2)
      )
    )
  )) FU (0, Γ)
set_option maxHeartbeats 4000000 in
set_option maxRecDepth 100000 in
theorem k_X10_numberOf (l : Launch) (dC : Nat → ClassId) (dI : Nat → Nat → Nat) (cB cC cI cJ cZ cP : ClassId) (oA : Nat → Nat) (rA : Nat → Nat → Nat) (sz : Nat)  (p0 : Int64) (Γ : HS) (res : Int32 × HS) (hF : F_X10_numberOf p0 Γ = some res) : Met l yX10_numberOf (g_ws yX10_numberOf cX10_numberOf 7 (some .int)) ({ frames := 4, cells := 0, slots := 0, locals := 105 }) (va_Pc [.ref (oA 1), .long p0] (g_B (dC, dI) [(cB, .byte), (cC, .char), (cI, .int), (cJ, .long), (cZ, .boolean), (cP, .object "StoryHouse$Play")] sz (b_w cB cC cI cJ cZ oA rA Γ) g_0)) (va_Qi (fun r (_ : Unit) => r = res.1) (g_Bo (dC, dI) (va_A (b_w cB cC cI cJ cZ oA rA Γ) sz) (fun (_ : Unit) => (b_w cB cC cI cJ cZ oA rA res.2))) (va_A (b_w cB cC cI cJ cZ oA rA Γ) sz)) 0 0 (va_A (b_w cB cC cI cJ cZ oA rA Γ) sz) := by
  refine Met.ofW (cc := cX10_numberOf) (maxL := 7) (ret := (some .int)) (by decide) rfl ?_
  intro p e s m args below meth c s₁ B hml hv
  obtain ⟨rfl, hsz, hP, hK, hD0, hE, hX⟩ := hv
  have hx := B.exec
  have hb := B.bytes
  have hr := B.returns
  have hts0 := atoms_spec (ws := g_ws yX10_numberOf cX10_numberOf 7 (some .int)) B.pre
  have hts : ∀ w ∈ lw_good, w.before ([.ref (oA 1), .long p0] : List Value).toArray s = true := fun w z => hts0 w (List.mem_cons_of_mem _ z)
  have hown : s.vm.findClass RX10 = some m.cls := findClass_of_methodNamed B.named
  have hlocks := B.notSynchronized
  subst hsz
  have hD1 := hD0.self (sz := s.heap.size)
  generalize hAe : va_A (b_w cB cC cI cJ cZ oA rA Γ) s.heap.size = A at hD1 hE hX ⊢
  have hA : ∀ q : Nat, s.heap.size ≤ q → A q := fun q z => by rw [← hAe]; exact Or.inr z
  have hDD : ∀ Γ : HS, va_D A (b_w cB cC cI cJ cZ oA rA Γ) := fun Γ9 => va_D_fst (ws := (b_w cB cC cI cJ cZ oA rA Γ)) (ws' := (b_w cB cC cI cJ cZ oA rA Γ9)) rfl hD1
  have hN := hE.1
  have hS : va_S A s.heap s.heap [] := va_S.rf
  have hl := lv_entry ([.ref (oA 1), .long p0]) (n := 7) (Nat.le_of_ble_eq_true rfl)
  rw [lg_entry_eq]
  generalize (lg_sl ([.ref (oA 1), .long p0]) ++ List.replicate (7 - (lg_sl ([.ref (oA 1), .long p0])).length) Slot.unset).toArray = ls at hl ⊢
  have hl : lv_has ls 7 [(0, .ref (oA 1)), (1, .long p0)] := hl
  unfold F_X10_numberOf at hF
  refine lv_lload_n hx hb dX10_numberOf_0 rfl (lv_at hl 1 rfl) ?_
  refine lv_ldc2 (v := (-7046029254386353131)) hx hb hown (hts (.constantLong RX10 103 (-7046029254386353131)) wq_405) dX10_numberOf_1 ?_
  refine lv_lmul hx hb dX10_numberOf_4 ?_
  refine lv_bipush (v := 40) hx hb dX10_numberOf_5 (by decide +kernel) ?_
  refine lv_lushr hx hb dX10_numberOf_7 rfl ?_
  refine lv_l2i hx hb dX10_numberOf_8 rfl ?_
  refine lv_sipush (v := 8191) hx hb dX10_numberOf_9 (by decide +kernel) ?_
  refine lv_iand hx hb dX10_numberOf_12 ?_
  obtain ⟨x_1, ex_1, hF_2⟩ := bnd_e hF
  clear hF
  refine m_top ex_1 ?_
  refine lv_istore_n (lv' := [(3, .int x_1), (0, .ref (oA 1)), (1, .long p0)]) hx hb dX10_numberOf_13 rfl hl (by decide) rfl (fun ls hl => ?_)
  refine lv_iconst (v := 0) hx hb dX10_numberOf_14 (by decide +kernel) ?_
  refine lv_istore (lv' := [(4, .int 0), (3, .int x_1), (0, .ref (oA 1)), (1, .long p0)]) hx hb dX10_numberOf_15 hl (by decide) rfl (fun ls hl => ?_)
  refine loopF_ind (P := fun (s_3 : Int32 × HS) => ∀ (H : Heap) (locs : List Loc), va_P (dC, dI) vwCl (b_w cB cC cI cJ cZ oA rA s_3.2) H → va_S A s.heap H locs → ∀ ls : Array Slot, lv_has ls 7 [(0, .ref (oA 1)), (1, .long p0), (3, .int x_1), (4, .int s_3.1)] → W p l e (headSpec (g_ws yX10_numberOf cX10_numberOf 7 (some .int)) { frames := 4, cells := 0, slots := 0, locals := 105 }).room s m ([.ref (oA 1), .long p0] : List Value).toArray below meth c H locs 0 0 (MQ below (va_Qi (fun r (_ : Unit) => r = res.1) (g_Bo (dC, dI) A (fun (_ : Unit) => (b_w cB cC cI cJ cZ oA rA res.2))) A) ([.ref (oA 1), .long p0] : List Value).toArray s 0 0 A) (F0 m 17 ls [])) ?_ _ _ hF_2 _ _ hP hS ls (lv_sub hl [2, 3, 1, 0] rfl)
  intro again_4 s_3 ih_5 hF_6
  intro H locs hP hS ls hl
  refine lv_iload hx hb dX10_numberOf_17 (lv_at hl 3 rfl) ?_
  refine lv_sipush (v := 8192) hx hb dX10_numberOf_19 (by decide +kernel) ?_
  refine lv_icmp_ge (tgt := 92) hx hb dX10_numberOf_22 (by decide) (fun c_7 => ?_) (fun c_7 => ?_)
  · have hF_8 := ipos c_7 hF_6
    clear hF_6
    refine lv_iconst (v := 0) hx hb dX10_numberOf_92 (by decide +kernel) ?_
    have h9 := Option.some.inj hF_8
    subst h9
    exact W.iret (v := 0) hx hb hr (fun t ht hW => ⟨⟨0, (), rfl, rfl, m_end ht hP, hDD _⟩, hS.F ht⟩) hS.2.2 dX10_numberOf_93
  · have hF_9 := ineg c_7 hF_6
    clear hF_6
    refine lv_iload_n hx hb dX10_numberOf_25 rfl (lv_at hl 2 rfl) ?_
    refine lv_iload hx hb dX10_numberOf_26 (lv_at hl 3 rfl) ?_
    refine lv_iadd hx hb dX10_numberOf_28 ?_
    refine lv_sipush (v := 8191) hx hb dX10_numberOf_29 (by decide +kernel) ?_
    refine lv_iand hx hb dX10_numberOf_32 ?_
    obtain ⟨x_10, ex_10, hF_11⟩ := bnd_e hF_9
    clear hF_9
    refine m_top ex_10 ?_
    refine lv_istore (lv' := [(5, .int x_10), (0, .ref (oA 1)), (1, .long p0), (3, .int x_1), (4, .int s_3.1)]) hx hb dX10_numberOf_33 hl (by decide) rfl (fun ls hl => ?_)
    refine lv_aload_n hx hb dX10_numberOf_35 rfl (lv_at hl 1 rfl) ?_
    refine va_get (D := (dC, dI)) (ci := 10) (v := .ref (rA 1 9)) (C := RX10) (T := TX10) (N := 12) hx hb hts ii_X10 hown hK hP 0 rfl rfl 9 (by decide) (hts (.fieldLink RX10 35 "StoryHouse$Words" "slots" "[I") wq_59) (fun _ h9 => h9) rfl dX10_numberOf_36 ?_
    refine lv_iload hx hb dX10_numberOf_39 (lv_at hl 0 rfl) ?_
    have hq9 : ((b_w cB cC cI cJ cZ oA rA s_3.2))[8]? = some (rA 1 9, .inl (cI, 8192, .inl ((s_3.2 1).2.1 9))) := rfl
    have hPc := hP.sub (ws' := [(rA 1 9, .inl (cI, 8192, .inl ((s_3.2 1).2.1 9)))]) [8] (pk_fm (er_C hq9))
    have hDc := (hDD s_3.2).sub (ws' := [(rA 1 9, .inl (cI, 8192, .inl ((s_3.2 1).2.1 9)))]) [8] (by decide +kernel) (er_C hq9)
    have hFc := va_free (wc := [(rA 1 9, .inl (cI, 8192, .inl ((s_3.2 1).2.1 9)))]) (hDD s_3.2) hS hA [8] (er_C hq9)
    refine g_ofi (wc := [(rA 1 9, .inl (cI, 8192, .inl ((s_3.2 1).2.1 9)))]) (wr := (((b_w cB cC cI cJ cZ oA rA s_3.2)).eraseIdx 8)) hP (hDD s_3.2) hS hFc [8] ((List.range ((b_w cB cC cI cJ cZ oA rA s_3.2)).length).eraseIdx 8) (er_C hq9) er_R er_n er_d (va_runSN (As := [.ref (rA 1 9), .int x_10]) (rest := []) ⟨hx, hb, hml, hown, hts⟩ (c_X11_at l dC dI cB cC cI cJ cZ cP H.size (rA 1 9) x_10 8192 ((s_3.2 1).2.1 9) (by decide)) ⟨va_cnB 2 hts (g_gA wq_407) rfl rfl rfl (nw_9 hN) (hts (.initialized RX11) wq_1) (by decide +kernel) ⟨Nat.le_of_ble_eq_true rfl, Nat.le_of_ble_eq_true rfl⟩, (hts (.static yX11_at) wq_406), trivial⟩ (g_preS g_bl0 hK hPc hDc hS hE hFc g_to0) rfl rfl hl.1 rfl (lv_room (Nat.le_of_ble_eq_true rfl)) dX10_numberOf_41 ⟨Nat.le_of_ble_eq_true rfl, Nat.le_of_ble_eq_true rfl⟩) (fun r9 u9 H locs hw9 hP' hD' hS => ?_)
    clear hPc hDc hFc hD'
    have hP : va_P (dC, dI) vwCl (b_w cB cC cI cJ cZ oA rA s_3.2) H := er_I hP' hq9
    clear hP' hq9
    subst hw9
    obtain ⟨x_12, ex_12, hF_13⟩ := bnd_e hF_11
    clear hF_11
    refine m_top ex_12 ?_
    refine lv_iconst (v := 1) hx hb dX10_numberOf_44 (by decide +kernel) ?_
    refine lv_isub hx hb dX10_numberOf_45 ?_
    refine lv_istore (lv' := [(6, .int (x_12 - 1)), (5, .int x_10), (0, .ref (oA 1)), (1, .long p0), (3, .int x_1), (4, .int s_3.1)]) hx hb dX10_numberOf_46 hl (by decide) rfl (fun ls hl => ?_)
    refine lv_iload hx hb dX10_numberOf_48 (lv_at hl 0 rfl) ?_
    refine lv_if_ge (tgt := 61) hx hb dX10_numberOf_50 (by decide) (fun c_14 => ?_) (fun c_14 => ?_)
    · have hF_15 := ipos c_14 hF_13
      clear hF_13
      refine lv_iload hx hb dX10_numberOf_61 (lv_at hl 0 rfl) ?_
      refine lv_aload_n hx hb dX10_numberOf_63 rfl (lv_at hl 2 rfl) ?_
      refine va_get (D := (dC, dI)) (ci := 10) (v := .ref (rA 1 8)) (C := RX10) (T := TX10) (N := 12) hx hb hts ii_X10 hown hK hP 0 rfl rfl 8 (by decide) (hts (.fieldLink RX10 31 "StoryHouse$Words" "names" "[J") wq_58) (fun _ h9 => h9) rfl dX10_numberOf_64 ?_
      refine va_alen (v := 4500) hx hb hK hP 7 3 rfl rfl (by first | rfl | decide +kernel) dX10_numberOf_67 ?_
      obtain ⟨j_17, ej_17, hF_18⟩ := bnd_e hF_15
      clear hF_15
      have Jj_17 : ∀  (σ_16 : HS), j_17  σ_16 = some res → ∀ (H : Heap) (locs : List Loc), va_P (dC, dI) vwCl (b_w cB cC cI cJ cZ oA rA σ_16) H → va_S A s.heap H locs → ∀ ls : Array Slot, lv_has ls 7 [(0, .ref (oA 1)), (1, .long p0), (3, .int x_1), (4, .int s_3.1)] → W p l e (headSpec (g_ws yX10_numberOf cX10_numberOf 7 (some .int)) { frames := 4, cells := 0, slots := 0, locals := 105 }).room s m ([.ref (oA 1), .long p0] : List Value).toArray below meth c H locs 0 0 (MQ below (va_Qi (fun r (_ : Unit) => r = res.1) (g_Bo (dC, dI) A (fun (_ : Unit) => (b_w cB cC cI cJ cZ oA rA res.2))) A) ([.ref (oA 1), .long p0] : List Value).toArray s 0 0 A) (F0 m 86 ls []) := by
        intro  σ_16 hF0 H locs hP hS ls hl
        subst ej_17
        have hF_19 := hF0
        clear hF0
        obtain ⟨x_20, ex_20, hF_21⟩ := bnd_e hF_19
        clear hF_19
        refine lv_iinc (v := x_20) (lv' := [(4, .int x_20), (0, .ref (oA 1)), (1, .long p0), (3, .int x_1)]) hx hb dX10_numberOf_86 hl (k := 3) rfl (by rw [ex_20]; rfl) (by decide) rfl (fun ls hl => ?_)
        refine lv_goto (tgt := 17) hx hb dX10_numberOf_89 (by decide) ?_
        exact ih_5 (x_20, σ_16) hF_21 _ _ hP hS ls (lv_sub hl [1, 2, 3, 0] rfl)
      refine lv_icmp_ge (tgt := 86) hx hb dX10_numberOf_68 (by decide) (fun c_22 => ?_) (fun c_22 => ?_)
      · have hF_23 := ipos c_22 hF_18
        clear hF_18
        exact Jj_17  s_3.2 hF_23 _ _ hP hS ls (lv_sub hl [2, 3, 4, 5] rfl)
      · have hF_24 := ineg c_22 hF_18
        clear hF_18
        refine lv_aload_n hx hb dX10_numberOf_71 rfl (lv_at hl 2 rfl) ?_
        refine va_get (D := (dC, dI)) (ci := 10) (v := .ref (rA 1 8)) (C := RX10) (T := TX10) (N := 12) hx hb hts ii_X10 hown hK hP 0 rfl rfl 8 (by decide) (hts (.fieldLink RX10 31 "StoryHouse$Words" "names" "[J") wq_58) (fun _ h9 => h9) rfl dX10_numberOf_72 ?_
        refine lv_iload hx hb dX10_numberOf_75 (lv_at hl 0 rfl) ?_
        obtain ⟨x_25, ex_25, hF_26⟩ := bnd_e hF_24
        clear hF_24
        refine m_top ex_25 ?_
        obtain ⟨g_27, hF_28⟩ := nif_e hF_26
        clear hF_26
        refine va_lald (f := (s_3.2 1).2.2 8) hx hb hK hP 7 3 rfl rfl g_27 dX10_numberOf_77 ?_
        refine lv_lload_n hx hb dX10_numberOf_78 rfl (lv_at hl 3 rfl) ?_
        refine W.lcmp hx hb dX10_numberOf_79 ?_
        obtain ⟨x_29, ex_29, hF_30⟩ := bnd_e hF_28
        clear hF_28
        refine m_top ex_29 ?_
        refine lv_if_ne (tgt := 86) hx hb dX10_numberOf_80 (by decide) (fun c_31 => ?_) (fun c_31 => ?_)
        · have hF_33 := ineg c_31 hF_30
          clear hF_30
          exact Jj_17  s_3.2 hF_33 _ _ hP hS ls (lv_sub hl [2, 3, 4, 5] rfl)
        · have hF_32 := ipos c_31 hF_30
          clear hF_30
          refine lv_iload hx hb dX10_numberOf_83 (lv_at hl 0 rfl) ?_
          have h9 := Option.some.inj hF_32
          subst h9
          exact W.iret (v := (x_12 - 1)) hx hb hr (fun t ht hW => ⟨⟨(x_12 - 1), (), rfl, rfl, m_end ht hP, hDD _⟩, hS.F ht⟩) hS.2.2 dX10_numberOf_85
    · have hF_34 := ineg c_14 hF_13
      clear hF_13
      refine lv_aload_n hx hb dX10_numberOf_53 rfl (lv_at hl 2 rfl) ?_
      refine lv_iload hx hb dX10_numberOf_54 (lv_at hl 1 rfl) ?_
      refine lv_lload_n hx hb dX10_numberOf_56 rfl (lv_at hl 3 rfl) ?_
      obtain ⟨u_35, hu_35, hF_36⟩ := Option.bind_eq_some_iff.mp hF_34
      clear hF_34
      have hPc := bx_P (bs := [b_w cB cC cI cJ cZ oA rA s_3.2]) (bs' := [b_w cB cC cI cJ cZ oA rA s_3.2]) (ws' := (b_w cB cC cI cJ cZ oA rA s_3.2)) hP fl_1 fl_1 [0] rfl
      have hDc := bx_D (bs := [b_w cB cC cI cJ cZ oA rA s_3.2]) (bs' := [b_w cB cC cI cJ cZ oA rA s_3.2]) (ws' := (b_w cB cC cI cJ cZ oA rA s_3.2)) (hDD s_3.2) fl_1 fl_1 [0] (by decide +kernel) rfl
      have hFc := bx_F (bs := [b_w cB cC cI cJ cZ oA rA s_3.2]) (bs' := [b_w cB cC cI cJ cZ oA rA s_3.2]) (wc := (b_w cB cC cI cJ cZ oA rA s_3.2)) (hDD s_3.2) hS hA fl_1 fl_1 [0] rfl
      refine g_ofi (wc := (b_w cB cC cI cJ cZ oA rA s_3.2)) (wr := ([] : va_W)) hP (hDD s_3.2) hS hFc (bx_ix [b_w cB cC cI cJ cZ oA rA s_3.2] [0]) (bx_ix [b_w cB cC cI cJ cZ oA rA s_3.2] []) (bx_C (bs := [b_w cB cC cI cJ cZ oA rA s_3.2]) (bs' := [b_w cB cC cI cJ cZ oA rA s_3.2]) (is := [0]) fl_1 fl_1 rfl) (bx_C (bs := [b_w cB cC cI cJ cZ oA rA s_3.2]) (bs' := []) (is := []) fl_1 fl_0 rfl) (bx_n (by decide +kernel)) (bx_d (by decide +kernel)) (va_runV (As := [.int x_10, .long p0]) (rest := []) ⟨hx, hb, hml, hown, hts⟩ (k_X10_rememberName l dC dI cB cC cI cJ cZ cP oA rA H.size  x_10 p0 s_3.2 _ hu_35) (cwV 2 hts (g_gV wq_408 wq_409 wq_1980 wq_2 wq_410) rfl rfl rfl (by decide +kernel) ⟨Nat.le_of_ble_eq_true rfl, Nat.le_of_ble_eq_true rfl⟩) (g_preV g_bl0 hK hPc hDc hS hE hFc g_to0 (q0 := 0) (ci := 10) rfl rfl) rfl rfl hl.1 rfl (lv_room (Nat.le_of_ble_eq_true rfl)) dX10_numberOf_57 ⟨Nat.le_of_ble_eq_true rfl, Nat.le_of_ble_eq_true rfl⟩) (fun r9 u9 H locs hw9 hP' hD' hS => ?_)
      clear hPc hDc hFc
      subst hw9
      have hP : va_P (dC, dI) vwCl (b_w cB cC cI cJ cZ oA rA u_35.2) H := hP'
      clear hP' hD'
      have h9 := Option.some.inj hF_36
      subst h9
      exact W.iret (v := u_35.1) hx hb hr (fun t ht hW => ⟨⟨u_35.1, (), rfl, rfl, m_end ht hP, hDD _⟩, hS.F ht⟩) hS.2.2 dX10_numberOf_60
