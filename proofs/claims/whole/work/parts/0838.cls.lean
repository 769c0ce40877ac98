/-! methods of the class: what each does is its function -/
theorem dX8_isMeant_0 : decode cX8_isMeant 0 = .ok (.aload_n 0, 1) := by decide +kernel
theorem dX8_isMeant_1 : decode cX8_isMeant 1 = .ok (.getfield 85, 3) := by decide +kernel
theorem dX8_isMeant_4 : decode cX8_isMeant 4 = .ok (.getfield 271, 3) := by decide +kernel
theorem dX8_isMeant_7 : decode cX8_isMeant 7 = .ok (.iload_n 1, 1) := by decide +kernel
theorem dX8_isMeant_8 : decode cX8_isMeant 8 = .ok (.invokestatic 70, 3) := by decide +kernel
theorem dX8_isMeant_11 : decode cX8_isMeant 11 = .ok (.aload_n 0, 1) := by decide +kernel
theorem dX8_isMeant_12 : decode cX8_isMeant 12 = .ok (.getfield 127, 3) := by decide +kernel
theorem dX8_isMeant_15 : decode cX8_isMeant 15 = .ok (.if_icmp .ne 49, 3) := by decide +kernel
theorem dX8_isMeant_18 : decode cX8_isMeant 18 = .ok (.aload_n 0, 1) := by decide +kernel
theorem dX8_isMeant_19 : decode cX8_isMeant 19 = .ok (.getfield 85, 3) := by decide +kernel
theorem dX8_isMeant_22 : decode cX8_isMeant 22 = .ok (.getfield 274, 3) := by decide +kernel
theorem dX8_isMeant_25 : decode cX8_isMeant 25 = .ok (.iload_n 1, 1) := by decide +kernel
theorem dX8_isMeant_26 : decode cX8_isMeant 26 = .ok (.invokestatic 70, 3) := by decide +kernel
theorem dX8_isMeant_29 : decode cX8_isMeant 29 = .ok (.aload_n 0, 1) := by decide +kernel
theorem dX8_isMeant_30 : decode cX8_isMeant 30 = .ok (.getfield 114, 3) := by decide +kernel
theorem dX8_isMeant_33 : decode cX8_isMeant 33 = .ok (.invokestatic 277, 3) := by decide +kernel
theorem dX8_isMeant_36 : decode cX8_isMeant 36 = .ok (.ifCond .eq 28, 3) := by decide +kernel
theorem dX8_isMeant_39 : decode cX8_isMeant 39 = .ok (.aload_n 0, 1) := by decide +kernel
theorem dX8_isMeant_40 : decode cX8_isMeant 40 = .ok (.getfield 85, 3) := by decide +kernel
theorem dX8_isMeant_43 : decode cX8_isMeant 43 = .ok (.getfield 280, 3) := by decide +kernel
theorem dX8_isMeant_46 : decode cX8_isMeant 46 = .ok (.iload_n 1, 1) := by decide +kernel
theorem dX8_isMeant_47 : decode cX8_isMeant 47 = .ok (.invokestatic 70, 3) := by decide +kernel
theorem dX8_isMeant_50 : decode cX8_isMeant 50 = .ok (.aload_n 0, 1) := by decide +kernel
theorem dX8_isMeant_51 : decode cX8_isMeant 51 = .ok (.getfield 117, 3) := by decide +kernel
theorem dX8_isMeant_54 : decode cX8_isMeant 54 = .ok (.invokestatic 277, 3) := by decide +kernel
theorem dX8_isMeant_57 : decode cX8_isMeant 57 = .ok (.ifCond .eq 7, 3) := by decide +kernel
theorem dX8_isMeant_60 : decode cX8_isMeant 60 = .ok (.iconst 1, 1) := by decide +kernel
theorem dX8_isMeant_61 : decode cX8_isMeant 61 = .ok (.goto 4, 3) := by decide +kernel
theorem dX8_isMeant_64 : decode cX8_isMeant 64 = .ok (.iconst 0, 1) := by decide +kernel
theorem dX8_isMeant_65 : decode cX8_isMeant 65 = .ok (.ireturn, 1) := by decide +kernel
def F_X8_isMeant (p0 : Int32) (Γ : HS) : HR :=
  bnd ((g_at 200 ((Γ 4).2.1 13) p0)) fun (x_1 : Int32) =>
  if x_1 = ((Γ 11).1 8) then (
    bnd ((g_at 200 ((Γ 4).2.1 14) p0)) fun (x_5 : Int32) =>
    (F_X8_isWhat x_5 ((Γ 11).1 10) Γ).bind fun u_7 =>
    if u_7.1 = 0 then (
      some (0, Γ)
    ) else (
      bnd ((g_at 200 ((Γ 4).2.1 15) p0)) fun (x_12 : Int32) =>
      (F_X8_isWhat x_12 ((Γ 11).1 11) Γ).bind fun u_14 =>
      if u_14.1 = 0 then (
        some (0, Γ)
      ) else (
        some (1, Γ)
      )
    )
  ) else (
    some (0, Γ)
  )
set_option maxHeartbeats 4000000 in
set_option maxRecDepth 100000 in
theorem k_X8_isMeant (l : Launch) (dC : Nat → ClassId) (dI : Nat → Nat → Nat) (cB cC cI cJ cZ cP : ClassId) (oA : Nat → Nat) (rA : Nat → Nat → Nat) (sz : Nat)  (p0 : Int32) (Γ : HS) (res : Int32 × HS) (hF : F_X8_isMeant p0 Γ = some res) : Met l yX8_isMeant (g_ws yX8_isMeant cX8_isMeant 2 (some .boolean)) ({ frames := 3, cells := 0, slots := 0, locals := 81 }) (va_Pc [.ref (oA 11), .int p0] (g_B (dC, dI) [(cB, .byte), (cC, .char), (cI, .int), (cJ, .long), (cZ, .boolean), (cP, .object "StoryHouse$Play")] sz (b_e cB cC cI cJ cZ oA rA Γ ++ b_k cB cC cI cJ cZ oA rA Γ ++ b_p cB cC cI cJ cZ oA rA Γ ++ b_o cB cC cI cJ cZ oA rA Γ ++ b_s cB cC cI cJ cZ oA rA Γ ++ b_c cB cC cI cJ cZ oA rA Γ ++ b_t cB cC cI cJ cZ oA rA Γ ++ b_d cB cC cI cJ cZ oA rA Γ) g_0)) (va_Qi (fun r (_ : Unit) => r = res.1) (g_Bo (dC, dI) (va_A (b_e cB cC cI cJ cZ oA rA Γ ++ b_k cB cC cI cJ cZ oA rA Γ ++ b_p cB cC cI cJ cZ oA rA Γ ++ b_o cB cC cI cJ cZ oA rA Γ ++ b_s cB cC cI cJ cZ oA rA Γ ++ b_c cB cC cI cJ cZ oA rA Γ ++ b_t cB cC cI cJ cZ oA rA Γ ++ b_d cB cC cI cJ cZ oA rA Γ) sz) (fun (_ : Unit) => (b_e cB cC cI cJ cZ oA rA res.2 ++ b_k cB cC cI cJ cZ oA rA res.2 ++ b_p cB cC cI cJ cZ oA rA res.2 ++ b_o cB cC cI cJ cZ oA rA res.2 ++ b_s cB cC cI cJ cZ oA rA res.2 ++ b_c cB cC cI cJ cZ oA rA res.2 ++ b_t cB cC cI cJ cZ oA rA res.2 ++ b_d cB cC cI cJ cZ oA rA res.2))) (va_A (b_e cB cC cI cJ cZ oA rA Γ ++ b_k cB cC cI cJ cZ oA rA Γ ++ b_p cB cC cI cJ cZ oA rA Γ ++ b_o cB cC cI cJ cZ oA rA Γ ++ b_s cB cC cI cJ cZ oA rA Γ ++ b_c cB cC cI cJ cZ oA rA Γ ++ b_t cB cC cI cJ cZ oA rA Γ ++ b_d cB cC cI cJ cZ oA rA Γ) sz)) 0 0 (va_A (b_e cB cC cI cJ cZ oA rA Γ ++ b_k cB cC cI cJ cZ oA rA Γ ++ b_p cB cC cI cJ cZ oA rA Γ ++ b_o cB cC cI cJ cZ oA rA Γ ++ b_s cB cC cI cJ cZ oA rA Γ ++ b_c cB cC cI cJ cZ oA rA Γ ++ b_t cB cC cI cJ cZ oA rA Γ ++ b_d cB cC cI cJ cZ oA rA Γ) sz) := by
  refine Met.ofW (cc := cX8_isMeant) (maxL := 2) (ret := (some .boolean)) (by decide) rfl ?_
  intro p e s m args below meth c s₁ B hml hv
  obtain ⟨rfl, hsz, hP, hK, hD0, hE, hX⟩ := hv
  have hx := B.exec
  have hb := B.bytes
  have hr := B.returns
  have hts0 := atoms_spec (ws := g_ws yX8_isMeant cX8_isMeant 2 (some .boolean)) B.pre
  have hts : ∀ w ∈ lw_good, w.before ([.ref (oA 11), .int p0] : List Value).toArray s = true := fun w z => hts0 w (List.mem_cons_of_mem _ z)
  have hown : s.vm.findClass RX8 = some m.cls := findClass_of_methodNamed B.named
  have hlocks := B.notSynchronized
  subst hsz
  have hD1 := hD0.self (sz := s.heap.size)
  generalize hAe : va_A (b_e cB cC cI cJ cZ oA rA Γ ++ b_k cB cC cI cJ cZ oA rA Γ ++ b_p cB cC cI cJ cZ oA rA Γ ++ b_o cB cC cI cJ cZ oA rA Γ ++ b_s cB cC cI cJ cZ oA rA Γ ++ b_c cB cC cI cJ cZ oA rA Γ ++ b_t cB cC cI cJ cZ oA rA Γ ++ b_d cB cC cI cJ cZ oA rA Γ) s.heap.size = A at hD1 hE hX ⊢
  have hA : ∀ q : Nat, s.heap.size ≤ q → A q := fun q z => by rw [← hAe]; exact Or.inr z
  have hDD : ∀ Γ : HS, va_D A (b_e cB cC cI cJ cZ oA rA Γ ++ b_k cB cC cI cJ cZ oA rA Γ ++ b_p cB cC cI cJ cZ oA rA Γ ++ b_o cB cC cI cJ cZ oA rA Γ ++ b_s cB cC cI cJ cZ oA rA Γ ++ b_c cB cC cI cJ cZ oA rA Γ ++ b_t cB cC cI cJ cZ oA rA Γ ++ b_d cB cC cI cJ cZ oA rA Γ) := fun Γ9 => va_D_fst (ws := (b_e cB cC cI cJ cZ oA rA Γ ++ b_k cB cC cI cJ cZ oA rA Γ ++ b_p cB cC cI cJ cZ oA rA Γ ++ b_o cB cC cI cJ cZ oA rA Γ ++ b_s cB cC cI cJ cZ oA rA Γ ++ b_c cB cC cI cJ cZ oA rA Γ ++ b_t cB cC cI cJ cZ oA rA Γ ++ b_d cB cC cI cJ cZ oA rA Γ)) (ws' := (b_e cB cC cI cJ cZ oA rA Γ9 ++ b_k cB cC cI cJ cZ oA rA Γ9 ++ b_p cB cC cI cJ cZ oA rA Γ9 ++ b_o cB cC cI cJ cZ oA rA Γ9 ++ b_s cB cC cI cJ cZ oA rA Γ9 ++ b_c cB cC cI cJ cZ oA rA Γ9 ++ b_t cB cC cI cJ cZ oA rA Γ9 ++ b_d cB cC cI cJ cZ oA rA Γ9)) rfl hD1
  have hN := hE.1
  have hS : va_S A s.heap s.heap [] := va_S.rf
  have hl := lv_entry ([.ref (oA 11), .int p0]) (n := 2) (Nat.le_of_ble_eq_true rfl)
  rw [lg_entry_eq]
  generalize (lg_sl ([.ref (oA 11), .int p0]) ++ List.replicate (2 - (lg_sl ([.ref (oA 11), .int p0])).length) Slot.unset).toArray = ls at hl ⊢
  have hl : lv_has ls 2 [(0, .ref (oA 11)), (1, .int p0)] := hl
  unfold F_X8_isMeant at hF
  refine lv_aload_n hx hb dX8_isMeant_0 rfl (lv_at hl 0 rfl) ?_
  refine va_get (D := (dC, dI)) (ci := 8) (v := .ref (oA 4)) (C := RX8) (T := TX8) (N := 16) hx hb hts ii_X8 hown hK hP 0 rfl rfl 3 (by decide) (hts (.fieldLink RX8 85 "StoryHouse$Teller" "story" "LStoryHouse$Story;") wq_290) (fun _ h9 => h9) rfl dX8_isMeant_1 ?_
  refine va_get (D := (dC, dI)) (ci := 7) (v := .ref (rA 4 13)) (C := RX7) (T := TX7) (N := 19) hx hb hts ii_X7 hown hK hP 19 rfl rfl 13 (by decide) (hts (.fieldLink RX8 271 "StoryHouse$Story" "onVerbs" "[I") wq_184) (fun _ h9 => h9) rfl dX8_isMeant_4 ?_
  refine lv_iload_n hx hb dX8_isMeant_7 rfl (lv_at hl 1 rfl) ?_
  have hPc := hP.sub (ws' := [(rA 4 13, .inl (cI, 200, .inl ((Γ 4).2.1 13)))]) [33] rfl
  have hDc := (hDD Γ).sub (ws' := [(rA 4 13, .inl (cI, 200, .inl ((Γ 4).2.1 13)))]) [33] (by decide +kernel) rfl
  have hFc := va_free (wc := [(rA 4 13, .inl (cI, 200, .inl ((Γ 4).2.1 13)))]) (hDD Γ) hS hA [33] rfl
  refine g_ofi (wc := [(rA 4 13, .inl (cI, 200, .inl ((Γ 4).2.1 13)))]) (wr := (((b_e cB cC cI cJ cZ oA rA Γ ++ b_k cB cC cI cJ cZ oA rA Γ ++ b_p cB cC cI cJ cZ oA rA Γ ++ b_o cB cC cI cJ cZ oA rA Γ ++ b_s cB cC cI cJ cZ oA rA Γ ++ b_c cB cC cI cJ cZ oA rA Γ ++ b_t cB cC cI cJ cZ oA rA Γ ++ b_d cB cC cI cJ cZ oA rA Γ)).eraseIdx 33)) hP (hDD Γ) hS hFc [33] [0, 1, 2, 3, 4, 5, 6, 7, 8, 9, 10, 11, 12, 13, 14, 15, 16, 17, 18, 19, 20, 21, 22, 23, 24, 25, 26, 27, 28, 29, 30, 31, 32, 34, 35, 36, 37, 38, 39, 40, 41, 42, 43, 44, 45, 46, 47, 48, 49] rfl rfl (by decide +kernel) (by decide +kernel) (va_runSN (As := [.ref (rA 4 13), .int p0]) (rest := []) ⟨hx, hb, hml, hown, hts⟩ (c_X11_at l dC dI cB cC cI cJ cZ cP s.heap.size (rA 4 13) p0 200 ((Γ 4).2.1 13) (by decide)) ⟨va_cnB 2 hts (g_gA wq_407) rfl rfl rfl (hN.at 31 rfl) (hts (.initialized RX11) wq_1) (by decide +kernel) ⟨Nat.le_of_ble_eq_true rfl, Nat.le_of_ble_eq_true rfl⟩, (hts (.static yX11_at) wq_406), trivial⟩ (g_preS g_bl0 hK hPc hDc hS hE hFc g_to0) rfl rfl hl.1 rfl (lv_room (Nat.le_of_ble_eq_true rfl)) dX8_isMeant_8 ⟨Nat.le_of_ble_eq_true rfl, Nat.le_of_ble_eq_true rfl⟩) (fun r9 u9 H locs hw9 hP' hD' hS => ?_)
  clear hPc hDc hFc hD'
  have hP : va_P (dC, dI) vwCl (b_e cB cC cI cJ cZ oA rA Γ ++ b_k cB cC cI cJ cZ oA rA Γ ++ b_p cB cC cI cJ cZ oA rA Γ ++ b_o cB cC cI cJ cZ oA rA Γ ++ b_s cB cC cI cJ cZ oA rA Γ ++ b_c cB cC cI cJ cZ oA rA Γ ++ b_t cB cC cI cJ cZ oA rA Γ ++ b_d cB cC cI cJ cZ oA rA Γ) H := hP'.sub [0, 1, 2, 3, 4, 5, 6, 7, 8, 9, 10, 11, 12, 13, 14, 15, 16, 17, 18, 19, 20, 21, 22, 23, 24, 25, 26, 27, 28, 29, 30, 31, 32, 49, 33, 34, 35, 36, 37, 38, 39, 40, 41, 42, 43, 44, 45, 46, 47, 48] rfl
  clear hP'
  subst hw9
  obtain ⟨x_1, ex_1, hF_2⟩ := bnd_e hF
  clear hF
  refine m_top ex_1 ?_
  refine lv_aload_n hx hb dX8_isMeant_11 rfl (lv_at hl 0 rfl) ?_
  refine va_get (D := (dC, dI)) (ci := 8) (v := .int ((Γ 11).1 8)) (C := RX8) (T := TX8) (N := 16) hx hb hts ii_X8 hown hK hP 0 rfl rfl 8 (by decide) (hts (.fieldLink RX8 127 "StoryHouse$Teller" "verb" "I") wq_295) (fun _ h9 => h9) rfl dX8_isMeant_12 ?_
  refine lv_icmp_ne (tgt := 64) hx hb dX8_isMeant_15 (by decide) (fun c_3 => ?_) (fun c_3 => ?_)
  · have hF_19 := ineg c_3 hF_2
    clear hF_2
    refine lv_iconst (v := 0) hx hb dX8_isMeant_64 (by decide +kernel) ?_
    have h9 := Option.some.inj hF_19
    subst h9
    exact W.zret (v := 0) hx hb hr (by decide +kernel) (fun t ht hW => ⟨⟨0, (), rfl, rfl, m_end ht hP, hDD _⟩, hS.F ht⟩) hS.2.2 dX8_isMeant_65
  · have hF_4 := ipos c_3 hF_2
    clear hF_2
    refine lv_aload_n hx hb dX8_isMeant_18 rfl (lv_at hl 0 rfl) ?_
    refine va_get (D := (dC, dI)) (ci := 8) (v := .ref (oA 4)) (C := RX8) (T := TX8) (N := 16) hx hb hts ii_X8 hown hK hP 0 rfl rfl 3 (by decide) (hts (.fieldLink RX8 85 "StoryHouse$Teller" "story" "LStoryHouse$Story;") wq_290) (fun _ h9 => h9) rfl dX8_isMeant_19 ?_
    refine va_get (D := (dC, dI)) (ci := 7) (v := .ref (rA 4 14)) (C := RX7) (T := TX7) (N := 19) hx hb hts ii_X7 hown hK hP 19 rfl rfl 14 (by decide) (hts (.fieldLink RX8 274 "StoryHouse$Story" "onFirsts" "[I") wq_187) (fun _ h9 => h9) rfl dX8_isMeant_22 ?_
    refine lv_iload_n hx hb dX8_isMeant_25 rfl (lv_at hl 1 rfl) ?_
    have hPc := hP.sub (ws' := [(rA 4 14, .inl (cI, 200, .inl ((Γ 4).2.1 14)))]) [34] rfl
    have hDc := (hDD Γ).sub (ws' := [(rA 4 14, .inl (cI, 200, .inl ((Γ 4).2.1 14)))]) [34] (by decide +kernel) rfl
    have hFc := va_free (wc := [(rA 4 14, .inl (cI, 200, .inl ((Γ 4).2.1 14)))]) (hDD Γ) hS hA [34] rfl
    refine g_ofi (wc := [(rA 4 14, .inl (cI, 200, .inl ((Γ 4).2.1 14)))]) (wr := (((b_e cB cC cI cJ cZ oA rA Γ ++ b_k cB cC cI cJ cZ oA rA Γ ++ b_p cB cC cI cJ cZ oA rA Γ ++ b_o cB cC cI cJ cZ oA rA Γ ++ b_s cB cC cI cJ cZ oA rA Γ ++ b_c cB cC cI cJ cZ oA rA Γ ++ b_t cB cC cI cJ cZ oA rA Γ ++ b_d cB cC cI cJ cZ oA rA Γ)).eraseIdx 34)) hP (hDD Γ) hS hFc [34] [0, 1, 2, 3, 4, 5, 6, 7, 8, 9, 10, 11, 12, 13, 14, 15, 16, 17, 18, 19, 20, 21, 22, 23, 24, 25, 26, 27, 28, 29, 30, 31, 32, 33, 35, 36, 37, 38, 39, 40, 41, 42, 43, 44, 45, 46, 47, 48, 49] rfl rfl (by decide +kernel) (by decide +kernel) (va_runSN (As := [.ref (rA 4 14), .int p0]) (rest := []) ⟨hx, hb, hml, hown, hts⟩ (c_X11_at l dC dI cB cC cI cJ cZ cP H.size (rA 4 14) p0 200 ((Γ 4).2.1 14) (by decide)) ⟨va_cnB 2 hts (g_gA wq_407) rfl rfl rfl (hN.at 31 rfl) (hts (.initialized RX11) wq_1) (by decide +kernel) ⟨Nat.le_of_ble_eq_true rfl, Nat.le_of_ble_eq_true rfl⟩, (hts (.static yX11_at) wq_406), trivial⟩ (g_preS g_bl0 hK hPc hDc hS hE hFc g_to0) rfl rfl hl.1 rfl (lv_room (Nat.le_of_ble_eq_true rfl)) dX8_isMeant_26 ⟨Nat.le_of_ble_eq_true rfl, Nat.le_of_ble_eq_true rfl⟩) (fun r9 u9 H locs hw9 hP' hD' hS => ?_)
    clear hPc hDc hFc hD'
    have hP : va_P (dC, dI) vwCl (b_e cB cC cI cJ cZ oA rA Γ ++ b_k cB cC cI cJ cZ oA rA Γ ++ b_p cB cC cI cJ cZ oA rA Γ ++ b_o cB cC cI cJ cZ oA rA Γ ++ b_s cB cC cI cJ cZ oA rA Γ ++ b_c cB cC cI cJ cZ oA rA Γ ++ b_t cB cC cI cJ cZ oA rA Γ ++ b_d cB cC cI cJ cZ oA rA Γ) H := hP'.sub [0, 1, 2, 3, 4, 5, 6, 7, 8, 9, 10, 11, 12, 13, 14, 15, 16, 17, 18, 19, 20, 21, 22, 23, 24, 25, 26, 27, 28, 29, 30, 31, 32, 33, 49, 34, 35, 36, 37, 38, 39, 40, 41, 42, 43, 44, 45, 46, 47, 48] rfl
    clear hP'
    subst hw9
    obtain ⟨x_5, ex_5, hF_6⟩ := bnd_e hF_4
    clear hF_4
    refine m_top ex_5 ?_
    refine lv_aload_n hx hb dX8_isMeant_29 rfl (lv_at hl 0 rfl) ?_
    refine va_get (D := (dC, dI)) (ci := 8) (v := .int ((Γ 11).1 10)) (C := RX8) (T := TX8) (N := 16) hx hb hts ii_X8 hown hK hP 0 rfl rfl 10 (by decide) (hts (.fieldLink RX8 114 "StoryHouse$Teller" "noun" "I") wq_297) (fun _ h9 => h9) rfl dX8_isMeant_30 ?_
    obtain ⟨u_7, hu_7, hF_8⟩ := Option.bind_eq_some_iff.mp hF_6
    clear hF_6
    have hPc : va_P (dC, dI) vwCl [] H := fun k q z => by simp at z
    have hDc : va_D A [] := ⟨fun i j p q z => by simp at z, fun k q z => by simp at z⟩
    have hFc := c_nil hA hS
    refine c_cs (v := u_7.1) hA hP hS (va_runS (As := [.int x_5, .int ((Γ 11).1 10)]) (rest := []) ⟨hx, hb, hml, hown, hts⟩ (k_X8_isWhat l dC dI cB cC cI cJ cZ cP oA rA H.size  x_5 ((Γ 11).1 10) Γ _ hu_7) (va_cwS 2 hts (g_gS wq_1124 wq_1125 wq_12 wq_1126) rfl rfl rfl (by decide +kernel) ⟨Nat.le_of_ble_eq_true rfl, Nat.le_of_ble_eq_true rfl⟩) (g_preS g_bl0 hK hPc hDc hS hE hFc g_to0) rfl rfl hl.1 rfl (lv_room (Nat.le_of_ble_eq_true rfl)) dX8_isMeant_33 ⟨Nat.le_of_ble_eq_true rfl, Nat.le_of_ble_eq_true rfl⟩) (fun H locs hP hS => ?_)
    clear hPc hDc hFc
    refine lv_if_eq (tgt := 64) hx hb dX8_isMeant_36 (by decide) (fun c_9 => ?_) (fun c_9 => ?_)
    · have hF_10 := ipos c_9 hF_8
      clear hF_8
      refine lv_iconst (v := 0) hx hb dX8_isMeant_64 (by decide +kernel) ?_
      have h9 := Option.some.inj hF_10
      subst h9
      exact W.zret (v := 0) hx hb hr (by decide +kernel) (fun t ht hW => ⟨⟨0, (), rfl, rfl, m_end ht hP, hDD _⟩, hS.F ht⟩) hS.2.2 dX8_isMeant_65
    · have hF_11 := ineg c_9 hF_8
      clear hF_8
      refine lv_aload_n hx hb dX8_isMeant_39 rfl (lv_at hl 0 rfl) ?_
      refine va_get (D := (dC, dI)) (ci := 8) (v := .ref (oA 4)) (C := RX8) (T := TX8) (N := 16) hx hb hts ii_X8 hown hK hP 0 rfl rfl 3 (by decide) (hts (.fieldLink RX8 85 "StoryHouse$Teller" "story" "LStoryHouse$Story;") wq_290) (fun _ h9 => h9) rfl dX8_isMeant_40 ?_
      refine va_get (D := (dC, dI)) (ci := 7) (v := .ref (rA 4 15)) (C := RX7) (T := TX7) (N := 19) hx hb hts ii_X7 hown hK hP 19 rfl rfl 15 (by decide) (hts (.fieldLink RX8 280 "StoryHouse$Story" "onSeconds" "[I") wq_190) (fun _ h9 => h9) rfl dX8_isMeant_43 ?_
      refine lv_iload_n hx hb dX8_isMeant_46 rfl (lv_at hl 1 rfl) ?_
      have hPc := hP.sub (ws' := [(rA 4 15, .inl (cI, 200, .inl ((Γ 4).2.1 15)))]) [35] rfl
      have hDc := (hDD Γ).sub (ws' := [(rA 4 15, .inl (cI, 200, .inl ((Γ 4).2.1 15)))]) [35] (by decide +kernel) rfl
      have hFc := va_free (wc := [(rA 4 15, .inl (cI, 200, .inl ((Γ 4).2.1 15)))]) (hDD Γ) hS hA [35] rfl
      refine g_ofi (wc := [(rA 4 15, .inl (cI, 200, .inl ((Γ 4).2.1 15)))]) (wr := (((b_e cB cC cI cJ cZ oA rA Γ ++ b_k cB cC cI cJ cZ oA rA Γ ++ b_p cB cC cI cJ cZ oA rA Γ ++ b_o cB cC cI cJ cZ oA rA Γ ++ b_s cB cC cI cJ cZ oA rA Γ ++ b_c cB cC cI cJ cZ oA rA Γ ++ b_t cB cC cI cJ cZ oA rA Γ ++ b_d cB cC cI cJ cZ oA rA Γ)).eraseIdx 35)) hP (hDD Γ) hS hFc [35] [0, 1, 2, 3, 4, 5, 6, 7, 8, 9, 10, 11, 12, 13, 14, 15, 16, 17, 18, 19, 20, 21, 22, 23, 24, 25, 26, 27, 28, 29, 30, 31, 32, 33, 34, 36, 37, 38, 39, 40, 41, 42, 43, 44, 45, 46, 47, 48, 49] rfl rfl (by decide +kernel) (by decide +kernel) (va_runSN (As := [.ref (rA 4 15), .int p0]) (rest := []) ⟨hx, hb, hml, hown, hts⟩ (c_X11_at l dC dI cB cC cI cJ cZ cP H.size (rA 4 15) p0 200 ((Γ 4).2.1 15) (by decide)) ⟨va_cnB 2 hts (g_gA wq_407) rfl rfl rfl (hN.at 31 rfl) (hts (.initialized RX11) wq_1) (by decide +kernel) ⟨Nat.le_of_ble_eq_true rfl, Nat.le_of_ble_eq_true rfl⟩, (hts (.static yX11_at) wq_406), trivial⟩ (g_preS g_bl0 hK hPc hDc hS hE hFc g_to0) rfl rfl hl.1 rfl (lv_room (Nat.le_of_ble_eq_true rfl)) dX8_isMeant_47 ⟨Nat.le_of_ble_eq_true rfl, Nat.le_of_ble_eq_true rfl⟩) (fun r9 u9 H locs hw9 hP' hD' hS => ?_)
      clear hPc hDc hFc hD'
      have hP : va_P (dC, dI) vwCl (b_e cB cC cI cJ cZ oA rA Γ ++ b_k cB cC cI cJ cZ oA rA Γ ++ b_p cB cC cI cJ cZ oA rA Γ ++ b_o cB cC cI cJ cZ oA rA Γ ++ b_s cB cC cI cJ cZ oA rA Γ ++ b_c cB cC cI cJ cZ oA rA Γ ++ b_t cB cC cI cJ cZ oA rA Γ ++ b_d cB cC cI cJ cZ oA rA Γ) H := hP'.sub [0, 1, 2, 3, 4, 5, 6, 7, 8, 9, 10, 11, 12, 13, 14, 15, 16, 17, 18, 19, 20, 21, 22, 23, 24, 25, 26, 27, 28, 29, 30, 31, 32, 33, 34, 49, 35, 36, 37, 38, 39, 40, 41, 42, 43, 44, 45, 46, 47, 48] rfl
      clear hP'
      subst hw9
      obtain ⟨x_12, ex_12, hF_13⟩ := bnd_e hF_11
      clear hF_11
      refine m_top ex_12 ?_
      refine lv_aload_n hx hb dX8_isMeant_50 rfl (lv_at hl 0 rfl) ?_
      refine va_get (D := (dC, dI)) (ci := 8) (v := .int ((Γ 11).1 11)) (C := RX8) (T := TX8) (N := 16) hx hb hts ii_X8 hown hK hP 0 rfl rfl 11 (by decide) (hts (.fieldLink RX8 117 "StoryHouse$Teller" "second" "I") wq_298) (fun _ h9 => h9) rfl dX8_isMeant_51 ?_
      obtain ⟨u_14, hu_14, hF_15⟩ := Option.bind_eq_some_iff.mp hF_13
      clear hF_13
      have hPc : va_P (dC, dI) vwCl [] H := fun k q z => by simp at z
      have hDc : va_D A [] := ⟨fun i j p q z => by simp at z, fun k q z => by simp at z⟩
      have hFc := c_nil hA hS
      refine c_cs (v := u_14.1) hA hP hS (va_runS (As := [.int x_12, .int ((Γ 11).1 11)]) (rest := []) ⟨hx, hb, hml, hown, hts⟩ (k_X8_isWhat l dC dI cB cC cI cJ cZ cP oA rA H.size  x_12 ((Γ 11).1 11) Γ _ hu_14) (va_cwS 2 hts (g_gS wq_1124 wq_1125 wq_12 wq_1126) rfl rfl rfl (by decide +kernel) ⟨Nat.le_of_ble_eq_true rfl, Nat.le_of_ble_eq_true rfl⟩) (g_preS g_bl0 hK hPc hDc hS hE hFc g_to0) rfl rfl hl.1 rfl (lv_room (Nat.le_of_ble_eq_true rfl)) dX8_isMeant_54 ⟨Nat.le_of_ble_eq_true rfl, Nat.le_of_ble_eq_true rfl⟩) (fun H locs hP hS => ?_)
      clear hPc hDc hFc
      refine lv_if_eq (tgt := 64) hx hb dX8_isMeant_57 (by decide) (fun c_16 => ?_) (fun c_16 => ?_)
      · have hF_17 := ipos c_16 hF_15
        clear hF_15
        refine lv_iconst (v := 0) hx hb dX8_isMeant_64 (by decide +kernel) ?_
        have h9 := Option.some.inj hF_17
        subst h9
        exact W.zret (v := 0) hx hb hr (by decide +kernel) (fun t ht hW => ⟨⟨0, (), rfl, rfl, m_end ht hP, hDD _⟩, hS.F ht⟩) hS.2.2 dX8_isMeant_65
      · have hF_18 := ineg c_16 hF_15
        clear hF_15
        refine lv_iconst (v := 1) hx hb dX8_isMeant_60 (by decide +kernel) ?_
        refine lv_goto (tgt := 65) hx hb dX8_isMeant_61 (by decide) ?_
        have h9 := Option.some.inj hF_18
        subst h9
        exact W.zret (v := 1) hx hb hr (by decide +kernel) (fun t ht hW => ⟨⟨1, (), rfl, rfl, m_end ht hP, hDD _⟩, hS.F ht⟩) hS.2.2 dX8_isMeant_65
theorem dX8_tellInside_0 : decode cX8_tellInside 0 = .ok (.aload_n 0, 1) := by decide +kernel
theorem dX8_tellInside_1 : decode cX8_tellInside 1 = .ok (.getfield 22, 3) := by decide +kernel
theorem dX8_tellInside_4 : decode cX8_tellInside 4 = .ok (.iload_n 1, 1) := by decide +kernel
theorem dX8_tellInside_5 : decode cX8_tellInside 5 = .ok (.invokevirtual 331, 3) := by decide +kernel
theorem dX8_tellInside_8 : decode cX8_tellInside 8 = .ok (.ifCond .eq 17, 3) := by decide +kernel
theorem dX8_tellInside_11 : decode cX8_tellInside 11 = .ok (.aload_n 0, 1) := by decide +kernel
theorem dX8_tellInside_12 : decode cX8_tellInside 12 = .ok (.getfield 22, 3) := by decide +kernel
theorem dX8_tellInside_15 : decode cX8_tellInside 15 = .ok (.getfield 202, 3) := by decide +kernel
theorem dX8_tellInside_18 : decode cX8_tellInside 18 = .ok (.iload_n 1, 1) := by decide +kernel
theorem dX8_tellInside_19 : decode cX8_tellInside 19 = .ok (.invokestatic 70, 3) := by decide +kernel
theorem dX8_tellInside_22 : decode cX8_tellInside 22 = .ok (.goto 4, 3) := by decide +kernel
theorem dX8_tellInside_25 : decode cX8_tellInside 25 = .ok (.iconst 0, 1) := by decide +kernel
theorem dX8_tellInside_26 : decode cX8_tellInside 26 = .ok (.istore_n 2, 1) := by decide +kernel
theorem dX8_tellInside_27 : decode cX8_tellInside 27 = .ok (.iconst 0, 1) := by decide +kernel
theorem dX8_tellInside_28 : decode cX8_tellInside 28 = .ok (.istore_n 3, 1) := by decide +kernel
theorem dX8_tellInside_29 : decode cX8_tellInside 29 = .ok (.iload_n 3, 1) := by decide +kernel
theorem dX8_tellInside_30 : decode cX8_tellInside 30 = .ok (.bipush 120, 2) := by decide +kernel
theorem dX8_tellInside_32 : decode cX8_tellInside 32 = .ok (.if_icmp .ge 101, 3) := by decide +kernel
theorem dX8_tellInside_35 : decode cX8_tellInside 35 = .ok (.iload_n 2, 1) := by decide +kernel
theorem dX8_tellInside_36 : decode cX8_tellInside 36 = .ok (.ifCond .eq 97, 3) := by decide +kernel
theorem dX8_tellInside_39 : decode cX8_tellInside 39 = .ok (.aload_n 0, 1) := by decide +kernel
theorem dX8_tellInside_40 : decode cX8_tellInside 40 = .ok (.getfield 22, 3) := by decide +kernel
theorem dX8_tellInside_43 : decode cX8_tellInside 43 = .ok (.iload_n 2, 1) := by decide +kernel
theorem dX8_tellInside_44 : decode cX8_tellInside 44 = .ok (.iconst 2, 1) := by decide +kernel
theorem dX8_tellInside_45 : decode cX8_tellInside 45 = .ok (.invokevirtual 205, 3) := by decide +kernel
theorem dX8_tellInside_48 : decode cX8_tellInside 48 = .ok (.ifCond .ne 67, 3) := by decide +kernel
theorem dX8_tellInside_51 : decode cX8_tellInside 51 = .ok (.aload_n 0, 1) := by decide +kernel
theorem dX8_tellInside_52 : decode cX8_tellInside 52 = .ok (.getfield 26, 3) := by decide +kernel
theorem dX8_tellInside_55 : decode cX8_tellInside 55 = .ok (.aload_n 0, 1) := by decide +kernel
theorem dX8_tellInside_56 : decode cX8_tellInside 56 = .ok (.getfield 22, 3) := by decide +kernel
theorem dX8_tellInside_59 : decode cX8_tellInside 59 = .ok (.iload_n 1, 1) := by decide +kernel
theorem dX8_tellInside_60 : decode cX8_tellInside 60 = .ok (.iconst 5, 1) := by decide +kernel
theorem dX8_tellInside_61 : decode cX8_tellInside 61 = .ok (.invokevirtual 205, 3) := by decide +kernel
theorem dX8_tellInside_64 : decode cX8_tellInside 64 = .ok (.ifCond .eq 9, 3) := by decide +kernel
theorem dX8_tellInside_67 : decode cX8_tellInside 67 = .ok (.ldc_w 334, 3) := by decide +kernel
theorem dX8_tellInside_70 : decode cX8_tellInside 70 = .ok (.goto 6, 3) := by decide +kernel
theorem dX8_tellInside_73 : decode cX8_tellInside 73 = .ok (.ldc_w 336, 3) := by decide +kernel
theorem dX8_tellInside_76 : decode cX8_tellInside 76 = .ok (.invokevirtual 233, 3) := by decide +kernel
theorem dX8_tellInside_79 : decode cX8_tellInside 79 = .ok (.aload_n 0, 1) := by decide +kernel
theorem dX8_tellInside_80 : decode cX8_tellInside 80 = .ok (.getfield 30, 3) := by decide +kernel
theorem dX8_tellInside_83 : decode cX8_tellInside 83 = .ok (.iload_n 1, 1) := by decide +kernel
theorem dX8_tellInside_84 : decode cX8_tellInside 84 = .ok (.invokevirtual 227, 3) := by decide +kernel
theorem dX8_tellInside_87 : decode cX8_tellInside 87 = .ok (.aload_n 0, 1) := by decide +kernel
theorem dX8_tellInside_88 : decode cX8_tellInside 88 = .ok (.getfield 26, 3) := by decide +kernel
theorem dX8_tellInside_91 : decode cX8_tellInside 91 = .ok (.ldc_w 338, 3) := by decide +kernel
theorem dX8_tellInside_94 : decode cX8_tellInside 94 = .ok (.invokevirtual 233, 3) := by decide +kernel
theorem dX8_tellInside_97 : decode cX8_tellInside 97 = .ok (.aload_n 0, 1) := by decide +kernel
theorem dX8_tellInside_98 : decode cX8_tellInside 98 = .ok (.getfield 30, 3) := by decide +kernel
theorem dX8_tellInside_101 : decode cX8_tellInside 101 = .ok (.iload_n 2, 1) := by decide +kernel
theorem dX8_tellInside_102 : decode cX8_tellInside 102 = .ok (.invokevirtual 227, 3) := by decide +kernel
theorem dX8_tellInside_105 : decode cX8_tellInside 105 = .ok (.aload_n 0, 1) := by decide +kernel
theorem dX8_tellInside_106 : decode cX8_tellInside 106 = .ok (.getfield 26, 3) := by decide +kernel
theorem dX8_tellInside_109 : decode cX8_tellInside 109 = .ok (.ldc_w 340, 3) := by decide +kernel
theorem dX8_tellInside_112 : decode cX8_tellInside 112 = .ok (.invokevirtual 65, 3) := by decide +kernel
theorem dX8_tellInside_115 : decode cX8_tellInside 115 = .ok (.aload_n 0, 1) := by decide +kernel
theorem dX8_tellInside_116 : decode cX8_tellInside 116 = .ok (.getfield 22, 3) := by decide +kernel
theorem dX8_tellInside_119 : decode cX8_tellInside 119 = .ok (.getfield 208, 3) := by decide +kernel
theorem dX8_tellInside_122 : decode cX8_tellInside 122 = .ok (.iload_n 2, 1) := by decide +kernel
theorem dX8_tellInside_123 : decode cX8_tellInside 123 = .ok (.invokestatic 70, 3) := by decide +kernel
theorem dX8_tellInside_126 : decode cX8_tellInside 126 = .ok (.istore_n 2, 1) := by decide +kernel
theorem dX8_tellInside_127 : decode cX8_tellInside 127 = .ok (.iinc 3 1, 3) := by decide +kernel
theorem dX8_tellInside_130 : decode cX8_tellInside 130 = .ok (.goto (-101), 3) := by decide +kernel
theorem dX8_tellInside_133 : decode cX8_tellInside 133 = .ok (.return_, 1) := by decide +kernel
def F_X8_tellInside (p0 : Int32) (Γ : HS) : HR :=
  (F_X6_showsInside p0 Γ).bind fun u_1 =>
  bnd (mrg (fun j => j == 9) Γ u_1.2) fun σ_3 =>
  bnd (fun (t_5 : Int32) (σ_6 : HS) => (
    loopF (fun (again_11 : (Int32 × Int32 × HS) → HR) (s_10 : Int32 × Int32 × HS) => (
      if 120 ≤ s_10.2.1 then (
        some (0, s_10.2.2)
      ) else (
        if s_10.1 = 0 then (
          some (0, s_10.2.2)
        ) else (
          (F_X6_bears s_10.1 2 s_10.2.2).bind fun u_20 =>
          bnd (mrg (fun j => j == 9) s_10.2.2 u_20.2) fun σ_22 =>
          bnd (fun  (σ_24 : HS) => (
            bnd ((g_at 121 ((σ_24 9).2.1 2) s_10.1)) fun (x_28 : Int32) =>
            bnd (s_10.2.1 + 1) fun (x_30 : Int32) =>
            again_11 (x_28, x_30, σ_24)
          ) : HS → HR) fun j_25 =>
          if u_20.1 = 0 then (
            (F_X6_bears p0 5 σ_22).bind fun u_34 =>
            bnd (mrg (fun j => j == 9) σ_22 u_34.2) fun σ_36 =>
            if u_34.1 = 0 then (
              (F_X5_text ([73, 110, 32] : List Int32) σ_36).bind fun u_41 =>
              bnd (mrg (fun j => j == 8) σ_36 u_41.2) fun σ_43 =>
              (F_X3_sayName p0 σ_43).bind fun u_45 =>
              bnd (mrg (fun j => j == 10 || j == 9 || j == 8 || j == 4 || j == 5 || j == 6 || j == 7) σ_43 u_45.2) fun σ_47 =>
              (F_X5_text ([32, 116, 104, 101, 114, 101, 32, 105, 115, 32] : List Int32) σ_47).bind fun u_50 =>
              bnd (mrg (fun j => j == 8) σ_47 u_50.2) fun σ_52 =>
              (F_X3_sayName s_10.1 σ_52).bind fun u_54 =>
              bnd (mrg (fun j => j == 10 || j == 9 || j == 8 || j == 4 || j == 5 || j == 6 || j == 7) σ_52 u_54.2) fun σ_56 =>
              (F_X5_line ([46] : List Int32) σ_56).bind fun u_59 =>
              bnd (mrg (fun j => j == 8) σ_56 u_59.2) fun σ_61 =>
              j_25  σ_61
            ) else (
              (F_X5_text ([79, 110, 32] : List Int32) σ_36).bind fun u_65 =>
              bnd (mrg (fun j => j == 8) σ_36 u_65.2) fun σ_67 =>
              (F_X3_sayName p0 σ_67).bind fun u_69 =>
              bnd (mrg (fun j => j == 10 || j == 9 || j == 8 || j == 4 || j == 5 || j == 6 || j == 7) σ_67 u_69.2) fun σ_71 =>
              (F_X5_text ([32, 116, 104, 101, 114, 101, 32, 105, 115, 32] : List Int32) σ_71).bind fun u_74 =>
              bnd (mrg (fun j => j == 8) σ_71 u_74.2) fun σ_76 =>
              (F_X3_sayName s_10.1 σ_76).bind fun u_78 =>
              bnd (mrg (fun j => j == 10 || j == 9 || j == 8 || j == 4 || j == 5 || j == 6 || j == 7) σ_76 u_78.2) fun σ_80 =>
              (F_X5_line ([46] : List Int32) σ_80).bind fun u_83 =>
              bnd (mrg (fun j => j == 8) σ_80 u_83.2) fun σ_85 =>
              j_25  σ_85
            )
          ) else (
            j_25  σ_22
          )
        )
      )
    )) FU (t_5, 0, σ_6)
  ) : Int32 → HS → HR) fun j_7 =>
  if u_1.1 = 0 then (
    j_7 0 σ_3
  ) else (
    bnd ((g_at 121 ((σ_3 9).2.1 1) p0)) fun (x_91 : Int32) =>
    j_7 x_91 σ_3
  )
set_option maxHeartbeats 4000000 in
set_option maxRecDepth 100000 in
theorem k_X8_tellInside (l : Launch) (dC : Nat → ClassId) (dI : Nat → Nat → Nat) (cB cC cI cJ cZ cP : ClassId) (oA : Nat → Nat) (rA : Nat → Nat → Nat) (sz : Nat)  (p0 : Int32) (Γ : HS) (res : Int32 × HS) (hF : F_X8_tellInside p0 Γ = some res) : Met l yX8_tellInside (g_ws yX8_tellInside cX8_tellInside 4 none) ({ frames := 8, cells := 0, slots := 0, locals := 197 }) (va_Pc [.ref (oA 11), .int p0] (g_B (dC, dI) [(cB, .byte), (cC, .char), (cI, .int), (cJ, .long), (cZ, .boolean), (cP, .object "StoryHouse$Play")] sz (b_e cB cC cI cJ cZ oA rA Γ ++ b_k cB cC cI cJ cZ oA rA Γ ++ b_p cB cC cI cJ cZ oA rA Γ ++ b_o cB cC cI cJ cZ oA rA Γ ++ b_s cB cC cI cJ cZ oA rA Γ ++ b_c cB cC cI cJ cZ oA rA Γ ++ b_t cB cC cI cJ cZ oA rA Γ ++ b_d cB cC cI cJ cZ oA rA Γ) g_0)) (va_Qv (fun (_ : Unit) => True) (g_Bo (dC, dI) (va_A (b_e cB cC cI cJ cZ oA rA Γ ++ b_k cB cC cI cJ cZ oA rA Γ ++ b_p cB cC cI cJ cZ oA rA Γ ++ b_o cB cC cI cJ cZ oA rA Γ ++ b_s cB cC cI cJ cZ oA rA Γ ++ b_c cB cC cI cJ cZ oA rA Γ ++ b_t cB cC cI cJ cZ oA rA Γ ++ b_d cB cC cI cJ cZ oA rA Γ) sz) (fun (_ : Unit) => (b_e cB cC cI cJ cZ oA rA res.2 ++ b_k cB cC cI cJ cZ oA rA res.2 ++ b_p cB cC cI cJ cZ oA rA res.2 ++ b_o cB cC cI cJ cZ oA rA res.2 ++ b_s cB cC cI cJ cZ oA rA res.2 ++ b_c cB cC cI cJ cZ oA rA res.2 ++ b_t cB cC cI cJ cZ oA rA res.2 ++ b_d cB cC cI cJ cZ oA rA res.2))) (va_A (b_e cB cC cI cJ cZ oA rA Γ ++ b_k cB cC cI cJ cZ oA rA Γ ++ b_p cB cC cI cJ cZ oA rA Γ ++ b_o cB cC cI cJ cZ oA rA Γ ++ b_s cB cC cI cJ cZ oA rA Γ ++ b_c cB cC cI cJ cZ oA rA Γ ++ b_t cB cC cI cJ cZ oA rA Γ ++ b_d cB cC cI cJ cZ oA rA Γ) sz)) 0 0 (va_A (b_e cB cC cI cJ cZ oA rA Γ ++ b_k cB cC cI cJ cZ oA rA Γ ++ b_p cB cC cI cJ cZ oA rA Γ ++ b_o cB cC cI cJ cZ oA rA Γ ++ b_s cB cC cI cJ cZ oA rA Γ ++ b_c cB cC cI cJ cZ oA rA Γ ++ b_t cB cC cI cJ cZ oA rA Γ ++ b_d cB cC cI cJ cZ oA rA Γ) sz) := by
  refine Met.ofW (cc := cX8_tellInside) (maxL := 4) (ret := none) (by decide) rfl ?_
  intro p e s m args below meth c s₁ B hml hv
  obtain ⟨rfl, hsz, hP, hK, hD0, hE, hX⟩ := hv
  have hx := B.exec
  have hb := B.bytes
  have hr := B.returns
  have hts0 := atoms_spec (ws := g_ws yX8_tellInside cX8_tellInside 4 none) B.pre
  have hts : ∀ w ∈ lw_good, w.before ([.ref (oA 11), .int p0] : List Value).toArray s = true := fun w z => hts0 w (List.mem_cons_of_mem _ z)
  have hown : s.vm.findClass RX8 = some m.cls := findClass_of_methodNamed B.named
  have hlocks := B.notSynchronized
  subst hsz
  have hD1 := hD0.self (sz := s.heap.size)
  generalize hAe : va_A (b_e cB cC cI cJ cZ oA rA Γ ++ b_k cB cC cI cJ cZ oA rA Γ ++ b_p cB cC cI cJ cZ oA rA Γ ++ b_o cB cC cI cJ cZ oA rA Γ ++ b_s cB cC cI cJ cZ oA rA Γ ++ b_c cB cC cI cJ cZ oA rA Γ ++ b_t cB cC cI cJ cZ oA rA Γ ++ b_d cB cC cI cJ cZ oA rA Γ) s.heap.size = A at hD1 hE hX ⊢
  have hA : ∀ q : Nat, s.heap.size ≤ q → A q := fun q z => by rw [← hAe]; exact Or.inr z
  have hDD : ∀ Γ : HS, va_D A (b_e cB cC cI cJ cZ oA rA Γ ++ b_k cB cC cI cJ cZ oA rA Γ ++ b_p cB cC cI cJ cZ oA rA Γ ++ b_o cB cC cI cJ cZ oA rA Γ ++ b_s cB cC cI cJ cZ oA rA Γ ++ b_c cB cC cI cJ cZ oA rA Γ ++ b_t cB cC cI cJ cZ oA rA Γ ++ b_d cB cC cI cJ cZ oA rA Γ) := fun Γ9 => va_D_fst (ws := (b_e cB cC cI cJ cZ oA rA Γ ++ b_k cB cC cI cJ cZ oA rA Γ ++ b_p cB cC cI cJ cZ oA rA Γ ++ b_o cB cC cI cJ cZ oA rA Γ ++ b_s cB cC cI cJ cZ oA rA Γ ++ b_c cB cC cI cJ cZ oA rA Γ ++ b_t cB cC cI cJ cZ oA rA Γ ++ b_d cB cC cI cJ cZ oA rA Γ)) (ws' := (b_e cB cC cI cJ cZ oA rA Γ9 ++ b_k cB cC cI cJ cZ oA rA Γ9 ++ b_p cB cC cI cJ cZ oA rA Γ9 ++ b_o cB cC cI cJ cZ oA rA Γ9 ++ b_s cB cC cI cJ cZ oA rA Γ9 ++ b_c cB cC cI cJ cZ oA rA Γ9 ++ b_t cB cC cI cJ cZ oA rA Γ9 ++ b_d cB cC cI cJ cZ oA rA Γ9)) rfl hD1
  have hN := hE.1
  have hS : va_S A s.heap s.heap [] := va_S.rf
  have hl := lv_entry ([.ref (oA 11), .int p0]) (n := 4) (Nat.le_of_ble_eq_true rfl)
  rw [lg_entry_eq]
  generalize (lg_sl ([.ref (oA 11), .int p0]) ++ List.replicate (4 - (lg_sl ([.ref (oA 11), .int p0])).length) Slot.unset).toArray = ls at hl ⊢
  have hl : lv_has ls 4 [(0, .ref (oA 11)), (1, .int p0)] := hl
  unfold F_X8_tellInside at hF
  refine lv_aload_n hx hb dX8_tellInside_0 rfl (lv_at hl 0 rfl) ?_
  refine va_get (D := (dC, dI)) (ci := 8) (v := .ref (oA 9)) (C := RX8) (T := TX8) (N := 16) hx hb hts ii_X8 hown hK hP 0 rfl rfl 0 (by decide) (hts (.fieldLink RX8 22 "StoryHouse$Teller" "play" "LStoryHouse$Play;") wq_286) (fun _ h9 => h9) rfl dX8_tellInside_1 ?_
  refine lv_iload_n hx hb dX8_tellInside_4 rfl (lv_at hl 1 rfl) ?_
  obtain ⟨u_1, hu_1, hF_2⟩ := Option.bind_eq_some_iff.mp hF
  clear hF
  have hPc := hP.sub (ws' := (b_p cB cC cI cJ cZ oA rA Γ)) [9, 10, 11, 12, 13, 14, 15, 16] rfl
  have hDc := (hDD Γ).sub (ws' := (b_p cB cC cI cJ cZ oA rA Γ)) [9, 10, 11, 12, 13, 14, 15, 16] (by decide +kernel) rfl
  have hFc := va_free (wc := (b_p cB cC cI cJ cZ oA rA Γ)) (hDD Γ) hS hA [9, 10, 11, 12, 13, 14, 15, 16] rfl
  refine g_ofi (wc := (b_p cB cC cI cJ cZ oA rA Γ)) (wr := (b_e cB cC cI cJ cZ oA rA Γ ++ b_k cB cC cI cJ cZ oA rA Γ ++ b_o cB cC cI cJ cZ oA rA Γ ++ b_s cB cC cI cJ cZ oA rA Γ ++ b_c cB cC cI cJ cZ oA rA Γ ++ b_t cB cC cI cJ cZ oA rA Γ ++ b_d cB cC cI cJ cZ oA rA Γ)) hP (hDD Γ) hS hFc [9, 10, 11, 12, 13, 14, 15, 16] [0, 1, 2, 3, 4, 5, 6, 7, 8, 17, 18, 19, 20, 21, 22, 23, 24, 25, 26, 27, 28, 29, 30, 31, 32, 33, 34, 35, 36, 37, 38, 39, 40, 41, 42, 43, 44, 45, 46, 47, 48, 49] rfl rfl (by decide +kernel) (by decide +kernel) (va_runV (As := [.int p0]) (rest := []) ⟨hx, hb, hml, hown, hts⟩ (k_X6_showsInside l dC dI cB cC cI cJ cZ cP oA rA s.heap.size  p0 Γ _ hu_1) (cwV 1 hts (g_gV wq_1035 wq_995 wq_996 wq_10 wq_997) rfl rfl rfl (by decide +kernel) ⟨Nat.le_of_ble_eq_true rfl, Nat.le_of_ble_eq_true rfl⟩) (g_preV g_bl0 hK hPc hDc hS hE hFc g_to0 (q0 := 0) (ci := 6) rfl rfl) rfl rfl hl.1 rfl (lv_room (Nat.le_of_ble_eq_true rfl)) dX8_tellInside_5 ⟨Nat.le_of_ble_eq_true rfl, Nat.le_of_ble_eq_true rfl⟩) (fun r9 u9 H locs hw9 hP' hD' hS => ?_)
  clear hPc hDc hFc
  subst hw9
  obtain ⟨σ_3, eσ_3, hF_4⟩ := bnd_e hF_2
  clear hF_2
  have hP : va_P (dC, dI) vwCl (b_e cB cC cI cJ cZ oA rA σ_3 ++ b_k cB cC cI cJ cZ oA rA σ_3 ++ b_p cB cC cI cJ cZ oA rA σ_3 ++ b_o cB cC cI cJ cZ oA rA σ_3 ++ b_s cB cC cI cJ cZ oA rA σ_3 ++ b_c cB cC cI cJ cZ oA rA σ_3 ++ b_t cB cC cI cJ cZ oA rA σ_3 ++ b_d cB cC cI cJ cZ oA rA σ_3) H := by rw [eσ_3]; exact hP'.sub [0, 1, 2, 3, 4, 5, 6, 7, 8, 42, 43, 44, 45, 46, 47, 48, 49, 9, 10, 11, 12, 13, 14, 15, 16, 17, 18, 19, 20, 21, 22, 23, 24, 25, 26, 27, 28, 29, 30, 31, 32, 33, 34, 35, 36, 37, 38, 39, 40, 41] rfl
  clear hP' hD'
  obtain ⟨j_7, ej_7, hF_8⟩ := bnd_e hF_4
  clear hF_4
  have Jj_7 : ∀ (t_5 : Int32) (σ_6 : HS), j_7 t_5 σ_6 = some res → ∀ (H : Heap) (locs : List Loc), va_P (dC, dI) vwCl (b_e cB cC cI cJ cZ oA rA σ_6 ++ b_k cB cC cI cJ cZ oA rA σ_6 ++ b_p cB cC cI cJ cZ oA rA σ_6 ++ b_o cB cC cI cJ cZ oA rA σ_6 ++ b_s cB cC cI cJ cZ oA rA σ_6 ++ b_c cB cC cI cJ cZ oA rA σ_6 ++ b_t cB cC cI cJ cZ oA rA σ_6 ++ b_d cB cC cI cJ cZ oA rA σ_6) H → va_S A s.heap H locs → ∀ ls : Array Slot, lv_has ls 4 [(0, .ref (oA 11)), (1, .int p0)] → W p l e (headSpec (g_ws yX8_tellInside cX8_tellInside 4 none) { frames := 8, cells := 0, slots := 0, locals := 197 }).room s m ([.ref (oA 11), .int p0] : List Value).toArray below meth c H locs 0 0 (MQ below (va_Qv (fun (_ : Unit) => True) (g_Bo (dC, dI) A (fun (_ : Unit) => (b_e cB cC cI cJ cZ oA rA res.2 ++ b_k cB cC cI cJ cZ oA rA res.2 ++ b_p cB cC cI cJ cZ oA rA res.2 ++ b_o cB cC cI cJ cZ oA rA res.2 ++ b_s cB cC cI cJ cZ oA rA res.2 ++ b_c cB cC cI cJ cZ oA rA res.2 ++ b_t cB cC cI cJ cZ oA rA res.2 ++ b_d cB cC cI cJ cZ oA rA res.2))) A) ([.ref (oA 11), .int p0] : List Value).toArray s 0 0 A) (F0 m 26 ls [.int t_5]) := by
    intro t_5 σ_6 hF0 H locs hP hS ls hl
    subst ej_7
    have hF_9 := hF0
    clear hF0
    refine lv_istore_n (lv' := [(2, .int t_5), (0, .ref (oA 11)), (1, .int p0)]) hx hb dX8_tellInside_26 rfl hl (by decide) rfl (fun ls hl => ?_)
    refine lv_iconst (v := 0) hx hb dX8_tellInside_27 (by decide +kernel) ?_
    refine lv_istore_n (lv' := [(3, .int 0), (2, .int t_5), (0, .ref (oA 11)), (1, .int p0)]) hx hb dX8_tellInside_28 rfl hl (by decide) rfl (fun ls hl => ?_)
    refine loopF_ind (P := fun (s_10 : Int32 × Int32 × HS) => ∀ (H : Heap) (locs : List Loc), va_P (dC, dI) vwCl (b_e cB cC cI cJ cZ oA rA s_10.2.2 ++ b_k cB cC cI cJ cZ oA rA s_10.2.2 ++ b_p cB cC cI cJ cZ oA rA s_10.2.2 ++ b_o cB cC cI cJ cZ oA rA s_10.2.2 ++ b_s cB cC cI cJ cZ oA rA s_10.2.2 ++ b_c cB cC cI cJ cZ oA rA s_10.2.2 ++ b_t cB cC cI cJ cZ oA rA s_10.2.2 ++ b_d cB cC cI cJ cZ oA rA s_10.2.2) H → va_S A s.heap H locs → ∀ ls : Array Slot, lv_has ls 4 [(0, .ref (oA 11)), (1, .int p0), (2, .int s_10.1), (3, .int s_10.2.1)] → W p l e (headSpec (g_ws yX8_tellInside cX8_tellInside 4 none) { frames := 8, cells := 0, slots := 0, locals := 197 }).room s m ([.ref (oA 11), .int p0] : List Value).toArray below meth c H locs 0 0 (MQ below (va_Qv (fun (_ : Unit) => True) (g_Bo (dC, dI) A (fun (_ : Unit) => (b_e cB cC cI cJ cZ oA rA res.2 ++ b_k cB cC cI cJ cZ oA rA res.2 ++ b_p cB cC cI cJ cZ oA rA res.2 ++ b_o cB cC cI cJ cZ oA rA res.2 ++ b_s cB cC cI cJ cZ oA rA res.2 ++ b_c cB cC cI cJ cZ oA rA res.2 ++ b_t cB cC cI cJ cZ oA rA res.2 ++ b_d cB cC cI cJ cZ oA rA res.2))) A) ([.ref (oA 11), .int p0] : List Value).toArray s 0 0 A) (F0 m 29 ls [])) ?_ _ _ hF_9 _ _ hP hS ls (lv_sub hl [2, 3, 1, 0] rfl)
    intro again_11 s_10 ih_12 hF_13
    intro H locs hP hS ls hl
    refine lv_iload_n hx hb dX8_tellInside_29 rfl (lv_at hl 3 rfl) ?_
    refine lv_bipush (v := 120) hx hb dX8_tellInside_30 (by decide +kernel) ?_
    refine lv_icmp_ge (tgt := 133) hx hb dX8_tellInside_32 (by decide) (fun c_14 => ?_) (fun c_14 => ?_)
    · have hF_15 := ipos c_14 hF_13
      clear hF_13
      have h9 := Option.some.inj hF_15
      subst h9
      exact W.vret hx hb hr (fun t ht hW => ⟨⟨(), rfl, trivial, m_end ht hP, hDD _⟩, hS.F ht⟩) hS.2.2 dX8_tellInside_133
    · have hF_16 := ineg c_14 hF_13
      clear hF_13
      refine lv_iload_n hx hb dX8_tellInside_35 rfl (lv_at hl 2 rfl) ?_
      refine lv_if_eq (tgt := 133) hx hb dX8_tellInside_36 (by decide) (fun c_17 => ?_) (fun c_17 => ?_)
      · have hF_18 := ipos c_17 hF_16
        clear hF_16
        have h9 := Option.some.inj hF_18
        subst h9
        exact W.vret hx hb hr (fun t ht hW => ⟨⟨(), rfl, trivial, m_end ht hP, hDD _⟩, hS.F ht⟩) hS.2.2 dX8_tellInside_133
      · have hF_19 := ineg c_17 hF_16
        clear hF_16
        refine lv_aload_n hx hb dX8_tellInside_39 rfl (lv_at hl 0 rfl) ?_
        refine va_get (D := (dC, dI)) (ci := 8) (v := .ref (oA 9)) (C := RX8) (T := TX8) (N := 16) hx hb hts ii_X8 hown hK hP 0 rfl rfl 0 (by decide) (hts (.fieldLink RX8 22 "StoryHouse$Teller" "play" "LStoryHouse$Play;") wq_286) (fun _ h9 => h9) rfl dX8_tellInside_40 ?_
        refine lv_iload_n hx hb dX8_tellInside_43 rfl (lv_at hl 2 rfl) ?_
        refine lv_iconst (v := 2) hx hb dX8_tellInside_44 (by decide +kernel) ?_
        obtain ⟨u_20, hu_20, hF_21⟩ := Option.bind_eq_some_iff.mp hF_19
        clear hF_19
        have hPc := hP.sub (ws' := (b_p cB cC cI cJ cZ oA rA s_10.2.2)) [9, 10, 11, 12, 13, 14, 15, 16] rfl
        have hDc := (hDD s_10.2.2).sub (ws' := (b_p cB cC cI cJ cZ oA rA s_10.2.2)) [9, 10, 11, 12, 13, 14, 15, 16] (by decide +kernel) rfl
        have hFc := va_free (wc := (b_p cB cC cI cJ cZ oA rA s_10.2.2)) (hDD s_10.2.2) hS hA [9, 10, 11, 12, 13, 14, 15, 16] rfl
        refine g_ofi (wc := (b_p cB cC cI cJ cZ oA rA s_10.2.2)) (wr := (b_e cB cC cI cJ cZ oA rA s_10.2.2 ++ b_k cB cC cI cJ cZ oA rA s_10.2.2 ++ b_o cB cC cI cJ cZ oA rA s_10.2.2 ++ b_s cB cC cI cJ cZ oA rA s_10.2.2 ++ b_c cB cC cI cJ cZ oA rA s_10.2.2 ++ b_t cB cC cI cJ cZ oA rA s_10.2.2 ++ b_d cB cC cI cJ cZ oA rA s_10.2.2)) hP (hDD s_10.2.2) hS hFc [9, 10, 11, 12, 13, 14, 15, 16] [0, 1, 2, 3, 4, 5, 6, 7, 8, 17, 18, 19, 20, 21, 22, 23, 24, 25, 26, 27, 28, 29, 30, 31, 32, 33, 34, 35, 36, 37, 38, 39, 40, 41, 42, 43, 44, 45, 46, 47, 48, 49] rfl rfl (by decide +kernel) (by decide +kernel) (va_runV (As := [.int s_10.1, .int 2]) (rest := []) ⟨hx, hb, hml, hown, hts⟩ (k_X6_bears l dC dI cB cC cI cJ cZ cP oA rA H.size  s_10.1 2 s_10.2.2 _ hu_20) (cwV 2 hts (g_gV wq_1030 wq_987 wq_988 wq_10 wq_989) rfl rfl rfl (by decide +kernel) ⟨Nat.le_of_ble_eq_true rfl, Nat.le_of_ble_eq_true rfl⟩) (g_preV g_bl0 hK hPc hDc hS hE hFc g_to0 (q0 := 0) (ci := 6) rfl rfl) rfl rfl hl.1 rfl (lv_room (Nat.le_of_ble_eq_true rfl)) dX8_tellInside_45 ⟨Nat.le_of_ble_eq_true rfl, Nat.le_of_ble_eq_true rfl⟩) (fun r9 u9 H locs hw9 hP' hD' hS => ?_)
        clear hPc hDc hFc
        subst hw9
        obtain ⟨σ_22, eσ_22, hF_23⟩ := bnd_e hF_21
        clear hF_21
        have hP : va_P (dC, dI) vwCl (b_e cB cC cI cJ cZ oA rA σ_22 ++ b_k cB cC cI cJ cZ oA rA σ_22 ++ b_p cB cC cI cJ cZ oA rA σ_22 ++ b_o cB cC cI cJ cZ oA rA σ_22 ++ b_s cB cC cI cJ cZ oA rA σ_22 ++ b_c cB cC cI cJ cZ oA rA σ_22 ++ b_t cB cC cI cJ cZ oA rA σ_22 ++ b_d cB cC cI cJ cZ oA rA σ_22) H := by rw [eσ_22]; exact hP'.sub [0, 1, 2, 3, 4, 5, 6, 7, 8, 42, 43, 44, 45, 46, 47, 48, 49, 9, 10, 11, 12, 13, 14, 15, 16, 17, 18, 19, 20, 21, 22, 23, 24, 25, 26, 27, 28, 29, 30, 31, 32, 33, 34, 35, 36, 37, 38, 39, 40, 41] rfl
        clear hP' hD'
        obtain ⟨j_25, ej_25, hF_26⟩ := bnd_e hF_23
        clear hF_23
        have Jj_25 : ∀  (σ_24 : HS), j_25  σ_24 = some res → ∀ (H : Heap) (locs : List Loc), va_P (dC, dI) vwCl (b_e cB cC cI cJ cZ oA rA σ_24 ++ b_k cB cC cI cJ cZ oA rA σ_24 ++ b_p cB cC cI cJ cZ oA rA σ_24 ++ b_o cB cC cI cJ cZ oA rA σ_24 ++ b_s cB cC cI cJ cZ oA rA σ_24 ++ b_c cB cC cI cJ cZ oA rA σ_24 ++ b_t cB cC cI cJ cZ oA rA σ_24 ++ b_d cB cC cI cJ cZ oA rA σ_24) H → va_S A s.heap H locs → ∀ ls : Array Slot, lv_has ls 4 [(0, .ref (oA 11)), (1, .int p0), (2, .int s_10.1), (3, .int s_10.2.1)] → W p l e (headSpec (g_ws yX8_tellInside cX8_tellInside 4 none) { frames := 8, cells := 0, slots := 0, locals := 197 }).room s m ([.ref (oA 11), .int p0] : List Value).toArray below meth c H locs 0 0 (MQ below (va_Qv (fun (_ : Unit) => True) (g_Bo (dC, dI) A (fun (_ : Unit) => (b_e cB cC cI cJ cZ oA rA res.2 ++ b_k cB cC cI cJ cZ oA rA res.2 ++ b_p cB cC cI cJ cZ oA rA res.2 ++ b_o cB cC cI cJ cZ oA rA res.2 ++ b_s cB cC cI cJ cZ oA rA res.2 ++ b_c cB cC cI cJ cZ oA rA res.2 ++ b_t cB cC cI cJ cZ oA rA res.2 ++ b_d cB cC cI cJ cZ oA rA res.2))) A) ([.ref (oA 11), .int p0] : List Value).toArray s 0 0 A) (F0 m 115 ls []) := by
          intro  σ_24 hF0 H locs hP hS ls hl
          subst ej_25
          have hF_27 := hF0
          clear hF0
          refine lv_aload_n hx hb dX8_tellInside_115 rfl (lv_at hl 0 rfl) ?_
          refine va_get (D := (dC, dI)) (ci := 8) (v := .ref (oA 9)) (C := RX8) (T := TX8) (N := 16) hx hb hts ii_X8 hown hK hP 0 rfl rfl 0 (by decide) (hts (.fieldLink RX8 22 "StoryHouse$Teller" "play" "LStoryHouse$Play;") wq_286) (fun _ h9 => h9) rfl dX8_tellInside_116 ?_
          refine va_get (D := (dC, dI)) (ci := 6) (v := .ref (rA 9 2)) (C := RX6) (T := TX6) (N := 12) hx hb hts ii_X6 hown hK hP 9 rfl rfl 2 (by decide) (hts (.fieldLink RX8 208 "StoryHouse$Play" "nexts" "[I") wq_227) (fun _ h9 => h9) rfl dX8_tellInside_119 ?_
          refine lv_iload_n hx hb dX8_tellInside_122 rfl (lv_at hl 2 rfl) ?_
          have hPc := hP.sub (ws' := [(rA 9 2, .inl (cI, 121, .inl ((σ_24 9).2.1 2)))]) [12] rfl
          have hDc := (hDD σ_24).sub (ws' := [(rA 9 2, .inl (cI, 121, .inl ((σ_24 9).2.1 2)))]) [12] (by decide +kernel) rfl
          have hFc := va_free (wc := [(rA 9 2, .inl (cI, 121, .inl ((σ_24 9).2.1 2)))]) (hDD σ_24) hS hA [12] rfl
          refine g_ofi (wc := [(rA 9 2, .inl (cI, 121, .inl ((σ_24 9).2.1 2)))]) (wr := (((b_e cB cC cI cJ cZ oA rA σ_24 ++ b_k cB cC cI cJ cZ oA rA σ_24 ++ b_p cB cC cI cJ cZ oA rA σ_24 ++ b_o cB cC cI cJ cZ oA rA σ_24 ++ b_s cB cC cI cJ cZ oA rA σ_24 ++ b_c cB cC cI cJ cZ oA rA σ_24 ++ b_t cB cC cI cJ cZ oA rA σ_24 ++ b_d cB cC cI cJ cZ oA rA σ_24)).eraseIdx 12)) hP (hDD σ_24) hS hFc [12] [0, 1, 2, 3, 4, 5, 6, 7, 8, 9, 10, 11, 13, 14, 15, 16, 17, 18, 19, 20, 21, 22, 23, 24, 25, 26, 27, 28, 29, 30, 31, 32, 33, 34, 35, 36, 37, 38, 39, 40, 41, 42, 43, 44, 45, 46, 47, 48, 49] rfl rfl (by decide +kernel) (by decide +kernel) (va_runSN (As := [.ref (rA 9 2), .int s_10.1]) (rest := []) ⟨hx, hb, hml, hown, hts⟩ (c_X11_at l dC dI cB cC cI cJ cZ cP H.size (rA 9 2) s_10.1 121 ((σ_24 9).2.1 2) (by decide)) ⟨va_cnB 2 hts (g_gA wq_407) rfl rfl rfl (hN.at 31 rfl) (hts (.initialized RX11) wq_1) (by decide +kernel) ⟨Nat.le_of_ble_eq_true rfl, Nat.le_of_ble_eq_true rfl⟩, (hts (.static yX11_at) wq_406), trivial⟩ (g_preS g_bl0 hK hPc hDc hS hE hFc g_to0) rfl rfl hl.1 rfl (lv_room (Nat.le_of_ble_eq_true rfl)) dX8_tellInside_123 ⟨Nat.le_of_ble_eq_true rfl, Nat.le_of_ble_eq_true rfl⟩) (fun r9 u9 H locs hw9 hP' hD' hS => ?_)
          clear hPc hDc hFc hD'
          have hP : va_P (dC, dI) vwCl (b_e cB cC cI cJ cZ oA rA σ_24 ++ b_k cB cC cI cJ cZ oA rA σ_24 ++ b_p cB cC cI cJ cZ oA rA σ_24 ++ b_o cB cC cI cJ cZ oA rA σ_24 ++ b_s cB cC cI cJ cZ oA rA σ_24 ++ b_c cB cC cI cJ cZ oA rA σ_24 ++ b_t cB cC cI cJ cZ oA rA σ_24 ++ b_d cB cC cI cJ cZ oA rA σ_24) H := hP'.sub [0, 1, 2, 3, 4, 5, 6, 7, 8, 9, 10, 11, 49, 12, 13, 14, 15, 16, 17, 18, 19, 20, 21, 22, 23, 24, 25, 26, 27, 28, 29, 30, 31, 32, 33, 34, 35, 36, 37, 38, 39, 40, 41, 42, 43, 44, 45, 46, 47, 48] rfl
          clear hP'
          subst hw9
          obtain ⟨x_28, ex_28, hF_29⟩ := bnd_e hF_27
          clear hF_27
          refine m_top ex_28 ?_
          refine lv_istore_n (lv' := [(2, .int x_28), (0, .ref (oA 11)), (1, .int p0), (3, .int s_10.2.1)]) hx hb dX8_tellInside_126 rfl hl (by decide) rfl (fun ls hl => ?_)
          obtain ⟨x_30, ex_30, hF_31⟩ := bnd_e hF_29
          clear hF_29
          refine lv_iinc (v := x_30) (lv' := [(3, .int x_30), (2, .int x_28), (0, .ref (oA 11)), (1, .int p0)]) hx hb dX8_tellInside_127 hl (k := 3) rfl (by rw [ex_30]; rfl) (by decide) rfl (fun ls hl => ?_)
          refine lv_goto (tgt := 29) hx hb dX8_tellInside_130 (by decide) ?_
          exact ih_12 (x_28, x_30, σ_24) hF_31 _ _ hP hS ls (lv_sub hl [2, 3, 1, 0] rfl)
        refine lv_if_ne (tgt := 115) hx hb dX8_tellInside_48 (by decide) (fun c_32 => ?_) (fun c_32 => ?_)
        · have hF_87 := ineg c_32 hF_26
          clear hF_26
          exact Jj_25  σ_22 hF_87 _ _ hP hS ls (lv_sub hl [0, 1, 2, 3] rfl)
        · have hF_33 := ipos c_32 hF_26
          clear hF_26
          refine lv_aload_n hx hb dX8_tellInside_51 rfl (lv_at hl 0 rfl) ?_
          refine va_get (D := (dC, dI)) (ci := 8) (v := .ref (oA 8)) (C := RX8) (T := TX8) (N := 16) hx hb hts ii_X8 hown hK hP 0 rfl rfl 1 (by decide) (hts (.fieldLink RX8 26 "StoryHouse$Teller" "told" "LStoryHouse$Out;") wq_287) (fun _ h9 => h9) rfl dX8_tellInside_52 ?_
          refine lv_aload_n hx hb dX8_tellInside_55 rfl (lv_at hl 0 rfl) ?_
          refine va_get (D := (dC, dI)) (ci := 8) (v := .ref (oA 9)) (C := RX8) (T := TX8) (N := 16) hx hb hts ii_X8 hown hK hP 0 rfl rfl 0 (by decide) (hts (.fieldLink RX8 22 "StoryHouse$Teller" "play" "LStoryHouse$Play;") wq_286) (fun _ h9 => h9) rfl dX8_tellInside_56 ?_
          refine lv_iload_n hx hb dX8_tellInside_59 rfl (lv_at hl 1 rfl) ?_
          refine lv_iconst (v := 5) hx hb dX8_tellInside_60 (by decide +kernel) ?_
          obtain ⟨u_34, hu_34, hF_35⟩ := Option.bind_eq_some_iff.mp hF_33
          clear hF_33
          have hPc := hP.sub (ws' := (b_p cB cC cI cJ cZ oA rA σ_22)) [9, 10, 11, 12, 13, 14, 15, 16] rfl
          have hDc := (hDD σ_22).sub (ws' := (b_p cB cC cI cJ cZ oA rA σ_22)) [9, 10, 11, 12, 13, 14, 15, 16] (by decide +kernel) rfl
          have hFc := va_free (wc := (b_p cB cC cI cJ cZ oA rA σ_22)) (hDD σ_22) hS hA [9, 10, 11, 12, 13, 14, 15, 16] rfl
          refine g_ofi (wc := (b_p cB cC cI cJ cZ oA rA σ_22)) (wr := (b_e cB cC cI cJ cZ oA rA σ_22 ++ b_k cB cC cI cJ cZ oA rA σ_22 ++ b_o cB cC cI cJ cZ oA rA σ_22 ++ b_s cB cC cI cJ cZ oA rA σ_22 ++ b_c cB cC cI cJ cZ oA rA σ_22 ++ b_t cB cC cI cJ cZ oA rA σ_22 ++ b_d cB cC cI cJ cZ oA rA σ_22)) hP (hDD σ_22) hS hFc [9, 10, 11, 12, 13, 14, 15, 16] [0, 1, 2, 3, 4, 5, 6, 7, 8, 17, 18, 19, 20, 21, 22, 23, 24, 25, 26, 27, 28, 29, 30, 31, 32, 33, 34, 35, 36, 37, 38, 39, 40, 41, 42, 43, 44, 45, 46, 47, 48, 49] rfl rfl (by decide +kernel) (by decide +kernel) (va_runV (As := [.int p0, .int 5]) (rest := [.ref (oA 8)]) ⟨hx, hb, hml, hown, hts⟩ (k_X6_bears l dC dI cB cC cI cJ cZ cP oA rA H.size  p0 5 σ_22 _ hu_34) (cwV 2 hts (g_gV wq_1030 wq_987 wq_988 wq_10 wq_989) rfl rfl rfl (by decide +kernel) ⟨Nat.le_of_ble_eq_true rfl, Nat.le_of_ble_eq_true rfl⟩) (g_preV g_bl0 hK hPc hDc hS hE hFc g_to0 (q0 := 0) (ci := 6) rfl rfl) rfl rfl hl.1 rfl (lv_room (Nat.le_of_ble_eq_true rfl)) dX8_tellInside_61 ⟨Nat.le_of_ble_eq_true rfl, Nat.le_of_ble_eq_true rfl⟩) (fun r9 u9 H locs hw9 hP' hD' hS => ?_)
          clear hPc hDc hFc
          subst hw9
          obtain ⟨σ_36, eσ_36, hF_37⟩ := bnd_e hF_35
          clear hF_35
          have hP : va_P (dC, dI) vwCl (b_e cB cC cI cJ cZ oA rA σ_36 ++ b_k cB cC cI cJ cZ oA rA σ_36 ++ b_p cB cC cI cJ cZ oA rA σ_36 ++ b_o cB cC cI cJ cZ oA rA σ_36 ++ b_s cB cC cI cJ cZ oA rA σ_36 ++ b_c cB cC cI cJ cZ oA rA σ_36 ++ b_t cB cC cI cJ cZ oA rA σ_36 ++ b_d cB cC cI cJ cZ oA rA σ_36) H := by rw [eσ_36]; exact hP'.sub [0, 1, 2, 3, 4, 5, 6, 7, 8, 42, 43, 44, 45, 46, 47, 48, 49, 9, 10, 11, 12, 13, 14, 15, 16, 17, 18, 19, 20, 21, 22, 23, 24, 25, 26, 27, 28, 29, 30, 31, 32, 33, 34, 35, 36, 37, 38, 39, 40, 41] rfl
          clear hP' hD'
          refine lv_if_eq (tgt := 73) hx hb dX8_tellInside_64 (by decide) (fun c_38 => ?_) (fun c_38 => ?_)
          · have hF_39 := ipos c_38 hF_37
            clear hF_37
            obtain ⟨q_40, vq_40, hRq_40, hSq_40⟩ := hE.2.2.2.2 _ (List.mem_of_getElem? (i := 32) rfl)
            refine g_ldcwS (own := RX8) (tx := "In ") hx hb hown hRq_40 dX8_tellInside_73 ?_
            obtain ⟨u_41, hu_41, hF_42⟩ := Option.bind_eq_some_iff.mp hF_39
            clear hF_39
            have hPc := hP.sub (ws' := (b_o cB cC cI cJ cZ oA rA σ_36)) [17, 18] rfl
            have hDc := (hDD σ_36).sub (ws' := (b_o cB cC cI cJ cZ oA rA σ_36)) [17, 18] (by decide +kernel) rfl
            have hFc := va_free (wc := (b_o cB cC cI cJ cZ oA rA σ_36)) (hDD σ_36) hS hA [17, 18] rfl
            refine g_ofv (wc := (b_o cB cC cI cJ cZ oA rA σ_36)) (wr := (b_e cB cC cI cJ cZ oA rA σ_36 ++ b_k cB cC cI cJ cZ oA rA σ_36 ++ b_p cB cC cI cJ cZ oA rA σ_36 ++ b_s cB cC cI cJ cZ oA rA σ_36 ++ b_c cB cC cI cJ cZ oA rA σ_36 ++ b_t cB cC cI cJ cZ oA rA σ_36 ++ b_d cB cC cI cJ cZ oA rA σ_36)) hP (hDD σ_36) hS hFc [17, 18] [0, 1, 2, 3, 4, 5, 6, 7, 8, 9, 10, 11, 12, 13, 14, 15, 16, 19, 20, 21, 22, 23, 24, 25, 26, 27, 28, 29, 30, 31, 32, 33, 34, 35, 36, 37, 38, 39, 40, 41, 42, 43, 44, 45, 46, 47, 48, 49] rfl rfl (by decide +kernel) (by decide +kernel) (va_runV (As := [.ref q_40]) (rest := []) ⟨hx, hb, hml, hown, hts⟩ (k_X5_text l dC dI cB cC cI cJ cZ cP oA rA H.size q_40 _ ([73, 110, 32] : List Int32) σ_36 _ hu_41) (cwV 1 hts (g_gV wq_1031 wq_1003 wq_1004 wq_9 wq_1005) rfl rfl rfl (by decide +kernel) ⟨Nat.le_of_ble_eq_true rfl, Nat.le_of_ble_eq_true rfl⟩) (g_preV g_blS hK hPc hDc hS hE hFc (g_toS hSq_40 hS hFc) (q0 := 0) (ci := 5) rfl rfl) rfl rfl hl.1 rfl (lv_room (Nat.le_of_ble_eq_true rfl)) dX8_tellInside_76 ⟨Nat.le_of_ble_eq_true rfl, Nat.le_of_ble_eq_true rfl⟩) (fun u9 H locs hw9 hP' hD' hS => ?_)
            clear hPc hDc hFc
            obtain ⟨σ_43, eσ_43, hF_44⟩ := bnd_e hF_42
            clear hF_42
            have hP : va_P (dC, dI) vwCl (b_e cB cC cI cJ cZ oA rA σ_43 ++ b_k cB cC cI cJ cZ oA rA σ_43 ++ b_p cB cC cI cJ cZ oA rA σ_43 ++ b_o cB cC cI cJ cZ oA rA σ_43 ++ b_s cB cC cI cJ cZ oA rA σ_43 ++ b_c cB cC cI cJ cZ oA rA σ_43 ++ b_t cB cC cI cJ cZ oA rA σ_43 ++ b_d cB cC cI cJ cZ oA rA σ_43) H := by rw [eσ_43]; exact hP'.sub [0, 1, 2, 3, 4, 5, 6, 7, 8, 9, 10, 11, 12, 13, 14, 15, 16, 48, 49, 17, 18, 19, 20, 21, 22, 23, 24, 25, 26, 27, 28, 29, 30, 31, 32, 33, 34, 35, 36, 37, 38, 39, 40, 41, 42, 43, 44, 45, 46, 47] rfl
            clear hP' hD'
            refine lv_aload_n hx hb dX8_tellInside_79 rfl (lv_at hl 0 rfl) ?_
            refine va_get (D := (dC, dI)) (ci := 8) (v := .ref (oA 10)) (C := RX8) (T := TX8) (N := 16) hx hb hts ii_X8 hown hK hP 0 rfl rfl 2 (by decide) (hts (.fieldLink RX8 30 "StoryHouse$Teller" "machine" "LStoryHouse$Machine;") wq_288) (fun _ h9 => h9) rfl dX8_tellInside_80 ?_
            refine lv_iload_n hx hb dX8_tellInside_83 rfl (lv_at hl 1 rfl) ?_
            obtain ⟨u_45, hu_45, hF_46⟩ := Option.bind_eq_some_iff.mp hF_44
            clear hF_44
            have hPc := hP.sub (ws' := (b_k cB cC cI cJ cZ oA rA σ_43 ++ b_p cB cC cI cJ cZ oA rA σ_43 ++ b_o cB cC cI cJ cZ oA rA σ_43 ++ b_s cB cC cI cJ cZ oA rA σ_43 ++ b_c cB cC cI cJ cZ oA rA σ_43 ++ b_t cB cC cI cJ cZ oA rA σ_43 ++ b_d cB cC cI cJ cZ oA rA σ_43)) [4, 5, 6, 7, 8, 9, 10, 11, 12, 13, 14, 15, 16, 17, 18, 19, 20, 21, 22, 23, 24, 25, 26, 27, 28, 29, 30, 31, 32, 33, 34, 35, 36, 37, 38, 39, 40, 41, 42, 43, 44, 45, 46, 47, 48, 49] rfl
            have hDc := (hDD σ_43).sub (ws' := (b_k cB cC cI cJ cZ oA rA σ_43 ++ b_p cB cC cI cJ cZ oA rA σ_43 ++ b_o cB cC cI cJ cZ oA rA σ_43 ++ b_s cB cC cI cJ cZ oA rA σ_43 ++ b_c cB cC cI cJ cZ oA rA σ_43 ++ b_t cB cC cI cJ cZ oA rA σ_43 ++ b_d cB cC cI cJ cZ oA rA σ_43)) [4, 5, 6, 7, 8, 9, 10, 11, 12, 13, 14, 15, 16, 17, 18, 19, 20, 21, 22, 23, 24, 25, 26, 27, 28, 29, 30, 31, 32, 33, 34, 35, 36, 37, 38, 39, 40, 41, 42, 43, 44, 45, 46, 47, 48, 49] (by decide +kernel) rfl
            have hFc := va_free (wc := (b_k cB cC cI cJ cZ oA rA σ_43 ++ b_p cB cC cI cJ cZ oA rA σ_43 ++ b_o cB cC cI cJ cZ oA rA σ_43 ++ b_s cB cC cI cJ cZ oA rA σ_43 ++ b_c cB cC cI cJ cZ oA rA σ_43 ++ b_t cB cC cI cJ cZ oA rA σ_43 ++ b_d cB cC cI cJ cZ oA rA σ_43)) (hDD σ_43) hS hA [4, 5, 6, 7, 8, 9, 10, 11, 12, 13, 14, 15, 16, 17, 18, 19, 20, 21, 22, 23, 24, 25, 26, 27, 28, 29, 30, 31, 32, 33, 34, 35, 36, 37, 38, 39, 40, 41, 42, 43, 44, 45, 46, 47, 48, 49] rfl
            refine g_ofv (wc := (b_k cB cC cI cJ cZ oA rA σ_43 ++ b_p cB cC cI cJ cZ oA rA σ_43 ++ b_o cB cC cI cJ cZ oA rA σ_43 ++ b_s cB cC cI cJ cZ oA rA σ_43 ++ b_c cB cC cI cJ cZ oA rA σ_43 ++ b_t cB cC cI cJ cZ oA rA σ_43 ++ b_d cB cC cI cJ cZ oA rA σ_43)) (wr := (b_e cB cC cI cJ cZ oA rA σ_43)) hP (hDD σ_43) hS hFc [4, 5, 6, 7, 8, 9, 10, 11, 12, 13, 14, 15, 16, 17, 18, 19, 20, 21, 22, 23, 24, 25, 26, 27, 28, 29, 30, 31, 32, 33, 34, 35, 36, 37, 38, 39, 40, 41, 42, 43, 44, 45, 46, 47, 48, 49] [0, 1, 2, 3] rfl rfl (by decide +kernel) (by decide +kernel) (va_runV (As := [.int p0]) (rest := []) ⟨hx, hb, hml, hown, hts⟩ (k_X3_sayName l dC dI cB cC cI cJ cZ cP oA rA H.size  p0 σ_43 _ hu_45) (cwV 1 hts (g_gV wq_1013 wq_1014 wq_1015 wq_11 wq_1016) rfl rfl rfl (by decide +kernel) ⟨Nat.le_of_ble_eq_true rfl, Nat.le_of_ble_eq_true rfl⟩) (g_preV g_bl0 hK hPc hDc hS hE hFc g_to0 (q0 := 0) (ci := 3) rfl rfl) rfl rfl hl.1 rfl (lv_room (Nat.le_of_ble_eq_true rfl)) dX8_tellInside_84 ⟨Nat.le_of_ble_eq_true rfl, Nat.le_of_ble_eq_true rfl⟩) (fun u9 H locs hw9 hP' hD' hS => ?_)
            clear hPc hDc hFc
            obtain ⟨σ_47, eσ_47, hF_48⟩ := bnd_e hF_46
            clear hF_46
            have hP : va_P (dC, dI) vwCl (b_e cB cC cI cJ cZ oA rA σ_47 ++ b_k cB cC cI cJ cZ oA rA σ_47 ++ b_p cB cC cI cJ cZ oA rA σ_47 ++ b_o cB cC cI cJ cZ oA rA σ_47 ++ b_s cB cC cI cJ cZ oA rA σ_47 ++ b_c cB cC cI cJ cZ oA rA σ_47 ++ b_t cB cC cI cJ cZ oA rA σ_47 ++ b_d cB cC cI cJ cZ oA rA σ_47) H := by rw [eσ_47]; exact hP'.sub [0, 1, 2, 3, 4, 5, 6, 7, 8, 9, 10, 11, 12, 13, 14, 15, 16, 17, 18, 19, 20, 21, 22, 23, 24, 25, 26, 27, 28, 29, 30, 31, 32, 33, 34, 35, 36, 37, 38, 39, 40, 41, 42, 43, 44, 45, 46, 47, 48, 49] rfl
            clear hP' hD'
            refine lv_aload_n hx hb dX8_tellInside_87 rfl (lv_at hl 0 rfl) ?_
            refine va_get (D := (dC, dI)) (ci := 8) (v := .ref (oA 8)) (C := RX8) (T := TX8) (N := 16) hx hb hts ii_X8 hown hK hP 0 rfl rfl 1 (by decide) (hts (.fieldLink RX8 26 "StoryHouse$Teller" "told" "LStoryHouse$Out;") wq_287) (fun _ h9 => h9) rfl dX8_tellInside_88 ?_
            obtain ⟨q_49, vq_49, hRq_49, hSq_49⟩ := hE.2.2.2.2 _ (List.mem_of_getElem? (i := 33) rfl)
            refine g_ldcwS (own := RX8) (tx := " there is ") hx hb hown hRq_49 dX8_tellInside_91 ?_
            obtain ⟨u_50, hu_50, hF_51⟩ := Option.bind_eq_some_iff.mp hF_48
            clear hF_48
            have hPc := hP.sub (ws' := (b_o cB cC cI cJ cZ oA rA σ_47)) [17, 18] rfl
            have hDc := (hDD σ_47).sub (ws' := (b_o cB cC cI cJ cZ oA rA σ_47)) [17, 18] (by decide +kernel) rfl
            have hFc := va_free (wc := (b_o cB cC cI cJ cZ oA rA σ_47)) (hDD σ_47) hS hA [17, 18] rfl
            refine g_ofv (wc := (b_o cB cC cI cJ cZ oA rA σ_47)) (wr := (b_e cB cC cI cJ cZ oA rA σ_47 ++ b_k cB cC cI cJ cZ oA rA σ_47 ++ b_p cB cC cI cJ cZ oA rA σ_47 ++ b_s cB cC cI cJ cZ oA rA σ_47 ++ b_c cB cC cI cJ cZ oA rA σ_47 ++ b_t cB cC cI cJ cZ oA rA σ_47 ++ b_d cB cC cI cJ cZ oA rA σ_47)) hP (hDD σ_47) hS hFc [17, 18] [0, 1, 2, 3, 4, 5, 6, 7, 8, 9, 10, 11, 12, 13, 14, 15, 16, 19, 20, 21, 22, 23, 24, 25, 26, 27, 28, 29, 30, 31, 32, 33, 34, 35, 36, 37, 38, 39, 40, 41, 42, 43, 44, 45, 46, 47, 48, 49] rfl rfl (by decide +kernel) (by decide +kernel) (va_runV (As := [.ref q_49]) (rest := []) ⟨hx, hb, hml, hown, hts⟩ (k_X5_text l dC dI cB cC cI cJ cZ cP oA rA H.size q_49 _ ([32, 116, 104, 101, 114, 101, 32, 105, 115, 32] : List Int32) σ_47 _ hu_50) (cwV 1 hts (g_gV wq_1031 wq_1003 wq_1004 wq_9 wq_1005) rfl rfl rfl (by decide +kernel) ⟨Nat.le_of_ble_eq_true rfl, Nat.le_of_ble_eq_true rfl⟩) (g_preV g_blS hK hPc hDc hS hE hFc (g_toS hSq_49 hS hFc) (q0 := 0) (ci := 5) rfl rfl) rfl rfl hl.1 rfl (lv_room (Nat.le_of_ble_eq_true rfl)) dX8_tellInside_94 ⟨Nat.le_of_ble_eq_true rfl, Nat.le_of_ble_eq_true rfl⟩) (fun u9 H locs hw9 hP' hD' hS => ?_)
            clear hPc hDc hFc
            obtain ⟨σ_52, eσ_52, hF_53⟩ := bnd_e hF_51
            clear hF_51
            have hP : va_P (dC, dI) vwCl (b_e cB cC cI cJ cZ oA rA σ_52 ++ b_k cB cC cI cJ cZ oA rA σ_52 ++ b_p cB cC cI cJ cZ oA rA σ_52 ++ b_o cB cC cI cJ cZ oA rA σ_52 ++ b_s cB cC cI cJ cZ oA rA σ_52 ++ b_c cB cC cI cJ cZ oA rA σ_52 ++ b_t cB cC cI cJ cZ oA rA σ_52 ++ b_d cB cC cI cJ cZ oA rA σ_52) H := by rw [eσ_52]; exact hP'.sub [0, 1, 2, 3, 4, 5, 6, 7, 8, 9, 10, 11, 12, 13, 14, 15, 16, 48, 49, 17, 18, 19, 20, 21, 22, 23, 24, 25, 26, 27, 28, 29, 30, 31, 32, 33, 34, 35, 36, 37, 38, 39, 40, 41, 42, 43, 44, 45, 46, 47] rfl
            clear hP' hD'
            refine lv_aload_n hx hb dX8_tellInside_97 rfl (lv_at hl 0 rfl) ?_
            refine va_get (D := (dC, dI)) (ci := 8) (v := .ref (oA 10)) (C := RX8) (T := TX8) (N := 16) hx hb hts ii_X8 hown hK hP 0 rfl rfl 2 (by decide) (hts (.fieldLink RX8 30 "StoryHouse$Teller" "machine" "LStoryHouse$Machine;") wq_288) (fun _ h9 => h9) rfl dX8_tellInside_98 ?_
            refine lv_iload_n hx hb dX8_tellInside_101 rfl (lv_at hl 2 rfl) ?_
            obtain ⟨u_54, hu_54, hF_55⟩ := Option.bind_eq_some_iff.mp hF_53
            clear hF_53
            have hPc := hP.sub (ws' := (b_k cB cC cI cJ cZ oA rA σ_52 ++ b_p cB cC cI cJ cZ oA rA σ_52 ++ b_o cB cC cI cJ cZ oA rA σ_52 ++ b_s cB cC cI cJ cZ oA rA σ_52 ++ b_c cB cC cI cJ cZ oA rA σ_52 ++ b_t cB cC cI cJ cZ oA rA σ_52 ++ b_d cB cC cI cJ cZ oA rA σ_52)) [4, 5, 6, 7, 8, 9, 10, 11, 12, 13, 14, 15, 16, 17, 18, 19, 20, 21, 22, 23, 24, 25, 26, 27, 28, 29, 30, 31, 32, 33, 34, 35, 36, 37, 38, 39, 40, 41, 42, 43, 44, 45, 46, 47, 48, 49] rfl
            have hDc := (hDD σ_52).sub (ws' := (b_k cB cC cI cJ cZ oA rA σ_52 ++ b_p cB cC cI cJ cZ oA rA σ_52 ++ b_o cB cC cI cJ cZ oA rA σ_52 ++ b_s cB cC cI cJ cZ oA rA σ_52 ++ b_c cB cC cI cJ cZ oA rA σ_52 ++ b_t cB cC cI cJ cZ oA rA σ_52 ++ b_d cB cC cI cJ cZ oA rA σ_52)) [4, 5, 6, 7, 8, 9, 10, 11, 12, 13, 14, 15, 16, 17, 18, 19, 20, 21, 22, 23, 24, 25, 26, 27, 28, 29, 30, 31, 32, 33, 34, 35, 36, 37, 38, 39, 40, 41, 42, 43, 44, 45, 46, 47, 48, 49] (by decide +kernel) rfl
            have hFc := va_free (wc := (b_k cB cC cI cJ cZ oA rA σ_52 ++ b_p cB cC cI cJ cZ oA rA σ_52 ++ b_o cB cC cI cJ cZ oA rA σ_52 ++ b_s cB cC cI cJ cZ oA rA σ_52 ++ b_c cB cC cI cJ cZ oA rA σ_52 ++ b_t cB cC cI cJ cZ oA rA σ_52 ++ b_d cB cC cI cJ cZ oA rA σ_52)) (hDD σ_52) hS hA [4, 5, 6, 7, 8, 9, 10, 11, 12, 13, 14, 15, 16, 17, 18, 19, 20, 21, 22, 23, 24, 25, 26, 27, 28, 29, 30, 31, 32, 33, 34, 35, 36, 37, 38, 39, 40, 41, 42, 43, 44, 45, 46, 47, 48, 49] rfl
            refine g_ofv (wc := (b_k cB cC cI cJ cZ oA rA σ_52 ++ b_p cB cC cI cJ cZ oA rA σ_52 ++ b_o cB cC cI cJ cZ oA rA σ_52 ++ b_s cB cC cI cJ cZ oA rA σ_52 ++ b_c cB cC cI cJ cZ oA rA σ_52 ++ b_t cB cC cI cJ cZ oA rA σ_52 ++ b_d cB cC cI cJ cZ oA rA σ_52)) (wr := (b_e cB cC cI cJ cZ oA rA σ_52)) hP (hDD σ_52) hS hFc [4, 5, 6, 7, 8, 9, 10, 11, 12, 13, 14, 15, 16, 17, 18, 19, 20, 21, 22, 23, 24, 25, 26, 27, 28, 29, 30, 31, 32, 33, 34, 35, 36, 37, 38, 39, 40, 41, 42, 43, 44, 45, 46, 47, 48, 49] [0, 1, 2, 3] rfl rfl (by decide +kernel) (by decide +kernel) (va_runV (As := [.int s_10.1]) (rest := []) ⟨hx, hb, hml, hown, hts⟩ (k_X3_sayName l dC dI cB cC cI cJ cZ cP oA rA H.size  s_10.1 σ_52 _ hu_54) (cwV 1 hts (g_gV wq_1013 wq_1014 wq_1015 wq_11 wq_1016) rfl rfl rfl (by decide +kernel) ⟨Nat.le_of_ble_eq_true rfl, Nat.le_of_ble_eq_true rfl⟩) (g_preV g_bl0 hK hPc hDc hS hE hFc g_to0 (q0 := 0) (ci := 3) rfl rfl) rfl rfl hl.1 rfl (lv_room (Nat.le_of_ble_eq_true rfl)) dX8_tellInside_102 ⟨Nat.le_of_ble_eq_true rfl, Nat.le_of_ble_eq_true rfl⟩) (fun u9 H locs hw9 hP' hD' hS => ?_)
            clear hPc hDc hFc
            obtain ⟨σ_56, eσ_56, hF_57⟩ := bnd_e hF_55
            clear hF_55
            have hP : va_P (dC, dI) vwCl (b_e cB cC cI cJ cZ oA rA σ_56 ++ b_k cB cC cI cJ cZ oA rA σ_56 ++ b_p cB cC cI cJ cZ oA rA σ_56 ++ b_o cB cC cI cJ cZ oA rA σ_56 ++ b_s cB cC cI cJ cZ oA rA σ_56 ++ b_c cB cC cI cJ cZ oA rA σ_56 ++ b_t cB cC cI cJ cZ oA rA σ_56 ++ b_d cB cC cI cJ cZ oA rA σ_56) H := by rw [eσ_56]; exact hP'.sub [0, 1, 2, 3, 4, 5, 6, 7, 8, 9, 10, 11, 12, 13, 14, 15, 16, 17, 18, 19, 20, 21, 22, 23, 24, 25, 26, 27, 28, 29, 30, 31, 32, 33, 34, 35, 36, 37, 38, 39, 40, 41, 42, 43, 44, 45, 46, 47, 48, 49] rfl
            clear hP' hD'
            refine lv_aload_n hx hb dX8_tellInside_105 rfl (lv_at hl 0 rfl) ?_
            refine va_get (D := (dC, dI)) (ci := 8) (v := .ref (oA 8)) (C := RX8) (T := TX8) (N := 16) hx hb hts ii_X8 hown hK hP 0 rfl rfl 1 (by decide) (hts (.fieldLink RX8 26 "StoryHouse$Teller" "told" "LStoryHouse$Out;") wq_287) (fun _ h9 => h9) rfl dX8_tellInside_106 ?_
            obtain ⟨q_58, vq_58, hRq_58, hSq_58⟩ := hE.2.2.2.2 _ (List.mem_of_getElem? (i := 34) rfl)
            refine g_ldcwS (own := RX8) (tx := ".") hx hb hown hRq_58 dX8_tellInside_109 ?_
            obtain ⟨u_59, hu_59, hF_60⟩ := Option.bind_eq_some_iff.mp hF_57
            clear hF_57
            have hPc := hP.sub (ws' := (b_o cB cC cI cJ cZ oA rA σ_56)) [17, 18] rfl
            have hDc := (hDD σ_56).sub (ws' := (b_o cB cC cI cJ cZ oA rA σ_56)) [17, 18] (by decide +kernel) rfl
            have hFc := va_free (wc := (b_o cB cC cI cJ cZ oA rA σ_56)) (hDD σ_56) hS hA [17, 18] rfl
            refine g_ofv (wc := (b_o cB cC cI cJ cZ oA rA σ_56)) (wr := (b_e cB cC cI cJ cZ oA rA σ_56 ++ b_k cB cC cI cJ cZ oA rA σ_56 ++ b_p cB cC cI cJ cZ oA rA σ_56 ++ b_s cB cC cI cJ cZ oA rA σ_56 ++ b_c cB cC cI cJ cZ oA rA σ_56 ++ b_t cB cC cI cJ cZ oA rA σ_56 ++ b_d cB cC cI cJ cZ oA rA σ_56)) hP (hDD σ_56) hS hFc [17, 18] [0, 1, 2, 3, 4, 5, 6, 7, 8, 9, 10, 11, 12, 13, 14, 15, 16, 19, 20, 21, 22, 23, 24, 25, 26, 27, 28, 29, 30, 31, 32, 33, 34, 35, 36, 37, 38, 39, 40, 41, 42, 43, 44, 45, 46, 47, 48, 49] rfl rfl (by decide +kernel) (by decide +kernel) (va_runV (As := [.ref q_58]) (rest := []) ⟨hx, hb, hml, hown, hts⟩ (k_X5_line l dC dI cB cC cI cJ cZ cP oA rA H.size q_58 _ ([46] : List Int32) σ_56 _ hu_59) (cwV 1 hts (g_gV wq_998 wq_999 wq_1000 wq_9 wq_1001) rfl rfl rfl (by decide +kernel) ⟨Nat.le_of_ble_eq_true rfl, Nat.le_of_ble_eq_true rfl⟩) (g_preV g_blS hK hPc hDc hS hE hFc (g_toS hSq_58 hS hFc) (q0 := 0) (ci := 5) rfl rfl) rfl rfl hl.1 rfl (lv_room (Nat.le_of_ble_eq_true rfl)) dX8_tellInside_112 ⟨Nat.le_of_ble_eq_true rfl, Nat.le_of_ble_eq_true rfl⟩) (fun u9 H locs hw9 hP' hD' hS => ?_)
            clear hPc hDc hFc
            obtain ⟨σ_61, eσ_61, hF_62⟩ := bnd_e hF_60
            clear hF_60
            have hP : va_P (dC, dI) vwCl (b_e cB cC cI cJ cZ oA rA σ_61 ++ b_k cB cC cI cJ cZ oA rA σ_61 ++ b_p cB cC cI cJ cZ oA rA σ_61 ++ b_o cB cC cI cJ cZ oA rA σ_61 ++ b_s cB cC cI cJ cZ oA rA σ_61 ++ b_c cB cC cI cJ cZ oA rA σ_61 ++ b_t cB cC cI cJ cZ oA rA σ_61 ++ b_d cB cC cI cJ cZ oA rA σ_61) H := by rw [eσ_61]; exact hP'.sub [0, 1, 2, 3, 4, 5, 6, 7, 8, 9, 10, 11, 12, 13, 14, 15, 16, 48, 49, 17, 18, 19, 20, 21, 22, 23, 24, 25, 26, 27, 28, 29, 30, 31, 32, 33, 34, 35, 36, 37, 38, 39, 40, 41, 42, 43, 44, 45, 46, 47] rfl
            clear hP' hD'
            exact Jj_25  σ_61 hF_62 _ _ hP hS ls (lv_sub hl [0, 1, 2, 3] rfl)
          · have hF_63 := ineg c_38 hF_37
            clear hF_37
            obtain ⟨q_64, vq_64, hRq_64, hSq_64⟩ := hE.2.2.2.2 _ (List.mem_of_getElem? (i := 31) rfl)
            refine g_ldcwS (own := RX8) (tx := "On ") hx hb hown hRq_64 dX8_tellInside_67 ?_
            refine lv_goto (tgt := 76) hx hb dX8_tellInside_70 (by decide) ?_
            obtain ⟨u_65, hu_65, hF_66⟩ := Option.bind_eq_some_iff.mp hF_63
            clear hF_63
            have hPc := hP.sub (ws' := (b_o cB cC cI cJ cZ oA rA σ_36)) [17, 18] rfl
            have hDc := (hDD σ_36).sub (ws' := (b_o cB cC cI cJ cZ oA rA σ_36)) [17, 18] (by decide +kernel) rfl
            have hFc := va_free (wc := (b_o cB cC cI cJ cZ oA rA σ_36)) (hDD σ_36) hS hA [17, 18] rfl
            refine g_ofv (wc := (b_o cB cC cI cJ cZ oA rA σ_36)) (wr := (b_e cB cC cI cJ cZ oA rA σ_36 ++ b_k cB cC cI cJ cZ oA rA σ_36 ++ b_p cB cC cI cJ cZ oA rA σ_36 ++ b_s cB cC cI cJ cZ oA rA σ_36 ++ b_c cB cC cI cJ cZ oA rA σ_36 ++ b_t cB cC cI cJ cZ oA rA σ_36 ++ b_d cB cC cI cJ cZ oA rA σ_36)) hP (hDD σ_36) hS hFc [17, 18] [0, 1, 2, 3, 4, 5, 6, 7, 8, 9, 10, 11, 12, 13, 14, 15, 16, 19, 20, 21, 22, 23, 24, 25, 26, 27, 28, 29, 30, 31, 32, 33, 34, 35, 36, 37, 38, 39, 40, 41, 42, 43, 44, 45, 46, 47, 48, 49] rfl rfl (by decide +kernel) (by decide +kernel) (va_runV (As := [.ref q_64]) (rest := []) ⟨hx, hb, hml, hown, hts⟩ (k_X5_text l dC dI cB cC cI cJ cZ cP oA rA H.size q_64 _ ([79, 110, 32] : List Int32) σ_36 _ hu_65) (cwV 1 hts (g_gV wq_1031 wq_1003 wq_1004 wq_9 wq_1005) rfl rfl rfl (by decide +kernel) ⟨Nat.le_of_ble_eq_true rfl, Nat.le_of_ble_eq_true rfl⟩) (g_preV g_blS hK hPc hDc hS hE hFc (g_toS hSq_64 hS hFc) (q0 := 0) (ci := 5) rfl rfl) rfl rfl hl.1 rfl (lv_room (Nat.le_of_ble_eq_true rfl)) dX8_tellInside_76 ⟨Nat.le_of_ble_eq_true rfl, Nat.le_of_ble_eq_true rfl⟩) (fun u9 H locs hw9 hP' hD' hS => ?_)
            clear hPc hDc hFc
            obtain ⟨σ_67, eσ_67, hF_68⟩ := bnd_e hF_66
            clear hF_66
            have hP : va_P (dC, dI) vwCl (b_e cB cC cI cJ cZ oA rA σ_67 ++ b_k cB cC cI cJ cZ oA rA σ_67 ++ b_p cB cC cI cJ cZ oA rA σ_67 ++ b_o cB cC cI cJ cZ oA rA σ_67 ++ b_s cB cC cI cJ cZ oA rA σ_67 ++ b_c cB cC cI cJ cZ oA rA σ_67 ++ b_t cB cC cI cJ cZ oA rA σ_67 ++ b_d cB cC cI cJ cZ oA rA σ_67) H := by rw [eσ_67]; exact hP'.sub [0, 1, 2, 3, 4, 5, 6, 7, 8, 9, 10, 11, 12, 13, 14, 15, 16, 48, 49, 17, 18, 19, 20, 21, 22, 23, 24, 25, 26, 27, 28, 29, 30, 31, 32, 33, 34, 35, 36, 37, 38, 39, 40, 41, 42, 43, 44, 45, 46, 47] rfl
            clear hP' hD'
            refine lv_aload_n hx hb dX8_tellInside_79 rfl (lv_at hl 0 rfl) ?_
            refine va_get (D := (dC, dI)) (ci := 8) (v := .ref (oA 10)) (C := RX8) (T := TX8) (N := 16) hx hb hts ii_X8 hown hK hP 0 rfl rfl 2 (by decide) (hts (.fieldLink RX8 30 "StoryHouse$Teller" "machine" "LStoryHouse$Machine;") wq_288) (fun _ h9 => h9) rfl dX8_tellInside_80 ?_
            refine lv_iload_n hx hb dX8_tellInside_83 rfl (lv_at hl 1 rfl) ?_
            obtain ⟨u_69, hu_69, hF_70⟩ := Option.bind_eq_some_iff.mp hF_68
            clear hF_68
            have hPc := hP.sub (ws' := (b_k cB cC cI cJ cZ oA rA σ_67 ++ b_p cB cC cI cJ cZ oA rA σ_67 ++ b_o cB cC cI cJ cZ oA rA σ_67 ++ b_s cB cC cI cJ cZ oA rA σ_67 ++ b_c cB cC cI cJ cZ oA rA σ_67 ++ b_t cB cC cI cJ cZ oA rA σ_67 ++ b_d cB cC cI cJ cZ oA rA σ_67)) [4, 5, 6, 7, 8, 9, 10, 11, 12, 13, 14, 15, 16, 17, 18, 19, 20, 21, 22, 23, 24, 25, 26, 27, 28, 29, 30, 31, 32, 33, 34, 35, 36, 37, 38, 39, 40, 41, 42, 43, 44, 45, 46, 47, 48, 49] rfl
            have hDc := (hDD σ_67).sub (ws' := (b_k cB cC cI cJ cZ oA rA σ_67 ++ b_p cB cC cI cJ cZ oA rA σ_67 ++ b_o cB cC cI cJ cZ oA rA σ_67 ++ b_s cB cC cI cJ cZ oA rA σ_67 ++ b_c cB cC cI cJ cZ oA rA σ_67 ++ b_t cB cC cI cJ cZ oA rA σ_67 ++ b_d cB cC cI cJ cZ oA rA σ_67)) [4, 5, 6, 7, 8, 9, 10, 11, 12, 13, 14, 15, 16, 17, 18, 19, 20, 21, 22, 23, 24, 25, 26, 27, 28, 29, 30, 31, 32, 33, 34, 35, 36, 37, 38, 39, 40, 41, 42, 43, 44, 45, 46, 47, 48, 49] (by decide +kernel) rfl
            have hFc := va_free (wc := (b_k cB cC cI cJ cZ oA rA σ_67 ++ b_p cB cC cI cJ cZ oA rA σ_67 ++ b_o cB cC cI cJ cZ oA rA σ_67 ++ b_s cB cC cI cJ cZ oA rA σ_67 ++ b_c cB cC cI cJ cZ oA rA σ_67 ++ b_t cB cC cI cJ cZ oA rA σ_67 ++ b_d cB cC cI cJ cZ oA rA σ_67)) (hDD σ_67) hS hA [4, 5, 6, 7, 8, 9, 10, 11, 12, 13, 14, 15, 16, 17, 18, 19, 20, 21, 22, 23, 24, 25, 26, 27, 28, 29, 30, 31, 32, 33, 34, 35, 36, 37, 38, 39, 40, 41, 42, 43, 44, 45, 46, 47, 48, 49] rfl
            refine g_ofv (wc := (b_k cB cC cI cJ cZ oA rA σ_67 ++ b_p cB cC cI cJ cZ oA rA σ_67 ++ b_o cB cC cI cJ cZ oA rA σ_67 ++ b_s cB cC cI cJ cZ oA rA σ_67 ++ b_c cB cC cI cJ cZ oA rA σ_67 ++ b_t cB cC cI cJ cZ oA rA σ_67 ++ b_d cB cC cI cJ cZ oA rA σ_67)) (wr := (b_e cB cC cI cJ cZ oA rA σ_67)) hP (hDD σ_67) hS hFc [4, 5, 6, 7, 8, 9, 10, 11, 12, 13, 14, 15, 16, 17, 18, 19, 20, 21, 22, 23, 24, 25, 26, 27, 28, 29, 30, 31, 32, 33, 34, 35, 36, 37, 38, 39, 40, 41, 42, 43, 44, 45, 46, 47, 48, 49] [0, 1, 2, 3] rfl rfl (by decide +kernel) (by decide +kernel) (va_runV (As := [.int p0]) (rest := []) ⟨hx, hb, hml, hown, hts⟩ (k_X3_sayName l dC dI cB cC cI cJ cZ cP oA rA H.size  p0 σ_67 _ hu_69) (cwV 1 hts (g_gV wq_1013 wq_1014 wq_1015 wq_11 wq_1016) rfl rfl rfl (by decide +kernel) ⟨Nat.le_of_ble_eq_true rfl, Nat.le_of_ble_eq_true rfl⟩) (g_preV g_bl0 hK hPc hDc hS hE hFc g_to0 (q0 := 0) (ci := 3) rfl rfl) rfl rfl hl.1 rfl (lv_room (Nat.le_of_ble_eq_true rfl)) dX8_tellInside_84 ⟨Nat.le_of_ble_eq_true rfl, Nat.le_of_ble_eq_true rfl⟩) (fun u9 H locs hw9 hP' hD' hS => ?_)
            clear hPc hDc hFc
            obtain ⟨σ_71, eσ_71, hF_72⟩ := bnd_e hF_70
            clear hF_70
            have hP : va_P (dC, dI) vwCl (b_e cB cC cI cJ cZ oA rA σ_71 ++ b_k cB cC cI cJ cZ oA rA σ_71 ++ b_p cB cC cI cJ cZ oA rA σ_71 ++ b_o cB cC cI cJ cZ oA rA σ_71 ++ b_s cB cC cI cJ cZ oA rA σ_71 ++ b_c cB cC cI cJ cZ oA rA σ_71 ++ b_t cB cC cI cJ cZ oA rA σ_71 ++ b_d cB cC cI cJ cZ oA rA σ_71) H := by rw [eσ_71]; exact hP'.sub [0, 1, 2, 3, 4, 5, 6, 7, 8, 9, 10, 11, 12, 13, 14, 15, 16, 17, 18, 19, 20, 21, 22, 23, 24, 25, 26, 27, 28, 29, 30, 31, 32, 33, 34, 35, 36, 37, 38, 39, 40, 41, 42, 43, 44, 45, 46, 47, 48, 49] rfl
            clear hP' hD'
            refine lv_aload_n hx hb dX8_tellInside_87 rfl (lv_at hl 0 rfl) ?_
            refine va_get (D := (dC, dI)) (ci := 8) (v := .ref (oA 8)) (C := RX8) (T := TX8) (N := 16) hx hb hts ii_X8 hown hK hP 0 rfl rfl 1 (by decide) (hts (.fieldLink RX8 26 "StoryHouse$Teller" "told" "LStoryHouse$Out;") wq_287) (fun _ h9 => h9) rfl dX8_tellInside_88 ?_
            obtain ⟨q_73, vq_73, hRq_73, hSq_73⟩ := hE.2.2.2.2 _ (List.mem_of_getElem? (i := 33) rfl)
            refine g_ldcwS (own := RX8) (tx := " there is ") hx hb hown hRq_73 dX8_tellInside_91 ?_
            obtain ⟨u_74, hu_74, hF_75⟩ := Option.bind_eq_some_iff.mp hF_72
            clear hF_72
            have hPc := hP.sub (ws' := (b_o cB cC cI cJ cZ oA rA σ_71)) [17, 18] rfl
            have hDc := (hDD σ_71).sub (ws' := (b_o cB cC cI cJ cZ oA rA σ_71)) [17, 18] (by decide +kernel) rfl
            have hFc := va_free (wc := (b_o cB cC cI cJ cZ oA rA σ_71)) (hDD σ_71) hS hA [17, 18] rfl
            refine g_ofv (wc := (b_o cB cC cI cJ cZ oA rA σ_71)) (wr := (b_e cB cC cI cJ cZ oA rA σ_71 ++ b_k cB cC cI cJ cZ oA rA σ_71 ++ b_p cB cC cI cJ cZ oA rA σ_71 ++ b_s cB cC cI cJ cZ oA rA σ_71 ++ b_c cB cC cI cJ cZ oA rA σ_71 ++ b_t cB cC cI cJ cZ oA rA σ_71 ++ b_d cB cC cI cJ cZ oA rA σ_71)) hP (hDD σ_71) hS hFc [17, 18] [0, 1, 2, 3, 4, 5, 6, 7, 8, 9, 10, 11, 12, 13, 14, 15, 16, 19, 20, 21, 22, 23, 24, 25, 26, 27, 28, 29, 30, 31, 32, 33, 34, 35, 36, 37, 38, 39, 40, 41, 42, 43, 44, 45, 46, 47, 48, 49] rfl rfl (by decide +kernel) (by decide +kernel) (va_runV (As := [.ref q_73]) (rest := []) ⟨hx, hb, hml, hown, hts⟩ (k_X5_text l dC dI cB cC cI cJ cZ cP oA rA H.size q_73 _ ([32, 116, 104, 101, 114, 101, 32, 105, 115, 32] : List Int32) σ_71 _ hu_74) (cwV 1 hts (g_gV wq_1031 wq_1003 wq_1004 wq_9 wq_1005) rfl rfl rfl (by decide +kernel) ⟨Nat.le_of_ble_eq_true rfl, Nat.le_of_ble_eq_true rfl⟩) (g_preV g_blS hK hPc hDc hS hE hFc (g_toS hSq_73 hS hFc) (q0 := 0) (ci := 5) rfl rfl) rfl rfl hl.1 rfl (lv_room (Nat.le_of_ble_eq_true rfl)) dX8_tellInside_94 ⟨Nat.le_of_ble_eq_true rfl, Nat.le_of_ble_eq_true rfl⟩) (fun u9 H locs hw9 hP' hD' hS => ?_)
            clear hPc hDc hFc
            obtain ⟨σ_76, eσ_76, hF_77⟩ := bnd_e hF_75
            clear hF_75
            have hP : va_P (dC, dI) vwCl (b_e cB cC cI cJ cZ oA rA σ_76 ++ b_k cB cC cI cJ cZ oA rA σ_76 ++ b_p cB cC cI cJ cZ oA rA σ_76 ++ b_o cB cC cI cJ cZ oA rA σ_76 ++ b_s cB cC cI cJ cZ oA rA σ_76 ++ b_c cB cC cI cJ cZ oA rA σ_76 ++ b_t cB cC cI cJ cZ oA rA σ_76 ++ b_d cB cC cI cJ cZ oA rA σ_76) H := by rw [eσ_76]; exact hP'.sub [0, 1, 2, 3, 4, 5, 6, 7, 8, 9, 10, 11, 12, 13, 14, 15, 16, 48, 49, 17, 18, 19, 20, 21, 22, 23, 24, 25, 26, 27, 28, 29, 30, 31, 32, 33, 34, 35, 36, 37, 38, 39, 40, 41, 42, 43, 44, 45, 46, 47] rfl
            clear hP' hD'
            refine lv_aload_n hx hb dX8_tellInside_97 rfl (lv_at hl 0 rfl) ?_
            refine va_get (D := (dC, dI)) (ci := 8) (v := .ref (oA 10)) (C := RX8) (T := TX8) (N := 16) hx hb hts ii_X8 hown hK hP 0 rfl rfl 2 (by decide) (hts (.fieldLink RX8 30 "StoryHouse$Teller" "machine" "LStoryHouse$Machine;") wq_288) (fun _ h9 => h9) rfl dX8_tellInside_98 ?_
            refine lv_iload_n hx hb dX8_tellInside_101 rfl (lv_at hl 2 rfl) ?_
            obtain ⟨u_78, hu_78, hF_79⟩ := Option.bind_eq_some_iff.mp hF_77
            clear hF_77
            have hPc := hP.sub (ws' := (b_k cB cC cI cJ cZ oA rA σ_76 ++ b_p cB cC cI cJ cZ oA rA σ_76 ++ b_o cB cC cI cJ cZ oA rA σ_76 ++ b_s cB cC cI cJ cZ oA rA σ_76 ++ b_c cB cC cI cJ cZ oA rA σ_76 ++ b_t cB cC cI cJ cZ oA rA σ_76 ++ b_d cB cC cI cJ cZ oA rA σ_76)) [4, 5, 6, 7, 8, 9, 10, 11, 12, 13, 14, 15, 16, 17, 18, 19, 20, 21, 22, 23, 24, 25, 26, 27, 28, 29, 30, 31, 32, 33, 34, 35, 36, 37, 38, 39, 40, 41, 42, 43, 44, 45, 46, 47, 48, 49] rfl
            have hDc := (hDD σ_76).sub (ws' := (b_k cB cC cI cJ cZ oA rA σ_76 ++ b_p cB cC cI cJ cZ oA rA σ_76 ++ b_o cB cC cI cJ cZ oA rA σ_76 ++ b_s cB cC cI cJ cZ oA rA σ_76 ++ b_c cB cC cI cJ cZ oA rA σ_76 ++ b_t cB cC cI cJ cZ oA rA σ_76 ++ b_d cB cC cI cJ cZ oA rA σ_76)) [4, 5, 6, 7, 8, 9, 10, 11, 12, 13, 14, 15, 16, 17, 18, 19, 20, 21, 22, 23, 24, 25, 26, 27, 28, 29, 30, 31, 32, 33, 34, 35, 36, 37, 38, 39, 40, 41, 42, 43, 44, 45, 46, 47, 48, 49] (by decide +kernel) rfl
            have hFc := va_free (wc := (b_k cB cC cI cJ cZ oA rA σ_76 ++ b_p cB cC cI cJ cZ oA rA σ_76 ++ b_o cB cC cI cJ cZ oA rA σ_76 ++ b_s cB cC cI cJ cZ oA rA σ_76 ++ b_c cB cC cI cJ cZ oA rA σ_76 ++ b_t cB cC cI cJ cZ oA rA σ_76 ++ b_d cB cC cI cJ cZ oA rA σ_76)) (hDD σ_76) hS hA [4, 5, 6, 7, 8, 9, 10, 11, 12, 13, 14, 15, 16, 17, 18, 19, 20, 21, 22, 23, 24, 25, 26, 27, 28, 29, 30, 31, 32, 33, 34, 35, 36, 37, 38, 39, 40, 41, 42, 43, 44, 45, 46, 47, 48, 49] rfl
            refine g_ofv (wc := (b_k cB cC cI cJ cZ oA rA σ_76 ++ b_p cB cC cI cJ cZ oA rA σ_76 ++ b_o cB cC cI cJ cZ oA rA σ_76 ++ b_s cB cC cI cJ cZ oA rA σ_76 ++ b_c cB cC cI cJ cZ oA rA σ_76 ++ b_t cB cC cI cJ cZ oA rA σ_76 ++ b_d cB cC cI cJ cZ oA rA σ_76)) (wr := (b_e cB cC cI cJ cZ oA rA σ_76)) hP (hDD σ_76) hS hFc [4, 5, 6, 7, 8, 9, 10, 11, 12, 13, 14, 15, 16, 17, 18, 19, 20, 21, 22, 23, 24, 25, 26, 27, 28, 29, 30, 31, 32, 33, 34, 35, 36, 37, 38, 39, 40, 41, 42, 43, 44, 45, 46, 47, 48, 49] [0, 1, 2, 3] rfl rfl (by decide +kernel) (by decide +kernel) (va_runV (As := [.int s_10.1]) (rest := []) ⟨hx, hb, hml, hown, hts⟩ (k_X3_sayName l dC dI cB cC cI cJ cZ cP oA rA H.size  s_10.1 σ_76 _ hu_78) (cwV 1 hts (g_gV wq_1013 wq_1014 wq_1015 wq_11 wq_1016) rfl rfl rfl (by decide +kernel) ⟨Nat.le_of_ble_eq_true rfl, Nat.le_of_ble_eq_true rfl⟩) (g_preV g_bl0 hK hPc hDc hS hE hFc g_to0 (q0 := 0) (ci := 3) rfl rfl) rfl rfl hl.1 rfl (lv_room (Nat.le_of_ble_eq_true rfl)) dX8_tellInside_102 ⟨Nat.le_of_ble_eq_true rfl, Nat.le_of_ble_eq_true rfl⟩) (fun u9 H locs hw9 hP' hD' hS => ?_)
            clear hPc hDc hFc
            obtain ⟨σ_80, eσ_80, hF_81⟩ := bnd_e hF_79
            clear hF_79
            have hP : va_P (dC, dI) vwCl (b_e cB cC cI cJ cZ oA rA σ_80 ++ b_k cB cC cI cJ cZ oA rA σ_80 ++ b_p cB cC cI cJ cZ oA rA σ_80 ++ b_o cB cC cI cJ cZ oA rA σ_80 ++ b_s cB cC cI cJ cZ oA rA σ_80 ++ b_c cB cC cI cJ cZ oA rA σ_80 ++ b_t cB cC cI cJ cZ oA rA σ_80 ++ b_d cB cC cI cJ cZ oA rA σ_80) H := by rw [eσ_80]; exact hP'.sub [0, 1, 2, 3, 4, 5, 6, 7, 8, 9, 10, 11, 12, 13, 14, 15, 16, 17, 18, 19, 20, 21, 22, 23, 24, 25, 26, 27, 28, 29, 30, 31, 32, 33, 34, 35, 36, 37, 38, 39, 40, 41, 42, 43, 44, 45, 46, 47, 48, 49] rfl
            clear hP' hD'
            refine lv_aload_n hx hb dX8_tellInside_105 rfl (lv_at hl 0 rfl) ?_
            refine va_get (D := (dC, dI)) (ci := 8) (v := .ref (oA 8)) (C := RX8) (T := TX8) (N := 16) hx hb hts ii_X8 hown hK hP 0 rfl rfl 1 (by decide) (hts (.fieldLink RX8 26 "StoryHouse$Teller" "told" "LStoryHouse$Out;") wq_287) (fun _ h9 => h9) rfl dX8_tellInside_106 ?_
            obtain ⟨q_82, vq_82, hRq_82, hSq_82⟩ := hE.2.2.2.2 _ (List.mem_of_getElem? (i := 34) rfl)
            refine g_ldcwS (own := RX8) (tx := ".") hx hb hown hRq_82 dX8_tellInside_109 ?_
            obtain ⟨u_83, hu_83, hF_84⟩ := Option.bind_eq_some_iff.mp hF_81
            clear hF_81
            have hPc := hP.sub (ws' := (b_o cB cC cI cJ cZ oA rA σ_80)) [17, 18] rfl
            have hDc := (hDD σ_80).sub (ws' := (b_o cB cC cI cJ cZ oA rA σ_80)) [17, 18] (by decide +kernel) rfl
            have hFc := va_free (wc := (b_o cB cC cI cJ cZ oA rA σ_80)) (hDD σ_80) hS hA [17, 18] rfl
            refine g_ofv (wc := (b_o cB cC cI cJ cZ oA rA σ_80)) (wr := (b_e cB cC cI cJ cZ oA rA σ_80 ++ b_k cB cC cI cJ cZ oA rA σ_80 ++ b_p cB cC cI cJ cZ oA rA σ_80 ++ b_s cB cC cI cJ cZ oA rA σ_80 ++ b_c cB cC cI cJ cZ oA rA σ_80 ++ b_t cB cC cI cJ cZ oA rA σ_80 ++ b_d cB cC cI cJ cZ oA rA σ_80)) hP (hDD σ_80) hS hFc [17, 18] [0, 1, 2, 3, 4, 5, 6, 7, 8, 9, 10, 11, 12, 13, 14, 15, 16, 19, 20, 21, 22, 23, 24, 25, 26, 27, 28, 29, 30, 31, 32, 33, 34, 35, 36, 37, 38, 39, 40, 41, 42, 43, 44, 45, 46, 47, 48, 49] rfl rfl (by decide +kernel) (by decide +kernel) (va_runV (As := [.ref q_82]) (rest := []) ⟨hx, hb, hml, hown, hts⟩ (k_X5_line l dC dI cB cC cI cJ cZ cP oA rA H.size q_82 _ ([46] : List Int32) σ_80 _ hu_83) (cwV 1 hts (g_gV wq_998 wq_999 wq_1000 wq_9 wq_1001) rfl rfl rfl (by decide +kernel) ⟨Nat.le_of_ble_eq_true rfl, Nat.le_of_ble_eq_true rfl⟩) (g_preV g_blS hK hPc hDc hS hE hFc (g_toS hSq_82 hS hFc) (q0 := 0) (ci := 5) rfl rfl) rfl rfl hl.1 rfl (lv_room (Nat.le_of_ble_eq_true rfl)) dX8_tellInside_112 ⟨Nat.le_of_ble_eq_true rfl, Nat.le_of_ble_eq_true rfl⟩) (fun u9 H locs hw9 hP' hD' hS => ?_)
            clear hPc hDc hFc
            obtain ⟨σ_85, eσ_85, hF_86⟩ := bnd_e hF_84
            clear hF_84
            have hP : va_P (dC, dI) vwCl (b_e cB cC cI cJ cZ oA rA σ_85 ++ b_k cB cC cI cJ cZ oA rA σ_85 ++ b_p cB cC cI cJ cZ oA rA σ_85 ++ b_o cB cC cI cJ cZ oA rA σ_85 ++ b_s cB cC cI cJ cZ oA rA σ_85 ++ b_c cB cC cI cJ cZ oA rA σ_85 ++ b_t cB cC cI cJ cZ oA rA σ_85 ++ b_d cB cC cI cJ cZ oA rA σ_85) H := by rw [eσ_85]; exact hP'.sub [0, 1, 2, 3, 4, 5, 6, 7, 8, 9, 10, 11, 12, 13, 14, 15, 16, 48, 49, 17, 18, 19, 20, 21, 22, 23, 24, 25, 26, 27, 28, 29, 30, 31, 32, 33, 34, 35, 36, 37, 38, 39, 40, 41, 42, 43, 44, 45, 46, 47] rfl
            clear hP' hD'
            exact Jj_25  σ_85 hF_86 _ _ hP hS ls (lv_sub hl [0, 1, 2, 3] rfl)
  refine lv_if_eq (tgt := 25) hx hb dX8_tellInside_8 (by decide) (fun c_88 => ?_) (fun c_88 => ?_)
  · have hF_89 := ipos c_88 hF_8
    clear hF_8
    refine lv_iconst (v := 0) hx hb dX8_tellInside_25 (by decide +kernel) ?_
    exact Jj_7 0 σ_3 hF_89 _ _ hP hS ls (lv_sub hl [0, 1] rfl)
  · have hF_90 := ineg c_88 hF_8
    clear hF_8
    refine lv_aload_n hx hb dX8_tellInside_11 rfl (lv_at hl 0 rfl) ?_
    refine va_get (D := (dC, dI)) (ci := 8) (v := .ref (oA 9)) (C := RX8) (T := TX8) (N := 16) hx hb hts ii_X8 hown hK hP 0 rfl rfl 0 (by decide) (hts (.fieldLink RX8 22 "StoryHouse$Teller" "play" "LStoryHouse$Play;") wq_286) (fun _ h9 => h9) rfl dX8_tellInside_12 ?_
    refine va_get (D := (dC, dI)) (ci := 6) (v := .ref (rA 9 1)) (C := RX6) (T := TX6) (N := 12) hx hb hts ii_X6 hown hK hP 9 rfl rfl 1 (by decide) (hts (.fieldLink RX8 202 "StoryHouse$Play" "firsts" "[I") wq_223) (fun _ h9 => h9) rfl dX8_tellInside_15 ?_
    refine lv_iload_n hx hb dX8_tellInside_18 rfl (lv_at hl 1 rfl) ?_
    have hPc := hP.sub (ws' := [(rA 9 1, .inl (cI, 121, .inl ((σ_3 9).2.1 1)))]) [11] rfl
    have hDc := (hDD σ_3).sub (ws' := [(rA 9 1, .inl (cI, 121, .inl ((σ_3 9).2.1 1)))]) [11] (by decide +kernel) rfl
    have hFc := va_free (wc := [(rA 9 1, .inl (cI, 121, .inl ((σ_3 9).2.1 1)))]) (hDD σ_3) hS hA [11] rfl
    refine g_ofi (wc := [(rA 9 1, .inl (cI, 121, .inl ((σ_3 9).2.1 1)))]) (wr := (((b_e cB cC cI cJ cZ oA rA σ_3 ++ b_k cB cC cI cJ cZ oA rA σ_3 ++ b_p cB cC cI cJ cZ oA rA σ_3 ++ b_o cB cC cI cJ cZ oA rA σ_3 ++ b_s cB cC cI cJ cZ oA rA σ_3 ++ b_c cB cC cI cJ cZ oA rA σ_3 ++ b_t cB cC cI cJ cZ oA rA σ_3 ++ b_d cB cC cI cJ cZ oA rA σ_3)).eraseIdx 11)) hP (hDD σ_3) hS hFc [11] [0, 1, 2, 3, 4, 5, 6, 7, 8, 9, 10, 12, 13, 14, 15, 16, 17, 18, 19, 20, 21, 22, 23, 24, 25, 26, 27, 28, 29, 30, 31, 32, 33, 34, 35, 36, 37, 38, 39, 40, 41, 42, 43, 44, 45, 46, 47, 48, 49] rfl rfl (by decide +kernel) (by decide +kernel) (va_runSN (As := [.ref (rA 9 1), .int p0]) (rest := []) ⟨hx, hb, hml, hown, hts⟩ (c_X11_at l dC dI cB cC cI cJ cZ cP H.size (rA 9 1) p0 121 ((σ_3 9).2.1 1) (by decide)) ⟨va_cnB 2 hts (g_gA wq_407) rfl rfl rfl (hN.at 31 rfl) (hts (.initialized RX11) wq_1) (by decide +kernel) ⟨Nat.le_of_ble_eq_true rfl, Nat.le_of_ble_eq_true rfl⟩, (hts (.static yX11_at) wq_406), trivial⟩ (g_preS g_bl0 hK hPc hDc hS hE hFc g_to0) rfl rfl hl.1 rfl (lv_room (Nat.le_of_ble_eq_true rfl)) dX8_tellInside_19 ⟨Nat.le_of_ble_eq_true rfl, Nat.le_of_ble_eq_true rfl⟩) (fun r9 u9 H locs hw9 hP' hD' hS => ?_)
    clear hPc hDc hFc hD'
    have hP : va_P (dC, dI) vwCl (b_e cB cC cI cJ cZ oA rA σ_3 ++ b_k cB cC cI cJ cZ oA rA σ_3 ++ b_p cB cC cI cJ cZ oA rA σ_3 ++ b_o cB cC cI cJ cZ oA rA σ_3 ++ b_s cB cC cI cJ cZ oA rA σ_3 ++ b_c cB cC cI cJ cZ oA rA σ_3 ++ b_t cB cC cI cJ cZ oA rA σ_3 ++ b_d cB cC cI cJ cZ oA rA σ_3) H := hP'.sub [0, 1, 2, 3, 4, 5, 6, 7, 8, 9, 10, 49, 11, 12, 13, 14, 15, 16, 17, 18, 19, 20, 21, 22, 23, 24, 25, 26, 27, 28, 29, 30, 31, 32, 33, 34, 35, 36, 37, 38, 39, 40, 41, 42, 43, 44, 45, 46, 47, 48] rfl
    clear hP'
    subst hw9
    obtain ⟨x_91, ex_91, hF_92⟩ := bnd_e hF_90
    clear hF_90
    refine m_top ex_91 ?_
    refine lv_goto (tgt := 26) hx hb dX8_tellInside_22 (by decide) ?_
    exact Jj_7 x_91 σ_3 hF_92 _ _ hP hS ls (lv_sub hl [0, 1] rfl)
