/-! methods of the class: what each does is its function -/
theorem dX9_pack_0 : decode cX9_pack 0 = .ok (.aload_n 0, 1) := by decide +kernel
theorem dX9_pack_1 : decode cX9_pack 1 = .ok (.getfield 15, 3) := by decide +kernel
theorem dX9_pack_4 : decode cX9_pack 4 = .ok (.aload_n 0, 1) := by decide +kernel
theorem dX9_pack_5 : decode cX9_pack 5 = .ok (.getfield 33, 3) := by decide +kernel
theorem dX9_pack_8 : decode cX9_pack 8 = .ok (.aload_n 0, 1) := by decide +kernel
theorem dX9_pack_9 : decode cX9_pack 9 = .ok (.getfield 29, 3) := by decide +kernel
theorem dX9_pack_12 : decode cX9_pack 12 = .ok (.invokestatic 66, 3) := by decide +kernel
theorem dX9_pack_15 : decode cX9_pack 15 = .ok (.aload_n 0, 1) := by decide +kernel
theorem dX9_pack_16 : decode cX9_pack 16 = .ok (.getfield 19, 3) := by decide +kernel
theorem dX9_pack_19 : decode cX9_pack 19 = .ok (.aload_n 0, 1) := by decide +kernel
theorem dX9_pack_20 : decode cX9_pack 20 = .ok (.getfield 33, 3) := by decide +kernel
theorem dX9_pack_23 : decode cX9_pack 23 = .ok (.iload_n 1, 1) := by decide +kernel
theorem dX9_pack_24 : decode cX9_pack 24 = .ok (.invokestatic 66, 3) := by decide +kernel
theorem dX9_pack_27 : decode cX9_pack 27 = .ok (.aload_n 0, 1) := by decide +kernel
theorem dX9_pack_28 : decode cX9_pack 28 = .ok (.dup, 1) := by decide +kernel
theorem dX9_pack_29 : decode cX9_pack 29 = .ok (.getfield 33, 3) := by decide +kernel
theorem dX9_pack_32 : decode cX9_pack 32 = .ok (.iconst 1, 1) := by decide +kernel
theorem dX9_pack_33 : decode cX9_pack 33 = .ok (.iadd, 1) := by decide +kernel
theorem dX9_pack_34 : decode cX9_pack 34 = .ok (.putfield 33, 3) := by decide +kernel
theorem dX9_pack_37 : decode cX9_pack 37 = .ok (.aload_n 0, 1) := by decide +kernel
theorem dX9_pack_38 : decode cX9_pack 38 = .ok (.iconst 0, 1) := by decide +kernel
theorem dX9_pack_39 : decode cX9_pack 39 = .ok (.putfield 70, 3) := by decide +kernel
theorem dX9_pack_42 : decode cX9_pack 42 = .ok (.aload_n 0, 1) := by decide +kernel
theorem dX9_pack_43 : decode cX9_pack 43 = .ok (.iconst 0, 1) := by decide +kernel
theorem dX9_pack_44 : decode cX9_pack 44 = .ok (.putfield 73, 3) := by decide +kernel
theorem dX9_pack_47 : decode cX9_pack 47 = .ok (.iload_n 1, 1) := by decide +kernel
theorem dX9_pack_48 : decode cX9_pack 48 = .ok (.istore_n 2, 1) := by decide +kernel
theorem dX9_pack_49 : decode cX9_pack 49 = .ok (.iload_n 2, 1) := by decide +kernel
theorem dX9_pack_50 : decode cX9_pack 50 = .ok (.aload_n 0, 1) := by decide +kernel
theorem dX9_pack_51 : decode cX9_pack 51 = .ok (.getfield 22, 3) := by decide +kernel
theorem dX9_pack_54 : decode cX9_pack 54 = .ok (.arraylength, 1) := by decide +kernel
theorem dX9_pack_55 : decode cX9_pack 55 = .ok (.if_icmp .ge 71, 3) := by decide +kernel
theorem dX9_pack_58 : decode cX9_pack 58 = .ok (.aload_n 0, 1) := by decide +kernel
theorem dX9_pack_59 : decode cX9_pack 59 = .ok (.getfield 22, 3) := by decide +kernel
theorem dX9_pack_62 : decode cX9_pack 62 = .ok (.iload_n 2, 1) := by decide +kernel
theorem dX9_pack_63 : decode cX9_pack 63 = .ok (.baload, 1) := by decide +kernel
theorem dX9_pack_64 : decode cX9_pack 64 = .ok (.bipush 34, 2) := by decide +kernel
theorem dX9_pack_66 : decode cX9_pack 66 = .ok (.if_icmp .eq 60, 3) := by decide +kernel
theorem dX9_pack_69 : decode cX9_pack 69 = .ok (.ldc 76, 2) := by decide +kernel
theorem dX9_pack_71 : decode cX9_pack 71 = .ok (.aload_n 0, 1) := by decide +kernel
theorem dX9_pack_72 : decode cX9_pack 72 = .ok (.iload_n 2, 1) := by decide +kernel
theorem dX9_pack_73 : decode cX9_pack 73 = .ok (.invokevirtual 78, 3) := by decide +kernel
theorem dX9_pack_76 : decode cX9_pack 76 = .ok (.i2c, 1) := by decide +kernel
theorem dX9_pack_77 : decode cX9_pack 77 = .ok (.invokevirtual 81, 3) := by decide +kernel
theorem dX9_pack_80 : decode cX9_pack 80 = .ok (.istore_n 3, 1) := by decide +kernel
theorem dX9_pack_81 : decode cX9_pack 81 = .ok (.iload_n 3, 1) := by decide +kernel
theorem dX9_pack_82 : decode cX9_pack 82 = .ok (.bipush 29, 2) := by decide +kernel
theorem dX9_pack_84 : decode cX9_pack 84 = .ok (.if_icmp .lt 31, 3) := by decide +kernel
theorem dX9_pack_87 : decode cX9_pack 87 = .ok (.aload_n 0, 1) := by decide +kernel
theorem dX9_pack_88 : decode cX9_pack 88 = .ok (.bipush 29, 2) := by decide +kernel
theorem dX9_pack_90 : decode cX9_pack 90 = .ok (.iload_n 3, 1) := by decide +kernel
theorem dX9_pack_91 : decode cX9_pack 91 = .ok (.bipush 29, 2) := by decide +kernel
theorem dX9_pack_93 : decode cX9_pack 93 = .ok (.isub, 1) := by decide +kernel
theorem dX9_pack_94 : decode cX9_pack 94 = .ok (.bipush 32, 2) := by decide +kernel
theorem dX9_pack_96 : decode cX9_pack 96 = .ok (.idiv, 1) := by decide +kernel
theorem dX9_pack_97 : decode cX9_pack 97 = .ok (.iadd, 1) := by decide +kernel
theorem dX9_pack_98 : decode cX9_pack 98 = .ok (.invokevirtual 86, 3) := by decide +kernel
theorem dX9_pack_101 : decode cX9_pack 101 = .ok (.aload_n 0, 1) := by decide +kernel
theorem dX9_pack_102 : decode cX9_pack 102 = .ok (.iload_n 3, 1) := by decide +kernel
theorem dX9_pack_103 : decode cX9_pack 103 = .ok (.bipush 29, 2) := by decide +kernel
theorem dX9_pack_105 : decode cX9_pack 105 = .ok (.isub, 1) := by decide +kernel
theorem dX9_pack_106 : decode cX9_pack 106 = .ok (.bipush 32, 2) := by decide +kernel
theorem dX9_pack_108 : decode cX9_pack 108 = .ok (.irem, 1) := by decide +kernel
theorem dX9_pack_109 : decode cX9_pack 109 = .ok (.invokevirtual 86, 3) := by decide +kernel
theorem dX9_pack_112 : decode cX9_pack 112 = .ok (.goto 8, 3) := by decide +kernel
theorem dX9_pack_115 : decode cX9_pack 115 = .ok (.aload_n 0, 1) := by decide +kernel
theorem dX9_pack_116 : decode cX9_pack 116 = .ok (.iload_n 3, 1) := by decide +kernel
theorem dX9_pack_117 : decode cX9_pack 117 = .ok (.invokevirtual 86, 3) := by decide +kernel
theorem dX9_pack_120 : decode cX9_pack 120 = .ok (.iinc 2 1, 3) := by decide +kernel
theorem dX9_pack_123 : decode cX9_pack 123 = .ok (.goto (-74), 3) := by decide +kernel
theorem dX9_pack_126 : decode cX9_pack 126 = .ok (.aload_n 0, 1) := by decide +kernel
theorem dX9_pack_127 : decode cX9_pack 127 = .ok (.invokevirtual 89, 3) := by decide +kernel
theorem dX9_pack_130 : decode cX9_pack 130 = .ok (.return_, 1) := by decide +kernel
def F_X9_pack (p0 : Int32) (Γ : HS) : HR :=
  bnd (((Γ 6).1 1)) fun (x_1 : Int32) =>
  bnd (cA' Γ 6 4 (g_put 8000 ((Γ 6).2.1 4) ((Γ 6).1 6) x_1)) fun σ_3 =>
  bnd (cA' σ_3 6 5 (g_put 8000 ((σ_3 6).2.1 5) ((σ_3 6).1 6) p0)) fun σ_5 =>
  bnd (cI' σ_5 6 6 (((σ_5 6).1 6) + 1)) fun σ_7 =>
  bnd (cI' σ_7 6 2 0) fun σ_9 =>
  bnd (cI' σ_9 6 3 0) fun σ_11 =>
  loopF (fun (again_14 : (Int32 × HS) → HR) (s_13 : Int32 × HS) => (
    bnd (fun  (σ_17 : HS) => (
      (F_X9_shutText σ_17).bind fun u_21 =>
      some (0, u_21.2)
    ) : HS → HR) fun j_18 =>
    if 16000 ≤ s_13.1 then (
      j_18  s_13.2
    ) else (
      if s_13.1 < 0 ∨ 16000 ≤ s_13.1.toNatClampNeg then none else
      if ((s_13.2 6).2.1 7 s_13.1.toNatClampNeg) = 34 then (
        j_18  s_13.2
      ) else (
        (F_X9_signOf s_13.1 s_13.2).bind fun u_32 =>
        bnd ((u_32.1.toUInt32 % 65536).toInt32) fun (x_34 : Int32) =>
        bnd ((tx_ixOf ([32, 10, 97, 98, 99, 100, 101, 102, 103, 104, 105, 106, 107, 108, 109, 110, 111, 112, 113, 114, 115, 116, 117, 118, 119, 120, 121, 122, 46, 33, 35, 36, 37, 38, 39, 40, 41, 42, 43, 44, 45, 47, 48, 49, 50, 51, 52, 53, 54, 55, 56, 57, 58, 59, 60, 61, 62, 63, 64, 65, 66, 67, 68, 69, 70, 71, 72, 73, 74, 75, 76, 77, 78, 79, 80, 81, 82, 83, 84, 85, 86, 87, 88, 89, 90, 91, 92, 93, 95, 96, 123, 124, 125, 126] : List Int32) x_34)) fun (x_36 : Int32) =>
        bnd (fun  (σ_38 : HS) => (
          bnd (s_13.1 + 1) fun (x_42 : Int32) =>
          again_14 (x_42, σ_38)
        ) : HS → HR) fun j_39 =>
        if x_36 < 29 then (
          (F_X9_gather x_36 u_32.2).bind fun u_46 =>
          j_39  u_46.2
        ) else (
          bnd (((x_36 - 29) / 32)) fun (x_49 : Int32) =>
          (F_X9_gather (29 + x_49) u_32.2).bind fun u_51 =>
          bnd (((x_36 - 29) - (x_36 - 29) / 32 * 32)) fun (x_53 : Int32) =>
          (F_X9_gather x_53 u_51.2).bind fun u_55 =>
          j_39  u_55.2
        )
      )
    )
  )) FU (p0, σ_11)
set_option maxHeartbeats 4000000 in
set_option maxRecDepth 100000 in
theorem k_X9_pack (l : Launch) (dC : Nat → ClassId) (dI : Nat → Nat → Nat) (cB cC cI cJ cZ cP : ClassId) (oA : Nat → Nat) (rA : Nat → Nat → Nat) (sz : Nat)  (p0 : Int32) (Γ : HS) (res : Int32 × HS) (hF : F_X9_pack p0 Γ = some res) : Met l yX9_pack (g_ws yX9_pack cX9_pack 4 none) ({ frames := 5, cells := 0, slots := 0, locals := 131 }) (va_Pc [.ref (oA 6), .int p0] (g_B (dC, dI) [(cB, .byte), (cC, .char), (cI, .int), (cJ, .long), (cZ, .boolean), (cP, .object "StoryHouse$Play")] sz (b_t cB cC cI cJ cZ oA rA Γ) g_0)) (va_Qv (fun (_ : Unit) => True) (g_Bo (dC, dI) (va_A (b_t cB cC cI cJ cZ oA rA Γ) sz) (fun (_ : Unit) => (b_t cB cC cI cJ cZ oA rA res.2))) (va_A (b_t cB cC cI cJ cZ oA rA Γ) sz)) 0 0 (va_A (b_t cB cC cI cJ cZ oA rA Γ) sz) := by
  refine Met.ofW (cc := cX9_pack) (maxL := 4) (ret := none) (by decide) rfl ?_
  intro p e s m args below meth c s₁ B hml hv
  obtain ⟨rfl, hsz, hP, hK, hD0, hE, hX⟩ := hv
  have hx := B.exec
  have hb := B.bytes
  have hr := B.returns
  have hts0 := atoms_spec (ws := g_ws yX9_pack cX9_pack 4 none) B.pre
  have hts : ∀ w ∈ lw_good, w.before ([.ref (oA 6), .int p0] : List Value).toArray s = true := fun w z => hts0 w (List.mem_cons_of_mem _ z)
  have hown : s.vm.findClass RX9 = some m.cls := findClass_of_methodNamed B.named
  have hlocks := B.notSynchronized
  subst hsz
  have hD1 := hD0.self (sz := s.heap.size)
  generalize hAe : va_A (b_t cB cC cI cJ cZ oA rA Γ) s.heap.size = A at hD1 hE hX ⊢
  have hA : ∀ q : Nat, s.heap.size ≤ q → A q := fun q z => by rw [← hAe]; exact Or.inr z
  have hDD : ∀ Γ : HS, va_D A (b_t cB cC cI cJ cZ oA rA Γ) := fun Γ9 => va_D_fst (ws := (b_t cB cC cI cJ cZ oA rA Γ)) (ws' := (b_t cB cC cI cJ cZ oA rA Γ9)) rfl hD1
  have hN := hE.1
  have hS : va_S A s.heap s.heap [] := va_S.rf
  have hl := lv_entry ([.ref (oA 6), .int p0]) (n := 4) (Nat.le_of_ble_eq_true rfl)
  rw [lg_entry_eq]
  generalize (lg_sl ([.ref (oA 6), .int p0]) ++ List.replicate (4 - (lg_sl ([.ref (oA 6), .int p0])).length) Slot.unset).toArray = ls at hl ⊢
  have hl : lv_has ls 4 [(0, .ref (oA 6)), (1, .int p0)] := hl
  unfold F_X9_pack at hF
  refine lv_aload_n hx hb dX9_pack_0 rfl (lv_at hl 0 rfl) ?_
  refine va_get (D := (dC, dI)) (ci := 9) (v := .ref (rA 6 4)) (C := RX9) (T := TX9) (N := 9) hx hb hts ii_X9 hown hK hP 0 rfl rfl 4 (by decide) (hts (.fieldLink RX9 15 "StoryHouse$Texts" "begins" "[I") wq_138) (fun _ h9 => h9) rfl dX9_pack_1 ?_
  refine lv_aload_n hx hb dX9_pack_4 rfl (lv_at hl 0 rfl) ?_
  refine va_get (D := (dC, dI)) (ci := 9) (v := .int ((Γ 6).1 6)) (C := RX9) (T := TX9) (N := 9) hx hb hts ii_X9 hown hK hP 0 rfl rfl 6 (by decide) (hts (.fieldLink RX9 33 "StoryHouse$Texts" "count" "I") wq_140) (fun _ h9 => h9) rfl dX9_pack_5 ?_
  refine lv_aload_n hx hb dX9_pack_8 rfl (lv_at hl 0 rfl) ?_
  refine va_get (D := (dC, dI)) (ci := 9) (v := .int ((Γ 6).1 1)) (C := RX9) (T := TX9) (N := 9) hx hb hts ii_X9 hown hK hP 0 rfl rfl 1 (by decide) (hts (.fieldLink RX9 29 "StoryHouse$Texts" "unitCount" "I") wq_135) (fun _ h9 => h9) rfl dX9_pack_9 ?_
  obtain ⟨x_1, ex_1, hF_2⟩ := bnd_e hF
  clear hF
  refine m_top ex_1 ?_
  have hPc := hP.sub (ws' := [(rA 6 4, .inl (cI, 8000, .inl ((Γ 6).2.1 4)))]) [2] rfl
  have hDc := (hDD Γ).sub (ws' := [(rA 6 4, .inl (cI, 8000, .inl ((Γ 6).2.1 4)))]) [2] (by decide +kernel) rfl
  have hFc := va_free (wc := [(rA 6 4, .inl (cI, 8000, .inl ((Γ 6).2.1 4)))]) (hDD Γ) hS hA [2] rfl
  refine g_ofv (wc := [(rA 6 4, .inl (cI, 8000, .inl ((Γ 6).2.1 4)))]) (wr := (((b_t cB cC cI cJ cZ oA rA Γ)).eraseIdx 2)) hP (hDD Γ) hS hFc [2] [0, 1, 3, 4, 5] rfl rfl (by decide +kernel) (by decide +kernel) (va_runSN (As := [.ref (rA 6 4), .int ((Γ 6).1 6), .int x_1]) (rest := []) ⟨hx, hb, hml, hown, hts⟩ (c_X11_put l dC dI cB cC cI cJ cZ cP s.heap.size (rA 6 4) ((Γ 6).1 6) x_1 8000 ((Γ 6).2.1 4) (by decide)) ⟨va_cnB 3 hts (g_gA wq_412) rfl rfl rfl (hN.at 26 rfl) (hts (.initialized RX11) wq_1) (by decide +kernel) ⟨Nat.le_of_ble_eq_true rfl, Nat.le_of_ble_eq_true rfl⟩, (hts (.static yX11_put) wq_411), trivial⟩ (g_preS g_bl0 hK hPc hDc hS hE hFc g_to0) rfl rfl hl.1 rfl (lv_room (Nat.le_of_ble_eq_true rfl)) dX9_pack_12 ⟨Nat.le_of_ble_eq_true rfl, Nat.le_of_ble_eq_true rfl⟩) (fun g9 H locs hw9 hP' hD' hS => ?_)
  clear hPc hDc hFc hD'
  obtain ⟨σ_3, eσ_3, hF_4⟩ := bnd_e hF_2
  clear hF_2
  subst hw9
  have hP : va_P (dC, dI) vwCl (b_t cB cC cI cJ cZ oA rA σ_3) H := by rw [eσ_3]; exact hP'.sub [0, 1, 5, 2, 3, 4] rfl
  clear hP'
  refine lv_aload_n hx hb dX9_pack_15 rfl (lv_at hl 0 rfl) ?_
  refine va_get (D := (dC, dI)) (ci := 9) (v := .ref (rA 6 5)) (C := RX9) (T := TX9) (N := 9) hx hb hts ii_X9 hown hK hP 0 rfl rfl 5 (by decide) (hts (.fieldLink RX9 19 "StoryHouse$Texts" "toldPlaces" "[I") wq_139) (fun _ h9 => h9) rfl dX9_pack_16 ?_
  refine lv_aload_n hx hb dX9_pack_19 rfl (lv_at hl 0 rfl) ?_
  refine va_get (D := (dC, dI)) (ci := 9) (v := .int ((σ_3 6).1 6)) (C := RX9) (T := TX9) (N := 9) hx hb hts ii_X9 hown hK hP 0 rfl rfl 6 (by decide) (hts (.fieldLink RX9 33 "StoryHouse$Texts" "count" "I") wq_140) (fun _ h9 => h9) rfl dX9_pack_20 ?_
  refine lv_iload_n hx hb dX9_pack_23 rfl (lv_at hl 1 rfl) ?_
  have hPc := hP.sub (ws' := [(rA 6 5, .inl (cI, 8000, .inl ((σ_3 6).2.1 5)))]) [3] rfl
  have hDc := (hDD σ_3).sub (ws' := [(rA 6 5, .inl (cI, 8000, .inl ((σ_3 6).2.1 5)))]) [3] (by decide +kernel) rfl
  have hFc := va_free (wc := [(rA 6 5, .inl (cI, 8000, .inl ((σ_3 6).2.1 5)))]) (hDD σ_3) hS hA [3] rfl
  refine g_ofv (wc := [(rA 6 5, .inl (cI, 8000, .inl ((σ_3 6).2.1 5)))]) (wr := (((b_t cB cC cI cJ cZ oA rA σ_3)).eraseIdx 3)) hP (hDD σ_3) hS hFc [3] [0, 1, 2, 4, 5] rfl rfl (by decide +kernel) (by decide +kernel) (va_runSN (As := [.ref (rA 6 5), .int ((σ_3 6).1 6), .int p0]) (rest := []) ⟨hx, hb, hml, hown, hts⟩ (c_X11_put l dC dI cB cC cI cJ cZ cP H.size (rA 6 5) ((σ_3 6).1 6) p0 8000 ((σ_3 6).2.1 5) (by decide)) ⟨va_cnB 3 hts (g_gA wq_412) rfl rfl rfl (hN.at 26 rfl) (hts (.initialized RX11) wq_1) (by decide +kernel) ⟨Nat.le_of_ble_eq_true rfl, Nat.le_of_ble_eq_true rfl⟩, (hts (.static yX11_put) wq_411), trivial⟩ (g_preS g_bl0 hK hPc hDc hS hE hFc g_to0) rfl rfl hl.1 rfl (lv_room (Nat.le_of_ble_eq_true rfl)) dX9_pack_24 ⟨Nat.le_of_ble_eq_true rfl, Nat.le_of_ble_eq_true rfl⟩) (fun g9 H locs hw9 hP' hD' hS => ?_)
  clear hPc hDc hFc hD'
  obtain ⟨σ_5, eσ_5, hF_6⟩ := bnd_e hF_4
  clear hF_4
  subst hw9
  have hP : va_P (dC, dI) vwCl (b_t cB cC cI cJ cZ oA rA σ_5) H := by rw [eσ_5]; exact hP'.sub [0, 1, 2, 5, 3, 4] rfl
  clear hP'
  refine lv_aload_n hx hb dX9_pack_27 rfl (lv_at hl 0 rfl) ?_
  refine lv_dup hx hb dX9_pack_28 rfl ?_
  refine va_get (D := (dC, dI)) (ci := 9) (v := .int ((σ_5 6).1 6)) (C := RX9) (T := TX9) (N := 9) hx hb hts ii_X9 hown hK hP 0 rfl rfl 6 (by decide) (hts (.fieldLink RX9 33 "StoryHouse$Texts" "count" "I") wq_140) (fun _ h9 => h9) rfl dX9_pack_29 ?_
  refine lv_iconst (v := 1) hx hb dX9_pack_32 (by decide +kernel) ?_
  refine lv_iadd hx hb dX9_pack_33 ?_
  obtain ⟨σ_7, eσ_7, hF_8⟩ := bnd_e hF_6
  clear hF_6
  refine va_put (D := (dC, dI)) (ci := 9) (v := .int (((σ_5 6).1 6) + 1)) (ty := .int) (C := RX9) (T := TX9) (N := 9) hx hb hts ii_X9 tyX9 tyX9_ok nmX9 hown hK hP (hDD _) hS 0 rfl rfl 6 (by decide) (hts (.fieldLink RX9 33 "StoryHouse$Texts" "count" "I") wq_140) (fun _ h9 => h9) rfl (by decide +kernel) rfl rfl (Nat.le_of_ble_eq_true rfl) dX9_pack_34 (fun H locs hP' _ hS => ?_)
  have hP : va_P (dC, dI) vwCl (b_t cB cC cI cJ cZ oA rA σ_7) H := by rw [eσ_7]; exact cs_t_t_6 ▸ hP'
  clear hP'
  refine lv_aload_n hx hb dX9_pack_37 rfl (lv_at hl 0 rfl) ?_
  refine lv_iconst (v := 0) hx hb dX9_pack_38 (by decide +kernel) ?_
  obtain ⟨σ_9, eσ_9, hF_10⟩ := bnd_e hF_8
  clear hF_8
  refine va_put (D := (dC, dI)) (ci := 9) (v := .int 0) (ty := .int) (C := RX9) (T := TX9) (N := 9) hx hb hts ii_X9 tyX9 tyX9_ok nmX9 hown hK hP (hDD _) hS 0 rfl rfl 2 (by decide) (hts (.fieldLink RX9 70 "StoryHouse$Texts" "gathered" "I") wq_136) (fun _ h9 => h9) rfl (by decide +kernel) rfl rfl (Nat.le_of_ble_eq_true rfl) dX9_pack_39 (fun H locs hP' _ hS => ?_)
  have hP : va_P (dC, dI) vwCl (b_t cB cC cI cJ cZ oA rA σ_9) H := by rw [eσ_9]; exact cs_t_t_2 ▸ hP'
  clear hP'
  refine lv_aload_n hx hb dX9_pack_42 rfl (lv_at hl 0 rfl) ?_
  refine lv_iconst (v := 0) hx hb dX9_pack_43 (by decide +kernel) ?_
  obtain ⟨σ_11, eσ_11, hF_12⟩ := bnd_e hF_10
  clear hF_10
  refine va_put (D := (dC, dI)) (ci := 9) (v := .int 0) (ty := .int) (C := RX9) (T := TX9) (N := 9) hx hb hts ii_X9 tyX9 tyX9_ok nmX9 hown hK hP (hDD _) hS 0 rfl rfl 3 (by decide) (hts (.fieldLink RX9 73 "StoryHouse$Texts" "gatheredCodes" "I") wq_137) (fun _ h9 => h9) rfl (by decide +kernel) rfl rfl (Nat.le_of_ble_eq_true rfl) dX9_pack_44 (fun H locs hP' _ hS => ?_)
  have hP : va_P (dC, dI) vwCl (b_t cB cC cI cJ cZ oA rA σ_11) H := by rw [eσ_11]; exact cs_t_t_3 ▸ hP'
  clear hP'
  refine lv_iload_n hx hb dX9_pack_47 rfl (lv_at hl 1 rfl) ?_
  refine lv_istore_n (lv' := [(2, .int p0), (0, .ref (oA 6)), (1, .int p0)]) hx hb dX9_pack_48 rfl hl (by decide) rfl (fun ls hl => ?_)
  refine loopF_ind (P := fun (s_13 : Int32 × HS) => ∀ (H : Heap) (locs : List Loc), va_P (dC, dI) vwCl (b_t cB cC cI cJ cZ oA rA s_13.2) H → va_S A s.heap H locs → ∀ ls : Array Slot, lv_has ls 4 [(0, .ref (oA 6)), (2, .int s_13.1)] → W p l e (headSpec (g_ws yX9_pack cX9_pack 4 none) { frames := 5, cells := 0, slots := 0, locals := 131 }).room s m ([.ref (oA 6), .int p0] : List Value).toArray below meth c H locs 0 0 (MQ below (va_Qv (fun (_ : Unit) => True) (g_Bo (dC, dI) A (fun (_ : Unit) => (b_t cB cC cI cJ cZ oA rA res.2))) A) ([.ref (oA 6), .int p0] : List Value).toArray s 0 0 A) (F0 m 49 ls [])) ?_ _ _ hF_12 _ _ hP hS ls (lv_sub hl [1, 0] rfl)
  intro again_14 s_13 ih_15 hF_16
  intro H locs hP hS ls hl
  refine lv_iload_n hx hb dX9_pack_49 rfl (lv_at hl 1 rfl) ?_
  refine lv_aload_n hx hb dX9_pack_50 rfl (lv_at hl 0 rfl) ?_
  refine va_get (D := (dC, dI)) (ci := 9) (v := .ref (rA 6 7)) (C := RX9) (T := TX9) (N := 9) hx hb hts ii_X9 hown hK hP 0 rfl rfl 7 (by decide) (hts (.fieldLink RX9 22 "StoryHouse$Texts" "source" "[B") wq_141) (fun _ h9 => h9) rfl dX9_pack_51 ?_
  refine va_alen (v := 16000) hx hb hK hP 4 0 rfl rfl (by first | rfl | decide +kernel) dX9_pack_54 ?_
  obtain ⟨j_18, ej_18, hF_19⟩ := bnd_e hF_16
  clear hF_16
  have Jj_18 : ∀  (σ_17 : HS), j_18  σ_17 = some res → ∀ (H : Heap) (locs : List Loc), va_P (dC, dI) vwCl (b_t cB cC cI cJ cZ oA rA σ_17) H → va_S A s.heap H locs → ∀ ls : Array Slot, lv_has ls 4 [(0, .ref (oA 6))] → W p l e (headSpec (g_ws yX9_pack cX9_pack 4 none) { frames := 5, cells := 0, slots := 0, locals := 131 }).room s m ([.ref (oA 6), .int p0] : List Value).toArray below meth c H locs 0 0 (MQ below (va_Qv (fun (_ : Unit) => True) (g_Bo (dC, dI) A (fun (_ : Unit) => (b_t cB cC cI cJ cZ oA rA res.2))) A) ([.ref (oA 6), .int p0] : List Value).toArray s 0 0 A) (F0 m 126 ls []) := by
    intro  σ_17 hF0 H locs hP hS ls hl
    subst ej_18
    have hF_20 := hF0
    clear hF0
    refine lv_aload_n hx hb dX9_pack_126 rfl (lv_at hl 0 rfl) ?_
    obtain ⟨u_21, hu_21, hF_22⟩ := Option.bind_eq_some_iff.mp hF_20
    clear hF_20
    have hPc := hP.sub (ws' := (b_t cB cC cI cJ cZ oA rA σ_17)) [0, 1, 2, 3, 4, 5] rfl
    have hDc := (hDD σ_17).sub (ws' := (b_t cB cC cI cJ cZ oA rA σ_17)) [0, 1, 2, 3, 4, 5] (by decide +kernel) rfl
    have hFc := va_free (wc := (b_t cB cC cI cJ cZ oA rA σ_17)) (hDD σ_17) hS hA [0, 1, 2, 3, 4, 5] rfl
    refine g_ofv (wc := (b_t cB cC cI cJ cZ oA rA σ_17)) (wr := ([] : va_W)) hP (hDD σ_17) hS hFc [0, 1, 2, 3, 4, 5] [] rfl rfl (by decide +kernel) (by decide +kernel) (va_runV (As := []) (rest := []) ⟨hx, hb, hml, hown, hts⟩ (k_X9_shutText l dC dI cB cC cI cJ cZ cP oA rA H.size  σ_17 _ hu_21) (cwV 0 hts (g_gV wq_865 wq_866 wq_2065 wq_7 wq_867) rfl rfl rfl (by decide +kernel) ⟨Nat.le_of_ble_eq_true rfl, Nat.le_of_ble_eq_true rfl⟩) (g_preV g_bl0 hK hPc hDc hS hE hFc g_to0 (q0 := 0) (ci := 9) rfl rfl) rfl rfl hl.1 rfl (lv_room (Nat.le_of_ble_eq_true rfl)) dX9_pack_127 ⟨Nat.le_of_ble_eq_true rfl, Nat.le_of_ble_eq_true rfl⟩) (fun u9 H locs hw9 hP' hD' hS => ?_)
    clear hPc hDc hFc
    have hP : va_P (dC, dI) vwCl (b_t cB cC cI cJ cZ oA rA u_21.2) H := hP'
    clear hP' hD'
    have h9 := Option.some.inj hF_22
    subst h9
    exact W.vret hx hb hr (fun t ht hW => ⟨⟨(), rfl, trivial, m_end ht hP, hDD _⟩, hS.F ht⟩) hS.2.2 dX9_pack_130
  refine lv_icmp_ge (tgt := 126) hx hb dX9_pack_55 (by decide) (fun c_23 => ?_) (fun c_23 => ?_)
  · have hF_24 := ipos c_23 hF_19
    clear hF_19
    exact Jj_18  s_13.2 hF_24 _ _ hP hS ls (lv_sub hl [0] rfl)
  · have hF_25 := ineg c_23 hF_19
    clear hF_19
    refine lv_aload_n hx hb dX9_pack_58 rfl (lv_at hl 0 rfl) ?_
    refine va_get (D := (dC, dI)) (ci := 9) (v := .ref (rA 6 7)) (C := RX9) (T := TX9) (N := 9) hx hb hts ii_X9 hown hK hP 0 rfl rfl 7 (by decide) (hts (.fieldLink RX9 22 "StoryHouse$Texts" "source" "[B") wq_141) (fun _ h9 => h9) rfl dX9_pack_59 ?_
    refine lv_iload_n hx hb dX9_pack_62 rfl (lv_at hl 1 rfl) ?_
    obtain ⟨g_26, hF_27⟩ := nif_e hF_25
    clear hF_25
    refine va_bald (f := (s_13.2 6).2.1 7) hx hb hK hP 4 0 rfl rfl g_26 dX9_pack_63 ?_
    refine lv_bipush (v := 34) hx hb dX9_pack_64 (by decide +kernel) ?_
    refine lv_icmp_eq (tgt := 126) hx hb dX9_pack_66 (by decide) (fun c_28 => ?_) (fun c_28 => ?_)
    · have hF_29 := ipos c_28 hF_27
      clear hF_27
      exact Jj_18  s_13.2 hF_29 _ _ hP hS ls (lv_sub hl [0] rfl)
    · have hF_30 := ineg c_28 hF_27
      clear hF_27
      obtain ⟨q_31, vq_31, hRq_31, hSq_31⟩ := hE.2.2.2.2 _ (List.mem_of_getElem? (i := 21) rfl)
      refine va_ldcS (own := RX9) (tx := " \nabcdefghijklmnopqrstuvwxyz.!#$%&'()*+,-/0123456789:;<=>?@ABCDEFGHIJKLMNOPQRSTUVWXYZ[\\]_`{|}~") hx hb hown hRq_31 dX9_pack_69 ?_
      refine lv_aload_n hx hb dX9_pack_71 rfl (lv_at hl 0 rfl) ?_
      refine lv_iload_n hx hb dX9_pack_72 rfl (lv_at hl 1 rfl) ?_
      obtain ⟨u_32, hu_32, hF_33⟩ := Option.bind_eq_some_iff.mp hF_30
      clear hF_30
      have hPc := hP.sub (ws' := (b_t cB cC cI cJ cZ oA rA s_13.2)) [0, 1, 2, 3, 4, 5] rfl
      have hDc := (hDD s_13.2).sub (ws' := (b_t cB cC cI cJ cZ oA rA s_13.2)) [0, 1, 2, 3, 4, 5] (by decide +kernel) rfl
      have hFc := va_free (wc := (b_t cB cC cI cJ cZ oA rA s_13.2)) (hDD s_13.2) hS hA [0, 1, 2, 3, 4, 5] rfl
      refine g_ofi (wc := (b_t cB cC cI cJ cZ oA rA s_13.2)) (wr := ([] : va_W)) hP (hDD s_13.2) hS hFc [0, 1, 2, 3, 4, 5] [] rfl rfl (by decide +kernel) (by decide +kernel) (va_runV (As := [.int s_13.1]) (rest := [.ref q_31]) ⟨hx, hb, hml, hown, hts⟩ (k_X9_signOf l dC dI cB cC cI cJ cZ cP oA rA H.size  s_13.1 s_13.2 _ hu_32) (cwV 1 hts (g_gV wq_855 wq_856 wq_2062 wq_7 wq_857) rfl rfl rfl (by decide +kernel) ⟨Nat.le_of_ble_eq_true rfl, Nat.le_of_ble_eq_true rfl⟩) (g_preV g_bl0 hK hPc hDc hS hE hFc g_to0 (q0 := 0) (ci := 9) rfl rfl) rfl rfl hl.1 rfl (lv_room (Nat.le_of_ble_eq_true rfl)) dX9_pack_73 ⟨Nat.le_of_ble_eq_true rfl, Nat.le_of_ble_eq_true rfl⟩) (fun r9 u9 H locs hw9 hP' hD' hS => ?_)
      clear hPc hDc hFc
      subst hw9
      have hP : va_P (dC, dI) vwCl (b_t cB cC cI cJ cZ oA rA u_32.2) H := hP'
      clear hP' hD'
      refine lv_i2c hx hb dX9_pack_76 rfl ?_
      obtain ⟨x_34, ex_34, hF_35⟩ := bnd_e hF_33
      clear hF_33
      refine m_top ex_34 ?_
      refine c_cs (v := tx_ixOf ([32, 10, 97, 98, 99, 100, 101, 102, 103, 104, 105, 106, 107, 108, 109, 110, 111, 112, 113, 114, 115, 116, 117, 118, 119, 120, 121, 122, 46, 33, 35, 36, 37, 38, 39, 40, 41, 42, 43, 44, 45, 47, 48, 49, 50, 51, 52, 53, 54, 55, 56, 57, 58, 59, 60, 61, 62, 63, 64, 65, 66, 67, 68, 69, 70, 71, 72, 73, 74, 75, 76, 77, 78, 79, 80, 81, 82, 83, 84, 85, 86, 87, 88, 89, 90, 91, 92, 93, 95, 96, 123, 124, 125, 126] : List Int32) x_34) hA hP hS (va_runV (As := [.int x_34]) (rest := []) ⟨hx, hb, hml, hown, hts⟩ (c_J0_indexOf_0f7a4 l dC dI cB cC cI cJ cZ cP H.size q_31 x_34 _ ([32, 10, 97, 98, 99, 100, 101, 102, 103, 104, 105, 106, 107, 108, 109, 110, 111, 112, 113, 114, 115, 116, 117, 118, 119, 120, 121, 122, 46, 33, 35, 36, 37, 38, 39, 40, 41, 42, 43, 44, 45, 47, 48, 49, 50, 51, 52, 53, 54, 55, 56, 57, 58, 59, 60, 61, 62, 63, 64, 65, 66, 67, 68, 69, 70, 71, 72, 73, 74, 75, 76, 77, 78, 79, 80, 81, 82, 83, 84, 85, 86, 87, 88, 89, 90, 91, 92, 93, 95, 96, 123, 124, 125, 126] : List Int32) ) (cwV 1 hts (g_gV wq_858 wq_445 wq_446 wq_22 wq_447) rfl rfl rfl (by decide +kernel) ⟨Nat.le_of_ble_eq_true rfl, Nat.le_of_ble_eq_true rfl⟩) (g_preVs g_blS hK (wc := []) (A := A) (fun k q z => by simp at z) ⟨fun i j p q z => by simp at z, fun k q z => by simp at z⟩ hS hE (c_nil hA hS) (g_toS hSq_31 hS (c_nil hA hS)) (va_Orecv hSq_31.1 hS)) rfl rfl hl.1 rfl (lv_room (Nat.le_of_ble_eq_true rfl)) dX9_pack_77 ⟨Nat.le_of_ble_eq_true rfl, Nat.le_of_ble_eq_true rfl⟩) (fun H locs hP hS => ?_)
      obtain ⟨x_36, ex_36, hF_37⟩ := bnd_e hF_35
      clear hF_35
      refine m_top ex_36 ?_
      refine lv_istore_n (lv' := [(3, .int x_36), (0, .ref (oA 6)), (2, .int s_13.1)]) hx hb dX9_pack_80 rfl hl (by decide) rfl (fun ls hl => ?_)
      refine lv_iload_n hx hb dX9_pack_81 rfl (lv_at hl 0 rfl) ?_
      refine lv_bipush (v := 29) hx hb dX9_pack_82 (by decide +kernel) ?_
      obtain ⟨j_39, ej_39, hF_40⟩ := bnd_e hF_37
      clear hF_37
      have Jj_39 : ∀  (σ_38 : HS), j_39  σ_38 = some res → ∀ (H : Heap) (locs : List Loc), va_P (dC, dI) vwCl (b_t cB cC cI cJ cZ oA rA σ_38) H → va_S A s.heap H locs → ∀ ls : Array Slot, lv_has ls 4 [(0, .ref (oA 6)), (2, .int s_13.1)] → W p l e (headSpec (g_ws yX9_pack cX9_pack 4 none) { frames := 5, cells := 0, slots := 0, locals := 131 }).room s m ([.ref (oA 6), .int p0] : List Value).toArray below meth c H locs 0 0 (MQ below (va_Qv (fun (_ : Unit) => True) (g_Bo (dC, dI) A (fun (_ : Unit) => (b_t cB cC cI cJ cZ oA rA res.2))) A) ([.ref (oA 6), .int p0] : List Value).toArray s 0 0 A) (F0 m 120 ls []) := by
        intro  σ_38 hF0 H locs hP hS ls hl
        subst ej_39
        have hF_41 := hF0
        clear hF0
        obtain ⟨x_42, ex_42, hF_43⟩ := bnd_e hF_41
        clear hF_41
        refine lv_iinc (v := x_42) (lv' := [(2, .int x_42), (0, .ref (oA 6))]) hx hb dX9_pack_120 hl (k := 1) rfl (by rw [ex_42]; rfl) (by decide) rfl (fun ls hl => ?_)
        refine lv_goto (tgt := 49) hx hb dX9_pack_123 (by decide) ?_
        exact ih_15 (x_42, σ_38) hF_43 _ _ hP hS ls (lv_sub hl [1, 0] rfl)
      refine lv_icmp_lt (tgt := 115) hx hb dX9_pack_84 (by decide) (fun c_44 => ?_) (fun c_44 => ?_)
      · have hF_45 := ipos c_44 hF_40
        clear hF_40
        refine lv_aload_n hx hb dX9_pack_115 rfl (lv_at hl 1 rfl) ?_
        refine lv_iload_n hx hb dX9_pack_116 rfl (lv_at hl 0 rfl) ?_
        obtain ⟨u_46, hu_46, hF_47⟩ := Option.bind_eq_some_iff.mp hF_45
        clear hF_45
        have hPc := hP.sub (ws' := (b_t cB cC cI cJ cZ oA rA u_32.2)) [0, 1, 2, 3, 4, 5] rfl
        have hDc := (hDD u_32.2).sub (ws' := (b_t cB cC cI cJ cZ oA rA u_32.2)) [0, 1, 2, 3, 4, 5] (by decide +kernel) rfl
        have hFc := va_free (wc := (b_t cB cC cI cJ cZ oA rA u_32.2)) (hDD u_32.2) hS hA [0, 1, 2, 3, 4, 5] rfl
        refine g_ofv (wc := (b_t cB cC cI cJ cZ oA rA u_32.2)) (wr := ([] : va_W)) hP (hDD u_32.2) hS hFc [0, 1, 2, 3, 4, 5] [] rfl rfl (by decide +kernel) (by decide +kernel) (va_runV (As := [.int x_36]) (rest := []) ⟨hx, hb, hml, hown, hts⟩ (k_X9_gather l dC dI cB cC cI cJ cZ cP oA rA H.size  x_36 u_32.2 _ hu_46) (cwV 1 hts (g_gV wq_859 wq_860 wq_2063 wq_7 wq_861) rfl rfl rfl (by decide +kernel) ⟨Nat.le_of_ble_eq_true rfl, Nat.le_of_ble_eq_true rfl⟩) (g_preV g_bl0 hK hPc hDc hS hE hFc g_to0 (q0 := 0) (ci := 9) rfl rfl) rfl rfl hl.1 rfl (lv_room (Nat.le_of_ble_eq_true rfl)) dX9_pack_117 ⟨Nat.le_of_ble_eq_true rfl, Nat.le_of_ble_eq_true rfl⟩) (fun u9 H locs hw9 hP' hD' hS => ?_)
        clear hPc hDc hFc
        have hP : va_P (dC, dI) vwCl (b_t cB cC cI cJ cZ oA rA u_46.2) H := hP'
        clear hP' hD'
        exact Jj_39  u_46.2 hF_47 _ _ hP hS ls (lv_sub hl [1, 2] rfl)
      · have hF_48 := ineg c_44 hF_40
        clear hF_40
        refine lv_aload_n hx hb dX9_pack_87 rfl (lv_at hl 1 rfl) ?_
        refine lv_bipush (v := 29) hx hb dX9_pack_88 (by decide +kernel) ?_
        refine lv_iload_n hx hb dX9_pack_90 rfl (lv_at hl 0 rfl) ?_
        refine lv_bipush (v := 29) hx hb dX9_pack_91 (by decide +kernel) ?_
        refine lv_isub hx hb dX9_pack_93 ?_
        refine lv_bipush (v := 32) hx hb dX9_pack_94 (by decide +kernel) ?_
        refine lv_idiv hx hb dX9_pack_96 (by decide +kernel) ?_
        obtain ⟨x_49, ex_49, hF_50⟩ := bnd_e hF_48
        clear hF_48
        refine m_top ex_49 ?_
        refine lv_iadd hx hb dX9_pack_97 ?_
        obtain ⟨u_51, hu_51, hF_52⟩ := Option.bind_eq_some_iff.mp hF_50
        clear hF_50
        have hPc := hP.sub (ws' := (b_t cB cC cI cJ cZ oA rA u_32.2)) [0, 1, 2, 3, 4, 5] rfl
        have hDc := (hDD u_32.2).sub (ws' := (b_t cB cC cI cJ cZ oA rA u_32.2)) [0, 1, 2, 3, 4, 5] (by decide +kernel) rfl
        have hFc := va_free (wc := (b_t cB cC cI cJ cZ oA rA u_32.2)) (hDD u_32.2) hS hA [0, 1, 2, 3, 4, 5] rfl
        refine g_ofv (wc := (b_t cB cC cI cJ cZ oA rA u_32.2)) (wr := ([] : va_W)) hP (hDD u_32.2) hS hFc [0, 1, 2, 3, 4, 5] [] rfl rfl (by decide +kernel) (by decide +kernel) (va_runV (As := [.int (29 + x_49)]) (rest := []) ⟨hx, hb, hml, hown, hts⟩ (k_X9_gather l dC dI cB cC cI cJ cZ cP oA rA H.size  (29 + x_49) u_32.2 _ hu_51) (cwV 1 hts (g_gV wq_859 wq_860 wq_2063 wq_7 wq_861) rfl rfl rfl (by decide +kernel) ⟨Nat.le_of_ble_eq_true rfl, Nat.le_of_ble_eq_true rfl⟩) (g_preV g_bl0 hK hPc hDc hS hE hFc g_to0 (q0 := 0) (ci := 9) rfl rfl) rfl rfl hl.1 rfl (lv_room (Nat.le_of_ble_eq_true rfl)) dX9_pack_98 ⟨Nat.le_of_ble_eq_true rfl, Nat.le_of_ble_eq_true rfl⟩) (fun u9 H locs hw9 hP' hD' hS => ?_)
        clear hPc hDc hFc
        have hP : va_P (dC, dI) vwCl (b_t cB cC cI cJ cZ oA rA u_51.2) H := hP'
        clear hP' hD'
        refine lv_aload_n hx hb dX9_pack_101 rfl (lv_at hl 1 rfl) ?_
        refine lv_iload_n hx hb dX9_pack_102 rfl (lv_at hl 0 rfl) ?_
        refine lv_bipush (v := 29) hx hb dX9_pack_103 (by decide +kernel) ?_
        refine lv_isub hx hb dX9_pack_105 ?_
        refine lv_bipush (v := 32) hx hb dX9_pack_106 (by decide +kernel) ?_
        refine lv_irem hx hb dX9_pack_108 (by decide +kernel) ?_
        obtain ⟨x_53, ex_53, hF_54⟩ := bnd_e hF_52
        clear hF_52
        refine m_top ex_53 ?_
        obtain ⟨u_55, hu_55, hF_56⟩ := Option.bind_eq_some_iff.mp hF_54
        clear hF_54
        have hPc := hP.sub (ws' := (b_t cB cC cI cJ cZ oA rA u_51.2)) [0, 1, 2, 3, 4, 5] rfl
        have hDc := (hDD u_51.2).sub (ws' := (b_t cB cC cI cJ cZ oA rA u_51.2)) [0, 1, 2, 3, 4, 5] (by decide +kernel) rfl
        have hFc := va_free (wc := (b_t cB cC cI cJ cZ oA rA u_51.2)) (hDD u_51.2) hS hA [0, 1, 2, 3, 4, 5] rfl
        refine g_ofv (wc := (b_t cB cC cI cJ cZ oA rA u_51.2)) (wr := ([] : va_W)) hP (hDD u_51.2) hS hFc [0, 1, 2, 3, 4, 5] [] rfl rfl (by decide +kernel) (by decide +kernel) (va_runV (As := [.int x_53]) (rest := []) ⟨hx, hb, hml, hown, hts⟩ (k_X9_gather l dC dI cB cC cI cJ cZ cP oA rA H.size  x_53 u_51.2 _ hu_55) (cwV 1 hts (g_gV wq_859 wq_860 wq_2063 wq_7 wq_861) rfl rfl rfl (by decide +kernel) ⟨Nat.le_of_ble_eq_true rfl, Nat.le_of_ble_eq_true rfl⟩) (g_preV g_bl0 hK hPc hDc hS hE hFc g_to0 (q0 := 0) (ci := 9) rfl rfl) rfl rfl hl.1 rfl (lv_room (Nat.le_of_ble_eq_true rfl)) dX9_pack_109 ⟨Nat.le_of_ble_eq_true rfl, Nat.le_of_ble_eq_true rfl⟩) (fun u9 H locs hw9 hP' hD' hS => ?_)
        clear hPc hDc hFc
        have hP : va_P (dC, dI) vwCl (b_t cB cC cI cJ cZ oA rA u_55.2) H := hP'
        clear hP' hD'
        refine lv_goto (tgt := 120) hx hb dX9_pack_112 (by decide) ?_
        exact Jj_39  u_55.2 hF_56 _ _ hP hS ls (lv_sub hl [1, 2] rfl)
theorem dX9_packAll_0 : decode cX9_packAll 0 = .ok (.aload_n 1, 1) := by decide +kernel
theorem dX9_packAll_1 : decode cX9_packAll 1 = .ok (.getfield 36, 3) := by decide +kernel
theorem dX9_packAll_4 : decode cX9_packAll 4 = .ok (.iconst 0, 1) := by decide +kernel
theorem dX9_packAll_5 : decode cX9_packAll 5 = .ok (.aload_n 0, 1) := by decide +kernel
theorem dX9_packAll_6 : decode cX9_packAll 6 = .ok (.getfield 22, 3) := by decide +kernel
theorem dX9_packAll_9 : decode cX9_packAll 9 = .ok (.iconst 0, 1) := by decide +kernel
theorem dX9_packAll_10 : decode cX9_packAll 10 = .ok (.aload_n 1, 1) := by decide +kernel
theorem dX9_packAll_11 : decode cX9_packAll 11 = .ok (.getfield 39, 3) := by decide +kernel
theorem dX9_packAll_14 : decode cX9_packAll 14 = .ok (.aload_n 0, 1) := by decide +kernel
theorem dX9_packAll_15 : decode cX9_packAll 15 = .ok (.getfield 22, 3) := by decide +kernel
theorem dX9_packAll_18 : decode cX9_packAll 18 = .ok (.arraylength, 1) := by decide +kernel
theorem dX9_packAll_19 : decode cX9_packAll 19 = .ok (.invokestatic 42, 3) := by decide +kernel
theorem dX9_packAll_22 : decode cX9_packAll 22 = .ok (.invokestatic 48, 3) := by decide +kernel
theorem dX9_packAll_25 : decode cX9_packAll 25 = .ok (.iconst 0, 1) := by decide +kernel
theorem dX9_packAll_26 : decode cX9_packAll 26 = .ok (.istore_n 2, 1) := by decide +kernel
theorem dX9_packAll_27 : decode cX9_packAll 27 = .ok (.iload_n 2, 1) := by decide +kernel
theorem dX9_packAll_28 : decode cX9_packAll 28 = .ok (.aload_n 1, 1) := by decide +kernel
theorem dX9_packAll_29 : decode cX9_packAll 29 = .ok (.getfield 54, 3) := by decide +kernel
theorem dX9_packAll_32 : decode cX9_packAll 32 = .ok (.if_icmp .ge 29, 3) := by decide +kernel
theorem dX9_packAll_35 : decode cX9_packAll 35 = .ok (.aload_n 1, 1) := by decide +kernel
theorem dX9_packAll_36 : decode cX9_packAll 36 = .ok (.iload_n 2, 1) := by decide +kernel
theorem dX9_packAll_37 : decode cX9_packAll 37 = .ok (.invokevirtual 55, 3) := by decide +kernel
theorem dX9_packAll_40 : decode cX9_packAll 40 = .ok (.iconst 4, 1) := by decide +kernel
theorem dX9_packAll_41 : decode cX9_packAll 41 = .ok (.if_icmp .ne 14, 3) := by decide +kernel
theorem dX9_packAll_44 : decode cX9_packAll 44 = .ok (.aload_n 0, 1) := by decide +kernel
theorem dX9_packAll_45 : decode cX9_packAll 45 = .ok (.aload_n 1, 1) := by decide +kernel
theorem dX9_packAll_46 : decode cX9_packAll 46 = .ok (.iload_n 2, 1) := by decide +kernel
theorem dX9_packAll_47 : decode cX9_packAll 47 = .ok (.invokevirtual 59, 3) := by decide +kernel
theorem dX9_packAll_50 : decode cX9_packAll 50 = .ok (.iconst 1, 1) := by decide +kernel
theorem dX9_packAll_51 : decode cX9_packAll 51 = .ok (.iadd, 1) := by decide +kernel
theorem dX9_packAll_52 : decode cX9_packAll 52 = .ok (.invokevirtual 62, 3) := by decide +kernel
theorem dX9_packAll_55 : decode cX9_packAll 55 = .ok (.iinc 2 1, 3) := by decide +kernel
theorem dX9_packAll_58 : decode cX9_packAll 58 = .ok (.goto (-31), 3) := by decide +kernel
theorem dX9_packAll_61 : decode cX9_packAll 61 = .ok (.return_, 1) := by decide +kernel
def F_X9_packAll  (Γ : HS) : HR :=
  bnd ((if 16000 < ((Γ 1).1 1) then 16000 else ((Γ 1).1 1))) fun (x_1 : Int32) =>
  if 0 < 0 ∨ 0 < 0 ∨ x_1 < 0 ∨ 16000 < (0 : Int32).toNatClampNeg + x_1.toNatClampNeg ∨ 16000 < (0 : Int32).toNatClampNeg + x_1.toNatClampNeg ∨ ¬ (∀ z, z < x_1.toNatClampNeg → vp_nar .byte (((Γ 1).2.1 0) ((0 : Int32).toNatClampNeg + z)) = ((Γ 1).2.1 0) ((0 : Int32).toNatClampNeg + z)) then none else
  bnd (cA' Γ 6 7 (va_cpy ((Γ 1).2.1 0) ((Γ 6).2.1 7) (0 : Int32).toNatClampNeg (0 : Int32).toNatClampNeg x_1.toNatClampNeg)) fun σ_5 =>
  loopF (fun (again_8 : (Int32 × HS) → HR) (s_7 : Int32 × HS) => (
    if ((s_7.2 1).1 2) ≤ s_7.1 then (
      some (0, s_7.2)
    ) else (
      (F_X10_kindOf s_7.1 s_7.2).bind fun u_14 =>
      bnd (mrg (fun j => j == 1) s_7.2 u_14.2) fun σ_16 =>
      bnd (fun  (σ_18 : HS) => (
        bnd (s_7.1 + 1) fun (x_22 : Int32) =>
        again_8 (x_22, σ_18)
      ) : HS → HR) fun j_19 =>
      if u_14.1 = 4 then (
        (F_X10_placeOf s_7.1 σ_16).bind fun u_26 =>
        bnd (mrg (fun j => j == 1) σ_16 u_26.2) fun σ_28 =>
        (F_X9_pack (u_26.1 + 1) σ_28).bind fun u_30 =>
        bnd (mrg (fun j => j == 6) σ_28 u_30.2) fun σ_32 =>
        j_19  σ_32
      ) else (
        j_19  σ_16
      )
    )
  )) FU (0, σ_5)
set_option maxHeartbeats 4000000 in
set_option maxRecDepth 100000 in
theorem k_X9_packAll (l : Launch) (dC : Nat → ClassId) (dI : Nat → Nat → Nat) (cB cC cI cJ cZ cP : ClassId) (oA : Nat → Nat) (rA : Nat → Nat → Nat) (sz : Nat)   (Γ : HS) (res : Int32 × HS) (hF : F_X9_packAll  Γ = some res) : Met l yX9_packAll (g_ws yX9_packAll cX9_packAll 3 none) ({ frames := 6, cells := 0, slots := 0, locals := 154 }) (va_Pc [.ref (oA 6), .ref (oA 1)] (g_B (dC, dI) [(cB, .byte), (cC, .char), (cI, .int), (cJ, .long), (cZ, .boolean), (cP, .object "StoryHouse$Play")] sz (b_w cB cC cI cJ cZ oA rA Γ ++ b_t cB cC cI cJ cZ oA rA Γ) g_0)) (va_Qv (fun (_ : Unit) => True) (g_Bo (dC, dI) (va_A (b_w cB cC cI cJ cZ oA rA Γ ++ b_t cB cC cI cJ cZ oA rA Γ) sz) (fun (_ : Unit) => (b_w cB cC cI cJ cZ oA rA res.2 ++ b_t cB cC cI cJ cZ oA rA res.2))) (va_A (b_w cB cC cI cJ cZ oA rA Γ ++ b_t cB cC cI cJ cZ oA rA Γ) sz)) 0 0 (va_A (b_w cB cC cI cJ cZ oA rA Γ ++ b_t cB cC cI cJ cZ oA rA Γ) sz) := by
  refine Met.ofW (cc := cX9_packAll) (maxL := 3) (ret := none) (by decide) rfl ?_
  intro p e s m args below meth c s₁ B hml hv
  obtain ⟨rfl, hsz, hP, hK, hD0, hE, hX⟩ := hv
  have hx := B.exec
  have hb := B.bytes
  have hr := B.returns
  have hts0 := atoms_spec (ws := g_ws yX9_packAll cX9_packAll 3 none) B.pre
  have hts : ∀ w ∈ lw_good, w.before ([.ref (oA 6), .ref (oA 1)] : List Value).toArray s = true := fun w z => hts0 w (List.mem_cons_of_mem _ z)
  have hown : s.vm.findClass RX9 = some m.cls := findClass_of_methodNamed B.named
  have hlocks := B.notSynchronized
  subst hsz
  have hD1 := hD0.self (sz := s.heap.size)
  generalize hAe : va_A (b_w cB cC cI cJ cZ oA rA Γ ++ b_t cB cC cI cJ cZ oA rA Γ) s.heap.size = A at hD1 hE hX ⊢
  have hA : ∀ q : Nat, s.heap.size ≤ q → A q := fun q z => by rw [← hAe]; exact Or.inr z
  have hDD : ∀ Γ : HS, va_D A (b_w cB cC cI cJ cZ oA rA Γ ++ b_t cB cC cI cJ cZ oA rA Γ) := fun Γ9 => va_D_fst (ws := (b_w cB cC cI cJ cZ oA rA Γ ++ b_t cB cC cI cJ cZ oA rA Γ)) (ws' := (b_w cB cC cI cJ cZ oA rA Γ9 ++ b_t cB cC cI cJ cZ oA rA Γ9)) rfl hD1
  have hN := hE.1
  have hS : va_S A s.heap s.heap [] := va_S.rf
  have hl := lv_entry ([.ref (oA 6), .ref (oA 1)]) (n := 3) (Nat.le_of_ble_eq_true rfl)
  rw [lg_entry_eq]
  generalize (lg_sl ([.ref (oA 6), .ref (oA 1)]) ++ List.replicate (3 - (lg_sl ([.ref (oA 6), .ref (oA 1)])).length) Slot.unset).toArray = ls at hl ⊢
  have hl : lv_has ls 3 [(0, .ref (oA 6)), (1, .ref (oA 1))] := hl
  unfold F_X9_packAll at hF
  refine lv_aload_n hx hb dX9_packAll_0 rfl (lv_at hl 1 rfl) ?_
  refine va_get (D := (dC, dI)) (ci := 10) (v := .ref (rA 1 0)) (C := RX10) (T := TX10) (N := 12) hx hb hts ii_X10 hown hK hP 0 rfl rfl 0 (by decide) (hts (.fieldLink RX9 36 "StoryHouse$Words" "source" "[B") wq_42) (fun _ h9 => h9) rfl dX9_packAll_1 ?_
  refine lv_iconst (v := 0) hx hb dX9_packAll_4 (by decide +kernel) ?_
  refine lv_aload_n hx hb dX9_packAll_5 rfl (lv_at hl 0 rfl) ?_
  refine va_get (D := (dC, dI)) (ci := 9) (v := .ref (rA 6 7)) (C := RX9) (T := TX9) (N := 9) hx hb hts ii_X9 hown hK hP 9 rfl rfl 7 (by decide) (hts (.fieldLink RX9 22 "StoryHouse$Texts" "source" "[B") wq_141) (fun _ h9 => h9) rfl dX9_packAll_6 ?_
  refine lv_iconst (v := 0) hx hb dX9_packAll_9 (by decide +kernel) ?_
  refine lv_aload_n hx hb dX9_packAll_10 rfl (lv_at hl 1 rfl) ?_
  refine va_get (D := (dC, dI)) (ci := 10) (v := .int ((Γ 1).1 1)) (C := RX10) (T := TX10) (N := 12) hx hb hts ii_X10 hown hK hP 0 rfl rfl 1 (by decide) (hts (.fieldLink RX9 39 "StoryHouse$Words" "length" "I") wq_44) (fun _ h9 => h9) rfl dX9_packAll_11 ?_
  refine lv_aload_n hx hb dX9_packAll_14 rfl (lv_at hl 0 rfl) ?_
  refine va_get (D := (dC, dI)) (ci := 9) (v := .ref (rA 6 7)) (C := RX9) (T := TX9) (N := 9) hx hb hts ii_X9 hown hK hP 9 rfl rfl 7 (by decide) (hts (.fieldLink RX9 22 "StoryHouse$Texts" "source" "[B") wq_141) (fun _ h9 => h9) rfl dX9_packAll_15 ?_
  refine va_alen (v := 16000) hx hb hK hP 13 0 rfl rfl (by first | rfl | decide +kernel) dX9_packAll_18 ?_
  refine va_mmin hx hb (hml.trans hl.1.symm) hown (hts (.methodLink RX9 42 yJ9_min_7cf53) wq_848) (hts (.static yJ9_min_7cf53) wq_331) (hts (.initialized RJ9) wq_19) (hts (.code yJ9_min_7cf53 cJ9_min_7cf53 2 (some .int)) wq_332) (Nat.le_of_ble_eq_true rfl) (Nat.le_of_ble_eq_true rfl) (Nat.le_of_ble_eq_true rfl) (Nat.le_of_ble_eq_true rfl) dX9_packAll_19 ?_
  obtain ⟨x_1, ex_1, hF_2⟩ := bnd_e hF
  clear hF
  refine m_top ex_1 ?_
  obtain ⟨g_3, hF_4⟩ := nif_e hF_2
  clear hF_2
  obtain ⟨σ_5, eσ_5, hF_6⟩ := bnd_e hF_4
  clear hF_4
  refine va_copyi (f := (Γ 1).2.1 0) (g := (Γ 6).2.1 7) hx hb (hml.trans hl.1.symm) hown (hts (.methodLink RX9 48 arraycopyName) wq_849) (hts (.native arraycopyName) wq_338) (hts (.static arraycopyName) wq_337) (hts (.initialized RJ10) wq_20) hK hP (hDD _) hS 1 13 0 0 rfl rfl rfl rfl rfl (fun z => g_3 (Or.inl z)) (fun z => g_3 (Or.inr (Or.inl z))) (fun z => g_3 (Or.inr (Or.inr (Or.inl z)))) (Nat.not_lt.mp (fun z => g_3 (Or.inr (Or.inr (Or.inr (Or.inl z)))))) (Nat.not_lt.mp (fun z => g_3 (Or.inr (Or.inr (Or.inr (Or.inr (Or.inl z))))))) (fun i hi => nar_fit (Classical.not_not.mp (fun z => g_3 (Or.inr (Or.inr (Or.inr (Or.inr (Or.inr z)))))) i hi)) (by decide +kernel) (by decide +kernel) dX9_packAll_22 (fun H locs hP' _ hS => ?_)
  have hP : va_P (dC, dI) vwCl (b_w cB cC cI cJ cZ oA rA σ_5 ++ b_t cB cC cI cJ cZ oA rA σ_5) H := by rw [eσ_5]; exact cs_wt_t_7 ▸ hP'
  clear hP'
  refine lv_iconst (v := 0) hx hb dX9_packAll_25 (by decide +kernel) ?_
  refine lv_istore_n (lv' := [(2, .int 0), (0, .ref (oA 6)), (1, .ref (oA 1))]) hx hb dX9_packAll_26 rfl hl (by decide) rfl (fun ls hl => ?_)
  refine loopF_ind (P := fun (s_7 : Int32 × HS) => ∀ (H : Heap) (locs : List Loc), va_P (dC, dI) vwCl (b_w cB cC cI cJ cZ oA rA s_7.2 ++ b_t cB cC cI cJ cZ oA rA s_7.2) H → va_S A s.heap H locs → ∀ ls : Array Slot, lv_has ls 3 [(0, .ref (oA 6)), (1, .ref (oA 1)), (2, .int s_7.1)] → W p l e (headSpec (g_ws yX9_packAll cX9_packAll 3 none) { frames := 6, cells := 0, slots := 0, locals := 154 }).room s m ([.ref (oA 6), .ref (oA 1)] : List Value).toArray below meth c H locs 0 0 (MQ below (va_Qv (fun (_ : Unit) => True) (g_Bo (dC, dI) A (fun (_ : Unit) => (b_w cB cC cI cJ cZ oA rA res.2 ++ b_t cB cC cI cJ cZ oA rA res.2))) A) ([.ref (oA 6), .ref (oA 1)] : List Value).toArray s 0 0 A) (F0 m 27 ls [])) ?_ _ _ hF_6 _ _ hP hS ls (lv_sub hl [1, 2, 0] rfl)
  intro again_8 s_7 ih_9 hF_10
  intro H locs hP hS ls hl
  refine lv_iload_n hx hb dX9_packAll_27 rfl (lv_at hl 2 rfl) ?_
  refine lv_aload_n hx hb dX9_packAll_28 rfl (lv_at hl 1 rfl) ?_
  refine va_get (D := (dC, dI)) (ci := 10) (v := .int ((s_7.2 1).1 2)) (C := RX10) (T := TX10) (N := 12) hx hb hts ii_X10 hown hK hP 0 rfl rfl 2 (by decide) (hts (.fieldLink RX9 54 "StoryHouse$Words" "count" "I") wq_48) (fun _ h9 => h9) rfl dX9_packAll_29 ?_
  refine lv_icmp_ge (tgt := 61) hx hb dX9_packAll_32 (by decide) (fun c_11 => ?_) (fun c_11 => ?_)
  · have hF_12 := ipos c_11 hF_10
    clear hF_10
    have h9 := Option.some.inj hF_12
    subst h9
    exact W.vret hx hb hr (fun t ht hW => ⟨⟨(), rfl, trivial, m_end ht hP, hDD _⟩, hS.F ht⟩) hS.2.2 dX9_packAll_61
  · have hF_13 := ineg c_11 hF_10
    clear hF_10
    refine lv_aload_n hx hb dX9_packAll_35 rfl (lv_at hl 1 rfl) ?_
    refine lv_iload_n hx hb dX9_packAll_36 rfl (lv_at hl 2 rfl) ?_
    obtain ⟨u_14, hu_14, hF_15⟩ := Option.bind_eq_some_iff.mp hF_13
    clear hF_13
    have hPc := hP.sub (ws' := (b_w cB cC cI cJ cZ oA rA s_7.2)) [0, 1, 2, 3, 4, 5, 6, 7, 8] rfl
    have hDc := (hDD s_7.2).sub (ws' := (b_w cB cC cI cJ cZ oA rA s_7.2)) [0, 1, 2, 3, 4, 5, 6, 7, 8] (by decide +kernel) rfl
    have hFc := va_free (wc := (b_w cB cC cI cJ cZ oA rA s_7.2)) (hDD s_7.2) hS hA [0, 1, 2, 3, 4, 5, 6, 7, 8] rfl
    refine g_ofi (wc := (b_w cB cC cI cJ cZ oA rA s_7.2)) (wr := (b_t cB cC cI cJ cZ oA rA s_7.2)) hP (hDD s_7.2) hS hFc [0, 1, 2, 3, 4, 5, 6, 7, 8] [9, 10, 11, 12, 13, 14] rfl rfl (by decide +kernel) (by decide +kernel) (va_runV (As := [.int s_7.1]) (rest := []) ⟨hx, hb, hml, hown, hts⟩ (k_X10_kindOf l dC dI cB cC cI cJ cZ cP oA rA H.size  s_7.1 s_7.2 _ hu_14) (cwV 1 hts (g_gV wq_850 wq_543 wq_544 wq_2 wq_545) rfl rfl rfl (by decide +kernel) ⟨Nat.le_of_ble_eq_true rfl, Nat.le_of_ble_eq_true rfl⟩) (g_preV g_bl0 hK hPc hDc hS hE hFc g_to0 (q0 := 0) (ci := 10) rfl rfl) rfl rfl hl.1 rfl (lv_room (Nat.le_of_ble_eq_true rfl)) dX9_packAll_37 ⟨Nat.le_of_ble_eq_true rfl, Nat.le_of_ble_eq_true rfl⟩) (fun r9 u9 H locs hw9 hP' hD' hS => ?_)
    clear hPc hDc hFc
    subst hw9
    obtain ⟨σ_16, eσ_16, hF_17⟩ := bnd_e hF_15
    clear hF_15
    have hP : va_P (dC, dI) vwCl (b_w cB cC cI cJ cZ oA rA σ_16 ++ b_t cB cC cI cJ cZ oA rA σ_16) H := by rw [eσ_16]; exact hP'.sub [6, 7, 8, 9, 10, 11, 12, 13, 14, 0, 1, 2, 3, 4, 5] rfl
    clear hP' hD'
    refine lv_iconst (v := 4) hx hb dX9_packAll_40 (by decide +kernel) ?_
    obtain ⟨j_19, ej_19, hF_20⟩ := bnd_e hF_17
    clear hF_17
    have Jj_19 : ∀  (σ_18 : HS), j_19  σ_18 = some res → ∀ (H : Heap) (locs : List Loc), va_P (dC, dI) vwCl (b_w cB cC cI cJ cZ oA rA σ_18 ++ b_t cB cC cI cJ cZ oA rA σ_18) H → va_S A s.heap H locs → ∀ ls : Array Slot, lv_has ls 3 [(0, .ref (oA 6)), (1, .ref (oA 1)), (2, .int s_7.1)] → W p l e (headSpec (g_ws yX9_packAll cX9_packAll 3 none) { frames := 6, cells := 0, slots := 0, locals := 154 }).room s m ([.ref (oA 6), .ref (oA 1)] : List Value).toArray below meth c H locs 0 0 (MQ below (va_Qv (fun (_ : Unit) => True) (g_Bo (dC, dI) A (fun (_ : Unit) => (b_w cB cC cI cJ cZ oA rA res.2 ++ b_t cB cC cI cJ cZ oA rA res.2))) A) ([.ref (oA 6), .ref (oA 1)] : List Value).toArray s 0 0 A) (F0 m 55 ls []) := by
      intro  σ_18 hF0 H locs hP hS ls hl
      subst ej_19
      have hF_21 := hF0
      clear hF0
      obtain ⟨x_22, ex_22, hF_23⟩ := bnd_e hF_21
      clear hF_21
      refine lv_iinc (v := x_22) (lv' := [(2, .int x_22), (0, .ref (oA 6)), (1, .ref (oA 1))]) hx hb dX9_packAll_55 hl (k := 2) rfl (by rw [ex_22]; rfl) (by decide) rfl (fun ls hl => ?_)
      refine lv_goto (tgt := 27) hx hb dX9_packAll_58 (by decide) ?_
      exact ih_9 (x_22, σ_18) hF_23 _ _ hP hS ls (lv_sub hl [1, 2, 0] rfl)
    refine lv_icmp_ne (tgt := 55) hx hb dX9_packAll_41 (by decide) (fun c_24 => ?_) (fun c_24 => ?_)
    · have hF_34 := ineg c_24 hF_20
      clear hF_20
      exact Jj_19  σ_16 hF_34 _ _ hP hS ls (lv_sub hl [0, 1, 2] rfl)
    · have hF_25 := ipos c_24 hF_20
      clear hF_20
      refine lv_aload_n hx hb dX9_packAll_44 rfl (lv_at hl 0 rfl) ?_
      refine lv_aload_n hx hb dX9_packAll_45 rfl (lv_at hl 1 rfl) ?_
      refine lv_iload_n hx hb dX9_packAll_46 rfl (lv_at hl 2 rfl) ?_
      obtain ⟨u_26, hu_26, hF_27⟩ := Option.bind_eq_some_iff.mp hF_25
      clear hF_25
      have hPc := hP.sub (ws' := (b_w cB cC cI cJ cZ oA rA σ_16)) [0, 1, 2, 3, 4, 5, 6, 7, 8] rfl
      have hDc := (hDD σ_16).sub (ws' := (b_w cB cC cI cJ cZ oA rA σ_16)) [0, 1, 2, 3, 4, 5, 6, 7, 8] (by decide +kernel) rfl
      have hFc := va_free (wc := (b_w cB cC cI cJ cZ oA rA σ_16)) (hDD σ_16) hS hA [0, 1, 2, 3, 4, 5, 6, 7, 8] rfl
      refine g_ofi (wc := (b_w cB cC cI cJ cZ oA rA σ_16)) (wr := (b_t cB cC cI cJ cZ oA rA σ_16)) hP (hDD σ_16) hS hFc [0, 1, 2, 3, 4, 5, 6, 7, 8] [9, 10, 11, 12, 13, 14] rfl rfl (by decide +kernel) (by decide +kernel) (va_runV (As := [.int s_7.1]) (rest := [.ref (oA 6)]) ⟨hx, hb, hml, hown, hts⟩ (k_X10_placeOf l dC dI cB cC cI cJ cZ cP oA rA H.size  s_7.1 σ_16 _ hu_26) (cwV 1 hts (g_gV wq_851 wq_702 wq_703 wq_2 wq_704) rfl rfl rfl (by decide +kernel) ⟨Nat.le_of_ble_eq_true rfl, Nat.le_of_ble_eq_true rfl⟩) (g_preV g_bl0 hK hPc hDc hS hE hFc g_to0 (q0 := 0) (ci := 10) rfl rfl) rfl rfl hl.1 rfl (lv_room (Nat.le_of_ble_eq_true rfl)) dX9_packAll_47 ⟨Nat.le_of_ble_eq_true rfl, Nat.le_of_ble_eq_true rfl⟩) (fun r9 u9 H locs hw9 hP' hD' hS => ?_)
      clear hPc hDc hFc
      subst hw9
      obtain ⟨σ_28, eσ_28, hF_29⟩ := bnd_e hF_27
      clear hF_27
      have hP : va_P (dC, dI) vwCl (b_w cB cC cI cJ cZ oA rA σ_28 ++ b_t cB cC cI cJ cZ oA rA σ_28) H := by rw [eσ_28]; exact hP'.sub [6, 7, 8, 9, 10, 11, 12, 13, 14, 0, 1, 2, 3, 4, 5] rfl
      clear hP' hD'
      refine lv_iconst (v := 1) hx hb dX9_packAll_50 (by decide +kernel) ?_
      refine lv_iadd hx hb dX9_packAll_51 ?_
      obtain ⟨u_30, hu_30, hF_31⟩ := Option.bind_eq_some_iff.mp hF_29
      clear hF_29
      have hPc := hP.sub (ws' := (b_t cB cC cI cJ cZ oA rA σ_28)) [9, 10, 11, 12, 13, 14] rfl
      have hDc := (hDD σ_28).sub (ws' := (b_t cB cC cI cJ cZ oA rA σ_28)) [9, 10, 11, 12, 13, 14] (by decide +kernel) rfl
      have hFc := va_free (wc := (b_t cB cC cI cJ cZ oA rA σ_28)) (hDD σ_28) hS hA [9, 10, 11, 12, 13, 14] rfl
      refine g_ofv (wc := (b_t cB cC cI cJ cZ oA rA σ_28)) (wr := (b_w cB cC cI cJ cZ oA rA σ_28)) hP (hDD σ_28) hS hFc [9, 10, 11, 12, 13, 14] [0, 1, 2, 3, 4, 5, 6, 7, 8] rfl rfl (by decide +kernel) (by decide +kernel) (va_runV (As := [.int (u_26.1 + 1)]) (rest := []) ⟨hx, hb, hml, hown, hts⟩ (k_X9_pack l dC dI cB cC cI cJ cZ cP oA rA H.size  (u_26.1 + 1) σ_28 _ hu_30) (cwV 1 hts (g_gV wq_852 wq_853 wq_2061 wq_7 wq_854) rfl rfl rfl (by decide +kernel) ⟨Nat.le_of_ble_eq_true rfl, Nat.le_of_ble_eq_true rfl⟩) (g_preV g_bl0 hK hPc hDc hS hE hFc g_to0 (q0 := 0) (ci := 9) rfl rfl) rfl rfl hl.1 rfl (lv_room (Nat.le_of_ble_eq_true rfl)) dX9_packAll_52 ⟨Nat.le_of_ble_eq_true rfl, Nat.le_of_ble_eq_true rfl⟩) (fun u9 H locs hw9 hP' hD' hS => ?_)
      clear hPc hDc hFc
      obtain ⟨σ_32, eσ_32, hF_33⟩ := bnd_e hF_31
      clear hF_31
      have hP : va_P (dC, dI) vwCl (b_w cB cC cI cJ cZ oA rA σ_32 ++ b_t cB cC cI cJ cZ oA rA σ_32) H := by rw [eσ_32]; exact hP'.sub [0, 1, 2, 3, 4, 5, 6, 7, 8, 9, 10, 11, 12, 13, 14] rfl
      clear hP' hD'
      exact Jj_19  σ_32 hF_33 _ _ hP hS ls (lv_sub hl [0, 1, 2] rfl)
theorem dX9_isFaithful_0 : decode cX9_isFaithful 0 = .ok (.iconst 0, 1) := by decide +kernel
theorem dX9_isFaithful_1 : decode cX9_isFaithful 1 = .ok (.istore_n 1, 1) := by decide +kernel
theorem dX9_isFaithful_2 : decode cX9_isFaithful 2 = .ok (.iload_n 1, 1) := by decide +kernel
theorem dX9_isFaithful_3 : decode cX9_isFaithful 3 = .ok (.aload_n 0, 1) := by decide +kernel
theorem dX9_isFaithful_4 : decode cX9_isFaithful 4 = .ok (.getfield 33, 3) := by decide +kernel
theorem dX9_isFaithful_7 : decode cX9_isFaithful 7 = .ok (.if_icmp .ge 87, 3) := by decide +kernel
theorem dX9_isFaithful_10 : decode cX9_isFaithful 10 = .ok (.aload_n 0, 1) := by decide +kernel
theorem dX9_isFaithful_11 : decode cX9_isFaithful 11 = .ok (.iload_n 1, 1) := by decide +kernel
theorem dX9_isFaithful_12 : decode cX9_isFaithful 12 = .ok (.aload_n 0, 1) := by decide +kernel
theorem dX9_isFaithful_13 : decode cX9_isFaithful 13 = .ok (.getfield 26, 3) := by decide +kernel
theorem dX9_isFaithful_16 : decode cX9_isFaithful 16 = .ok (.invokevirtual 103, 3) := by decide +kernel
theorem dX9_isFaithful_19 : decode cX9_isFaithful 19 = .ok (.istore_n 2, 1) := by decide +kernel
theorem dX9_isFaithful_20 : decode cX9_isFaithful 20 = .ok (.aload_n 0, 1) := by decide +kernel
theorem dX9_isFaithful_21 : decode cX9_isFaithful 21 = .ok (.getfield 19, 3) := by decide +kernel
theorem dX9_isFaithful_24 : decode cX9_isFaithful 24 = .ok (.iload_n 1, 1) := by decide +kernel
theorem dX9_isFaithful_25 : decode cX9_isFaithful 25 = .ok (.invokestatic 107, 3) := by decide +kernel
theorem dX9_isFaithful_28 : decode cX9_isFaithful 28 = .ok (.istore_n 3, 1) := by decide +kernel
theorem dX9_isFaithful_29 : decode cX9_isFaithful 29 = .ok (.iconst 0, 1) := by decide +kernel
theorem dX9_isFaithful_30 : decode cX9_isFaithful 30 = .ok (.istore 4, 2) := by decide +kernel
theorem dX9_isFaithful_32 : decode cX9_isFaithful 32 = .ok (.iload 4, 2) := by decide +kernel
theorem dX9_isFaithful_34 : decode cX9_isFaithful 34 = .ok (.iload_n 2, 1) := by decide +kernel
theorem dX9_isFaithful_35 : decode cX9_isFaithful 35 = .ok (.if_icmp .ge 39, 3) := by decide +kernel
theorem dX9_isFaithful_38 : decode cX9_isFaithful 38 = .ok (.iload 4, 2) := by decide +kernel
theorem dX9_isFaithful_40 : decode cX9_isFaithful 40 = .ok (.aload_n 0, 1) := by decide +kernel
theorem dX9_isFaithful_41 : decode cX9_isFaithful 41 = .ok (.getfield 26, 3) := by decide +kernel
theorem dX9_isFaithful_44 : decode cX9_isFaithful 44 = .ok (.arraylength, 1) := by decide +kernel
theorem dX9_isFaithful_45 : decode cX9_isFaithful 45 = .ok (.if_icmp .ge 29, 3) := by decide +kernel
theorem dX9_isFaithful_48 : decode cX9_isFaithful 48 = .ok (.aload_n 0, 1) := by decide +kernel
theorem dX9_isFaithful_49 : decode cX9_isFaithful 49 = .ok (.getfield 26, 3) := by decide +kernel
theorem dX9_isFaithful_52 : decode cX9_isFaithful 52 = .ok (.iload 4, 2) := by decide +kernel
theorem dX9_isFaithful_54 : decode cX9_isFaithful 54 = .ok (.baload, 1) := by decide +kernel
theorem dX9_isFaithful_55 : decode cX9_isFaithful 55 = .ok (.aload_n 0, 1) := by decide +kernel
theorem dX9_isFaithful_56 : decode cX9_isFaithful 56 = .ok (.iload_n 3, 1) := by decide +kernel
theorem dX9_isFaithful_57 : decode cX9_isFaithful 57 = .ok (.iload 4, 2) := by decide +kernel
theorem dX9_isFaithful_59 : decode cX9_isFaithful 59 = .ok (.iadd, 1) := by decide +kernel
theorem dX9_isFaithful_60 : decode cX9_isFaithful 60 = .ok (.invokevirtual 78, 3) := by decide +kernel
theorem dX9_isFaithful_63 : decode cX9_isFaithful 63 = .ok (.if_icmp .eq 5, 3) := by decide +kernel
theorem dX9_isFaithful_66 : decode cX9_isFaithful 66 = .ok (.iconst 0, 1) := by decide +kernel
theorem dX9_isFaithful_67 : decode cX9_isFaithful 67 = .ok (.ireturn, 1) := by decide +kernel
theorem dX9_isFaithful_68 : decode cX9_isFaithful 68 = .ok (.iinc 4 1, 3) := by decide +kernel
theorem dX9_isFaithful_71 : decode cX9_isFaithful 71 = .ok (.goto (-39), 3) := by decide +kernel
theorem dX9_isFaithful_74 : decode cX9_isFaithful 74 = .ok (.aload_n 0, 1) := by decide +kernel
theorem dX9_isFaithful_75 : decode cX9_isFaithful 75 = .ok (.iload_n 3, 1) := by decide +kernel
theorem dX9_isFaithful_76 : decode cX9_isFaithful 76 = .ok (.iload_n 2, 1) := by decide +kernel
theorem dX9_isFaithful_77 : decode cX9_isFaithful 77 = .ok (.iadd, 1) := by decide +kernel
theorem dX9_isFaithful_78 : decode cX9_isFaithful 78 = .ok (.invokevirtual 78, 3) := by decide +kernel
theorem dX9_isFaithful_81 : decode cX9_isFaithful 81 = .ok (.bipush 34, 2) := by decide +kernel
theorem dX9_isFaithful_83 : decode cX9_isFaithful 83 = .ok (.if_icmp .eq 5, 3) := by decide +kernel
theorem dX9_isFaithful_86 : decode cX9_isFaithful 86 = .ok (.iconst 0, 1) := by decide +kernel
theorem dX9_isFaithful_87 : decode cX9_isFaithful 87 = .ok (.ireturn, 1) := by decide +kernel
theorem dX9_isFaithful_88 : decode cX9_isFaithful 88 = .ok (.iinc 1 1, 3) := by decide +kernel
theorem dX9_isFaithful_91 : decode cX9_isFaithful 91 = .ok (.goto (-89), 3) := by decide +kernel
theorem dX9_isFaithful_94 : decode cX9_isFaithful 94 = .ok (.iconst 1, 1) := by decide +kernel
theorem dX9_isFaithful_95 : decode cX9_isFaithful 95 = .ok (.ireturn, 1) := by decide +kernel
def F_X9_isFaithful  (Γ : HS) : HR :=
  loopF (fun (again_2 : (Int32 × HS) → HR) (s_1 : Int32 × HS) => (
    if ((s_1.2 6).1 6) ≤ s_1.1 then (
      some (1, s_1.2)
    ) else (
      (F_X9_unpack_t s_1.1 s_1.2).bind fun u_8 =>
      bnd ((g_at 8000 ((u_8.2 6).2.1 5) s_1.1)) fun (x_10 : Int32) =>
      loopF (fun (again_13 : (Int32 × HS) → HR) (s_12 : Int32 × HS) => (
        bnd (fun  (σ_16 : HS) => (
          (F_X9_signOf (x_10 + u_8.1) σ_16).bind fun u_20 =>
          if u_20.1 = 34 then (
            bnd (s_1.1 + 1) fun (x_24 : Int32) =>
            again_2 (x_24, u_20.2)
          ) else (
            some (0, u_20.2)
          )
        ) : HS → HR) fun j_17 =>
        if u_8.1 ≤ s_12.1 then (
          j_17  s_12.2
        ) else (
          if 200 ≤ s_12.1 then (
            j_17  s_12.2
          ) else (
            if s_12.1 < 0 ∨ 200 ≤ s_12.1.toNatClampNeg then none else
            (F_X9_signOf (x_10 + s_12.1) s_12.2).bind fun u_35 =>
            if ((s_12.2 6).2.1 8 s_12.1.toNatClampNeg) = u_35.1 then (
              bnd (s_12.1 + 1) fun (x_39 : Int32) =>
              again_13 (x_39, u_35.2)
            ) else (
              some (0, u_35.2)
            )
          )
        )
      )) FU (0, u_8.2)
    )
  )) FU (0, Γ)
set_option maxHeartbeats 4000000 in
set_option maxRecDepth 100000 in
theorem k_X9_isFaithful (l : Launch) (dC : Nat → ClassId) (dI : Nat → Nat → Nat) (cB cC cI cJ cZ cP : ClassId) (oA : Nat → Nat) (rA : Nat → Nat → Nat) (sz : Nat)   (Γ : HS) (res : Int32 × HS) (hF : F_X9_isFaithful  Γ = some res) : Met l yX9_isFaithful (g_ws yX9_isFaithful cX9_isFaithful 5 (some .boolean)) ({ frames := 6, cells := 0, slots := 0, locals := 154 }) (va_Pc [.ref (oA 6)] (g_B (dC, dI) [(cB, .byte), (cC, .char), (cI, .int), (cJ, .long), (cZ, .boolean), (cP, .object "StoryHouse$Play")] sz (b_t cB cC cI cJ cZ oA rA Γ) g_0)) (va_Qi (fun r (_ : Unit) => r = res.1) (g_Bo (dC, dI) (va_A (b_t cB cC cI cJ cZ oA rA Γ) sz) (fun (_ : Unit) => (b_t cB cC cI cJ cZ oA rA res.2))) (va_A (b_t cB cC cI cJ cZ oA rA Γ) sz)) 0 0 (va_A (b_t cB cC cI cJ cZ oA rA Γ) sz) := by
  refine Met.ofW (cc := cX9_isFaithful) (maxL := 5) (ret := (some .boolean)) (by decide) rfl ?_
  intro p e s m args below meth c s₁ B hml hv
  obtain ⟨rfl, hsz, hP, hK, hD0, hE, hX⟩ := hv
  have hx := B.exec
  have hb := B.bytes
  have hr := B.returns
  have hts0 := atoms_spec (ws := g_ws yX9_isFaithful cX9_isFaithful 5 (some .boolean)) B.pre
  have hts : ∀ w ∈ lw_good, w.before ([.ref (oA 6)] : List Value).toArray s = true := fun w z => hts0 w (List.mem_cons_of_mem _ z)
  have hown : s.vm.findClass RX9 = some m.cls := findClass_of_methodNamed B.named
  have hlocks := B.notSynchronized
  subst hsz
  have hD1 := hD0.self (sz := s.heap.size)
  generalize hAe : va_A (b_t cB cC cI cJ cZ oA rA Γ) s.heap.size = A at hD1 hE hX ⊢
  have hA : ∀ q : Nat, s.heap.size ≤ q → A q := fun q z => by rw [← hAe]; exact Or.inr z
  have hDD : ∀ Γ : HS, va_D A (b_t cB cC cI cJ cZ oA rA Γ) := fun Γ9 => va_D_fst (ws := (b_t cB cC cI cJ cZ oA rA Γ)) (ws' := (b_t cB cC cI cJ cZ oA rA Γ9)) rfl hD1
  have hN := hE.1
  have hS : va_S A s.heap s.heap [] := va_S.rf
  have hl := lv_entry ([.ref (oA 6)]) (n := 5) (Nat.le_of_ble_eq_true rfl)
  rw [lg_entry_eq]
  generalize (lg_sl ([.ref (oA 6)]) ++ List.replicate (5 - (lg_sl ([.ref (oA 6)])).length) Slot.unset).toArray = ls at hl ⊢
  have hl : lv_has ls 5 [(0, .ref (oA 6))] := hl
  unfold F_X9_isFaithful at hF
  refine lv_iconst (v := 0) hx hb dX9_isFaithful_0 (by decide +kernel) ?_
  refine lv_istore_n (lv' := [(1, .int 0), (0, .ref (oA 6))]) hx hb dX9_isFaithful_1 rfl hl (by decide) rfl (fun ls hl => ?_)
  refine loopF_ind (P := fun (s_1 : Int32 × HS) => ∀ (H : Heap) (locs : List Loc), va_P (dC, dI) vwCl (b_t cB cC cI cJ cZ oA rA s_1.2) H → va_S A s.heap H locs → ∀ ls : Array Slot, lv_has ls 5 [(0, .ref (oA 6)), (1, .int s_1.1)] → W p l e (headSpec (g_ws yX9_isFaithful cX9_isFaithful 5 (some .boolean)) { frames := 6, cells := 0, slots := 0, locals := 154 }).room s m ([.ref (oA 6)] : List Value).toArray below meth c H locs 0 0 (MQ below (va_Qi (fun r (_ : Unit) => r = res.1) (g_Bo (dC, dI) A (fun (_ : Unit) => (b_t cB cC cI cJ cZ oA rA res.2))) A) ([.ref (oA 6)] : List Value).toArray s 0 0 A) (F0 m 2 ls [])) ?_ _ _ hF _ _ hP hS ls (lv_sub hl [1, 0] rfl)
  intro again_2 s_1 ih_3 hF_4
  intro H locs hP hS ls hl
  refine lv_iload_n hx hb dX9_isFaithful_2 rfl (lv_at hl 1 rfl) ?_
  refine lv_aload_n hx hb dX9_isFaithful_3 rfl (lv_at hl 0 rfl) ?_
  refine va_get (D := (dC, dI)) (ci := 9) (v := .int ((s_1.2 6).1 6)) (C := RX9) (T := TX9) (N := 9) hx hb hts ii_X9 hown hK hP 0 rfl rfl 6 (by decide) (hts (.fieldLink RX9 33 "StoryHouse$Texts" "count" "I") wq_140) (fun _ h9 => h9) rfl dX9_isFaithful_4 ?_
  refine lv_icmp_ge (tgt := 94) hx hb dX9_isFaithful_7 (by decide) (fun c_5 => ?_) (fun c_5 => ?_)
  · have hF_6 := ipos c_5 hF_4
    clear hF_4
    refine lv_iconst (v := 1) hx hb dX9_isFaithful_94 (by decide +kernel) ?_
    have h9 := Option.some.inj hF_6
    subst h9
    exact W.zret (v := 1) hx hb hr (by decide +kernel) (fun t ht hW => ⟨⟨1, (), rfl, rfl, m_end ht hP, hDD _⟩, hS.F ht⟩) hS.2.2 dX9_isFaithful_95
  · have hF_7 := ineg c_5 hF_4
    clear hF_4
    refine lv_aload_n hx hb dX9_isFaithful_10 rfl (lv_at hl 0 rfl) ?_
    refine lv_iload_n hx hb dX9_isFaithful_11 rfl (lv_at hl 1 rfl) ?_
    refine lv_aload_n hx hb dX9_isFaithful_12 rfl (lv_at hl 0 rfl) ?_
    refine va_get (D := (dC, dI)) (ci := 9) (v := .ref (rA 6 8)) (C := RX9) (T := TX9) (N := 9) hx hb hts ii_X9 hown hK hP 0 rfl rfl 8 (by decide) (hts (.fieldLink RX9 26 "StoryHouse$Texts" "row" "[B") wq_142) (fun _ h9 => h9) rfl dX9_isFaithful_13 ?_
    obtain ⟨u_8, hu_8, hF_9⟩ := Option.bind_eq_some_iff.mp hF_7
    clear hF_7
    have hPc := hP.sub (ws' := (b_t cB cC cI cJ cZ oA rA s_1.2)) [0, 1, 2, 3, 4, 5] rfl
    have hDc := (hDD s_1.2).sub (ws' := (b_t cB cC cI cJ cZ oA rA s_1.2)) [0, 1, 2, 3, 4, 5] (by decide +kernel) rfl
    have hFc := va_free (wc := (b_t cB cC cI cJ cZ oA rA s_1.2)) (hDD s_1.2) hS hA [0, 1, 2, 3, 4, 5] rfl
    refine g_ofi (wc := (b_t cB cC cI cJ cZ oA rA s_1.2)) (wr := ([] : va_W)) hP (hDD s_1.2) hS hFc [0, 1, 2, 3, 4, 5] [] rfl rfl (by decide +kernel) (by decide +kernel) (va_runV (As := [.int s_1.1, .ref (rA 6 8)]) (rest := []) ⟨hx, hb, hml, hown, hts⟩ (k_X9_unpack_t l dC dI cB cC cI cJ cZ cP oA rA H.size  s_1.1 s_1.2 _ hu_8) (cwV 2 hts (g_gV wq_899 wq_900 wq_901 wq_7 wq_902) rfl rfl rfl (by decide +kernel) ⟨Nat.le_of_ble_eq_true rfl, Nat.le_of_ble_eq_true rfl⟩) (g_preV g_bl0 hK hPc hDc hS hE hFc g_to0 (q0 := 0) (ci := 9) rfl rfl) rfl rfl hl.1 rfl (lv_room (Nat.le_of_ble_eq_true rfl)) dX9_isFaithful_16 ⟨Nat.le_of_ble_eq_true rfl, Nat.le_of_ble_eq_true rfl⟩) (fun r9 u9 H locs hw9 hP' hD' hS => ?_)
    clear hPc hDc hFc
    subst hw9
    have hP : va_P (dC, dI) vwCl (b_t cB cC cI cJ cZ oA rA u_8.2) H := hP'
    clear hP' hD'
    refine lv_istore_n (lv' := [(2, .int u_8.1), (0, .ref (oA 6)), (1, .int s_1.1)]) hx hb dX9_isFaithful_19 rfl hl (by decide) rfl (fun ls hl => ?_)
    refine lv_aload_n hx hb dX9_isFaithful_20 rfl (lv_at hl 1 rfl) ?_
    refine va_get (D := (dC, dI)) (ci := 9) (v := .ref (rA 6 5)) (C := RX9) (T := TX9) (N := 9) hx hb hts ii_X9 hown hK hP 0 rfl rfl 5 (by decide) (hts (.fieldLink RX9 19 "StoryHouse$Texts" "toldPlaces" "[I") wq_139) (fun _ h9 => h9) rfl dX9_isFaithful_21 ?_
    refine lv_iload_n hx hb dX9_isFaithful_24 rfl (lv_at hl 2 rfl) ?_
    have hPc := hP.sub (ws' := [(rA 6 5, .inl (cI, 8000, .inl ((u_8.2 6).2.1 5)))]) [3] rfl
    have hDc := (hDD u_8.2).sub (ws' := [(rA 6 5, .inl (cI, 8000, .inl ((u_8.2 6).2.1 5)))]) [3] (by decide +kernel) rfl
    have hFc := va_free (wc := [(rA 6 5, .inl (cI, 8000, .inl ((u_8.2 6).2.1 5)))]) (hDD u_8.2) hS hA [3] rfl
    refine g_ofi (wc := [(rA 6 5, .inl (cI, 8000, .inl ((u_8.2 6).2.1 5)))]) (wr := (((b_t cB cC cI cJ cZ oA rA u_8.2)).eraseIdx 3)) hP (hDD u_8.2) hS hFc [3] [0, 1, 2, 4, 5] rfl rfl (by decide +kernel) (by decide +kernel) (va_runSN (As := [.ref (rA 6 5), .int s_1.1]) (rest := []) ⟨hx, hb, hml, hown, hts⟩ (c_X11_at l dC dI cB cC cI cJ cZ cP H.size (rA 6 5) s_1.1 8000 ((u_8.2 6).2.1 5) (by decide)) ⟨va_cnB 2 hts (g_gA wq_407) rfl rfl rfl (hN.at 27 rfl) (hts (.initialized RX11) wq_1) (by decide +kernel) ⟨Nat.le_of_ble_eq_true rfl, Nat.le_of_ble_eq_true rfl⟩, (hts (.static yX11_at) wq_406), trivial⟩ (g_preS g_bl0 hK hPc hDc hS hE hFc g_to0) rfl rfl hl.1 rfl (lv_room (Nat.le_of_ble_eq_true rfl)) dX9_isFaithful_25 ⟨Nat.le_of_ble_eq_true rfl, Nat.le_of_ble_eq_true rfl⟩) (fun r9 u9 H locs hw9 hP' hD' hS => ?_)
    clear hPc hDc hFc hD'
    have hP : va_P (dC, dI) vwCl (b_t cB cC cI cJ cZ oA rA u_8.2) H := hP'.sub [0, 1, 2, 5, 3, 4] rfl
    clear hP'
    subst hw9
    obtain ⟨x_10, ex_10, hF_11⟩ := bnd_e hF_9
    clear hF_9
    refine m_top ex_10 ?_
    refine lv_istore_n (lv' := [(3, .int x_10), (2, .int u_8.1), (0, .ref (oA 6)), (1, .int s_1.1)]) hx hb dX9_isFaithful_28 rfl hl (by decide) rfl (fun ls hl => ?_)
    refine lv_iconst (v := 0) hx hb dX9_isFaithful_29 (by decide +kernel) ?_
    refine lv_istore (lv' := [(4, .int 0), (3, .int x_10), (2, .int u_8.1), (0, .ref (oA 6)), (1, .int s_1.1)]) hx hb dX9_isFaithful_30 hl (by decide) rfl (fun ls hl => ?_)
    refine loopF_ind (P := fun (s_12 : Int32 × HS) => ∀ (H : Heap) (locs : List Loc), va_P (dC, dI) vwCl (b_t cB cC cI cJ cZ oA rA s_12.2) H → va_S A s.heap H locs → ∀ ls : Array Slot, lv_has ls 5 [(0, .ref (oA 6)), (1, .int s_1.1), (2, .int u_8.1), (3, .int x_10), (4, .int s_12.1)] → W p l e (headSpec (g_ws yX9_isFaithful cX9_isFaithful 5 (some .boolean)) { frames := 6, cells := 0, slots := 0, locals := 154 }).room s m ([.ref (oA 6)] : List Value).toArray below meth c H locs 0 0 (MQ below (va_Qi (fun r (_ : Unit) => r = res.1) (g_Bo (dC, dI) A (fun (_ : Unit) => (b_t cB cC cI cJ cZ oA rA res.2))) A) ([.ref (oA 6)] : List Value).toArray s 0 0 A) (F0 m 32 ls [])) ?_ _ _ hF_11 _ _ hP hS ls (lv_sub hl [3, 4, 2, 1, 0] rfl)
    intro again_13 s_12 ih_14 hF_15
    intro H locs hP hS ls hl
    refine lv_iload hx hb dX9_isFaithful_32 (lv_at hl 4 rfl) ?_
    refine lv_iload_n hx hb dX9_isFaithful_34 rfl (lv_at hl 2 rfl) ?_
    obtain ⟨j_17, ej_17, hF_18⟩ := bnd_e hF_15
    clear hF_15
    have Jj_17 : ∀  (σ_16 : HS), j_17  σ_16 = some res → ∀ (H : Heap) (locs : List Loc), va_P (dC, dI) vwCl (b_t cB cC cI cJ cZ oA rA σ_16) H → va_S A s.heap H locs → ∀ ls : Array Slot, lv_has ls 5 [(0, .ref (oA 6)), (1, .int s_1.1), (2, .int u_8.1), (3, .int x_10)] → W p l e (headSpec (g_ws yX9_isFaithful cX9_isFaithful 5 (some .boolean)) { frames := 6, cells := 0, slots := 0, locals := 154 }).room s m ([.ref (oA 6)] : List Value).toArray below meth c H locs 0 0 (MQ below (va_Qi (fun r (_ : Unit) => r = res.1) (g_Bo (dC, dI) A (fun (_ : Unit) => (b_t cB cC cI cJ cZ oA rA res.2))) A) ([.ref (oA 6)] : List Value).toArray s 0 0 A) (F0 m 74 ls []) := by
      intro  σ_16 hF0 H locs hP hS ls hl
      subst ej_17
      have hF_19 := hF0
      clear hF0
      refine lv_aload_n hx hb dX9_isFaithful_74 rfl (lv_at hl 0 rfl) ?_
      refine lv_iload_n hx hb dX9_isFaithful_75 rfl (lv_at hl 3 rfl) ?_
      refine lv_iload_n hx hb dX9_isFaithful_76 rfl (lv_at hl 2 rfl) ?_
      refine lv_iadd hx hb dX9_isFaithful_77 ?_
      obtain ⟨u_20, hu_20, hF_21⟩ := Option.bind_eq_some_iff.mp hF_19
      clear hF_19
      have hPc := hP.sub (ws' := (b_t cB cC cI cJ cZ oA rA σ_16)) [0, 1, 2, 3, 4, 5] rfl
      have hDc := (hDD σ_16).sub (ws' := (b_t cB cC cI cJ cZ oA rA σ_16)) [0, 1, 2, 3, 4, 5] (by decide +kernel) rfl
      have hFc := va_free (wc := (b_t cB cC cI cJ cZ oA rA σ_16)) (hDD σ_16) hS hA [0, 1, 2, 3, 4, 5] rfl
      refine g_ofi (wc := (b_t cB cC cI cJ cZ oA rA σ_16)) (wr := ([] : va_W)) hP (hDD σ_16) hS hFc [0, 1, 2, 3, 4, 5] [] rfl rfl (by decide +kernel) (by decide +kernel) (va_runV (As := [.int (x_10 + u_8.1)]) (rest := []) ⟨hx, hb, hml, hown, hts⟩ (k_X9_signOf l dC dI cB cC cI cJ cZ cP oA rA H.size  (x_10 + u_8.1) σ_16 _ hu_20) (cwV 1 hts (g_gV wq_855 wq_856 wq_2062 wq_7 wq_857) rfl rfl rfl (by decide +kernel) ⟨Nat.le_of_ble_eq_true rfl, Nat.le_of_ble_eq_true rfl⟩) (g_preV g_bl0 hK hPc hDc hS hE hFc g_to0 (q0 := 0) (ci := 9) rfl rfl) rfl rfl hl.1 rfl (lv_room (Nat.le_of_ble_eq_true rfl)) dX9_isFaithful_78 ⟨Nat.le_of_ble_eq_true rfl, Nat.le_of_ble_eq_true rfl⟩) (fun r9 u9 H locs hw9 hP' hD' hS => ?_)
      clear hPc hDc hFc
      subst hw9
      have hP : va_P (dC, dI) vwCl (b_t cB cC cI cJ cZ oA rA u_20.2) H := hP'
      clear hP' hD'
      refine lv_bipush (v := 34) hx hb dX9_isFaithful_81 (by decide +kernel) ?_
      refine lv_icmp_eq (tgt := 88) hx hb dX9_isFaithful_83 (by decide) (fun c_22 => ?_) (fun c_22 => ?_)
      · have hF_23 := ipos c_22 hF_21
        clear hF_21
        obtain ⟨x_24, ex_24, hF_25⟩ := bnd_e hF_23
        clear hF_23
        refine lv_iinc (v := x_24) (lv' := [(1, .int x_24), (0, .ref (oA 6)), (2, .int u_8.1), (3, .int x_10)]) hx hb dX9_isFaithful_88 hl (k := 1) rfl (by rw [ex_24]; rfl) (by decide) rfl (fun ls hl => ?_)
        refine lv_goto (tgt := 2) hx hb dX9_isFaithful_91 (by decide) ?_
        exact ih_3 (x_24, u_20.2) hF_25 _ _ hP hS ls (lv_sub hl [1, 0] rfl)
      · have hF_26 := ineg c_22 hF_21
        clear hF_21
        refine lv_iconst (v := 0) hx hb dX9_isFaithful_86 (by decide +kernel) ?_
        have h9 := Option.some.inj hF_26
        subst h9
        exact W.zret (v := 0) hx hb hr (by decide +kernel) (fun t ht hW => ⟨⟨0, (), rfl, rfl, m_end ht hP, hDD _⟩, hS.F ht⟩) hS.2.2 dX9_isFaithful_87
    refine lv_icmp_ge (tgt := 74) hx hb dX9_isFaithful_35 (by decide) (fun c_27 => ?_) (fun c_27 => ?_)
    · have hF_28 := ipos c_27 hF_18
      clear hF_18
      exact Jj_17  s_12.2 hF_28 _ _ hP hS ls (lv_sub hl [0, 1, 2, 3] rfl)
    · have hF_29 := ineg c_27 hF_18
      clear hF_18
      refine lv_iload hx hb dX9_isFaithful_38 (lv_at hl 4 rfl) ?_
      refine lv_aload_n hx hb dX9_isFaithful_40 rfl (lv_at hl 0 rfl) ?_
      refine va_get (D := (dC, dI)) (ci := 9) (v := .ref (rA 6 8)) (C := RX9) (T := TX9) (N := 9) hx hb hts ii_X9 hown hK hP 0 rfl rfl 8 (by decide) (hts (.fieldLink RX9 26 "StoryHouse$Texts" "row" "[B") wq_142) (fun _ h9 => h9) rfl dX9_isFaithful_41 ?_
      refine va_alen (v := 200) hx hb hK hP 5 0 rfl rfl (by first | rfl | decide +kernel) dX9_isFaithful_44 ?_
      refine lv_icmp_ge (tgt := 74) hx hb dX9_isFaithful_45 (by decide) (fun c_30 => ?_) (fun c_30 => ?_)
      · have hF_31 := ipos c_30 hF_29
        clear hF_29
        exact Jj_17  s_12.2 hF_31 _ _ hP hS ls (lv_sub hl [0, 1, 2, 3] rfl)
      · have hF_32 := ineg c_30 hF_29
        clear hF_29
        refine lv_aload_n hx hb dX9_isFaithful_48 rfl (lv_at hl 0 rfl) ?_
        refine va_get (D := (dC, dI)) (ci := 9) (v := .ref (rA 6 8)) (C := RX9) (T := TX9) (N := 9) hx hb hts ii_X9 hown hK hP 0 rfl rfl 8 (by decide) (hts (.fieldLink RX9 26 "StoryHouse$Texts" "row" "[B") wq_142) (fun _ h9 => h9) rfl dX9_isFaithful_49 ?_
        refine lv_iload hx hb dX9_isFaithful_52 (lv_at hl 4 rfl) ?_
        obtain ⟨g_33, hF_34⟩ := nif_e hF_32
        clear hF_32
        refine va_bald (f := (s_12.2 6).2.1 8) hx hb hK hP 5 0 rfl rfl g_33 dX9_isFaithful_54 ?_
        refine lv_aload_n hx hb dX9_isFaithful_55 rfl (lv_at hl 0 rfl) ?_
        refine lv_iload_n hx hb dX9_isFaithful_56 rfl (lv_at hl 3 rfl) ?_
        refine lv_iload hx hb dX9_isFaithful_57 (lv_at hl 4 rfl) ?_
        refine lv_iadd hx hb dX9_isFaithful_59 ?_
        obtain ⟨u_35, hu_35, hF_36⟩ := Option.bind_eq_some_iff.mp hF_34
        clear hF_34
        have hPc := hP.sub (ws' := (b_t cB cC cI cJ cZ oA rA s_12.2)) [0, 1, 2, 3, 4, 5] rfl
        have hDc := (hDD s_12.2).sub (ws' := (b_t cB cC cI cJ cZ oA rA s_12.2)) [0, 1, 2, 3, 4, 5] (by decide +kernel) rfl
        have hFc := va_free (wc := (b_t cB cC cI cJ cZ oA rA s_12.2)) (hDD s_12.2) hS hA [0, 1, 2, 3, 4, 5] rfl
        refine g_ofi (wc := (b_t cB cC cI cJ cZ oA rA s_12.2)) (wr := ([] : va_W)) hP (hDD s_12.2) hS hFc [0, 1, 2, 3, 4, 5] [] rfl rfl (by decide +kernel) (by decide +kernel) (va_runV (As := [.int (x_10 + s_12.1)]) (rest := [.int ((s_12.2 6).2.1 8 s_12.1.toNatClampNeg)]) ⟨hx, hb, hml, hown, hts⟩ (k_X9_signOf l dC dI cB cC cI cJ cZ cP oA rA H.size  (x_10 + s_12.1) s_12.2 _ hu_35) (cwV 1 hts (g_gV wq_855 wq_856 wq_2062 wq_7 wq_857) rfl rfl rfl (by decide +kernel) ⟨Nat.le_of_ble_eq_true rfl, Nat.le_of_ble_eq_true rfl⟩) (g_preV g_bl0 hK hPc hDc hS hE hFc g_to0 (q0 := 0) (ci := 9) rfl rfl) rfl rfl hl.1 rfl (lv_room (Nat.le_of_ble_eq_true rfl)) dX9_isFaithful_60 ⟨Nat.le_of_ble_eq_true rfl, Nat.le_of_ble_eq_true rfl⟩) (fun r9 u9 H locs hw9 hP' hD' hS => ?_)
        clear hPc hDc hFc
        subst hw9
        have hP : va_P (dC, dI) vwCl (b_t cB cC cI cJ cZ oA rA u_35.2) H := hP'
        clear hP' hD'
        refine lv_icmp_eq (tgt := 68) hx hb dX9_isFaithful_63 (by decide) (fun c_37 => ?_) (fun c_37 => ?_)
        · have hF_38 := ipos c_37 hF_36
          clear hF_36
          obtain ⟨x_39, ex_39, hF_40⟩ := bnd_e hF_38
          clear hF_38
          refine lv_iinc (v := x_39) (lv' := [(4, .int x_39), (0, .ref (oA 6)), (1, .int s_1.1), (2, .int u_8.1), (3, .int x_10)]) hx hb dX9_isFaithful_68 hl (k := 4) rfl (by rw [ex_39]; rfl) (by decide) rfl (fun ls hl => ?_)
          refine lv_goto (tgt := 32) hx hb dX9_isFaithful_71 (by decide) ?_
          exact ih_14 (x_39, u_35.2) hF_40 _ _ hP hS ls (lv_sub hl [1, 2, 3, 4, 0] rfl)
        · have hF_41 := ineg c_37 hF_36
          clear hF_36
          refine lv_iconst (v := 0) hx hb dX9_isFaithful_66 (by decide +kernel) ?_
          have h9 := Option.some.inj hF_41
          subst h9
          exact W.zret (v := 0) hx hb hr (by decide +kernel) (fun t ht hW => ⟨⟨0, (), rfl, rfl, m_end ht hP, hDD _⟩, hS.F ht⟩) hS.2.2 dX9_isFaithful_67
theorem dX10_add_0 : decode cX10_add 0 = .ok (.aload_n 0, 1) := by decide +kernel
theorem dX10_add_1 : decode cX10_add 1 = .ok (.getfield 57, 3) := by decide +kernel
theorem dX10_add_4 : decode cX10_add 4 = .ok (.ifCond .lt 83, 3) := by decide +kernel
theorem dX10_add_7 : decode cX10_add 7 = .ok (.aload_n 0, 1) := by decide +kernel
theorem dX10_add_8 : decode cX10_add 8 = .ok (.getfield 57, 3) := by decide +kernel
theorem dX10_add_11 : decode cX10_add 11 = .ok (.aload_n 0, 1) := by decide +kernel
theorem dX10_add_12 : decode cX10_add 12 = .ok (.getfield 15, 3) := by decide +kernel
theorem dX10_add_15 : decode cX10_add 15 = .ok (.arraylength, 1) := by decide +kernel
theorem dX10_add_16 : decode cX10_add 16 = .ok (.if_icmp .ge 71, 3) := by decide +kernel
theorem dX10_add_19 : decode cX10_add 19 = .ok (.aload_n 0, 1) := by decide +kernel
theorem dX10_add_20 : decode cX10_add 20 = .ok (.getfield 15, 3) := by decide +kernel
theorem dX10_add_23 : decode cX10_add 23 = .ok (.aload_n 0, 1) := by decide +kernel
theorem dX10_add_24 : decode cX10_add 24 = .ok (.getfield 57, 3) := by decide +kernel
theorem dX10_add_27 : decode cX10_add 27 = .ok (.iload_n 1, 1) := by decide +kernel
theorem dX10_add_28 : decode cX10_add 28 = .ok (.iastore, 1) := by decide +kernel
theorem dX10_add_29 : decode cX10_add 29 = .ok (.aload_n 0, 1) := by decide +kernel
theorem dX10_add_30 : decode cX10_add 30 = .ok (.getfield 19, 3) := by decide +kernel
theorem dX10_add_33 : decode cX10_add 33 = .ok (.aload_n 0, 1) := by decide +kernel
theorem dX10_add_34 : decode cX10_add 34 = .ok (.getfield 57, 3) := by decide +kernel
theorem dX10_add_37 : decode cX10_add 37 = .ok (.iload_n 2, 1) := by decide +kernel
theorem dX10_add_38 : decode cX10_add 38 = .ok (.invokestatic 109, 3) := by decide +kernel
theorem dX10_add_41 : decode cX10_add 41 = .ok (.aload_n 0, 1) := by decide +kernel
theorem dX10_add_42 : decode cX10_add 42 = .ok (.getfield 22, 3) := by decide +kernel
theorem dX10_add_45 : decode cX10_add 45 = .ok (.aload_n 0, 1) := by decide +kernel
theorem dX10_add_46 : decode cX10_add 46 = .ok (.getfield 57, 3) := by decide +kernel
theorem dX10_add_49 : decode cX10_add 49 = .ok (.iload_n 3, 1) := by decide +kernel
theorem dX10_add_50 : decode cX10_add 50 = .ok (.invokestatic 109, 3) := by decide +kernel
theorem dX10_add_53 : decode cX10_add 53 = .ok (.aload_n 0, 1) := by decide +kernel
theorem dX10_add_54 : decode cX10_add 54 = .ok (.getfield 25, 3) := by decide +kernel
theorem dX10_add_57 : decode cX10_add 57 = .ok (.aload_n 0, 1) := by decide +kernel
theorem dX10_add_58 : decode cX10_add 58 = .ok (.getfield 57, 3) := by decide +kernel
theorem dX10_add_61 : decode cX10_add 61 = .ok (.iconst 0, 1) := by decide +kernel
theorem dX10_add_62 : decode cX10_add 62 = .ok (.invokestatic 109, 3) := by decide +kernel
theorem dX10_add_65 : decode cX10_add 65 = .ok (.aload_n 0, 1) := by decide +kernel
theorem dX10_add_66 : decode cX10_add 66 = .ok (.getfield 28, 3) := by decide +kernel
theorem dX10_add_69 : decode cX10_add 69 = .ok (.aload_n 0, 1) := by decide +kernel
theorem dX10_add_70 : decode cX10_add 70 = .ok (.getfield 57, 3) := by decide +kernel
theorem dX10_add_73 : decode cX10_add 73 = .ok (.iconst 0, 1) := by decide +kernel
theorem dX10_add_74 : decode cX10_add 74 = .ok (.invokestatic 109, 3) := by decide +kernel
theorem dX10_add_77 : decode cX10_add 77 = .ok (.aload_n 0, 1) := by decide +kernel
theorem dX10_add_78 : decode cX10_add 78 = .ok (.dup, 1) := by decide +kernel
theorem dX10_add_79 : decode cX10_add 79 = .ok (.getfield 57, 3) := by decide +kernel
theorem dX10_add_82 : decode cX10_add 82 = .ok (.iconst 1, 1) := by decide +kernel
theorem dX10_add_83 : decode cX10_add 83 = .ok (.iadd, 1) := by decide +kernel
theorem dX10_add_84 : decode cX10_add 84 = .ok (.putfield 57, 3) := by decide +kernel
theorem dX10_add_87 : decode cX10_add 87 = .ok (.iload_n 2, 1) := by decide +kernel
theorem dX10_add_88 : decode cX10_add 88 = .ok (.ireturn, 1) := by decide +kernel
def F_X10_add (p0 : Int32) (p1 : Int32) (p2 : Int32) (Γ : HS) : HR :=
  if ((Γ 1).1 2) < 0 then (
    some (p1, Γ)
  ) else (
    if 16001 ≤ ((Γ 1).1 2) then (
      some (p1, Γ)
    ) else (
      if ((Γ 1).1 2) < 0 ∨ 16001 ≤ ((Γ 1).1 2).toNatClampNeg then none else
      bnd (cA' Γ 1 3 (upd ((Γ 1).2.1 3) ((Γ 1).1 2).toNatClampNeg p0)) fun σ_9 =>
      bnd (cA' σ_9 1 4 (g_put 16001 ((σ_9 1).2.1 4) ((σ_9 1).1 2) p1)) fun σ_11 =>
      bnd (cA' σ_11 1 5 (g_put 16001 ((σ_11 1).2.1 5) ((σ_11 1).1 2) p2)) fun σ_13 =>
      bnd (cA' σ_13 1 6 (g_put 16001 ((σ_13 1).2.1 6) ((σ_13 1).1 2) 0)) fun σ_15 =>
      bnd (cA' σ_15 1 7 (g_put 16001 ((σ_15 1).2.1 7) ((σ_15 1).1 2) 0)) fun σ_17 =>
      bnd (cI' σ_17 1 2 (((σ_17 1).1 2) + 1)) fun σ_19 =>
      some (p1, σ_19)
    )
  )
set_option maxHeartbeats 4000000 in
set_option maxRecDepth 100000 in
theorem k_X10_add (l : Launch) (dC : Nat → ClassId) (dI : Nat → Nat → Nat) (cB cC cI cJ cZ cP : ClassId) (oA : Nat → Nat) (rA : Nat → Nat → Nat) (sz : Nat)  (p0 : Int32) (p1 : Int32) (p2 : Int32) (Γ : HS) (res : Int32 × HS) (hF : F_X10_add p0 p1 p2 Γ = some res) : Met l yX10_add (g_ws yX10_add cX10_add 4 (some .int)) ({ frames := 3, cells := 0, slots := 0, locals := 82 }) (va_Pc [.ref (oA 1), .int p0, .int p1, .int p2] (g_B (dC, dI) [(cB, .byte), (cC, .char), (cI, .int), (cJ, .long), (cZ, .boolean), (cP, .object "StoryHouse$Play")] sz (b_w cB cC cI cJ cZ oA rA Γ) g_0)) (va_Qi (fun r (_ : Unit) => r = res.1) (g_Bo (dC, dI) (va_A (b_w cB cC cI cJ cZ oA rA Γ) sz) (fun (_ : Unit) => (b_w cB cC cI cJ cZ oA rA res.2))) (va_A (b_w cB cC cI cJ cZ oA rA Γ) sz)) 0 0 (va_A (b_w cB cC cI cJ cZ oA rA Γ) sz) := by
  refine Met.ofW (cc := cX10_add) (maxL := 4) (ret := (some .int)) (by decide) rfl ?_
  intro p e s m args below meth c s₁ B hml hv
  obtain ⟨rfl, hsz, hP, hK, hD0, hE, hX⟩ := hv
  have hx := B.exec
  have hb := B.bytes
  have hr := B.returns
  have hts0 := atoms_spec (ws := g_ws yX10_add cX10_add 4 (some .int)) B.pre
  have hts : ∀ w ∈ lw_good, w.before ([.ref (oA 1), .int p0, .int p1, .int p2] : List Value).toArray s = true := fun w z => hts0 w (List.mem_cons_of_mem _ z)
  have hown : s.vm.findClass RX10 = some m.cls := findClass_of_methodNamed B.named
  have hlocks := B.notSynchronized
  subst hsz
  have hD1 := hD0.self (sz := s.heap.size)
  generalize hAe : va_A (b_w cB cC cI cJ cZ oA rA Γ) s.heap.size = A at hD1 hE hX ⊢
  have hA : ∀ q : Nat, s.heap.size ≤ q → A q := fun q z => by rw [← hAe]; exact Or.inr z
  have hDD : ∀ Γ : HS, va_D A (b_w cB cC cI cJ cZ oA rA Γ) := fun Γ9 => va_D_fst (ws := (b_w cB cC cI cJ cZ oA rA Γ)) (ws' := (b_w cB cC cI cJ cZ oA rA Γ9)) rfl hD1
  have hN := hE.1
  have hS : va_S A s.heap s.heap [] := va_S.rf
  have hl := lv_entry ([.ref (oA 1), .int p0, .int p1, .int p2]) (n := 4) (Nat.le_of_ble_eq_true rfl)
  rw [lg_entry_eq]
  generalize (lg_sl ([.ref (oA 1), .int p0, .int p1, .int p2]) ++ List.replicate (4 - (lg_sl ([.ref (oA 1), .int p0, .int p1, .int p2])).length) Slot.unset).toArray = ls at hl ⊢
  have hl : lv_has ls 4 [(0, .ref (oA 1)), (1, .int p0), (2, .int p1), (3, .int p2)] := hl
  unfold F_X10_add at hF
  refine lv_aload_n hx hb dX10_add_0 rfl (lv_at hl 0 rfl) ?_
  refine va_get (D := (dC, dI)) (ci := 10) (v := .int ((Γ 1).1 2)) (C := RX10) (T := TX10) (N := 12) hx hb hts ii_X10 hown hK hP 0 rfl rfl 2 (by decide) (hts (.fieldLink RX10 57 "StoryHouse$Words" "count" "I") wq_46) (fun _ h9 => h9) rfl dX10_add_1 ?_
  refine lv_if_lt (tgt := 87) hx hb dX10_add_4 (by decide) (fun c_1 => ?_) (fun c_1 => ?_)
  · have hF_2 := ipos c_1 hF
    clear hF
    refine lv_iload_n hx hb dX10_add_87 rfl (lv_at hl 2 rfl) ?_
    have h9 := Option.some.inj hF_2
    subst h9
    exact W.iret (v := p1) hx hb hr (fun t ht hW => ⟨⟨p1, (), rfl, rfl, m_end ht hP, hDD _⟩, hS.F ht⟩) hS.2.2 dX10_add_88
  · have hF_3 := ineg c_1 hF
    clear hF
    refine lv_aload_n hx hb dX10_add_7 rfl (lv_at hl 0 rfl) ?_
    refine va_get (D := (dC, dI)) (ci := 10) (v := .int ((Γ 1).1 2)) (C := RX10) (T := TX10) (N := 12) hx hb hts ii_X10 hown hK hP 0 rfl rfl 2 (by decide) (hts (.fieldLink RX10 57 "StoryHouse$Words" "count" "I") wq_46) (fun _ h9 => h9) rfl dX10_add_8 ?_
    refine lv_aload_n hx hb dX10_add_11 rfl (lv_at hl 0 rfl) ?_
    refine va_get (D := (dC, dI)) (ci := 10) (v := .ref (rA 1 3)) (C := RX10) (T := TX10) (N := 12) hx hb hts ii_X10 hown hK hP 0 rfl rfl 3 (by decide) (hts (.fieldLink RX10 15 "StoryHouse$Words" "kinds" "[I") wq_49) (fun _ h9 => h9) rfl dX10_add_12 ?_
    refine va_alen (v := 16001) hx hb hK hP 2 2 rfl rfl (by first | rfl | decide +kernel) dX10_add_15 ?_
    refine lv_icmp_ge (tgt := 87) hx hb dX10_add_16 (by decide) (fun c_4 => ?_) (fun c_4 => ?_)
    · have hF_5 := ipos c_4 hF_3
      clear hF_3
      refine lv_iload_n hx hb dX10_add_87 rfl (lv_at hl 2 rfl) ?_
      have h9 := Option.some.inj hF_5
      subst h9
      exact W.iret (v := p1) hx hb hr (fun t ht hW => ⟨⟨p1, (), rfl, rfl, m_end ht hP, hDD _⟩, hS.F ht⟩) hS.2.2 dX10_add_88
    · have hF_6 := ineg c_4 hF_3
      clear hF_3
      refine lv_aload_n hx hb dX10_add_19 rfl (lv_at hl 0 rfl) ?_
      refine va_get (D := (dC, dI)) (ci := 10) (v := .ref (rA 1 3)) (C := RX10) (T := TX10) (N := 12) hx hb hts ii_X10 hown hK hP 0 rfl rfl 3 (by decide) (hts (.fieldLink RX10 15 "StoryHouse$Words" "kinds" "[I") wq_49) (fun _ h9 => h9) rfl dX10_add_20 ?_
      refine lv_aload_n hx hb dX10_add_23 rfl (lv_at hl 0 rfl) ?_
      refine va_get (D := (dC, dI)) (ci := 10) (v := .int ((Γ 1).1 2)) (C := RX10) (T := TX10) (N := 12) hx hb hts ii_X10 hown hK hP 0 rfl rfl 2 (by decide) (hts (.fieldLink RX10 57 "StoryHouse$Words" "count" "I") wq_46) (fun _ h9 => h9) rfl dX10_add_24 ?_
      refine lv_iload_n hx hb dX10_add_27 rfl (lv_at hl 1 rfl) ?_
      obtain ⟨g_7, hF_8⟩ := nif_e hF_6
      clear hF_6
      obtain ⟨σ_9, eσ_9, hF_10⟩ := bnd_e hF_8
      clear hF_8
      refine va_iast (f := (Γ 1).2.1 3) hx hb hK hP (hDD _) hS 2 2 rfl rfl g_7 dX10_add_28 (fun H locs hP' _ hS => ?_)
      have hP : va_P (dC, dI) vwCl (b_w cB cC cI cJ cZ oA rA σ_9) H := by rw [eσ_9]; exact cs_w_w_3 ▸ hP'
      clear hP'
      refine lv_aload_n hx hb dX10_add_29 rfl (lv_at hl 0 rfl) ?_
      refine va_get (D := (dC, dI)) (ci := 10) (v := .ref (rA 1 4)) (C := RX10) (T := TX10) (N := 12) hx hb hts ii_X10 hown hK hP 0 rfl rfl 4 (by decide) (hts (.fieldLink RX10 19 "StoryHouse$Words" "places" "[I") wq_50) (fun _ h9 => h9) rfl dX10_add_30 ?_
      refine lv_aload_n hx hb dX10_add_33 rfl (lv_at hl 0 rfl) ?_
      refine va_get (D := (dC, dI)) (ci := 10) (v := .int ((σ_9 1).1 2)) (C := RX10) (T := TX10) (N := 12) hx hb hts ii_X10 hown hK hP 0 rfl rfl 2 (by decide) (hts (.fieldLink RX10 57 "StoryHouse$Words" "count" "I") wq_46) (fun _ h9 => h9) rfl dX10_add_34 ?_
      refine lv_iload_n hx hb dX10_add_37 rfl (lv_at hl 2 rfl) ?_
      have hPc := hP.sub (ws' := [(rA 1 4, .inl (cI, 16001, .inl ((σ_9 1).2.1 4)))]) [3] rfl
      have hDc := (hDD σ_9).sub (ws' := [(rA 1 4, .inl (cI, 16001, .inl ((σ_9 1).2.1 4)))]) [3] (by decide +kernel) rfl
      have hFc := va_free (wc := [(rA 1 4, .inl (cI, 16001, .inl ((σ_9 1).2.1 4)))]) (hDD σ_9) hS hA [3] rfl
      refine g_ofv (wc := [(rA 1 4, .inl (cI, 16001, .inl ((σ_9 1).2.1 4)))]) (wr := (((b_w cB cC cI cJ cZ oA rA σ_9)).eraseIdx 3)) hP (hDD σ_9) hS hFc [3] [0, 1, 2, 4, 5, 6, 7, 8] rfl rfl (by decide +kernel) (by decide +kernel) (va_runSN (As := [.ref (rA 1 4), .int ((σ_9 1).1 2), .int p1]) (rest := []) ⟨hx, hb, hml, hown, hts⟩ (c_X11_put l dC dI cB cC cI cJ cZ cP H.size (rA 1 4) ((σ_9 1).1 2) p1 16001 ((σ_9 1).2.1 4) (by decide)) ⟨va_cnB 3 hts (g_gA wq_412) rfl rfl rfl (hN.at 10 rfl) (hts (.initialized RX11) wq_1) (by decide +kernel) ⟨Nat.le_of_ble_eq_true rfl, Nat.le_of_ble_eq_true rfl⟩, (hts (.static yX11_put) wq_411), trivial⟩ (g_preS g_bl0 hK hPc hDc hS hE hFc g_to0) rfl rfl hl.1 rfl (lv_room (Nat.le_of_ble_eq_true rfl)) dX10_add_38 ⟨Nat.le_of_ble_eq_true rfl, Nat.le_of_ble_eq_true rfl⟩) (fun g9 H locs hw9 hP' hD' hS => ?_)
      clear hPc hDc hFc hD'
      obtain ⟨σ_11, eσ_11, hF_12⟩ := bnd_e hF_10
      clear hF_10
      subst hw9
      have hP : va_P (dC, dI) vwCl (b_w cB cC cI cJ cZ oA rA σ_11) H := by rw [eσ_11]; exact hP'.sub [0, 1, 2, 8, 3, 4, 5, 6, 7] rfl
      clear hP'
      refine lv_aload_n hx hb dX10_add_41 rfl (lv_at hl 0 rfl) ?_
      refine va_get (D := (dC, dI)) (ci := 10) (v := .ref (rA 1 5)) (C := RX10) (T := TX10) (N := 12) hx hb hts ii_X10 hown hK hP 0 rfl rfl 5 (by decide) (hts (.fieldLink RX10 22 "StoryHouse$Words" "values" "[I") wq_51) (fun _ h9 => h9) rfl dX10_add_42 ?_
      refine lv_aload_n hx hb dX10_add_45 rfl (lv_at hl 0 rfl) ?_
      refine va_get (D := (dC, dI)) (ci := 10) (v := .int ((σ_11 1).1 2)) (C := RX10) (T := TX10) (N := 12) hx hb hts ii_X10 hown hK hP 0 rfl rfl 2 (by decide) (hts (.fieldLink RX10 57 "StoryHouse$Words" "count" "I") wq_46) (fun _ h9 => h9) rfl dX10_add_46 ?_
      refine lv_iload_n hx hb dX10_add_49 rfl (lv_at hl 3 rfl) ?_
      have hPc := hP.sub (ws' := [(rA 1 5, .inl (cI, 16001, .inl ((σ_11 1).2.1 5)))]) [4] rfl
      have hDc := (hDD σ_11).sub (ws' := [(rA 1 5, .inl (cI, 16001, .inl ((σ_11 1).2.1 5)))]) [4] (by decide +kernel) rfl
      have hFc := va_free (wc := [(rA 1 5, .inl (cI, 16001, .inl ((σ_11 1).2.1 5)))]) (hDD σ_11) hS hA [4] rfl
      refine g_ofv (wc := [(rA 1 5, .inl (cI, 16001, .inl ((σ_11 1).2.1 5)))]) (wr := (((b_w cB cC cI cJ cZ oA rA σ_11)).eraseIdx 4)) hP (hDD σ_11) hS hFc [4] [0, 1, 2, 3, 5, 6, 7, 8] rfl rfl (by decide +kernel) (by decide +kernel) (va_runSN (As := [.ref (rA 1 5), .int ((σ_11 1).1 2), .int p2]) (rest := []) ⟨hx, hb, hml, hown, hts⟩ (c_X11_put l dC dI cB cC cI cJ cZ cP H.size (rA 1 5) ((σ_11 1).1 2) p2 16001 ((σ_11 1).2.1 5) (by decide)) ⟨va_cnB 3 hts (g_gA wq_412) rfl rfl rfl (hN.at 10 rfl) (hts (.initialized RX11) wq_1) (by decide +kernel) ⟨Nat.le_of_ble_eq_true rfl, Nat.le_of_ble_eq_true rfl⟩, (hts (.static yX11_put) wq_411), trivial⟩ (g_preS g_bl0 hK hPc hDc hS hE hFc g_to0) rfl rfl hl.1 rfl (lv_room (Nat.le_of_ble_eq_true rfl)) dX10_add_50 ⟨Nat.le_of_ble_eq_true rfl, Nat.le_of_ble_eq_true rfl⟩) (fun g9 H locs hw9 hP' hD' hS => ?_)
      clear hPc hDc hFc hD'
      obtain ⟨σ_13, eσ_13, hF_14⟩ := bnd_e hF_12
      clear hF_12
      subst hw9
      have hP : va_P (dC, dI) vwCl (b_w cB cC cI cJ cZ oA rA σ_13) H := by rw [eσ_13]; exact hP'.sub [0, 1, 2, 3, 8, 4, 5, 6, 7] rfl
      clear hP'
      refine lv_aload_n hx hb dX10_add_53 rfl (lv_at hl 0 rfl) ?_
      refine va_get (D := (dC, dI)) (ci := 10) (v := .ref (rA 1 6)) (C := RX10) (T := TX10) (N := 12) hx hb hts ii_X10 hown hK hP 0 rfl rfl 6 (by decide) (hts (.fieldLink RX10 25 "StoryHouse$Words" "notes" "[I") wq_52) (fun _ h9 => h9) rfl dX10_add_54 ?_
      refine lv_aload_n hx hb dX10_add_57 rfl (lv_at hl 0 rfl) ?_
      refine va_get (D := (dC, dI)) (ci := 10) (v := .int ((σ_13 1).1 2)) (C := RX10) (T := TX10) (N := 12) hx hb hts ii_X10 hown hK hP 0 rfl rfl 2 (by decide) (hts (.fieldLink RX10 57 "StoryHouse$Words" "count" "I") wq_46) (fun _ h9 => h9) rfl dX10_add_58 ?_
      refine lv_iconst (v := 0) hx hb dX10_add_61 (by decide +kernel) ?_
      have hPc := hP.sub (ws' := [(rA 1 6, .inl (cI, 16001, .inl ((σ_13 1).2.1 6)))]) [5] rfl
      have hDc := (hDD σ_13).sub (ws' := [(rA 1 6, .inl (cI, 16001, .inl ((σ_13 1).2.1 6)))]) [5] (by decide +kernel) rfl
      have hFc := va_free (wc := [(rA 1 6, .inl (cI, 16001, .inl ((σ_13 1).2.1 6)))]) (hDD σ_13) hS hA [5] rfl
      refine g_ofv (wc := [(rA 1 6, .inl (cI, 16001, .inl ((σ_13 1).2.1 6)))]) (wr := (((b_w cB cC cI cJ cZ oA rA σ_13)).eraseIdx 5)) hP (hDD σ_13) hS hFc [5] [0, 1, 2, 3, 4, 6, 7, 8] rfl rfl (by decide +kernel) (by decide +kernel) (va_runSN (As := [.ref (rA 1 6), .int ((σ_13 1).1 2), .int 0]) (rest := []) ⟨hx, hb, hml, hown, hts⟩ (c_X11_put l dC dI cB cC cI cJ cZ cP H.size (rA 1 6) ((σ_13 1).1 2) 0 16001 ((σ_13 1).2.1 6) (by decide)) ⟨va_cnB 3 hts (g_gA wq_412) rfl rfl rfl (hN.at 10 rfl) (hts (.initialized RX11) wq_1) (by decide +kernel) ⟨Nat.le_of_ble_eq_true rfl, Nat.le_of_ble_eq_true rfl⟩, (hts (.static yX11_put) wq_411), trivial⟩ (g_preS g_bl0 hK hPc hDc hS hE hFc g_to0) rfl rfl hl.1 rfl (lv_room (Nat.le_of_ble_eq_true rfl)) dX10_add_62 ⟨Nat.le_of_ble_eq_true rfl, Nat.le_of_ble_eq_true rfl⟩) (fun g9 H locs hw9 hP' hD' hS => ?_)
      clear hPc hDc hFc hD'
      obtain ⟨σ_15, eσ_15, hF_16⟩ := bnd_e hF_14
      clear hF_14
      subst hw9
      have hP : va_P (dC, dI) vwCl (b_w cB cC cI cJ cZ oA rA σ_15) H := by rw [eσ_15]; exact hP'.sub [0, 1, 2, 3, 4, 8, 5, 6, 7] rfl
      clear hP'
      refine lv_aload_n hx hb dX10_add_65 rfl (lv_at hl 0 rfl) ?_
      refine va_get (D := (dC, dI)) (ci := 10) (v := .ref (rA 1 7)) (C := RX10) (T := TX10) (N := 12) hx hb hts ii_X10 hown hK hP 0 rfl rfl 7 (by decide) (hts (.fieldLink RX10 28 "StoryHouse$Words" "meanings" "[I") wq_55) (fun _ h9 => h9) rfl dX10_add_66 ?_
      refine lv_aload_n hx hb dX10_add_69 rfl (lv_at hl 0 rfl) ?_
      refine va_get (D := (dC, dI)) (ci := 10) (v := .int ((σ_15 1).1 2)) (C := RX10) (T := TX10) (N := 12) hx hb hts ii_X10 hown hK hP 0 rfl rfl 2 (by decide) (hts (.fieldLink RX10 57 "StoryHouse$Words" "count" "I") wq_46) (fun _ h9 => h9) rfl dX10_add_70 ?_
      refine lv_iconst (v := 0) hx hb dX10_add_73 (by decide +kernel) ?_
      have hPc := hP.sub (ws' := [(rA 1 7, .inl (cI, 16001, .inl ((σ_15 1).2.1 7)))]) [6] rfl
      have hDc := (hDD σ_15).sub (ws' := [(rA 1 7, .inl (cI, 16001, .inl ((σ_15 1).2.1 7)))]) [6] (by decide +kernel) rfl
      have hFc := va_free (wc := [(rA 1 7, .inl (cI, 16001, .inl ((σ_15 1).2.1 7)))]) (hDD σ_15) hS hA [6] rfl
      refine g_ofv (wc := [(rA 1 7, .inl (cI, 16001, .inl ((σ_15 1).2.1 7)))]) (wr := (((b_w cB cC cI cJ cZ oA rA σ_15)).eraseIdx 6)) hP (hDD σ_15) hS hFc [6] [0, 1, 2, 3, 4, 5, 7, 8] rfl rfl (by decide +kernel) (by decide +kernel) (va_runSN (As := [.ref (rA 1 7), .int ((σ_15 1).1 2), .int 0]) (rest := []) ⟨hx, hb, hml, hown, hts⟩ (c_X11_put l dC dI cB cC cI cJ cZ cP H.size (rA 1 7) ((σ_15 1).1 2) 0 16001 ((σ_15 1).2.1 7) (by decide)) ⟨va_cnB 3 hts (g_gA wq_412) rfl rfl rfl (hN.at 10 rfl) (hts (.initialized RX11) wq_1) (by decide +kernel) ⟨Nat.le_of_ble_eq_true rfl, Nat.le_of_ble_eq_true rfl⟩, (hts (.static yX11_put) wq_411), trivial⟩ (g_preS g_bl0 hK hPc hDc hS hE hFc g_to0) rfl rfl hl.1 rfl (lv_room (Nat.le_of_ble_eq_true rfl)) dX10_add_74 ⟨Nat.le_of_ble_eq_true rfl, Nat.le_of_ble_eq_true rfl⟩) (fun g9 H locs hw9 hP' hD' hS => ?_)
      clear hPc hDc hFc hD'
      obtain ⟨σ_17, eσ_17, hF_18⟩ := bnd_e hF_16
      clear hF_16
      subst hw9
      have hP : va_P (dC, dI) vwCl (b_w cB cC cI cJ cZ oA rA σ_17) H := by rw [eσ_17]; exact hP'.sub [0, 1, 2, 3, 4, 5, 8, 6, 7] rfl
      clear hP'
      refine lv_aload_n hx hb dX10_add_77 rfl (lv_at hl 0 rfl) ?_
      refine lv_dup hx hb dX10_add_78 rfl ?_
      refine va_get (D := (dC, dI)) (ci := 10) (v := .int ((σ_17 1).1 2)) (C := RX10) (T := TX10) (N := 12) hx hb hts ii_X10 hown hK hP 0 rfl rfl 2 (by decide) (hts (.fieldLink RX10 57 "StoryHouse$Words" "count" "I") wq_46) (fun _ h9 => h9) rfl dX10_add_79 ?_
      refine lv_iconst (v := 1) hx hb dX10_add_82 (by decide +kernel) ?_
      refine lv_iadd hx hb dX10_add_83 ?_
      obtain ⟨σ_19, eσ_19, hF_20⟩ := bnd_e hF_18
      clear hF_18
      refine va_put (D := (dC, dI)) (ci := 10) (v := .int (((σ_17 1).1 2) + 1)) (ty := .int) (C := RX10) (T := TX10) (N := 12) hx hb hts ii_X10 tyX10 tyX10_ok nmX10 hown hK hP (hDD _) hS 0 rfl rfl 2 (by decide) (hts (.fieldLink RX10 57 "StoryHouse$Words" "count" "I") wq_46) (fun _ h9 => h9) rfl (by decide +kernel) rfl rfl (Nat.le_of_ble_eq_true rfl) dX10_add_84 (fun H locs hP' _ hS => ?_)
      have hP : va_P (dC, dI) vwCl (b_w cB cC cI cJ cZ oA rA σ_19) H := by rw [eσ_19]; exact cs_w_w_2 ▸ hP'
      clear hP'
      refine lv_iload_n hx hb dX10_add_87 rfl (lv_at hl 2 rfl) ?_
      have h9 := Option.some.inj hF_20
      subst h9
      exact W.iret (v := p1) hx hb hr (fun t ht hW => ⟨⟨p1, (), rfl, rfl, m_end ht hP, hDD _⟩, hS.F ht⟩) hS.2.2 dX10_add_88
theorem dX10_learn_0 : decode cX10_learn 0 = .ok (.iconst 0, 1) := by decide +kernel
theorem dX10_learn_1 : decode cX10_learn 1 = .ok (.istore_n 2, 1) := by decide +kernel
theorem dX10_learn_2 : decode cX10_learn 2 = .ok (.iconst 0, 1) := by decide +kernel
theorem dX10_learn_3 : decode cX10_learn 3 = .ok (.istore_n 3, 1) := by decide +kernel
theorem dX10_learn_4 : decode cX10_learn 4 = .ok (.iload_n 3, 1) := by decide +kernel
theorem dX10_learn_5 : decode cX10_learn 5 = .ok (.aload_n 1, 1) := by decide +kernel
theorem dX10_learn_6 : decode cX10_learn 6 = .ok (.invokevirtual 113, 3) := by decide +kernel
theorem dX10_learn_9 : decode cX10_learn 9 = .ok (.if_icmp .ge 43, 3) := by decide +kernel
theorem dX10_learn_12 : decode cX10_learn 12 = .ok (.iload_n 2, 1) := by decide +kernel
theorem dX10_learn_13 : decode cX10_learn 13 = .ok (.aload_n 1, 1) := by decide +kernel
theorem dX10_learn_14 : decode cX10_learn 14 = .ok (.invokevirtual 113, 3) := by decide +kernel
theorem dX10_learn_17 : decode cX10_learn 17 = .ok (.if_icmp .ge 35, 3) := by decide +kernel
theorem dX10_learn_20 : decode cX10_learn 20 = .ok (.aload_n 1, 1) := by decide +kernel
theorem dX10_learn_21 : decode cX10_learn 21 = .ok (.iload_n 2, 1) := by decide +kernel
theorem dX10_learn_22 : decode cX10_learn 22 = .ok (.invokestatic 118, 3) := by decide +kernel
theorem dX10_learn_25 : decode cX10_learn 25 = .ok (.istore 4, 2) := by decide +kernel
theorem dX10_learn_27 : decode cX10_learn 27 = .ok (.aload_n 0, 1) := by decide +kernel
theorem dX10_learn_28 : decode cX10_learn 28 = .ok (.aload_n 1, 1) := by decide +kernel
theorem dX10_learn_29 : decode cX10_learn 29 = .ok (.iload_n 2, 1) := by decide +kernel
theorem dX10_learn_30 : decode cX10_learn 30 = .ok (.iload 4, 2) := by decide +kernel
theorem dX10_learn_32 : decode cX10_learn 32 = .ok (.bipush 12, 2) := by decide +kernel
theorem dX10_learn_34 : decode cX10_learn 34 = .ok (.invokestatic 122, 3) := by decide +kernel
theorem dX10_learn_37 : decode cX10_learn 37 = .ok (.invokevirtual 126, 3) := by decide +kernel
theorem dX10_learn_40 : decode cX10_learn 40 = .ok (.pop, 1) := by decide +kernel
theorem dX10_learn_41 : decode cX10_learn 41 = .ok (.iload 4, 2) := by decide +kernel
theorem dX10_learn_43 : decode cX10_learn 43 = .ok (.iconst 1, 1) := by decide +kernel
theorem dX10_learn_44 : decode cX10_learn 44 = .ok (.iadd, 1) := by decide +kernel
theorem dX10_learn_45 : decode cX10_learn 45 = .ok (.istore_n 2, 1) := by decide +kernel
theorem dX10_learn_46 : decode cX10_learn 46 = .ok (.iinc 3 1, 3) := by decide +kernel
theorem dX10_learn_49 : decode cX10_learn 49 = .ok (.goto (-45), 3) := by decide +kernel
theorem dX10_learn_52 : decode cX10_learn 52 = .ok (.return_, 1) := by decide +kernel
def F_X10_learn (b0 : List Int32) (Γ : HS) : HR :=
  loopF (fun (again_2 : (Int32 × Int32 × HS) → HR) (s_1 : Int32 × Int32 × HS) => (
    bnd ((Int32.ofNat (b0).length)) fun (x_5 : Int32) =>
    if x_5 ≤ s_1.2.1 then (
      some (0, s_1.2.2)
    ) else (
      bnd ((Int32.ofNat (b0).length)) fun (x_10 : Int32) =>
      if x_10 ≤ s_1.1 then (
        some (0, s_1.2.2)
      ) else (
        (F_X11_wordEnd b0 s_1.1 s_1.2.2).bind fun u_15 =>
        (F_X11_packed b0 s_1.1 u_15.1 12 s_1.2.2).bind fun u_17 =>
        (F_X10_numberOf u_17.1 s_1.2.2).bind fun u_19 =>
        bnd ((u_15.1 + 1)) fun (x_21 : Int32) =>
        bnd (s_1.2.1 + 1) fun (x_23 : Int32) =>
        again_2 (x_21, x_23, u_19.2)
      )
    )
  )) FU (0, 0, Γ)
set_option maxHeartbeats 4000000 in
set_option maxRecDepth 100000 in
theorem k_X10_learn (l : Launch) (dC : Nat → ClassId) (dI : Nat → Nat → Nat) (cB cC cI cJ cZ cP : ClassId) (oA : Nat → Nat) (rA : Nat → Nat → Nat) (sz : Nat) (q0 vq0 : Nat) (b0 : List Int32) (Γ : HS) (res : Int32 × HS) (hF : F_X10_learn b0 Γ = some res) : Met l yX10_learn (g_ws yX10_learn cX10_learn 5 none) ({ frames := 6, cells := 0, slots := 0, locals := 153 }) (va_Pc [.ref (oA 1), .ref q0] (g_B (dC, dI) [(cB, .byte), (cC, .char), (cI, .int), (cJ, .long), (cZ, .boolean), (cP, .object "StoryHouse$Play")] sz (b_w cB cC cI cJ cZ oA rA Γ) (fun U : State => g_S q0 vq0 b0 (va_A (b_w cB cC cI cJ cZ oA rA Γ) sz) U U.heap))) (va_Qv (fun (_ : Unit) => True) (g_Bo (dC, dI) (va_A (b_w cB cC cI cJ cZ oA rA Γ) sz) (fun (_ : Unit) => (b_w cB cC cI cJ cZ oA rA res.2))) (va_A (b_w cB cC cI cJ cZ oA rA Γ) sz)) 0 0 (va_A (b_w cB cC cI cJ cZ oA rA Γ) sz) := by
  refine Met.ofW (cc := cX10_learn) (maxL := 5) (ret := none) (by decide) rfl ?_
  intro p e s m args below meth c s₁ B hml hv
  obtain ⟨rfl, hsz, hP, hK, hD0, hE, hX⟩ := hv
  have hx := B.exec
  have hb := B.bytes
  have hr := B.returns
  have hts0 := atoms_spec (ws := g_ws yX10_learn cX10_learn 5 none) B.pre
  have hts : ∀ w ∈ lw_good, w.before ([.ref (oA 1), .ref q0] : List Value).toArray s = true := fun w z => hts0 w (List.mem_cons_of_mem _ z)
  have hown : s.vm.findClass RX10 = some m.cls := findClass_of_methodNamed B.named
  have hlocks := B.notSynchronized
  subst hsz
  have hD1 := hD0.self (sz := s.heap.size)
  generalize hAe : va_A (b_w cB cC cI cJ cZ oA rA Γ) s.heap.size = A at hD1 hE hX ⊢
  have hA : ∀ q : Nat, s.heap.size ≤ q → A q := fun q z => by rw [← hAe]; exact Or.inr z
  have hDD : ∀ Γ : HS, va_D A (b_w cB cC cI cJ cZ oA rA Γ) := fun Γ9 => va_D_fst (ws := (b_w cB cC cI cJ cZ oA rA Γ)) (ws' := (b_w cB cC cI cJ cZ oA rA Γ9)) rfl hD1
  have hN := hE.1
  have hStr_q0 := hX
  have hS : va_S A s.heap s.heap [] := va_S.rf
  have hl := lv_entry ([.ref (oA 1), .ref q0]) (n := 5) (Nat.le_of_ble_eq_true rfl)
  rw [lg_entry_eq]
  generalize (lg_sl ([.ref (oA 1), .ref q0]) ++ List.replicate (5 - (lg_sl ([.ref (oA 1), .ref q0])).length) Slot.unset).toArray = ls at hl ⊢
  have hl : lv_has ls 5 [(0, .ref (oA 1)), (1, .ref q0)] := hl
  unfold F_X10_learn at hF
  refine lv_iconst (v := 0) hx hb dX10_learn_0 (by decide +kernel) ?_
  refine lv_istore_n (lv' := [(2, .int 0), (0, .ref (oA 1)), (1, .ref q0)]) hx hb dX10_learn_1 rfl hl (by decide) rfl (fun ls hl => ?_)
  refine lv_iconst (v := 0) hx hb dX10_learn_2 (by decide +kernel) ?_
  refine lv_istore_n (lv' := [(3, .int 0), (2, .int 0), (0, .ref (oA 1)), (1, .ref q0)]) hx hb dX10_learn_3 rfl hl (by decide) rfl (fun ls hl => ?_)
  refine loopF_ind (P := fun (s_1 : Int32 × Int32 × HS) => ∀ (H : Heap) (locs : List Loc), va_P (dC, dI) vwCl (b_w cB cC cI cJ cZ oA rA s_1.2.2) H → va_S A s.heap H locs → ∀ ls : Array Slot, lv_has ls 5 [(0, .ref (oA 1)), (1, .ref q0), (2, .int s_1.1), (3, .int s_1.2.1)] → W p l e (headSpec (g_ws yX10_learn cX10_learn 5 none) { frames := 6, cells := 0, slots := 0, locals := 153 }).room s m ([.ref (oA 1), .ref q0] : List Value).toArray below meth c H locs 0 0 (MQ below (va_Qv (fun (_ : Unit) => True) (g_Bo (dC, dI) A (fun (_ : Unit) => (b_w cB cC cI cJ cZ oA rA res.2))) A) ([.ref (oA 1), .ref q0] : List Value).toArray s 0 0 A) (F0 m 4 ls [])) ?_ _ _ hF _ _ hP hS ls (lv_sub hl [2, 3, 1, 0] rfl)
  intro again_2 s_1 ih_3 hF_4
  intro H locs hP hS ls hl
  refine lv_iload_n hx hb dX10_learn_4 rfl (lv_at hl 3 rfl) ?_
  refine lv_aload_n hx hb dX10_learn_5 rfl (lv_at hl 1 rfl) ?_
  refine c_cs (v := Int32.ofNat (b0).length) hA hP hS (va_runV (As := []) (rest := [.int s_1.2.1]) ⟨hx, hb, hml, hown, hts⟩ (c_J0_length_8abf5 l dC dI cB cC cI cJ cZ cP H.size q0  _ b0 ) (cwV 0 hts (g_gV wq_345 wq_346 wq_347 wq_22 wq_348) rfl rfl rfl (by decide +kernel) ⟨Nat.le_of_ble_eq_true rfl, Nat.le_of_ble_eq_true rfl⟩) (g_preVs g_blS hK (wc := []) (A := A) (fun k q z => by simp at z) ⟨fun i j p q z => by simp at z, fun k q z => by simp at z⟩ hS hE (c_nil hA hS) (g_toS hStr_q0 hS (c_nil hA hS)) (va_Orecv hStr_q0.1 hS)) rfl rfl hl.1 rfl (lv_room (Nat.le_of_ble_eq_true rfl)) dX10_learn_6 ⟨Nat.le_of_ble_eq_true rfl, Nat.le_of_ble_eq_true rfl⟩) (fun H locs hP hS => ?_)
  obtain ⟨x_5, ex_5, hF_6⟩ := bnd_e hF_4
  clear hF_4
  refine m_top ex_5 ?_
  refine lv_icmp_ge (tgt := 52) hx hb dX10_learn_9 (by decide) (fun c_7 => ?_) (fun c_7 => ?_)
  · have hF_8 := ipos c_7 hF_6
    clear hF_6
    have h9 := Option.some.inj hF_8
    subst h9
    exact W.vret hx hb hr (fun t ht hW => ⟨⟨(), rfl, trivial, m_end ht hP, hDD _⟩, hS.F ht⟩) hS.2.2 dX10_learn_52
  · have hF_9 := ineg c_7 hF_6
    clear hF_6
    refine lv_iload_n hx hb dX10_learn_12 rfl (lv_at hl 2 rfl) ?_
    refine lv_aload_n hx hb dX10_learn_13 rfl (lv_at hl 1 rfl) ?_
    refine c_cs (v := Int32.ofNat (b0).length) hA hP hS (va_runV (As := []) (rest := [.int s_1.1]) ⟨hx, hb, hml, hown, hts⟩ (c_J0_length_8abf5 l dC dI cB cC cI cJ cZ cP H.size q0  _ b0 ) (cwV 0 hts (g_gV wq_345 wq_346 wq_347 wq_22 wq_348) rfl rfl rfl (by decide +kernel) ⟨Nat.le_of_ble_eq_true rfl, Nat.le_of_ble_eq_true rfl⟩) (g_preVs g_blS hK (wc := []) (A := A) (fun k q z => by simp at z) ⟨fun i j p q z => by simp at z, fun k q z => by simp at z⟩ hS hE (c_nil hA hS) (g_toS hStr_q0 hS (c_nil hA hS)) (va_Orecv hStr_q0.1 hS)) rfl rfl hl.1 rfl (lv_room (Nat.le_of_ble_eq_true rfl)) dX10_learn_14 ⟨Nat.le_of_ble_eq_true rfl, Nat.le_of_ble_eq_true rfl⟩) (fun H locs hP hS => ?_)
    obtain ⟨x_10, ex_10, hF_11⟩ := bnd_e hF_9
    clear hF_9
    refine m_top ex_10 ?_
    refine lv_icmp_ge (tgt := 52) hx hb dX10_learn_17 (by decide) (fun c_12 => ?_) (fun c_12 => ?_)
    · have hF_13 := ipos c_12 hF_11
      clear hF_11
      have h9 := Option.some.inj hF_13
      subst h9
      exact W.vret hx hb hr (fun t ht hW => ⟨⟨(), rfl, trivial, m_end ht hP, hDD _⟩, hS.F ht⟩) hS.2.2 dX10_learn_52
    · have hF_14 := ineg c_12 hF_11
      clear hF_11
      refine lv_aload_n hx hb dX10_learn_20 rfl (lv_at hl 1 rfl) ?_
      refine lv_iload_n hx hb dX10_learn_21 rfl (lv_at hl 2 rfl) ?_
      obtain ⟨u_15, hu_15, hF_16⟩ := Option.bind_eq_some_iff.mp hF_14
      clear hF_14
      have hPc : va_P (dC, dI) vwCl [] H := fun k q z => by simp at z
      have hDc : va_D A [] := ⟨fun i j p q z => by simp at z, fun k q z => by simp at z⟩
      have hFc := c_nil hA hS
      refine c_cs (v := u_15.1) hA hP hS (va_runSN (As := [.ref q0, .int s_1.1]) (rest := []) ⟨hx, hb, hml, hown, hts⟩ (k_X11_wordEnd l dC dI cB cC cI cJ cZ cP oA rA H.size q0 _ b0 s_1.1 s_1.2.2 _ hu_15) ⟨va_cnB 2 hts (g_gA wq_355) rfl rfl rfl (hN.at 7 rfl) (hts (.initialized RX11) wq_1) (by decide +kernel) ⟨Nat.le_of_ble_eq_true rfl, Nat.le_of_ble_eq_true rfl⟩, (hts (.static yX11_wordEnd) wq_354), trivial⟩ (g_preS g_blS hK hPc hDc hS hE hFc (g_toS hStr_q0 hS hFc)) rfl rfl hl.1 rfl (lv_room (Nat.le_of_ble_eq_true rfl)) dX10_learn_22 ⟨Nat.le_of_ble_eq_true rfl, Nat.le_of_ble_eq_true rfl⟩) (fun H locs hP hS => ?_)
      clear hPc hDc hFc
      refine lv_istore (lv' := [(4, .int u_15.1), (0, .ref (oA 1)), (1, .ref q0), (2, .int s_1.1), (3, .int s_1.2.1)]) hx hb dX10_learn_25 hl (by decide) rfl (fun ls hl => ?_)
      refine lv_aload_n hx hb dX10_learn_27 rfl (lv_at hl 1 rfl) ?_
      refine lv_aload_n hx hb dX10_learn_28 rfl (lv_at hl 2 rfl) ?_
      refine lv_iload_n hx hb dX10_learn_29 rfl (lv_at hl 3 rfl) ?_
      refine lv_iload hx hb dX10_learn_30 (lv_at hl 0 rfl) ?_
      refine lv_bipush (v := 12) hx hb dX10_learn_32 (by decide +kernel) ?_
      obtain ⟨u_17, hu_17, hF_18⟩ := Option.bind_eq_some_iff.mp hF_16
      clear hF_16
      have hPc : va_P (dC, dI) vwCl [] H := fun k q z => by simp at z
      have hDc : va_D A [] := ⟨fun i j p q z => by simp at z, fun k q z => by simp at z⟩
      have hFc := c_nil hA hS
      refine c_csl (v := u_17.1) hA hP hS (va_runSN (As := [.ref q0, .int s_1.1, .int u_15.1, .int 12]) (rest := [.ref (oA 1)]) ⟨hx, hb, hml, hown, hts⟩ (k_X11_packed l dC dI cB cC cI cJ cZ cP oA rA H.size q0 _ b0 s_1.1 u_15.1 12 s_1.2.2 _ hu_17) ⟨va_cnB 4 hts (g_gA wq_393) rfl rfl rfl (hN.at 8 rfl) (hts (.initialized RX11) wq_1) (by decide +kernel) ⟨Nat.le_of_ble_eq_true rfl, Nat.le_of_ble_eq_true rfl⟩, (hts (.static yX11_packed) wq_392), trivial⟩ (g_preS g_blS hK hPc hDc hS hE hFc (g_toS hStr_q0 hS hFc)) rfl rfl hl.1 rfl (lv_room (Nat.le_of_ble_eq_true rfl)) dX10_learn_34 ⟨Nat.le_of_ble_eq_true rfl, Nat.le_of_ble_eq_true rfl⟩) (fun H locs hP hS => ?_)
      clear hPc hDc hFc
      obtain ⟨u_19, hu_19, hF_20⟩ := Option.bind_eq_some_iff.mp hF_18
      clear hF_18
      have hPc := hP.sub (ws' := (b_w cB cC cI cJ cZ oA rA s_1.2.2)) [0, 1, 2, 3, 4, 5, 6, 7, 8] rfl
      have hDc := (hDD s_1.2.2).sub (ws' := (b_w cB cC cI cJ cZ oA rA s_1.2.2)) [0, 1, 2, 3, 4, 5, 6, 7, 8] (by decide +kernel) rfl
      have hFc := va_free (wc := (b_w cB cC cI cJ cZ oA rA s_1.2.2)) (hDD s_1.2.2) hS hA [0, 1, 2, 3, 4, 5, 6, 7, 8] rfl
      refine g_ofi (wc := (b_w cB cC cI cJ cZ oA rA s_1.2.2)) (wr := ([] : va_W)) hP (hDD s_1.2.2) hS hFc [0, 1, 2, 3, 4, 5, 6, 7, 8] [] rfl rfl (by decide +kernel) (by decide +kernel) (va_runV (As := [.long u_17.1]) (rest := []) ⟨hx, hb, hml, hown, hts⟩ (k_X10_numberOf l dC dI cB cC cI cJ cZ cP oA rA H.size  u_17.1 s_1.2.2 _ hu_19) (cwV 1 hts (g_gV wq_401 wq_402 wq_403 wq_2 wq_404) rfl rfl rfl (by decide +kernel) ⟨Nat.le_of_ble_eq_true rfl, Nat.le_of_ble_eq_true rfl⟩) (g_preV g_bl0 hK hPc hDc hS hE hFc g_to0 (q0 := 0) (ci := 10) rfl rfl) rfl rfl hl.1 rfl (lv_room (Nat.le_of_ble_eq_true rfl)) dX10_learn_37 ⟨Nat.le_of_ble_eq_true rfl, Nat.le_of_ble_eq_true rfl⟩) (fun r9 u9 H locs hw9 hP' hD' hS => ?_)
      clear hPc hDc hFc
      subst hw9
      have hP : va_P (dC, dI) vwCl (b_w cB cC cI cJ cZ oA rA u_19.2) H := hP'
      clear hP' hD'
      refine lv_pop hx hb dX10_learn_40 rfl ?_
      refine lv_iload hx hb dX10_learn_41 (lv_at hl 0 rfl) ?_
      refine lv_iconst (v := 1) hx hb dX10_learn_43 (by decide +kernel) ?_
      refine lv_iadd hx hb dX10_learn_44 ?_
      obtain ⟨x_21, ex_21, hF_22⟩ := bnd_e hF_20
      clear hF_20
      refine m_top ex_21 ?_
      refine lv_istore_n (lv' := [(2, .int x_21), (4, .int u_15.1), (0, .ref (oA 1)), (1, .ref q0), (3, .int s_1.2.1)]) hx hb dX10_learn_45 rfl hl (by decide) rfl (fun ls hl => ?_)
      obtain ⟨x_23, ex_23, hF_24⟩ := bnd_e hF_22
      clear hF_22
      refine lv_iinc (v := x_23) (lv' := [(3, .int x_23), (2, .int x_21), (4, .int u_15.1), (0, .ref (oA 1)), (1, .ref q0)]) hx hb dX10_learn_46 hl (k := 4) rfl (by rw [ex_23]; rfl) (by decide) rfl (fun ls hl => ?_)
      refine lv_goto (tgt := 4) hx hb dX10_learn_49 (by decide) ?_
      exact ih_3 (x_21, x_23, u_19.2) hF_24 _ _ hP hS ls (lv_sub hl [3, 4, 1, 0] rfl)
theorem dX10_skip_0 : decode cX10_skip 0 = .ok (.iconst 0, 1) := by decide +kernel
theorem dX10_skip_1 : decode cX10_skip 1 = .ok (.istore_n 2, 1) := by decide +kernel
theorem dX10_skip_2 : decode cX10_skip 2 = .ok (.iconst 0, 1) := by decide +kernel
theorem dX10_skip_3 : decode cX10_skip 3 = .ok (.iload_n 1, 1) := by decide +kernel
theorem dX10_skip_4 : decode cX10_skip 4 = .ok (.invokestatic 44, 3) := by decide +kernel
theorem dX10_skip_7 : decode cX10_skip 7 = .ok (.istore_n 3, 1) := by decide +kernel
theorem dX10_skip_8 : decode cX10_skip 8 = .ok (.iload_n 3, 1) := by decide +kernel
theorem dX10_skip_9 : decode cX10_skip 9 = .ok (.aload_n 0, 1) := by decide +kernel
theorem dX10_skip_10 : decode cX10_skip 10 = .ok (.getfield 47, 3) := by decide +kernel
theorem dX10_skip_13 : decode cX10_skip 13 = .ok (.if_icmp .ge 63, 3) := by decide +kernel
theorem dX10_skip_16 : decode cX10_skip 16 = .ok (.iload_n 3, 1) := by decide +kernel
theorem dX10_skip_17 : decode cX10_skip 17 = .ok (.aload_n 0, 1) := by decide +kernel
theorem dX10_skip_18 : decode cX10_skip 18 = .ok (.getfield 9, 3) := by decide +kernel
theorem dX10_skip_21 : decode cX10_skip 21 = .ok (.arraylength, 1) := by decide +kernel
theorem dX10_skip_22 : decode cX10_skip 22 = .ok (.if_icmp .ge 54, 3) := by decide +kernel
theorem dX10_skip_25 : decode cX10_skip 25 = .ok (.aload_n 0, 1) := by decide +kernel
theorem dX10_skip_26 : decode cX10_skip 26 = .ok (.getfield 9, 3) := by decide +kernel
theorem dX10_skip_29 : decode cX10_skip 29 = .ok (.iload_n 3, 1) := by decide +kernel
theorem dX10_skip_30 : decode cX10_skip 30 = .ok (.baload, 1) := by decide +kernel
theorem dX10_skip_31 : decode cX10_skip 31 = .ok (.istore 4, 2) := by decide +kernel
theorem dX10_skip_33 : decode cX10_skip 33 = .ok (.iload 4, 2) := by decide +kernel
theorem dX10_skip_35 : decode cX10_skip 35 = .ok (.bipush 10, 2) := by decide +kernel
theorem dX10_skip_37 : decode cX10_skip 37 = .ok (.if_icmp .ne 8, 3) := by decide +kernel
theorem dX10_skip_40 : decode cX10_skip 40 = .ok (.iconst 0, 1) := by decide +kernel
theorem dX10_skip_41 : decode cX10_skip 41 = .ok (.istore_n 2, 1) := by decide +kernel
theorem dX10_skip_42 : decode cX10_skip 42 = .ok (.goto 28, 3) := by decide +kernel
theorem dX10_skip_45 : decode cX10_skip 45 = .ok (.iload 4, 2) := by decide +kernel
theorem dX10_skip_47 : decode cX10_skip 47 = .ok (.bipush 35, 2) := by decide +kernel
theorem dX10_skip_49 : decode cX10_skip 49 = .ok (.if_icmp .ne 8, 3) := by decide +kernel
theorem dX10_skip_52 : decode cX10_skip 52 = .ok (.iconst 1, 1) := by decide +kernel
theorem dX10_skip_53 : decode cX10_skip 53 = .ok (.istore_n 2, 1) := by decide +kernel
theorem dX10_skip_54 : decode cX10_skip 54 = .ok (.goto 16, 3) := by decide +kernel
theorem dX10_skip_57 : decode cX10_skip 57 = .ok (.iload 4, 2) := by decide +kernel
theorem dX10_skip_59 : decode cX10_skip 59 = .ok (.bipush 32, 2) := by decide +kernel
theorem dX10_skip_61 : decode cX10_skip 61 = .ok (.if_icmp .eq 9, 3) := by decide +kernel
theorem dX10_skip_64 : decode cX10_skip 64 = .ok (.iload_n 2, 1) := by decide +kernel
theorem dX10_skip_65 : decode cX10_skip 65 = .ok (.ifCond .ne 5, 3) := by decide +kernel
theorem dX10_skip_68 : decode cX10_skip 68 = .ok (.iload_n 3, 1) := by decide +kernel
theorem dX10_skip_69 : decode cX10_skip 69 = .ok (.ireturn, 1) := by decide +kernel
theorem dX10_skip_70 : decode cX10_skip 70 = .ok (.iinc 3 1, 3) := by decide +kernel
theorem dX10_skip_73 : decode cX10_skip 73 = .ok (.goto (-65), 3) := by decide +kernel
theorem dX10_skip_76 : decode cX10_skip 76 = .ok (.aload_n 0, 1) := by decide +kernel
theorem dX10_skip_77 : decode cX10_skip 77 = .ok (.getfield 47, 3) := by decide +kernel
theorem dX10_skip_80 : decode cX10_skip 80 = .ok (.ireturn, 1) := by decide +kernel
def F_X10_skip (p0 : Int32) (Γ : HS) : HR :=
  bnd ((if 0 < p0 then p0 else 0)) fun (x_1 : Int32) =>
  loopF (fun (again_4 : (Int32 × Int32 × HS) → HR) (s_3 : Int32 × Int32 × HS) => (
    if ((s_3.2.2 1).1 1) ≤ s_3.2.1 then (
      some (((s_3.2.2 1).1 1), s_3.2.2)
    ) else (
      if 16000 ≤ s_3.2.1 then (
        some (((s_3.2.2 1).1 1), s_3.2.2)
      ) else (
        if s_3.2.1 < 0 ∨ 16000 ≤ s_3.2.1.toNatClampNeg then none else
        bnd (((s_3.2.2 1).2.1 0 s_3.2.1.toNatClampNeg)) fun (x_15 : Int32) =>
        bnd (fun (v2_17 : Int32) (σ_18 : HS) => (
          bnd (s_3.2.1 + 1) fun (x_22 : Int32) =>
          again_4 (v2_17, x_22, σ_18)
        ) : Int32 → HS → HR) fun j_19 =>
        if x_15 = 10 then (
          j_19 0 s_3.2.2
        ) else (
          if x_15 = 35 then (
            j_19 1 s_3.2.2
          ) else (
            if x_15 = 32 then (
              j_19 s_3.1 s_3.2.2
            ) else (
              if s_3.1 = 0 then (
                some (s_3.2.1, s_3.2.2)
              ) else (
                j_19 s_3.1 s_3.2.2
              )
            )
          )
        )
      )
    )
  )) FU (0, x_1, Γ)
set_option maxHeartbeats 4000000 in
set_option maxRecDepth 100000 in
theorem k_X10_skip (l : Launch) (dC : Nat → ClassId) (dI : Nat → Nat → Nat) (cB cC cI cJ cZ cP : ClassId) (oA : Nat → Nat) (rA : Nat → Nat → Nat) (sz : Nat)  (p0 : Int32) (Γ : HS) (res : Int32 × HS) (hF : F_X10_skip p0 Γ = some res) : Met l yX10_skip (g_ws yX10_skip cX10_skip 5 (some .int)) ({ frames := 1, cells := 0, slots := 0, locals := 40 }) (va_Pc [.ref (oA 1), .int p0] (g_B (dC, dI) [(cB, .byte), (cC, .char), (cI, .int), (cJ, .long), (cZ, .boolean), (cP, .object "StoryHouse$Play")] sz (b_w cB cC cI cJ cZ oA rA Γ) g_0)) (va_Qi (fun r (_ : Unit) => r = res.1) (g_Bo (dC, dI) (va_A (b_w cB cC cI cJ cZ oA rA Γ) sz) (fun (_ : Unit) => (b_w cB cC cI cJ cZ oA rA res.2))) (va_A (b_w cB cC cI cJ cZ oA rA Γ) sz)) 0 0 (va_A (b_w cB cC cI cJ cZ oA rA Γ) sz) := by
  refine Met.ofW (cc := cX10_skip) (maxL := 5) (ret := (some .int)) (by decide) rfl ?_
  intro p e s m args below meth c s₁ B hml hv
  obtain ⟨rfl, hsz, hP, hK, hD0, hE, hX⟩ := hv
  have hx := B.exec
  have hb := B.bytes
  have hr := B.returns
  have hts0 := atoms_spec (ws := g_ws yX10_skip cX10_skip 5 (some .int)) B.pre
  have hts : ∀ w ∈ lw_good, w.before ([.ref (oA 1), .int p0] : List Value).toArray s = true := fun w z => hts0 w (List.mem_cons_of_mem _ z)
  have hown : s.vm.findClass RX10 = some m.cls := findClass_of_methodNamed B.named
  have hlocks := B.notSynchronized
  subst hsz
  have hD1 := hD0.self (sz := s.heap.size)
  generalize hAe : va_A (b_w cB cC cI cJ cZ oA rA Γ) s.heap.size = A at hD1 hE hX ⊢
  have hA : ∀ q : Nat, s.heap.size ≤ q → A q := fun q z => by rw [← hAe]; exact Or.inr z
  have hDD : ∀ Γ : HS, va_D A (b_w cB cC cI cJ cZ oA rA Γ) := fun Γ9 => va_D_fst (ws := (b_w cB cC cI cJ cZ oA rA Γ)) (ws' := (b_w cB cC cI cJ cZ oA rA Γ9)) rfl hD1
  have hN := hE.1
  have hS : va_S A s.heap s.heap [] := va_S.rf
  have hl := lv_entry ([.ref (oA 1), .int p0]) (n := 5) (Nat.le_of_ble_eq_true rfl)
  rw [lg_entry_eq]
  generalize (lg_sl ([.ref (oA 1), .int p0]) ++ List.replicate (5 - (lg_sl ([.ref (oA 1), .int p0])).length) Slot.unset).toArray = ls at hl ⊢
  have hl : lv_has ls 5 [(0, .ref (oA 1)), (1, .int p0)] := hl
  unfold F_X10_skip at hF
  refine lv_iconst (v := 0) hx hb dX10_skip_0 (by decide +kernel) ?_
  refine lv_istore_n (lv' := [(2, .int 0), (0, .ref (oA 1)), (1, .int p0)]) hx hb dX10_skip_1 rfl hl (by decide) rfl (fun ls hl => ?_)
  refine lv_iconst (v := 0) hx hb dX10_skip_2 (by decide +kernel) ?_
  refine lv_iload_n hx hb dX10_skip_3 rfl (lv_at hl 2 rfl) ?_
  refine va_mmax hx hb (hml.trans hl.1.symm) hown (hts (.methodLink RX10 44 yJ9_max_7cf53) wq_333) (hts (.static yJ9_max_7cf53) wq_334) (hts (.initialized RJ9) wq_19) (hts (.code yJ9_max_7cf53 cJ9_max_7cf53 2 (some .int)) wq_335) (Nat.le_of_ble_eq_true rfl) (Nat.le_of_ble_eq_true rfl) (Nat.le_of_ble_eq_true rfl) (Nat.le_of_ble_eq_true rfl) dX10_skip_4 ?_
  obtain ⟨x_1, ex_1, hF_2⟩ := bnd_e hF
  clear hF
  refine m_top ex_1 ?_
  refine lv_istore_n (lv' := [(3, .int x_1), (2, .int 0), (0, .ref (oA 1)), (1, .int p0)]) hx hb dX10_skip_7 rfl hl (by decide) rfl (fun ls hl => ?_)
  refine loopF_ind (P := fun (s_3 : Int32 × Int32 × HS) => ∀ (H : Heap) (locs : List Loc), va_P (dC, dI) vwCl (b_w cB cC cI cJ cZ oA rA s_3.2.2) H → va_S A s.heap H locs → ∀ ls : Array Slot, lv_has ls 5 [(0, .ref (oA 1)), (2, .int s_3.1), (3, .int s_3.2.1)] → W p l e (headSpec (g_ws yX10_skip cX10_skip 5 (some .int)) { frames := 1, cells := 0, slots := 0, locals := 40 }).room s m ([.ref (oA 1), .int p0] : List Value).toArray below meth c H locs 0 0 (MQ below (va_Qi (fun r (_ : Unit) => r = res.1) (g_Bo (dC, dI) A (fun (_ : Unit) => (b_w cB cC cI cJ cZ oA rA res.2))) A) ([.ref (oA 1), .int p0] : List Value).toArray s 0 0 A) (F0 m 8 ls [])) ?_ _ _ hF_2 _ _ hP hS ls (lv_sub hl [2, 1, 0] rfl)
  intro again_4 s_3 ih_5 hF_6
  intro H locs hP hS ls hl
  refine lv_iload_n hx hb dX10_skip_8 rfl (lv_at hl 2 rfl) ?_
  refine lv_aload_n hx hb dX10_skip_9 rfl (lv_at hl 0 rfl) ?_
  refine va_get (D := (dC, dI)) (ci := 10) (v := .int ((s_3.2.2 1).1 1)) (C := RX10) (T := TX10) (N := 12) hx hb hts ii_X10 hown hK hP 0 rfl rfl 1 (by decide) (hts (.fieldLink RX10 47 "StoryHouse$Words" "length" "I") wq_43) (fun _ h9 => h9) rfl dX10_skip_10 ?_
  refine lv_icmp_ge (tgt := 76) hx hb dX10_skip_13 (by decide) (fun c_7 => ?_) (fun c_7 => ?_)
  · have hF_8 := ipos c_7 hF_6
    clear hF_6
    refine lv_aload_n hx hb dX10_skip_76 rfl (lv_at hl 0 rfl) ?_
    refine va_get (D := (dC, dI)) (ci := 10) (v := .int ((s_3.2.2 1).1 1)) (C := RX10) (T := TX10) (N := 12) hx hb hts ii_X10 hown hK hP 0 rfl rfl 1 (by decide) (hts (.fieldLink RX10 47 "StoryHouse$Words" "length" "I") wq_43) (fun _ h9 => h9) rfl dX10_skip_77 ?_
    have h9 := Option.some.inj hF_8
    subst h9
    exact W.iret (v := ((s_3.2.2 1).1 1)) hx hb hr (fun t ht hW => ⟨⟨((s_3.2.2 1).1 1), (), rfl, rfl, m_end ht hP, hDD _⟩, hS.F ht⟩) hS.2.2 dX10_skip_80
  · have hF_9 := ineg c_7 hF_6
    clear hF_6
    refine lv_iload_n hx hb dX10_skip_16 rfl (lv_at hl 2 rfl) ?_
    refine lv_aload_n hx hb dX10_skip_17 rfl (lv_at hl 0 rfl) ?_
    refine va_get (D := (dC, dI)) (ci := 10) (v := .ref (rA 1 0)) (C := RX10) (T := TX10) (N := 12) hx hb hts ii_X10 hown hK hP 0 rfl rfl 0 (by decide) (hts (.fieldLink RX10 9 "StoryHouse$Words" "source" "[B") wq_41) (fun _ h9 => h9) rfl dX10_skip_18 ?_
    refine va_alen (v := 16000) hx hb hK hP 1 0 rfl rfl (by first | rfl | decide +kernel) dX10_skip_21 ?_
    refine lv_icmp_ge (tgt := 76) hx hb dX10_skip_22 (by decide) (fun c_10 => ?_) (fun c_10 => ?_)
    · have hF_11 := ipos c_10 hF_9
      clear hF_9
      refine lv_aload_n hx hb dX10_skip_76 rfl (lv_at hl 0 rfl) ?_
      refine va_get (D := (dC, dI)) (ci := 10) (v := .int ((s_3.2.2 1).1 1)) (C := RX10) (T := TX10) (N := 12) hx hb hts ii_X10 hown hK hP 0 rfl rfl 1 (by decide) (hts (.fieldLink RX10 47 "StoryHouse$Words" "length" "I") wq_43) (fun _ h9 => h9) rfl dX10_skip_77 ?_
      have h9 := Option.some.inj hF_11
      subst h9
      exact W.iret (v := ((s_3.2.2 1).1 1)) hx hb hr (fun t ht hW => ⟨⟨((s_3.2.2 1).1 1), (), rfl, rfl, m_end ht hP, hDD _⟩, hS.F ht⟩) hS.2.2 dX10_skip_80
    · have hF_12 := ineg c_10 hF_9
      clear hF_9
      refine lv_aload_n hx hb dX10_skip_25 rfl (lv_at hl 0 rfl) ?_
      refine va_get (D := (dC, dI)) (ci := 10) (v := .ref (rA 1 0)) (C := RX10) (T := TX10) (N := 12) hx hb hts ii_X10 hown hK hP 0 rfl rfl 0 (by decide) (hts (.fieldLink RX10 9 "StoryHouse$Words" "source" "[B") wq_41) (fun _ h9 => h9) rfl dX10_skip_26 ?_
      refine lv_iload_n hx hb dX10_skip_29 rfl (lv_at hl 2 rfl) ?_
      obtain ⟨g_13, hF_14⟩ := nif_e hF_12
      clear hF_12
      refine va_bald (f := (s_3.2.2 1).2.1 0) hx hb hK hP 1 0 rfl rfl g_13 dX10_skip_30 ?_
      obtain ⟨x_15, ex_15, hF_16⟩ := bnd_e hF_14
      clear hF_14
      refine m_top ex_15 ?_
      refine lv_istore (lv' := [(4, .int x_15), (0, .ref (oA 1)), (2, .int s_3.1), (3, .int s_3.2.1)]) hx hb dX10_skip_31 hl (by decide) rfl (fun ls hl => ?_)
      refine lv_iload hx hb dX10_skip_33 (lv_at hl 0 rfl) ?_
      refine lv_bipush (v := 10) hx hb dX10_skip_35 (by decide +kernel) ?_
      obtain ⟨j_19, ej_19, hF_20⟩ := bnd_e hF_16
      clear hF_16
      have Jj_19 : ∀ (v2_17 : Int32) (σ_18 : HS), j_19 v2_17 σ_18 = some res → ∀ (H : Heap) (locs : List Loc), va_P (dC, dI) vwCl (b_w cB cC cI cJ cZ oA rA σ_18) H → va_S A s.heap H locs → ∀ ls : Array Slot, lv_has ls 5 [(0, .ref (oA 1)), (2, .int v2_17), (3, .int s_3.2.1)] → W p l e (headSpec (g_ws yX10_skip cX10_skip 5 (some .int)) { frames := 1, cells := 0, slots := 0, locals := 40 }).room s m ([.ref (oA 1), .int p0] : List Value).toArray below meth c H locs 0 0 (MQ below (va_Qi (fun r (_ : Unit) => r = res.1) (g_Bo (dC, dI) A (fun (_ : Unit) => (b_w cB cC cI cJ cZ oA rA res.2))) A) ([.ref (oA 1), .int p0] : List Value).toArray s 0 0 A) (F0 m 70 ls []) := by
        intro v2_17 σ_18 hF0 H locs hP hS ls hl
        subst ej_19
        have hF_21 := hF0
        clear hF0
        obtain ⟨x_22, ex_22, hF_23⟩ := bnd_e hF_21
        clear hF_21
        refine lv_iinc (v := x_22) (lv' := [(3, .int x_22), (0, .ref (oA 1)), (2, .int v2_17)]) hx hb dX10_skip_70 hl (k := 2) rfl (by rw [ex_22]; rfl) (by decide) rfl (fun ls hl => ?_)
        refine lv_goto (tgt := 8) hx hb dX10_skip_73 (by decide) ?_
        exact ih_5 (v2_17, x_22, σ_18) hF_23 _ _ hP hS ls (lv_sub hl [1, 2, 0] rfl)
      refine lv_icmp_ne (tgt := 45) hx hb dX10_skip_37 (by decide) (fun c_24 => ?_) (fun c_24 => ?_)
      · have hF_26 := ineg c_24 hF_20
        clear hF_20
        refine lv_iload hx hb dX10_skip_45 (lv_at hl 0 rfl) ?_
        refine lv_bipush (v := 35) hx hb dX10_skip_47 (by decide +kernel) ?_
        refine lv_icmp_ne (tgt := 57) hx hb dX10_skip_49 (by decide) (fun c_27 => ?_) (fun c_27 => ?_)
        · have hF_29 := ineg c_27 hF_26
          clear hF_26
          refine lv_iload hx hb dX10_skip_57 (lv_at hl 0 rfl) ?_
          refine lv_bipush (v := 32) hx hb dX10_skip_59 (by decide +kernel) ?_
          refine lv_icmp_eq (tgt := 70) hx hb dX10_skip_61 (by decide) (fun c_30 => ?_) (fun c_30 => ?_)
          · have hF_31 := ipos c_30 hF_29
            clear hF_29
            exact Jj_19 s_3.1 s_3.2.2 hF_31 _ _ hP hS ls (lv_sub hl [1, 2, 3] rfl)
          · have hF_32 := ineg c_30 hF_29
            clear hF_29
            refine lv_iload_n hx hb dX10_skip_64 rfl (lv_at hl 2 rfl) ?_
            refine lv_if_ne (tgt := 70) hx hb dX10_skip_65 (by decide) (fun c_33 => ?_) (fun c_33 => ?_)
            · have hF_35 := ineg c_33 hF_32
              clear hF_32
              exact Jj_19 s_3.1 s_3.2.2 hF_35 _ _ hP hS ls (lv_sub hl [1, 2, 3] rfl)
            · have hF_34 := ipos c_33 hF_32
              clear hF_32
              refine lv_iload_n hx hb dX10_skip_68 rfl (lv_at hl 3 rfl) ?_
              have h9 := Option.some.inj hF_34
              subst h9
              exact W.iret (v := s_3.2.1) hx hb hr (fun t ht hW => ⟨⟨s_3.2.1, (), rfl, rfl, m_end ht hP, hDD _⟩, hS.F ht⟩) hS.2.2 dX10_skip_69
        · have hF_28 := ipos c_27 hF_26
          clear hF_26
          refine lv_iconst (v := 1) hx hb dX10_skip_52 (by decide +kernel) ?_
          refine lv_istore_n (lv' := [(2, .int 1), (4, .int x_15), (0, .ref (oA 1)), (3, .int s_3.2.1)]) hx hb dX10_skip_53 rfl hl (by decide) rfl (fun ls hl => ?_)
          refine lv_goto (tgt := 70) hx hb dX10_skip_54 (by decide) ?_
          exact Jj_19 1 s_3.2.2 hF_28 _ _ hP hS ls (lv_sub hl [2, 0, 3] rfl)
      · have hF_25 := ipos c_24 hF_20
        clear hF_20
        refine lv_iconst (v := 0) hx hb dX10_skip_40 (by decide +kernel) ?_
        refine lv_istore_n (lv' := [(2, .int 0), (4, .int x_15), (0, .ref (oA 1)), (3, .int s_3.2.1)]) hx hb dX10_skip_41 rfl hl (by decide) rfl (fun ls hl => ?_)
        refine lv_goto (tgt := 70) hx hb dX10_skip_42 (by decide) ?_
        exact Jj_19 0 s_3.2.2 hF_25 _ _ hP hS ls (lv_sub hl [2, 0, 3] rfl)
theorem dX10_bad_0 : decode cX10_bad 0 = .ok (.aload_n 0, 1) := by decide +kernel
theorem dX10_bad_1 : decode cX10_bad 1 = .ok (.iconst 1, 1) := by decide +kernel
theorem dX10_bad_2 : decode cX10_bad 2 = .ok (.iload_n 1, 1) := by decide +kernel
theorem dX10_bad_3 : decode cX10_bad 3 = .ok (.iconst 0, 1) := by decide +kernel
theorem dX10_bad_4 : decode cX10_bad 4 = .ok (.invokevirtual 93, 3) := by decide +kernel
theorem dX10_bad_7 : decode cX10_bad 7 = .ok (.pop, 1) := by decide +kernel
theorem dX10_bad_8 : decode cX10_bad 8 = .ok (.aload_n 0, 1) := by decide +kernel
theorem dX10_bad_9 : decode cX10_bad 9 = .ok (.getfield 47, 3) := by decide +kernel
theorem dX10_bad_12 : decode cX10_bad 12 = .ok (.ireturn, 1) := by decide +kernel
def F_X10_bad (p0 : Int32) (Γ : HS) : HR :=
  (F_X10_add 1 p0 0 Γ).bind fun u_1 =>
  some (((u_1.2 1).1 1), u_1.2)
set_option maxHeartbeats 4000000 in
set_option maxRecDepth 100000 in
theorem k_X10_bad (l : Launch) (dC : Nat → ClassId) (dI : Nat → Nat → Nat) (cB cC cI cJ cZ cP : ClassId) (oA : Nat → Nat) (rA : Nat → Nat → Nat) (sz : Nat)  (p0 : Int32) (Γ : HS) (res : Int32 × HS) (hF : F_X10_bad p0 Γ = some res) : Met l yX10_bad (g_ws yX10_bad cX10_bad 2 (some .int)) ({ frames := 4, cells := 0, slots := 0, locals := 105 }) (va_Pc [.ref (oA 1), .int p0] (g_B (dC, dI) [(cB, .byte), (cC, .char), (cI, .int), (cJ, .long), (cZ, .boolean), (cP, .object "StoryHouse$Play")] sz (b_w cB cC cI cJ cZ oA rA Γ) g_0)) (va_Qi (fun r (_ : Unit) => r = res.1) (g_Bo (dC, dI) (va_A (b_w cB cC cI cJ cZ oA rA Γ) sz) (fun (_ : Unit) => (b_w cB cC cI cJ cZ oA rA res.2))) (va_A (b_w cB cC cI cJ cZ oA rA Γ) sz)) 0 0 (va_A (b_w cB cC cI cJ cZ oA rA Γ) sz) := by
  refine Met.ofW (cc := cX10_bad) (maxL := 2) (ret := (some .int)) (by decide) rfl ?_
  intro p e s m args below meth c s₁ B hml hv
  obtain ⟨rfl, hsz, hP, hK, hD0, hE, hX⟩ := hv
  have hx := B.exec
  have hb := B.bytes
  have hr := B.returns
  have hts0 := atoms_spec (ws := g_ws yX10_bad cX10_bad 2 (some .int)) B.pre
  have hts : ∀ w ∈ lw_good, w.before ([.ref (oA 1), .int p0] : List Value).toArray s = true := fun w z => hts0 w (List.mem_cons_of_mem _ z)
  have hown : s.vm.findClass RX10 = some m.cls := findClass_of_methodNamed B.named
  have hlocks := B.notSynchronized
  subst hsz
  have hD1 := hD0.self (sz := s.heap.size)
  generalize hAe : va_A (b_w cB cC cI cJ cZ oA rA Γ) s.heap.size = A at hD1 hE hX ⊢
  have hA : ∀ q : Nat, s.heap.size ≤ q → A q := fun q z => by rw [← hAe]; exact Or.inr z
  have hDD : ∀ Γ : HS, va_D A (b_w cB cC cI cJ cZ oA rA Γ) := fun Γ9 => va_D_fst (ws := (b_w cB cC cI cJ cZ oA rA Γ)) (ws' := (b_w cB cC cI cJ cZ oA rA Γ9)) rfl hD1
  have hN := hE.1
  have hS : va_S A s.heap s.heap [] := va_S.rf
  have hl := lv_entry ([.ref (oA 1), .int p0]) (n := 2) (Nat.le_of_ble_eq_true rfl)
  rw [lg_entry_eq]
  generalize (lg_sl ([.ref (oA 1), .int p0]) ++ List.replicate (2 - (lg_sl ([.ref (oA 1), .int p0])).length) Slot.unset).toArray = ls at hl ⊢
  have hl : lv_has ls 2 [(0, .ref (oA 1)), (1, .int p0)] := hl
  unfold F_X10_bad at hF
  refine lv_aload_n hx hb dX10_bad_0 rfl (lv_at hl 0 rfl) ?_
  refine lv_iconst (v := 1) hx hb dX10_bad_1 (by decide +kernel) ?_
  refine lv_iload_n hx hb dX10_bad_2 rfl (lv_at hl 1 rfl) ?_
  refine lv_iconst (v := 0) hx hb dX10_bad_3 (by decide +kernel) ?_
  obtain ⟨u_1, hu_1, hF_2⟩ := Option.bind_eq_some_iff.mp hF
  clear hF
  have hPc := hP.sub (ws' := (b_w cB cC cI cJ cZ oA rA Γ)) [0, 1, 2, 3, 4, 5, 6, 7, 8] rfl
  have hDc := (hDD Γ).sub (ws' := (b_w cB cC cI cJ cZ oA rA Γ)) [0, 1, 2, 3, 4, 5, 6, 7, 8] (by decide +kernel) rfl
  have hFc := va_free (wc := (b_w cB cC cI cJ cZ oA rA Γ)) (hDD Γ) hS hA [0, 1, 2, 3, 4, 5, 6, 7, 8] rfl
  refine g_ofi (wc := (b_w cB cC cI cJ cZ oA rA Γ)) (wr := ([] : va_W)) hP (hDD Γ) hS hFc [0, 1, 2, 3, 4, 5, 6, 7, 8] [] rfl rfl (by decide +kernel) (by decide +kernel) (va_runV (As := [.int 1, .int p0, .int 0]) (rest := []) ⟨hx, hb, hml, hown, hts⟩ (k_X10_add l dC dI cB cC cI cJ cZ cP oA rA s.heap.size  1 p0 0 Γ _ hu_1) (cwV 3 hts (g_gV wq_431 wq_432 wq_1986 wq_2 wq_433) rfl rfl rfl (by decide +kernel) ⟨Nat.le_of_ble_eq_true rfl, Nat.le_of_ble_eq_true rfl⟩) (g_preV g_bl0 hK hPc hDc hS hE hFc g_to0 (q0 := 0) (ci := 10) rfl rfl) rfl rfl hl.1 rfl (lv_room (Nat.le_of_ble_eq_true rfl)) dX10_bad_4 ⟨Nat.le_of_ble_eq_true rfl, Nat.le_of_ble_eq_true rfl⟩) (fun r9 u9 H locs hw9 hP' hD' hS => ?_)
  clear hPc hDc hFc
  subst hw9
  have hP : va_P (dC, dI) vwCl (b_w cB cC cI cJ cZ oA rA u_1.2) H := hP'
  clear hP' hD'
  refine lv_pop hx hb dX10_bad_7 rfl ?_
  refine lv_aload_n hx hb dX10_bad_8 rfl (lv_at hl 0 rfl) ?_
  refine va_get (D := (dC, dI)) (ci := 10) (v := .int ((u_1.2 1).1 1)) (C := RX10) (T := TX10) (N := 12) hx hb hts ii_X10 hown hK hP 0 rfl rfl 1 (by decide) (hts (.fieldLink RX10 47 "StoryHouse$Words" "length" "I") wq_43) (fun _ h9 => h9) rfl dX10_bad_9 ?_
  have h9 := Option.some.inj hF_2
  subst h9
  exact W.iret (v := ((u_1.2 1).1 1)) hx hb hr (fun t ht hW => ⟨⟨((u_1.2 1).1 1), (), rfl, rfl, m_end ht hP, hDD _⟩, hS.F ht⟩) hS.2.2 dX10_bad_12
