/-! methods of the class: what each does is its function -/
theorem dX8_passTime_0 : decode cX8_passTime 0 = .ok (.aload_n 0, 1) := by decide +kernel
theorem dX8_passTime_1 : decode cX8_passTime 1 = .ok (.getfield 22, 3) := by decide +kernel
theorem dX8_passTime_4 : decode cX8_passTime 4 = .ok (.dup, 1) := by decide +kernel
theorem dX8_passTime_5 : decode cX8_passTime 5 = .ok (.getfield 283, 3) := by decide +kernel
theorem dX8_passTime_8 : decode cX8_passTime 8 = .ok (.iconst 1, 1) := by decide +kernel
theorem dX8_passTime_9 : decode cX8_passTime 9 = .ok (.iadd, 1) := by decide +kernel
theorem dX8_passTime_10 : decode cX8_passTime 10 = .ok (.putfield 283, 3) := by decide +kernel
theorem dX8_passTime_13 : decode cX8_passTime 13 = .ok (.aload_n 0, 1) := by decide +kernel
theorem dX8_passTime_14 : decode cX8_passTime 14 = .ok (.getfield 85, 3) := by decide +kernel
theorem dX8_passTime_17 : decode cX8_passTime 17 = .ok (.getfield 139, 3) := by decide +kernel
theorem dX8_passTime_20 : decode cX8_passTime 20 = .ok (.bipush 6, 2) := by decide +kernel
theorem dX8_passTime_22 : decode cX8_passTime 22 = .ok (.invokestatic 70, 3) := by decide +kernel
theorem dX8_passTime_25 : decode cX8_passTime 25 = .ok (.istore_n 1, 1) := by decide +kernel
theorem dX8_passTime_26 : decode cX8_passTime 26 = .ok (.iconst 1, 1) := by decide +kernel
theorem dX8_passTime_27 : decode cX8_passTime 27 = .ok (.istore_n 2, 1) := by decide +kernel
theorem dX8_passTime_28 : decode cX8_passTime 28 = .ok (.iconst 0, 1) := by decide +kernel
theorem dX8_passTime_29 : decode cX8_passTime 29 = .ok (.istore_n 3, 1) := by decide +kernel
theorem dX8_passTime_30 : decode cX8_passTime 30 = .ok (.iload_n 3, 1) := by decide +kernel
theorem dX8_passTime_31 : decode cX8_passTime 31 = .ok (.iload_n 1, 1) := by decide +kernel
theorem dX8_passTime_32 : decode cX8_passTime 32 = .ok (.if_icmp .ge 51, 3) := by decide +kernel
theorem dX8_passTime_35 : decode cX8_passTime 35 = .ok (.iload_n 3, 1) := by decide +kernel
theorem dX8_passTime_36 : decode cX8_passTime 36 = .ok (.bipush 20, 2) := by decide +kernel
theorem dX8_passTime_38 : decode cX8_passTime 38 = .ok (.if_icmp .ge 45, 3) := by decide +kernel
theorem dX8_passTime_41 : decode cX8_passTime 41 = .ok (.iload_n 2, 1) := by decide +kernel
theorem dX8_passTime_42 : decode cX8_passTime 42 = .ok (.ifCond .eq 41, 3) := by decide +kernel
theorem dX8_passTime_45 : decode cX8_passTime 45 = .ok (.aload_n 0, 1) := by decide +kernel
theorem dX8_passTime_46 : decode cX8_passTime 46 = .ok (.getfield 30, 3) := by decide +kernel
theorem dX8_passTime_49 : decode cX8_passTime 49 = .ok (.sipush 300, 3) := by decide +kernel
theorem dX8_passTime_52 : decode cX8_passTime 52 = .ok (.iload_n 3, 1) := by decide +kernel
theorem dX8_passTime_53 : decode cX8_passTime 53 = .ok (.iadd, 1) := by decide +kernel
theorem dX8_passTime_54 : decode cX8_passTime 54 = .ok (.invokevirtual 262, 3) := by decide +kernel
theorem dX8_passTime_57 : decode cX8_passTime 57 = .ok (.istore 4, 2) := by decide +kernel
theorem dX8_passTime_59 : decode cX8_passTime 59 = .ok (.iload 4, 2) := by decide +kernel
theorem dX8_passTime_61 : decode cX8_passTime 61 = .ok (.iconst 1, 1) := by decide +kernel
theorem dX8_passTime_62 : decode cX8_passTime 62 = .ok (.if_icmp .eq 9, 3) := by decide +kernel
theorem dX8_passTime_65 : decode cX8_passTime 65 = .ok (.iload 4, 2) := by decide +kernel
theorem dX8_passTime_67 : decode cX8_passTime 67 = .ok (.iconst 2, 1) := by decide +kernel
theorem dX8_passTime_68 : decode cX8_passTime 68 = .ok (.if_icmp .ne 7, 3) := by decide +kernel
theorem dX8_passTime_71 : decode cX8_passTime 71 = .ok (.iconst 1, 1) := by decide +kernel
theorem dX8_passTime_72 : decode cX8_passTime 72 = .ok (.goto 4, 3) := by decide +kernel
theorem dX8_passTime_75 : decode cX8_passTime 75 = .ok (.iconst 0, 1) := by decide +kernel
theorem dX8_passTime_76 : decode cX8_passTime 76 = .ok (.istore_n 2, 1) := by decide +kernel
theorem dX8_passTime_77 : decode cX8_passTime 77 = .ok (.iinc 3 1, 3) := by decide +kernel
theorem dX8_passTime_80 : decode cX8_passTime 80 = .ok (.goto (-50), 3) := by decide +kernel
theorem dX8_passTime_83 : decode cX8_passTime 83 = .ok (.return_, 1) := by decide +kernel
def F_X8_passTime  (Γ : HS) : HR :=
  bnd (cI' Γ 9 9 (((Γ 9).1 9) + 1)) fun σ_1 =>
  bnd ((g_at 7 ((σ_1 4).2.1 0) 6)) fun (x_3 : Int32) =>
  loopF (fun (again_6 : (Int32 × Int32 × HS) → HR) (s_5 : Int32 × Int32 × HS) => (
    if x_3 ≤ s_5.2.1 then (
      some (0, s_5.2.2)
    ) else (
      if 20 ≤ s_5.2.1 then (
        some (0, s_5.2.2)
      ) else (
        if s_5.1 = 0 then (
          some (0, s_5.2.2)
        ) else (
          (F_X3_run (300 + s_5.2.1) s_5.2.2).bind fun u_18 =>
          bnd (mrg (fun j => j == 10 || j == 9 || j == 8 || j == 4 || j == 5 || j == 6 || j == 7) s_5.2.2 u_18.2) fun σ_20 =>
          bnd (fun (t_22 : Int32) (σ_23 : HS) => (
            bnd (s_5.2.1 + 1) fun (x_27 : Int32) =>
            again_6 (t_22, x_27, σ_23)
          ) : Int32 → HS → HR) fun j_24 =>
          bnd (fun  (σ_29 : HS) => (
            j_24 1 σ_29
          ) : HS → HR) fun j_30 =>
          if u_18.1 = 1 then (
            j_30  σ_20
          ) else (
            if u_18.1 = 2 then (
              j_30  σ_20
            ) else (
              j_24 0 σ_20
            )
          )
        )
      )
    )
  )) FU (1, 0, σ_1)
set_option maxHeartbeats 4000000 in
set_option maxRecDepth 100000 in
theorem k_X8_passTime (l : Launch) (dC : Nat → ClassId) (dI : Nat → Nat → Nat) (cB cC cI cJ cZ cP : ClassId) (oA : Nat → Nat) (rA : Nat → Nat → Nat) (sz : Nat)   (Γ : HS) (res : Int32 × HS) (hF : F_X8_passTime  Γ = some res) : Met l yX8_passTime (g_ws yX8_passTime cX8_passTime 5 none) ({ frames := 10, cells := 0, slots := 0, locals := 245 }) (va_Pc [.ref (oA 11)] (g_B (dC, dI) [(cB, .byte), (cC, .char), (cI, .int), (cJ, .long), (cZ, .boolean), (cP, .object "StoryHouse$Play")] sz (b_e cB cC cI cJ cZ oA rA Γ ++ b_k cB cC cI cJ cZ oA rA Γ ++ b_p cB cC cI cJ cZ oA rA Γ ++ b_o cB cC cI cJ cZ oA rA Γ ++ b_s cB cC cI cJ cZ oA rA Γ ++ b_c cB cC cI cJ cZ oA rA Γ ++ b_t cB cC cI cJ cZ oA rA Γ ++ b_d cB cC cI cJ cZ oA rA Γ) g_0)) (va_Qv (fun (_ : Unit) => True) (g_Bo (dC, dI) (va_A (b_e cB cC cI cJ cZ oA rA Γ ++ b_k cB cC cI cJ cZ oA rA Γ ++ b_p cB cC cI cJ cZ oA rA Γ ++ b_o cB cC cI cJ cZ oA rA Γ ++ b_s cB cC cI cJ cZ oA rA Γ ++ b_c cB cC cI cJ cZ oA rA Γ ++ b_t cB cC cI cJ cZ oA rA Γ ++ b_d cB cC cI cJ cZ oA rA Γ) sz) (fun (_ : Unit) => (b_e cB cC cI cJ cZ oA rA res.2 ++ b_k cB cC cI cJ cZ oA rA res.2 ++ b_p cB cC cI cJ cZ oA rA res.2 ++ b_o cB cC cI cJ cZ oA rA res.2 ++ b_s cB cC cI cJ cZ oA rA res.2 ++ b_c cB cC cI cJ cZ oA rA res.2 ++ b_t cB cC cI cJ cZ oA rA res.2 ++ b_d cB cC cI cJ cZ oA rA res.2))) (va_A (b_e cB cC cI cJ cZ oA rA Γ ++ b_k cB cC cI cJ cZ oA rA Γ ++ b_p cB cC cI cJ cZ oA rA Γ ++ b_o cB cC cI cJ cZ oA rA Γ ++ b_s cB cC cI cJ cZ oA rA Γ ++ b_c cB cC cI cJ cZ oA rA Γ ++ b_t cB cC cI cJ cZ oA rA Γ ++ b_d cB cC cI cJ cZ oA rA Γ) sz)) 0 0 (va_A (b_e cB cC cI cJ cZ oA rA Γ ++ b_k cB cC cI cJ cZ oA rA Γ ++ b_p cB cC cI cJ cZ oA rA Γ ++ b_o cB cC cI cJ cZ oA rA Γ ++ b_s cB cC cI cJ cZ oA rA Γ ++ b_c cB cC cI cJ cZ oA rA Γ ++ b_t cB cC cI cJ cZ oA rA Γ ++ b_d cB cC cI cJ cZ oA rA Γ) sz) := by
  refine Met.ofW (cc := cX8_passTime) (maxL := 5) (ret := none) (by decide) rfl ?_
  intro p e s m args below meth c s₁ B hml hv
  obtain ⟨rfl, hsz, hP, hK, hD0, hE, hX⟩ := hv
  have hx := B.exec
  have hb := B.bytes
  have hr := B.returns
  have hts0 := atoms_spec (ws := g_ws yX8_passTime cX8_passTime 5 none) B.pre
  have hts : ∀ w ∈ lw_good, w.before ([.ref (oA 11)] : List Value).toArray s = true := fun w z => hts0 w (List.mem_cons_of_mem _ z)
  have hown : s.vm.findClass RX8 = some m.cls := findClass_of_methodNamed B.named
  have hlocks := B.notSynchronized
  subst hsz
  have hD1 := hD0.self (sz := s.heap.size)
  generalize hAe : va_A (b_e cB cC cI cJ cZ oA rA Γ ++ b_k cB cC cI cJ cZ oA rA Γ ++ b_p cB cC cI cJ cZ oA rA Γ ++ b_o cB cC cI cJ cZ oA rA Γ ++ b_s cB cC cI cJ cZ oA rA Γ ++ b_c cB cC cI cJ cZ oA rA Γ ++ b_t cB cC cI cJ cZ oA rA Γ ++ b_d cB cC cI cJ cZ oA rA Γ) s.heap.size = A at hD1 hE hX ⊢
  have hA : ∀ q : Nat, s.heap.size ≤ q → A q := fun q z => by rw [← hAe]; exact Or.inr z
  have hDD : ∀ Γ : HS, va_D A (b_e cB cC cI cJ cZ oA rA Γ ++ b_k cB cC cI cJ cZ oA rA Γ ++ b_p cB cC cI cJ cZ oA rA Γ ++ b_o cB cC cI cJ cZ oA rA Γ ++ b_s cB cC cI cJ cZ oA rA Γ ++ b_c cB cC cI cJ cZ oA rA Γ ++ b_t cB cC cI cJ cZ oA rA Γ ++ b_d cB cC cI cJ cZ oA rA Γ) := fun Γ9 => va_D_fst (ws := (b_e cB cC cI cJ cZ oA rA Γ ++ b_k cB cC cI cJ cZ oA rA Γ ++ b_p cB cC cI cJ cZ oA rA Γ ++ b_o cB cC cI cJ cZ oA rA Γ ++ b_s cB cC cI cJ cZ oA rA Γ ++ b_c cB cC cI cJ cZ oA rA Γ ++ b_t cB cC cI cJ cZ oA rA Γ ++ b_d cB cC cI cJ cZ oA rA Γ)) (ws' := (b_e cB cC cI cJ cZ oA rA Γ9 ++ b_k cB cC cI cJ cZ oA rA Γ9 ++ b_p cB cC cI cJ cZ oA rA Γ9 ++ b_o cB cC cI cJ cZ oA rA Γ9 ++ b_s cB cC cI cJ cZ oA rA Γ9 ++ b_c cB cC cI cJ cZ oA rA Γ9 ++ b_t cB cC cI cJ cZ oA rA Γ9 ++ b_d cB cC cI cJ cZ oA rA Γ9)) rfl hD1
  have hN := hE.1
  have hS : va_S A s.heap s.heap [] := va_S.rf
  have hl := lv_entry ([.ref (oA 11)]) (n := 5) (Nat.le_of_ble_eq_true rfl)
  rw [lg_entry_eq]
  generalize (lg_sl ([.ref (oA 11)]) ++ List.replicate (5 - (lg_sl ([.ref (oA 11)])).length) Slot.unset).toArray = ls at hl ⊢
  have hl : lv_has ls 5 [(0, .ref (oA 11))] := hl
  unfold F_X8_passTime at hF
  refine lv_aload_n hx hb dX8_passTime_0 rfl (lv_at hl 0 rfl) ?_
  refine va_get (D := (dC, dI)) (ci := 8) (v := .ref (oA 9)) (C := RX8) (T := TX8) (N := 16) hx hb hts ii_X8 hown hK hP 0 rfl rfl 0 (by decide) (hts (.fieldLink RX8 22 "StoryHouse$Teller" "play" "LStoryHouse$Play;") wq_286) (fun _ h9 => h9) rfl dX8_passTime_1 ?_
  refine lv_dup hx hb dX8_passTime_4 rfl ?_
  refine va_get (D := (dC, dI)) (ci := 6) (v := .int ((Γ 9).1 9)) (C := RX6) (T := TX6) (N := 12) hx hb hts ii_X6 hown hK hP 9 rfl rfl 9 (by decide) (hts (.fieldLink RX8 283 "StoryHouse$Play" "turns" "I") wq_245) (fun _ h9 => h9) rfl dX8_passTime_5 ?_
  refine lv_iconst (v := 1) hx hb dX8_passTime_8 (by decide +kernel) ?_
  refine lv_iadd hx hb dX8_passTime_9 ?_
  obtain ⟨σ_1, eσ_1, hF_2⟩ := bnd_e hF
  clear hF
  refine va_put (D := (dC, dI)) (ci := 6) (v := .int (((Γ 9).1 9) + 1)) (ty := .int) (C := RX6) (T := TX6) (N := 12) hx hb hts ii_X6 tyX6 tyX6_ok nmX6 hown hK hP (hDD _) hS 9 rfl rfl 9 (by decide) (hts (.fieldLink RX8 283 "StoryHouse$Play" "turns" "I") wq_245) (fun _ h9 => h9) rfl (by decide +kernel) rfl rfl (Nat.le_of_ble_eq_true rfl) dX8_passTime_10 (fun H locs hP' _ hS => ?_)
  have hP : va_P (dC, dI) vwCl (b_e cB cC cI cJ cZ oA rA σ_1 ++ b_k cB cC cI cJ cZ oA rA σ_1 ++ b_p cB cC cI cJ cZ oA rA σ_1 ++ b_o cB cC cI cJ cZ oA rA σ_1 ++ b_s cB cC cI cJ cZ oA rA σ_1 ++ b_c cB cC cI cJ cZ oA rA σ_1 ++ b_t cB cC cI cJ cZ oA rA σ_1 ++ b_d cB cC cI cJ cZ oA rA σ_1) H := by rw [eσ_1]; exact cs_ekposctd_p_9 ▸ hP'
  clear hP'
  refine lv_aload_n hx hb dX8_passTime_13 rfl (lv_at hl 0 rfl) ?_
  refine va_get (D := (dC, dI)) (ci := 8) (v := .ref (oA 4)) (C := RX8) (T := TX8) (N := 16) hx hb hts ii_X8 hown hK hP 0 rfl rfl 3 (by decide) (hts (.fieldLink RX8 85 "StoryHouse$Teller" "story" "LStoryHouse$Story;") wq_290) (fun _ h9 => h9) rfl dX8_passTime_14 ?_
  refine va_get (D := (dC, dI)) (ci := 7) (v := .ref (rA 4 0)) (C := RX7) (T := TX7) (N := 19) hx hb hts ii_X7 hown hK hP 19 rfl rfl 0 (by decide) (hts (.fieldLink RX8 139 "StoryHouse$Story" "counts" "[I") wq_155) (fun _ h9 => h9) rfl dX8_passTime_17 ?_
  refine lv_bipush (v := 6) hx hb dX8_passTime_20 (by decide +kernel) ?_
  have hq9 : ((b_e cB cC cI cJ cZ oA rA σ_1 ++ b_k cB cC cI cJ cZ oA rA σ_1 ++ b_p cB cC cI cJ cZ oA rA σ_1 ++ b_o cB cC cI cJ cZ oA rA σ_1 ++ b_s cB cC cI cJ cZ oA rA σ_1 ++ b_c cB cC cI cJ cZ oA rA σ_1 ++ b_t cB cC cI cJ cZ oA rA σ_1 ++ b_d cB cC cI cJ cZ oA rA σ_1))[20]? = some (rA 4 0, .inl (cI, 7, .inl ((σ_1 4).2.1 0))) := rfl
  have hPc := hP.sub (ws' := [(rA 4 0, .inl (cI, 7, .inl ((σ_1 4).2.1 0)))]) [20] (pk_fm (er_C hq9))
  have hDc := (hDD σ_1).sub (ws' := [(rA 4 0, .inl (cI, 7, .inl ((σ_1 4).2.1 0)))]) [20] (by decide +kernel) (er_C hq9)
  have hFc := va_free (wc := [(rA 4 0, .inl (cI, 7, .inl ((σ_1 4).2.1 0)))]) (hDD σ_1) hS hA [20] (er_C hq9)
  refine g_ofi (wc := [(rA 4 0, .inl (cI, 7, .inl ((σ_1 4).2.1 0)))]) (wr := (((b_e cB cC cI cJ cZ oA rA σ_1 ++ b_k cB cC cI cJ cZ oA rA σ_1 ++ b_p cB cC cI cJ cZ oA rA σ_1 ++ b_o cB cC cI cJ cZ oA rA σ_1 ++ b_s cB cC cI cJ cZ oA rA σ_1 ++ b_c cB cC cI cJ cZ oA rA σ_1 ++ b_t cB cC cI cJ cZ oA rA σ_1 ++ b_d cB cC cI cJ cZ oA rA σ_1)).eraseIdx 20)) hP (hDD σ_1) hS hFc [20] ((List.range ((b_e cB cC cI cJ cZ oA rA σ_1 ++ b_k cB cC cI cJ cZ oA rA σ_1 ++ b_p cB cC cI cJ cZ oA rA σ_1 ++ b_o cB cC cI cJ cZ oA rA σ_1 ++ b_s cB cC cI cJ cZ oA rA σ_1 ++ b_c cB cC cI cJ cZ oA rA σ_1 ++ b_t cB cC cI cJ cZ oA rA σ_1 ++ b_d cB cC cI cJ cZ oA rA σ_1)).length).eraseIdx 20) (er_C hq9) er_R er_n er_d (va_runSN (As := [.ref (rA 4 0), .int 6]) (rest := []) ⟨hx, hb, hml, hown, hts⟩ (c_X11_at l dC dI cB cC cI cJ cZ cP H.size (rA 4 0) 6 7 ((σ_1 4).2.1 0) (by decide)) ⟨va_cnB 2 hts (g_gA wq_407) rfl rfl rfl (nw_31 hN) (hts (.initialized RX11) wq_1) (by decide +kernel) ⟨Nat.le_of_ble_eq_true rfl, Nat.le_of_ble_eq_true rfl⟩, (hts (.static yX11_at) wq_406), trivial⟩ (g_preS g_bl0 hK hPc hDc hS hE hFc g_to0) rfl rfl hl.1 rfl (lv_room (Nat.le_of_ble_eq_true rfl)) dX8_passTime_22 ⟨Nat.le_of_ble_eq_true rfl, Nat.le_of_ble_eq_true rfl⟩) (fun r9 u9 H locs hw9 hP' hD' hS => ?_)
  clear hPc hDc hFc hD'
  have hP : va_P (dC, dI) vwCl (b_e cB cC cI cJ cZ oA rA σ_1 ++ b_k cB cC cI cJ cZ oA rA σ_1 ++ b_p cB cC cI cJ cZ oA rA σ_1 ++ b_o cB cC cI cJ cZ oA rA σ_1 ++ b_s cB cC cI cJ cZ oA rA σ_1 ++ b_c cB cC cI cJ cZ oA rA σ_1 ++ b_t cB cC cI cJ cZ oA rA σ_1 ++ b_d cB cC cI cJ cZ oA rA σ_1) H := er_I hP' hq9
  clear hP' hq9
  subst hw9
  obtain ⟨x_3, ex_3, hF_4⟩ := bnd_e hF_2
  clear hF_2
  refine m_top ex_3 ?_
  refine lv_istore_n (lv' := [(1, .int x_3), (0, .ref (oA 11))]) hx hb dX8_passTime_25 rfl hl (by decide) rfl (fun ls hl => ?_)
  refine lv_iconst (v := 1) hx hb dX8_passTime_26 (by decide +kernel) ?_
  refine lv_istore_n (lv' := [(2, .int 1), (1, .int x_3), (0, .ref (oA 11))]) hx hb dX8_passTime_27 rfl hl (by decide) rfl (fun ls hl => ?_)
  refine lv_iconst (v := 0) hx hb dX8_passTime_28 (by decide +kernel) ?_
  refine lv_istore_n (lv' := [(3, .int 0), (2, .int 1), (1, .int x_3), (0, .ref (oA 11))]) hx hb dX8_passTime_29 rfl hl (by decide) rfl (fun ls hl => ?_)
  refine loopF_ind (P := fun (s_5 : Int32 × Int32 × HS) => ∀ (H : Heap) (locs : List Loc), va_P (dC, dI) vwCl (b_e cB cC cI cJ cZ oA rA s_5.2.2 ++ b_k cB cC cI cJ cZ oA rA s_5.2.2 ++ b_p cB cC cI cJ cZ oA rA s_5.2.2 ++ b_o cB cC cI cJ cZ oA rA s_5.2.2 ++ b_s cB cC cI cJ cZ oA rA s_5.2.2 ++ b_c cB cC cI cJ cZ oA rA s_5.2.2 ++ b_t cB cC cI cJ cZ oA rA s_5.2.2 ++ b_d cB cC cI cJ cZ oA rA s_5.2.2) H → va_S A s.heap H locs → ∀ ls : Array Slot, lv_has ls 5 [(0, .ref (oA 11)), (1, .int x_3), (2, .int s_5.1), (3, .int s_5.2.1)] → W p l e (headSpec (g_ws yX8_passTime cX8_passTime 5 none) { frames := 10, cells := 0, slots := 0, locals := 245 }).room s m ([.ref (oA 11)] : List Value).toArray below meth c H locs 0 0 (MQ below (va_Qv (fun (_ : Unit) => True) (g_Bo (dC, dI) A (fun (_ : Unit) => (b_e cB cC cI cJ cZ oA rA res.2 ++ b_k cB cC cI cJ cZ oA rA res.2 ++ b_p cB cC cI cJ cZ oA rA res.2 ++ b_o cB cC cI cJ cZ oA rA res.2 ++ b_s cB cC cI cJ cZ oA rA res.2 ++ b_c cB cC cI cJ cZ oA rA res.2 ++ b_t cB cC cI cJ cZ oA rA res.2 ++ b_d cB cC cI cJ cZ oA rA res.2))) A) ([.ref (oA 11)] : List Value).toArray s 0 0 A) (F0 m 30 ls [])) ?_ _ _ hF_4 _ _ hP hS ls (lv_sub hl [3, 2, 1, 0] rfl)
  intro again_6 s_5 ih_7 hF_8
  intro H locs hP hS ls hl
  refine lv_iload_n hx hb dX8_passTime_30 rfl (lv_at hl 3 rfl) ?_
  refine lv_iload_n hx hb dX8_passTime_31 rfl (lv_at hl 1 rfl) ?_
  refine lv_icmp_ge (tgt := 83) hx hb dX8_passTime_32 (by decide) (fun c_9 => ?_) (fun c_9 => ?_)
  · have hF_10 := ipos c_9 hF_8
    clear hF_8
    have h9 := Option.some.inj hF_10
    subst h9
    exact W.vret hx hb hr (fun t ht hW => ⟨⟨(), rfl, trivial, m_end ht hP, hDD _⟩, hS.F ht⟩) hS.2.2 dX8_passTime_83
  · have hF_11 := ineg c_9 hF_8
    clear hF_8
    refine lv_iload_n hx hb dX8_passTime_35 rfl (lv_at hl 3 rfl) ?_
    refine lv_bipush (v := 20) hx hb dX8_passTime_36 (by decide +kernel) ?_
    refine lv_icmp_ge (tgt := 83) hx hb dX8_passTime_38 (by decide) (fun c_12 => ?_) (fun c_12 => ?_)
    · have hF_13 := ipos c_12 hF_11
      clear hF_11
      have h9 := Option.some.inj hF_13
      subst h9
      exact W.vret hx hb hr (fun t ht hW => ⟨⟨(), rfl, trivial, m_end ht hP, hDD _⟩, hS.F ht⟩) hS.2.2 dX8_passTime_83
    · have hF_14 := ineg c_12 hF_11
      clear hF_11
      refine lv_iload_n hx hb dX8_passTime_41 rfl (lv_at hl 2 rfl) ?_
      refine lv_if_eq (tgt := 83) hx hb dX8_passTime_42 (by decide) (fun c_15 => ?_) (fun c_15 => ?_)
      · have hF_16 := ipos c_15 hF_14
        clear hF_14
        have h9 := Option.some.inj hF_16
        subst h9
        exact W.vret hx hb hr (fun t ht hW => ⟨⟨(), rfl, trivial, m_end ht hP, hDD _⟩, hS.F ht⟩) hS.2.2 dX8_passTime_83
      · have hF_17 := ineg c_15 hF_14
        clear hF_14
        refine lv_aload_n hx hb dX8_passTime_45 rfl (lv_at hl 0 rfl) ?_
        refine va_get (D := (dC, dI)) (ci := 8) (v := .ref (oA 10)) (C := RX8) (T := TX8) (N := 16) hx hb hts ii_X8 hown hK hP 0 rfl rfl 2 (by decide) (hts (.fieldLink RX8 30 "StoryHouse$Teller" "machine" "LStoryHouse$Machine;") wq_288) (fun _ h9 => h9) rfl dX8_passTime_46 ?_
        refine lv_sipush (v := 300) hx hb dX8_passTime_49 (by decide +kernel) ?_
        refine lv_iload_n hx hb dX8_passTime_52 rfl (lv_at hl 3 rfl) ?_
        refine lv_iadd hx hb dX8_passTime_53 ?_
        obtain ⟨u_18, hu_18, hF_19⟩ := Option.bind_eq_some_iff.mp hF_17
        clear hF_17
        have hPc := bx_P (bs := [b_e cB cC cI cJ cZ oA rA s_5.2.2, b_k cB cC cI cJ cZ oA rA s_5.2.2, b_p cB cC cI cJ cZ oA rA s_5.2.2, b_o cB cC cI cJ cZ oA rA s_5.2.2, b_s cB cC cI cJ cZ oA rA s_5.2.2, b_c cB cC cI cJ cZ oA rA s_5.2.2, b_t cB cC cI cJ cZ oA rA s_5.2.2, b_d cB cC cI cJ cZ oA rA s_5.2.2]) (bs' := [b_k cB cC cI cJ cZ oA rA s_5.2.2, b_p cB cC cI cJ cZ oA rA s_5.2.2, b_o cB cC cI cJ cZ oA rA s_5.2.2, b_s cB cC cI cJ cZ oA rA s_5.2.2, b_c cB cC cI cJ cZ oA rA s_5.2.2, b_t cB cC cI cJ cZ oA rA s_5.2.2, b_d cB cC cI cJ cZ oA rA s_5.2.2]) (ws' := (b_k cB cC cI cJ cZ oA rA s_5.2.2 ++ b_p cB cC cI cJ cZ oA rA s_5.2.2 ++ b_o cB cC cI cJ cZ oA rA s_5.2.2 ++ b_s cB cC cI cJ cZ oA rA s_5.2.2 ++ b_c cB cC cI cJ cZ oA rA s_5.2.2 ++ b_t cB cC cI cJ cZ oA rA s_5.2.2 ++ b_d cB cC cI cJ cZ oA rA s_5.2.2)) hP fl_8 fl_7 [1, 2, 3, 4, 5, 6, 7] rfl
        have hDc := bx_D (bs := [b_e cB cC cI cJ cZ oA rA s_5.2.2, b_k cB cC cI cJ cZ oA rA s_5.2.2, b_p cB cC cI cJ cZ oA rA s_5.2.2, b_o cB cC cI cJ cZ oA rA s_5.2.2, b_s cB cC cI cJ cZ oA rA s_5.2.2, b_c cB cC cI cJ cZ oA rA s_5.2.2, b_t cB cC cI cJ cZ oA rA s_5.2.2, b_d cB cC cI cJ cZ oA rA s_5.2.2]) (bs' := [b_k cB cC cI cJ cZ oA rA s_5.2.2, b_p cB cC cI cJ cZ oA rA s_5.2.2, b_o cB cC cI cJ cZ oA rA s_5.2.2, b_s cB cC cI cJ cZ oA rA s_5.2.2, b_c cB cC cI cJ cZ oA rA s_5.2.2, b_t cB cC cI cJ cZ oA rA s_5.2.2, b_d cB cC cI cJ cZ oA rA s_5.2.2]) (ws' := (b_k cB cC cI cJ cZ oA rA s_5.2.2 ++ b_p cB cC cI cJ cZ oA rA s_5.2.2 ++ b_o cB cC cI cJ cZ oA rA s_5.2.2 ++ b_s cB cC cI cJ cZ oA rA s_5.2.2 ++ b_c cB cC cI cJ cZ oA rA s_5.2.2 ++ b_t cB cC cI cJ cZ oA rA s_5.2.2 ++ b_d cB cC cI cJ cZ oA rA s_5.2.2)) (hDD s_5.2.2) fl_8 fl_7 [1, 2, 3, 4, 5, 6, 7] (by decide +kernel) rfl
        have hFc := bx_F (bs := [b_e cB cC cI cJ cZ oA rA s_5.2.2, b_k cB cC cI cJ cZ oA rA s_5.2.2, b_p cB cC cI cJ cZ oA rA s_5.2.2, b_o cB cC cI cJ cZ oA rA s_5.2.2, b_s cB cC cI cJ cZ oA rA s_5.2.2, b_c cB cC cI cJ cZ oA rA s_5.2.2, b_t cB cC cI cJ cZ oA rA s_5.2.2, b_d cB cC cI cJ cZ oA rA s_5.2.2]) (bs' := [b_k cB cC cI cJ cZ oA rA s_5.2.2, b_p cB cC cI cJ cZ oA rA s_5.2.2, b_o cB cC cI cJ cZ oA rA s_5.2.2, b_s cB cC cI cJ cZ oA rA s_5.2.2, b_c cB cC cI cJ cZ oA rA s_5.2.2, b_t cB cC cI cJ cZ oA rA s_5.2.2, b_d cB cC cI cJ cZ oA rA s_5.2.2]) (wc := (b_k cB cC cI cJ cZ oA rA s_5.2.2 ++ b_p cB cC cI cJ cZ oA rA s_5.2.2 ++ b_o cB cC cI cJ cZ oA rA s_5.2.2 ++ b_s cB cC cI cJ cZ oA rA s_5.2.2 ++ b_c cB cC cI cJ cZ oA rA s_5.2.2 ++ b_t cB cC cI cJ cZ oA rA s_5.2.2 ++ b_d cB cC cI cJ cZ oA rA s_5.2.2)) (hDD s_5.2.2) hS hA fl_8 fl_7 [1, 2, 3, 4, 5, 6, 7] rfl
        refine g_ofi (wc := (b_k cB cC cI cJ cZ oA rA s_5.2.2 ++ b_p cB cC cI cJ cZ oA rA s_5.2.2 ++ b_o cB cC cI cJ cZ oA rA s_5.2.2 ++ b_s cB cC cI cJ cZ oA rA s_5.2.2 ++ b_c cB cC cI cJ cZ oA rA s_5.2.2 ++ b_t cB cC cI cJ cZ oA rA s_5.2.2 ++ b_d cB cC cI cJ cZ oA rA s_5.2.2)) (wr := (b_e cB cC cI cJ cZ oA rA s_5.2.2)) hP (hDD s_5.2.2) hS hFc (bx_ix [b_e cB cC cI cJ cZ oA rA s_5.2.2, b_k cB cC cI cJ cZ oA rA s_5.2.2, b_p cB cC cI cJ cZ oA rA s_5.2.2, b_o cB cC cI cJ cZ oA rA s_5.2.2, b_s cB cC cI cJ cZ oA rA s_5.2.2, b_c cB cC cI cJ cZ oA rA s_5.2.2, b_t cB cC cI cJ cZ oA rA s_5.2.2, b_d cB cC cI cJ cZ oA rA s_5.2.2] [1, 2, 3, 4, 5, 6, 7]) (bx_ix [b_e cB cC cI cJ cZ oA rA s_5.2.2, b_k cB cC cI cJ cZ oA rA s_5.2.2, b_p cB cC cI cJ cZ oA rA s_5.2.2, b_o cB cC cI cJ cZ oA rA s_5.2.2, b_s cB cC cI cJ cZ oA rA s_5.2.2, b_c cB cC cI cJ cZ oA rA s_5.2.2, b_t cB cC cI cJ cZ oA rA s_5.2.2, b_d cB cC cI cJ cZ oA rA s_5.2.2] [0]) (bx_C (bs := [b_e cB cC cI cJ cZ oA rA s_5.2.2, b_k cB cC cI cJ cZ oA rA s_5.2.2, b_p cB cC cI cJ cZ oA rA s_5.2.2, b_o cB cC cI cJ cZ oA rA s_5.2.2, b_s cB cC cI cJ cZ oA rA s_5.2.2, b_c cB cC cI cJ cZ oA rA s_5.2.2, b_t cB cC cI cJ cZ oA rA s_5.2.2, b_d cB cC cI cJ cZ oA rA s_5.2.2]) (bs' := [b_k cB cC cI cJ cZ oA rA s_5.2.2, b_p cB cC cI cJ cZ oA rA s_5.2.2, b_o cB cC cI cJ cZ oA rA s_5.2.2, b_s cB cC cI cJ cZ oA rA s_5.2.2, b_c cB cC cI cJ cZ oA rA s_5.2.2, b_t cB cC cI cJ cZ oA rA s_5.2.2, b_d cB cC cI cJ cZ oA rA s_5.2.2]) (is := [1, 2, 3, 4, 5, 6, 7]) fl_8 fl_7 rfl) (bx_C (bs := [b_e cB cC cI cJ cZ oA rA s_5.2.2, b_k cB cC cI cJ cZ oA rA s_5.2.2, b_p cB cC cI cJ cZ oA rA s_5.2.2, b_o cB cC cI cJ cZ oA rA s_5.2.2, b_s cB cC cI cJ cZ oA rA s_5.2.2, b_c cB cC cI cJ cZ oA rA s_5.2.2, b_t cB cC cI cJ cZ oA rA s_5.2.2, b_d cB cC cI cJ cZ oA rA s_5.2.2]) (bs' := [b_e cB cC cI cJ cZ oA rA s_5.2.2]) (is := [0]) fl_8 fl_1 rfl) (bx_n (by decide +kernel)) (bx_d (by decide +kernel)) (va_runV (As := [.int (300 + s_5.2.1)]) (rest := []) ⟨hx, hb, hml, hown, hts⟩ (k_X3_run l dC dI cB cC cI cJ cZ cP oA rA H.size  (300 + s_5.2.1) s_5.2.2 _ hu_18) (cwV 1 hts (g_gV wq_1127 wq_1128 wq_1129 wq_11 wq_1130) rfl rfl rfl (by decide +kernel) ⟨Nat.le_of_ble_eq_true rfl, Nat.le_of_ble_eq_true rfl⟩) (g_preV g_bl0 hK hPc hDc hS hE hFc g_to0 (q0 := 0) (ci := 3) rfl rfl) rfl rfl hl.1 rfl (lv_room (Nat.le_of_ble_eq_true rfl)) dX8_passTime_54 ⟨Nat.le_of_ble_eq_true rfl, Nat.le_of_ble_eq_true rfl⟩) (fun r9 u9 H locs hw9 hP' hD' hS => ?_)
        clear hPc hDc hFc
        subst hw9
        obtain ⟨σ_20, eσ_20, hF_21⟩ := bnd_e hF_19
        clear hF_19
        have hP : va_P (dC, dI) vwCl (b_e cB cC cI cJ cZ oA rA σ_20 ++ b_k cB cC cI cJ cZ oA rA σ_20 ++ b_p cB cC cI cJ cZ oA rA σ_20 ++ b_o cB cC cI cJ cZ oA rA σ_20 ++ b_s cB cC cI cJ cZ oA rA σ_20 ++ b_c cB cC cI cJ cZ oA rA σ_20 ++ b_t cB cC cI cJ cZ oA rA σ_20 ++ b_d cB cC cI cJ cZ oA rA σ_20) H := by rw [eσ_20]; exact bx_P (bs := [b_e cB cC cI cJ cZ oA rA s_5.2.2] ++ [b_k cB cC cI cJ cZ oA rA u_18.2, b_p cB cC cI cJ cZ oA rA u_18.2, b_o cB cC cI cJ cZ oA rA u_18.2, b_s cB cC cI cJ cZ oA rA u_18.2, b_c cB cC cI cJ cZ oA rA u_18.2, b_t cB cC cI cJ cZ oA rA u_18.2, b_d cB cC cI cJ cZ oA rA u_18.2]) (bs' := [b_e cB cC cI cJ cZ oA rA (mrg (fun j => j == 10 || j == 9 || j == 8 || j == 4 || j == 5 || j == 6 || j == 7) s_5.2.2 u_18.2), b_k cB cC cI cJ cZ oA rA (mrg (fun j => j == 10 || j == 9 || j == 8 || j == 4 || j == 5 || j == 6 || j == 7) s_5.2.2 u_18.2), b_p cB cC cI cJ cZ oA rA (mrg (fun j => j == 10 || j == 9 || j == 8 || j == 4 || j == 5 || j == 6 || j == 7) s_5.2.2 u_18.2), b_o cB cC cI cJ cZ oA rA (mrg (fun j => j == 10 || j == 9 || j == 8 || j == 4 || j == 5 || j == 6 || j == 7) s_5.2.2 u_18.2), b_s cB cC cI cJ cZ oA rA (mrg (fun j => j == 10 || j == 9 || j == 8 || j == 4 || j == 5 || j == 6 || j == 7) s_5.2.2 u_18.2), b_c cB cC cI cJ cZ oA rA (mrg (fun j => j == 10 || j == 9 || j == 8 || j == 4 || j == 5 || j == 6 || j == 7) s_5.2.2 u_18.2), b_t cB cC cI cJ cZ oA rA (mrg (fun j => j == 10 || j == 9 || j == 8 || j == 4 || j == 5 || j == 6 || j == 7) s_5.2.2 u_18.2), b_d cB cC cI cJ cZ oA rA (mrg (fun j => j == 10 || j == 9 || j == 8 || j == 4 || j == 5 || j == 6 || j == 7) s_5.2.2 u_18.2)]) hP' (fl_a fl_1 fl_7) fl_8 [0, 1, 2, 3, 4, 5, 6, 7] rfl
        clear hP' hD'
        refine lv_istore (lv' := [(4, .int u_18.1), (0, .ref (oA 11)), (1, .int x_3), (2, .int s_5.1), (3, .int s_5.2.1)]) hx hb dX8_passTime_57 hl (by decide) rfl (fun ls hl => ?_)
        refine lv_iload hx hb dX8_passTime_59 (lv_at hl 0 rfl) ?_
        refine lv_iconst (v := 1) hx hb dX8_passTime_61 (by decide +kernel) ?_
        obtain ⟨j_24, ej_24, hF_25⟩ := bnd_e hF_21
        clear hF_21
        have Jj_24 : ∀ (t_22 : Int32) (σ_23 : HS), j_24 t_22 σ_23 = some res → ∀ (H : Heap) (locs : List Loc), va_P (dC, dI) vwCl (b_e cB cC cI cJ cZ oA rA σ_23 ++ b_k cB cC cI cJ cZ oA rA σ_23 ++ b_p cB cC cI cJ cZ oA rA σ_23 ++ b_o cB cC cI cJ cZ oA rA σ_23 ++ b_s cB cC cI cJ cZ oA rA σ_23 ++ b_c cB cC cI cJ cZ oA rA σ_23 ++ b_t cB cC cI cJ cZ oA rA σ_23 ++ b_d cB cC cI cJ cZ oA rA σ_23) H → va_S A s.heap H locs → ∀ ls : Array Slot, lv_has ls 5 [(0, .ref (oA 11)), (1, .int x_3), (3, .int s_5.2.1)] → W p l e (headSpec (g_ws yX8_passTime cX8_passTime 5 none) { frames := 10, cells := 0, slots := 0, locals := 245 }).room s m ([.ref (oA 11)] : List Value).toArray below meth c H locs 0 0 (MQ below (va_Qv (fun (_ : Unit) => True) (g_Bo (dC, dI) A (fun (_ : Unit) => (b_e cB cC cI cJ cZ oA rA res.2 ++ b_k cB cC cI cJ cZ oA rA res.2 ++ b_p cB cC cI cJ cZ oA rA res.2 ++ b_o cB cC cI cJ cZ oA rA res.2 ++ b_s cB cC cI cJ cZ oA rA res.2 ++ b_c cB cC cI cJ cZ oA rA res.2 ++ b_t cB cC cI cJ cZ oA rA res.2 ++ b_d cB cC cI cJ cZ oA rA res.2))) A) ([.ref (oA 11)] : List Value).toArray s 0 0 A) (F0 m 76 ls [.int t_22]) := by
          intro t_22 σ_23 hF0 H locs hP hS ls hl
          subst ej_24
          have hF_26 := hF0
          clear hF0
          refine lv_istore_n (lv' := [(2, .int t_22), (0, .ref (oA 11)), (1, .int x_3), (3, .int s_5.2.1)]) hx hb dX8_passTime_76 rfl hl (by decide) rfl (fun ls hl => ?_)
          obtain ⟨x_27, ex_27, hF_28⟩ := bnd_e hF_26
          clear hF_26
          refine lv_iinc (v := x_27) (lv' := [(3, .int x_27), (2, .int t_22), (0, .ref (oA 11)), (1, .int x_3)]) hx hb dX8_passTime_77 hl (k := 3) rfl (by rw [ex_27]; rfl) (by decide) rfl (fun ls hl => ?_)
          refine lv_goto (tgt := 30) hx hb dX8_passTime_80 (by decide) ?_
          exact ih_7 (t_22, x_27, σ_23) hF_28 _ _ hP hS ls (lv_sub hl [2, 3, 1, 0] rfl)
        obtain ⟨j_30, ej_30, hF_31⟩ := bnd_e hF_25
        clear hF_25
        have Jj_30 : ∀  (σ_29 : HS), j_30  σ_29 = some res → ∀ (H : Heap) (locs : List Loc), va_P (dC, dI) vwCl (b_e cB cC cI cJ cZ oA rA σ_29 ++ b_k cB cC cI cJ cZ oA rA σ_29 ++ b_p cB cC cI cJ cZ oA rA σ_29 ++ b_o cB cC cI cJ cZ oA rA σ_29 ++ b_s cB cC cI cJ cZ oA rA σ_29 ++ b_c cB cC cI cJ cZ oA rA σ_29 ++ b_t cB cC cI cJ cZ oA rA σ_29 ++ b_d cB cC cI cJ cZ oA rA σ_29) H → va_S A s.heap H locs → ∀ ls : Array Slot, lv_has ls 5 [(0, .ref (oA 11)), (1, .int x_3), (3, .int s_5.2.1)] → W p l e (headSpec (g_ws yX8_passTime cX8_passTime 5 none) { frames := 10, cells := 0, slots := 0, locals := 245 }).room s m ([.ref (oA 11)] : List Value).toArray below meth c H locs 0 0 (MQ below (va_Qv (fun (_ : Unit) => True) (g_Bo (dC, dI) A (fun (_ : Unit) => (b_e cB cC cI cJ cZ oA rA res.2 ++ b_k cB cC cI cJ cZ oA rA res.2 ++ b_p cB cC cI cJ cZ oA rA res.2 ++ b_o cB cC cI cJ cZ oA rA res.2 ++ b_s cB cC cI cJ cZ oA rA res.2 ++ b_c cB cC cI cJ cZ oA rA res.2 ++ b_t cB cC cI cJ cZ oA rA res.2 ++ b_d cB cC cI cJ cZ oA rA res.2))) A) ([.ref (oA 11)] : List Value).toArray s 0 0 A) (F0 m 71 ls []) := by
          intro  σ_29 hF0 H locs hP hS ls hl
          subst ej_30
          have hF_32 := hF0
          clear hF0
          refine lv_iconst (v := 1) hx hb dX8_passTime_71 (by decide +kernel) ?_
          refine lv_goto (tgt := 76) hx hb dX8_passTime_72 (by decide) ?_
          exact Jj_24 1 σ_29 hF_32 _ _ hP hS ls (lv_sub hl [0, 1, 2] rfl)
        refine lv_icmp_eq (tgt := 71) hx hb dX8_passTime_62 (by decide) (fun c_33 => ?_) (fun c_33 => ?_)
        · have hF_34 := ipos c_33 hF_31
          clear hF_31
          exact Jj_30  σ_20 hF_34 _ _ hP hS ls (lv_sub hl [1, 2, 4] rfl)
        · have hF_35 := ineg c_33 hF_31
          clear hF_31
          refine lv_iload hx hb dX8_passTime_65 (lv_at hl 0 rfl) ?_
          refine lv_iconst (v := 2) hx hb dX8_passTime_67 (by decide +kernel) ?_
          refine lv_icmp_ne (tgt := 75) hx hb dX8_passTime_68 (by decide) (fun c_36 => ?_) (fun c_36 => ?_)
          · have hF_38 := ineg c_36 hF_35
            clear hF_35
            refine lv_iconst (v := 0) hx hb dX8_passTime_75 (by decide +kernel) ?_
            exact Jj_24 0 σ_20 hF_38 _ _ hP hS ls (lv_sub hl [1, 2, 4] rfl)
          · have hF_37 := ipos c_36 hF_35
            clear hF_35
            exact Jj_30  σ_20 hF_37 _ _ hP hS ls (lv_sub hl [1, 2, 4] rfl)
theorem dX8_close_0 : decode cX8_close 0 = .ok (.aload_n 0, 1) := by decide +kernel
theorem dX8_close_1 : decode cX8_close 1 = .ok (.getfield 22, 3) := by decide +kernel
theorem dX8_close_4 : decode cX8_close 4 = .ok (.aload_n 0, 1) := by decide +kernel
theorem dX8_close_5 : decode cX8_close 5 = .ok (.getfield 114, 3) := by decide +kernel
theorem dX8_close_8 : decode cX8_close 8 = .ok (.iconst 0, 1) := by decide +kernel
theorem dX8_close_9 : decode cX8_close 9 = .ok (.invokevirtual 205, 3) := by decide +kernel
theorem dX8_close_12 : decode cX8_close 12 = .ok (.ifCond .ne 16, 3) := by decide +kernel
theorem dX8_close_15 : decode cX8_close 15 = .ok (.aload_n 0, 1) := by decide +kernel
theorem dX8_close_16 : decode cX8_close 16 = .ok (.getfield 26, 3) := by decide +kernel
theorem dX8_close_19 : decode cX8_close 19 = .ok (.ldc_w 377, 3) := by decide +kernel
theorem dX8_close_22 : decode cX8_close 22 = .ok (.invokevirtual 65, 3) := by decide +kernel
theorem dX8_close_25 : decode cX8_close 25 = .ok (.goto 54, 3) := by decide +kernel
theorem dX8_close_28 : decode cX8_close 28 = .ok (.aload_n 0, 1) := by decide +kernel
theorem dX8_close_29 : decode cX8_close 29 = .ok (.getfield 22, 3) := by decide +kernel
theorem dX8_close_32 : decode cX8_close 32 = .ok (.aload_n 0, 1) := by decide +kernel
theorem dX8_close_33 : decode cX8_close 33 = .ok (.getfield 114, 3) := by decide +kernel
theorem dX8_close_36 : decode cX8_close 36 = .ok (.iconst 4, 1) := by decide +kernel
theorem dX8_close_37 : decode cX8_close 37 = .ok (.invokevirtual 205, 3) := by decide +kernel
theorem dX8_close_40 : decode cX8_close 40 = .ok (.ifCond .ne 16, 3) := by decide +kernel
theorem dX8_close_43 : decode cX8_close 43 = .ok (.aload_n 0, 1) := by decide +kernel
theorem dX8_close_44 : decode cX8_close 44 = .ok (.getfield 26, 3) := by decide +kernel
theorem dX8_close_47 : decode cX8_close 47 = .ok (.ldc_w 379, 3) := by decide +kernel
theorem dX8_close_50 : decode cX8_close 50 = .ok (.invokevirtual 65, 3) := by decide +kernel
theorem dX8_close_53 : decode cX8_close 53 = .ok (.goto 26, 3) := by decide +kernel
theorem dX8_close_56 : decode cX8_close 56 = .ok (.aload_n 0, 1) := by decide +kernel
theorem dX8_close_57 : decode cX8_close 57 = .ok (.getfield 22, 3) := by decide +kernel
theorem dX8_close_60 : decode cX8_close 60 = .ok (.aload_n 0, 1) := by decide +kernel
theorem dX8_close_61 : decode cX8_close 61 = .ok (.getfield 114, 3) := by decide +kernel
theorem dX8_close_64 : decode cX8_close 64 = .ok (.iconst 4, 1) := by decide +kernel
theorem dX8_close_65 : decode cX8_close 65 = .ok (.iconst 0, 1) := by decide +kernel
theorem dX8_close_66 : decode cX8_close 66 = .ok (.invokevirtual 371, 3) := by decide +kernel
theorem dX8_close_69 : decode cX8_close 69 = .ok (.aload_n 0, 1) := by decide +kernel
theorem dX8_close_70 : decode cX8_close 70 = .ok (.getfield 26, 3) := by decide +kernel
theorem dX8_close_73 : decode cX8_close 73 = .ok (.ldc_w 381, 3) := by decide +kernel
theorem dX8_close_76 : decode cX8_close 76 = .ok (.invokevirtual 65, 3) := by decide +kernel
theorem dX8_close_79 : decode cX8_close 79 = .ok (.return_, 1) := by decide +kernel
def F_X8_close  (Γ : HS) : HR :=
  (F_X6_bears ((Γ 11).1 10) 0 Γ).bind fun u_1 =>
  bnd (mrg (fun j => j == 9) Γ u_1.2) fun σ_3 =>
  if u_1.1 = 0 then (
    (F_X5_line ([89, 111, 117, 32, 99, 97, 110, 32, 110, 111, 116, 32, 99, 108, 111, 115, 101, 32, 116, 104, 97, 116, 46] : List Int32) σ_3).bind fun u_8 =>
    bnd (mrg (fun j => j == 8) σ_3 u_8.2) fun σ_10 =>
    some (0, σ_10)
  ) else (
    (F_X6_bears ((σ_3 11).1 10) 4 σ_3).bind fun u_13 =>
    bnd (mrg (fun j => j == 9) σ_3 u_13.2) fun σ_15 =>
    if u_13.1 = 0 then (
      (F_X5_line ([84, 104, 97, 116, 32, 105, 115, 32, 99, 108, 111, 115, 101, 100, 46] : List Int32) σ_15).bind fun u_20 =>
      bnd (mrg (fun j => j == 8) σ_15 u_20.2) fun σ_22 =>
      some (0, σ_22)
    ) else (
      (F_X6_give ((σ_15 11).1 10) 4 0 σ_15).bind fun u_25 =>
      bnd (mrg (fun j => j == 9) σ_15 u_25.2) fun σ_27 =>
      (F_X5_line ([67, 108, 111, 115, 101, 100, 46] : List Int32) σ_27).bind fun u_30 =>
      bnd (mrg (fun j => j == 8) σ_27 u_30.2) fun σ_32 =>
      some (0, σ_32)
    )
  )
set_option maxHeartbeats 4000000 in
set_option maxRecDepth 100000 in
theorem k_X8_close (l : Launch) (dC : Nat → ClassId) (dI : Nat → Nat → Nat) (cB cC cI cJ cZ cP : ClassId) (oA : Nat → Nat) (rA : Nat → Nat → Nat) (sz : Nat)   (Γ : HS) (res : Int32 × HS) (hF : F_X8_close  Γ = some res) : Met l yX8_close (g_ws yX8_close cX8_close 1 none) ({ frames := 7, cells := 0, slots := 0, locals := 168 }) (va_Pc [.ref (oA 11)] (g_B (dC, dI) [(cB, .byte), (cC, .char), (cI, .int), (cJ, .long), (cZ, .boolean), (cP, .object "StoryHouse$Play")] sz (b_e cB cC cI cJ cZ oA rA Γ ++ b_k cB cC cI cJ cZ oA rA Γ ++ b_p cB cC cI cJ cZ oA rA Γ ++ b_o cB cC cI cJ cZ oA rA Γ ++ b_s cB cC cI cJ cZ oA rA Γ ++ b_c cB cC cI cJ cZ oA rA Γ ++ b_t cB cC cI cJ cZ oA rA Γ ++ b_d cB cC cI cJ cZ oA rA Γ) g_0)) (va_Qv (fun (_ : Unit) => True) (g_Bo (dC, dI) (va_A (b_e cB cC cI cJ cZ oA rA Γ ++ b_k cB cC cI cJ cZ oA rA Γ ++ b_p cB cC cI cJ cZ oA rA Γ ++ b_o cB cC cI cJ cZ oA rA Γ ++ b_s cB cC cI cJ cZ oA rA Γ ++ b_c cB cC cI cJ cZ oA rA Γ ++ b_t cB cC cI cJ cZ oA rA Γ ++ b_d cB cC cI cJ cZ oA rA Γ) sz) (fun (_ : Unit) => (b_e cB cC cI cJ cZ oA rA res.2 ++ b_k cB cC cI cJ cZ oA rA res.2 ++ b_p cB cC cI cJ cZ oA rA res.2 ++ b_o cB cC cI cJ cZ oA rA res.2 ++ b_s cB cC cI cJ cZ oA rA res.2 ++ b_c cB cC cI cJ cZ oA rA res.2 ++ b_t cB cC cI cJ cZ oA rA res.2 ++ b_d cB cC cI cJ cZ oA rA res.2))) (va_A (b_e cB cC cI cJ cZ oA rA Γ ++ b_k cB cC cI cJ cZ oA rA Γ ++ b_p cB cC cI cJ cZ oA rA Γ ++ b_o cB cC cI cJ cZ oA rA Γ ++ b_s cB cC cI cJ cZ oA rA Γ ++ b_c cB cC cI cJ cZ oA rA Γ ++ b_t cB cC cI cJ cZ oA rA Γ ++ b_d cB cC cI cJ cZ oA rA Γ) sz)) 0 0 (va_A (b_e cB cC cI cJ cZ oA rA Γ ++ b_k cB cC cI cJ cZ oA rA Γ ++ b_p cB cC cI cJ cZ oA rA Γ ++ b_o cB cC cI cJ cZ oA rA Γ ++ b_s cB cC cI cJ cZ oA rA Γ ++ b_c cB cC cI cJ cZ oA rA Γ ++ b_t cB cC cI cJ cZ oA rA Γ ++ b_d cB cC cI cJ cZ oA rA Γ) sz) := by
  refine Met.ofW (cc := cX8_close) (maxL := 1) (ret := none) (by decide) rfl ?_
  intro p e s m args below meth c s₁ B hml hv
  obtain ⟨rfl, hsz, hP, hK, hD0, hE, hX⟩ := hv
  have hx := B.exec
  have hb := B.bytes
  have hr := B.returns
  have hts0 := atoms_spec (ws := g_ws yX8_close cX8_close 1 none) B.pre
  have hts : ∀ w ∈ lw_good, w.before ([.ref (oA 11)] : List Value).toArray s = true := fun w z => hts0 w (List.mem_cons_of_mem _ z)
  have hown : s.vm.findClass RX8 = some m.cls := findClass_of_methodNamed B.named
  have hlocks := B.notSynchronized
  subst hsz
  have hD1 := hD0.self (sz := s.heap.size)
  generalize hAe : va_A (b_e cB cC cI cJ cZ oA rA Γ ++ b_k cB cC cI cJ cZ oA rA Γ ++ b_p cB cC cI cJ cZ oA rA Γ ++ b_o cB cC cI cJ cZ oA rA Γ ++ b_s cB cC cI cJ cZ oA rA Γ ++ b_c cB cC cI cJ cZ oA rA Γ ++ b_t cB cC cI cJ cZ oA rA Γ ++ b_d cB cC cI cJ cZ oA rA Γ) s.heap.size = A at hD1 hE hX ⊢
  have hA : ∀ q : Nat, s.heap.size ≤ q → A q := fun q z => by rw [← hAe]; exact Or.inr z
  have hDD : ∀ Γ : HS, va_D A (b_e cB cC cI cJ cZ oA rA Γ ++ b_k cB cC cI cJ cZ oA rA Γ ++ b_p cB cC cI cJ cZ oA rA Γ ++ b_o cB cC cI cJ cZ oA rA Γ ++ b_s cB cC cI cJ cZ oA rA Γ ++ b_c cB cC cI cJ cZ oA rA Γ ++ b_t cB cC cI cJ cZ oA rA Γ ++ b_d cB cC cI cJ cZ oA rA Γ) := fun Γ9 => va_D_fst (ws := (b_e cB cC cI cJ cZ oA rA Γ ++ b_k cB cC cI cJ cZ oA rA Γ ++ b_p cB cC cI cJ cZ oA rA Γ ++ b_o cB cC cI cJ cZ oA rA Γ ++ b_s cB cC cI cJ cZ oA rA Γ ++ b_c cB cC cI cJ cZ oA rA Γ ++ b_t cB cC cI cJ cZ oA rA Γ ++ b_d cB cC cI cJ cZ oA rA Γ)) (ws' := (b_e cB cC cI cJ cZ oA rA Γ9 ++ b_k cB cC cI cJ cZ oA rA Γ9 ++ b_p cB cC cI cJ cZ oA rA Γ9 ++ b_o cB cC cI cJ cZ oA rA Γ9 ++ b_s cB cC cI cJ cZ oA rA Γ9 ++ b_c cB cC cI cJ cZ oA rA Γ9 ++ b_t cB cC cI cJ cZ oA rA Γ9 ++ b_d cB cC cI cJ cZ oA rA Γ9)) rfl hD1
  have hN := hE.1
  have hS : va_S A s.heap s.heap [] := va_S.rf
  have hl := lv_entry ([.ref (oA 11)]) (n := 1) (Nat.le_of_ble_eq_true rfl)
  rw [lg_entry_eq]
  generalize (lg_sl ([.ref (oA 11)]) ++ List.replicate (1 - (lg_sl ([.ref (oA 11)])).length) Slot.unset).toArray = ls at hl ⊢
  have hl : lv_has ls 1 [(0, .ref (oA 11))] := hl
  unfold F_X8_close at hF
  refine lv_aload_n hx hb dX8_close_0 rfl (lv_at hl 0 rfl) ?_
  refine va_get (D := (dC, dI)) (ci := 8) (v := .ref (oA 9)) (C := RX8) (T := TX8) (N := 16) hx hb hts ii_X8 hown hK hP 0 rfl rfl 0 (by decide) (hts (.fieldLink RX8 22 "StoryHouse$Teller" "play" "LStoryHouse$Play;") wq_286) (fun _ h9 => h9) rfl dX8_close_1 ?_
  refine lv_aload_n hx hb dX8_close_4 rfl (lv_at hl 0 rfl) ?_
  refine va_get (D := (dC, dI)) (ci := 8) (v := .int ((Γ 11).1 10)) (C := RX8) (T := TX8) (N := 16) hx hb hts ii_X8 hown hK hP 0 rfl rfl 10 (by decide) (hts (.fieldLink RX8 114 "StoryHouse$Teller" "noun" "I") wq_297) (fun _ h9 => h9) rfl dX8_close_5 ?_
  refine lv_iconst (v := 0) hx hb dX8_close_8 (by decide +kernel) ?_
  obtain ⟨u_1, hu_1, hF_2⟩ := Option.bind_eq_some_iff.mp hF
  clear hF
  have hPc := bx_P (bs := [b_e cB cC cI cJ cZ oA rA Γ, b_k cB cC cI cJ cZ oA rA Γ, b_p cB cC cI cJ cZ oA rA Γ, b_o cB cC cI cJ cZ oA rA Γ, b_s cB cC cI cJ cZ oA rA Γ, b_c cB cC cI cJ cZ oA rA Γ, b_t cB cC cI cJ cZ oA rA Γ, b_d cB cC cI cJ cZ oA rA Γ]) (bs' := [b_p cB cC cI cJ cZ oA rA Γ]) (ws' := (b_p cB cC cI cJ cZ oA rA Γ)) hP fl_8 fl_1 [2] rfl
  have hDc := bx_D (bs := [b_e cB cC cI cJ cZ oA rA Γ, b_k cB cC cI cJ cZ oA rA Γ, b_p cB cC cI cJ cZ oA rA Γ, b_o cB cC cI cJ cZ oA rA Γ, b_s cB cC cI cJ cZ oA rA Γ, b_c cB cC cI cJ cZ oA rA Γ, b_t cB cC cI cJ cZ oA rA Γ, b_d cB cC cI cJ cZ oA rA Γ]) (bs' := [b_p cB cC cI cJ cZ oA rA Γ]) (ws' := (b_p cB cC cI cJ cZ oA rA Γ)) (hDD Γ) fl_8 fl_1 [2] (by decide +kernel) rfl
  have hFc := bx_F (bs := [b_e cB cC cI cJ cZ oA rA Γ, b_k cB cC cI cJ cZ oA rA Γ, b_p cB cC cI cJ cZ oA rA Γ, b_o cB cC cI cJ cZ oA rA Γ, b_s cB cC cI cJ cZ oA rA Γ, b_c cB cC cI cJ cZ oA rA Γ, b_t cB cC cI cJ cZ oA rA Γ, b_d cB cC cI cJ cZ oA rA Γ]) (bs' := [b_p cB cC cI cJ cZ oA rA Γ]) (wc := (b_p cB cC cI cJ cZ oA rA Γ)) (hDD Γ) hS hA fl_8 fl_1 [2] rfl
  refine g_ofi (wc := (b_p cB cC cI cJ cZ oA rA Γ)) (wr := (b_e cB cC cI cJ cZ oA rA Γ ++ b_k cB cC cI cJ cZ oA rA Γ ++ b_o cB cC cI cJ cZ oA rA Γ ++ b_s cB cC cI cJ cZ oA rA Γ ++ b_c cB cC cI cJ cZ oA rA Γ ++ b_t cB cC cI cJ cZ oA rA Γ ++ b_d cB cC cI cJ cZ oA rA Γ)) hP (hDD Γ) hS hFc (bx_ix [b_e cB cC cI cJ cZ oA rA Γ, b_k cB cC cI cJ cZ oA rA Γ, b_p cB cC cI cJ cZ oA rA Γ, b_o cB cC cI cJ cZ oA rA Γ, b_s cB cC cI cJ cZ oA rA Γ, b_c cB cC cI cJ cZ oA rA Γ, b_t cB cC cI cJ cZ oA rA Γ, b_d cB cC cI cJ cZ oA rA Γ] [2]) (bx_ix [b_e cB cC cI cJ cZ oA rA Γ, b_k cB cC cI cJ cZ oA rA Γ, b_p cB cC cI cJ cZ oA rA Γ, b_o cB cC cI cJ cZ oA rA Γ, b_s cB cC cI cJ cZ oA rA Γ, b_c cB cC cI cJ cZ oA rA Γ, b_t cB cC cI cJ cZ oA rA Γ, b_d cB cC cI cJ cZ oA rA Γ] [0, 1, 3, 4, 5, 6, 7]) (bx_C (bs := [b_e cB cC cI cJ cZ oA rA Γ, b_k cB cC cI cJ cZ oA rA Γ, b_p cB cC cI cJ cZ oA rA Γ, b_o cB cC cI cJ cZ oA rA Γ, b_s cB cC cI cJ cZ oA rA Γ, b_c cB cC cI cJ cZ oA rA Γ, b_t cB cC cI cJ cZ oA rA Γ, b_d cB cC cI cJ cZ oA rA Γ]) (bs' := [b_p cB cC cI cJ cZ oA rA Γ]) (is := [2]) fl_8 fl_1 rfl) (bx_C (bs := [b_e cB cC cI cJ cZ oA rA Γ, b_k cB cC cI cJ cZ oA rA Γ, b_p cB cC cI cJ cZ oA rA Γ, b_o cB cC cI cJ cZ oA rA Γ, b_s cB cC cI cJ cZ oA rA Γ, b_c cB cC cI cJ cZ oA rA Γ, b_t cB cC cI cJ cZ oA rA Γ, b_d cB cC cI cJ cZ oA rA Γ]) (bs' := [b_e cB cC cI cJ cZ oA rA Γ, b_k cB cC cI cJ cZ oA rA Γ, b_o cB cC cI cJ cZ oA rA Γ, b_s cB cC cI cJ cZ oA rA Γ, b_c cB cC cI cJ cZ oA rA Γ, b_t cB cC cI cJ cZ oA rA Γ, b_d cB cC cI cJ cZ oA rA Γ]) (is := [0, 1, 3, 4, 5, 6, 7]) fl_8 fl_7 rfl) (bx_n (by decide +kernel)) (bx_d (by decide +kernel)) (va_runV (As := [.int ((Γ 11).1 10), .int 0]) (rest := []) ⟨hx, hb, hml, hown, hts⟩ (k_X6_bears l dC dI cB cC cI cJ cZ cP oA rA s.heap.size  ((Γ 11).1 10) 0 Γ _ hu_1) (cwV 2 hts (g_gV wq_1030 wq_987 wq_988 wq_10 wq_989) rfl rfl rfl (by decide +kernel) ⟨Nat.le_of_ble_eq_true rfl, Nat.le_of_ble_eq_true rfl⟩) (g_preV g_bl0 hK hPc hDc hS hE hFc g_to0 (q0 := 0) (ci := 6) rfl rfl) rfl rfl hl.1 rfl (lv_room (Nat.le_of_ble_eq_true rfl)) dX8_close_9 ⟨Nat.le_of_ble_eq_true rfl, Nat.le_of_ble_eq_true rfl⟩) (fun r9 u9 H locs hw9 hP' hD' hS => ?_)
  clear hPc hDc hFc
  subst hw9
  obtain ⟨σ_3, eσ_3, hF_4⟩ := bnd_e hF_2
  clear hF_2
  have hP : va_P (dC, dI) vwCl (b_e cB cC cI cJ cZ oA rA σ_3 ++ b_k cB cC cI cJ cZ oA rA σ_3 ++ b_p cB cC cI cJ cZ oA rA σ_3 ++ b_o cB cC cI cJ cZ oA rA σ_3 ++ b_s cB cC cI cJ cZ oA rA σ_3 ++ b_c cB cC cI cJ cZ oA rA σ_3 ++ b_t cB cC cI cJ cZ oA rA σ_3 ++ b_d cB cC cI cJ cZ oA rA σ_3) H := by rw [eσ_3]; exact bx_P (bs := [b_e cB cC cI cJ cZ oA rA Γ, b_k cB cC cI cJ cZ oA rA Γ, b_o cB cC cI cJ cZ oA rA Γ, b_s cB cC cI cJ cZ oA rA Γ, b_c cB cC cI cJ cZ oA rA Γ, b_t cB cC cI cJ cZ oA rA Γ, b_d cB cC cI cJ cZ oA rA Γ] ++ [b_p cB cC cI cJ cZ oA rA u_1.2]) (bs' := [b_e cB cC cI cJ cZ oA rA (mrg (fun j => j == 9) Γ u_1.2), b_k cB cC cI cJ cZ oA rA (mrg (fun j => j == 9) Γ u_1.2), b_p cB cC cI cJ cZ oA rA (mrg (fun j => j == 9) Γ u_1.2), b_o cB cC cI cJ cZ oA rA (mrg (fun j => j == 9) Γ u_1.2), b_s cB cC cI cJ cZ oA rA (mrg (fun j => j == 9) Γ u_1.2), b_c cB cC cI cJ cZ oA rA (mrg (fun j => j == 9) Γ u_1.2), b_t cB cC cI cJ cZ oA rA (mrg (fun j => j == 9) Γ u_1.2), b_d cB cC cI cJ cZ oA rA (mrg (fun j => j == 9) Γ u_1.2)]) hP' (fl_a fl_7 fl_1) fl_8 [0, 1, 7, 2, 3, 4, 5, 6] rfl
  clear hP' hD'
  refine lv_if_ne (tgt := 28) hx hb dX8_close_12 (by decide) (fun c_5 => ?_) (fun c_5 => ?_)
  · have hF_12 := ineg c_5 hF_4
    clear hF_4
    refine lv_aload_n hx hb dX8_close_28 rfl (lv_at hl 0 rfl) ?_
    refine va_get (D := (dC, dI)) (ci := 8) (v := .ref (oA 9)) (C := RX8) (T := TX8) (N := 16) hx hb hts ii_X8 hown hK hP 0 rfl rfl 0 (by decide) (hts (.fieldLink RX8 22 "StoryHouse$Teller" "play" "LStoryHouse$Play;") wq_286) (fun _ h9 => h9) rfl dX8_close_29 ?_
    refine lv_aload_n hx hb dX8_close_32 rfl (lv_at hl 0 rfl) ?_
    refine va_get (D := (dC, dI)) (ci := 8) (v := .int ((σ_3 11).1 10)) (C := RX8) (T := TX8) (N := 16) hx hb hts ii_X8 hown hK hP 0 rfl rfl 10 (by decide) (hts (.fieldLink RX8 114 "StoryHouse$Teller" "noun" "I") wq_297) (fun _ h9 => h9) rfl dX8_close_33 ?_
    refine lv_iconst (v := 4) hx hb dX8_close_36 (by decide +kernel) ?_
    obtain ⟨u_13, hu_13, hF_14⟩ := Option.bind_eq_some_iff.mp hF_12
    clear hF_12
    have hPc := bx_P (bs := [b_e cB cC cI cJ cZ oA rA σ_3, b_k cB cC cI cJ cZ oA rA σ_3, b_p cB cC cI cJ cZ oA rA σ_3, b_o cB cC cI cJ cZ oA rA σ_3, b_s cB cC cI cJ cZ oA rA σ_3, b_c cB cC cI cJ cZ oA rA σ_3, b_t cB cC cI cJ cZ oA rA σ_3, b_d cB cC cI cJ cZ oA rA σ_3]) (bs' := [b_p cB cC cI cJ cZ oA rA σ_3]) (ws' := (b_p cB cC cI cJ cZ oA rA σ_3)) hP fl_8 fl_1 [2] rfl
    have hDc := bx_D (bs := [b_e cB cC cI cJ cZ oA rA σ_3, b_k cB cC cI cJ cZ oA rA σ_3, b_p cB cC cI cJ cZ oA rA σ_3, b_o cB cC cI cJ cZ oA rA σ_3, b_s cB cC cI cJ cZ oA rA σ_3, b_c cB cC cI cJ cZ oA rA σ_3, b_t cB cC cI cJ cZ oA rA σ_3, b_d cB cC cI cJ cZ oA rA σ_3]) (bs' := [b_p cB cC cI cJ cZ oA rA σ_3]) (ws' := (b_p cB cC cI cJ cZ oA rA σ_3)) (hDD σ_3) fl_8 fl_1 [2] (by decide +kernel) rfl
    have hFc := bx_F (bs := [b_e cB cC cI cJ cZ oA rA σ_3, b_k cB cC cI cJ cZ oA rA σ_3, b_p cB cC cI cJ cZ oA rA σ_3, b_o cB cC cI cJ cZ oA rA σ_3, b_s cB cC cI cJ cZ oA rA σ_3, b_c cB cC cI cJ cZ oA rA σ_3, b_t cB cC cI cJ cZ oA rA σ_3, b_d cB cC cI cJ cZ oA rA σ_3]) (bs' := [b_p cB cC cI cJ cZ oA rA σ_3]) (wc := (b_p cB cC cI cJ cZ oA rA σ_3)) (hDD σ_3) hS hA fl_8 fl_1 [2] rfl
    refine g_ofi (wc := (b_p cB cC cI cJ cZ oA rA σ_3)) (wr := (b_e cB cC cI cJ cZ oA rA σ_3 ++ b_k cB cC cI cJ cZ oA rA σ_3 ++ b_o cB cC cI cJ cZ oA rA σ_3 ++ b_s cB cC cI cJ cZ oA rA σ_3 ++ b_c cB cC cI cJ cZ oA rA σ_3 ++ b_t cB cC cI cJ cZ oA rA σ_3 ++ b_d cB cC cI cJ cZ oA rA σ_3)) hP (hDD σ_3) hS hFc (bx_ix [b_e cB cC cI cJ cZ oA rA σ_3, b_k cB cC cI cJ cZ oA rA σ_3, b_p cB cC cI cJ cZ oA rA σ_3, b_o cB cC cI cJ cZ oA rA σ_3, b_s cB cC cI cJ cZ oA rA σ_3, b_c cB cC cI cJ cZ oA rA σ_3, b_t cB cC cI cJ cZ oA rA σ_3, b_d cB cC cI cJ cZ oA rA σ_3] [2]) (bx_ix [b_e cB cC cI cJ cZ oA rA σ_3, b_k cB cC cI cJ cZ oA rA σ_3, b_p cB cC cI cJ cZ oA rA σ_3, b_o cB cC cI cJ cZ oA rA σ_3, b_s cB cC cI cJ cZ oA rA σ_3, b_c cB cC cI cJ cZ oA rA σ_3, b_t cB cC cI cJ cZ oA rA σ_3, b_d cB cC cI cJ cZ oA rA σ_3] [0, 1, 3, 4, 5, 6, 7]) (bx_C (bs := [b_e cB cC cI cJ cZ oA rA σ_3, b_k cB cC cI cJ cZ oA rA σ_3, b_p cB cC cI cJ cZ oA rA σ_3, b_o cB cC cI cJ cZ oA rA σ_3, b_s cB cC cI cJ cZ oA rA σ_3, b_c cB cC cI cJ cZ oA rA σ_3, b_t cB cC cI cJ cZ oA rA σ_3, b_d cB cC cI cJ cZ oA rA σ_3]) (bs' := [b_p cB cC cI cJ cZ oA rA σ_3]) (is := [2]) fl_8 fl_1 rfl) (bx_C (bs := [b_e cB cC cI cJ cZ oA rA σ_3, b_k cB cC cI cJ cZ oA rA σ_3, b_p cB cC cI cJ cZ oA rA σ_3, b_o cB cC cI cJ cZ oA rA σ_3, b_s cB cC cI cJ cZ oA rA σ_3, b_c cB cC cI cJ cZ oA rA σ_3, b_t cB cC cI cJ cZ oA rA σ_3, b_d cB cC cI cJ cZ oA rA σ_3]) (bs' := [b_e cB cC cI cJ cZ oA rA σ_3, b_k cB cC cI cJ cZ oA rA σ_3, b_o cB cC cI cJ cZ oA rA σ_3, b_s cB cC cI cJ cZ oA rA σ_3, b_c cB cC cI cJ cZ oA rA σ_3, b_t cB cC cI cJ cZ oA rA σ_3, b_d cB cC cI cJ cZ oA rA σ_3]) (is := [0, 1, 3, 4, 5, 6, 7]) fl_8 fl_7 rfl) (bx_n (by decide +kernel)) (bx_d (by decide +kernel)) (va_runV (As := [.int ((σ_3 11).1 10), .int 4]) (rest := []) ⟨hx, hb, hml, hown, hts⟩ (k_X6_bears l dC dI cB cC cI cJ cZ cP oA rA H.size  ((σ_3 11).1 10) 4 σ_3 _ hu_13) (cwV 2 hts (g_gV wq_1030 wq_987 wq_988 wq_10 wq_989) rfl rfl rfl (by decide +kernel) ⟨Nat.le_of_ble_eq_true rfl, Nat.le_of_ble_eq_true rfl⟩) (g_preV g_bl0 hK hPc hDc hS hE hFc g_to0 (q0 := 0) (ci := 6) rfl rfl) rfl rfl hl.1 rfl (lv_room (Nat.le_of_ble_eq_true rfl)) dX8_close_37 ⟨Nat.le_of_ble_eq_true rfl, Nat.le_of_ble_eq_true rfl⟩) (fun r9 u9 H locs hw9 hP' hD' hS => ?_)
    clear hPc hDc hFc
    subst hw9
    obtain ⟨σ_15, eσ_15, hF_16⟩ := bnd_e hF_14
    clear hF_14
    have hP : va_P (dC, dI) vwCl (b_e cB cC cI cJ cZ oA rA σ_15 ++ b_k cB cC cI cJ cZ oA rA σ_15 ++ b_p cB cC cI cJ cZ oA rA σ_15 ++ b_o cB cC cI cJ cZ oA rA σ_15 ++ b_s cB cC cI cJ cZ oA rA σ_15 ++ b_c cB cC cI cJ cZ oA rA σ_15 ++ b_t cB cC cI cJ cZ oA rA σ_15 ++ b_d cB cC cI cJ cZ oA rA σ_15) H := by rw [eσ_15]; exact bx_P (bs := [b_e cB cC cI cJ cZ oA rA σ_3, b_k cB cC cI cJ cZ oA rA σ_3, b_o cB cC cI cJ cZ oA rA σ_3, b_s cB cC cI cJ cZ oA rA σ_3, b_c cB cC cI cJ cZ oA rA σ_3, b_t cB cC cI cJ cZ oA rA σ_3, b_d cB cC cI cJ cZ oA rA σ_3] ++ [b_p cB cC cI cJ cZ oA rA u_13.2]) (bs' := [b_e cB cC cI cJ cZ oA rA (mrg (fun j => j == 9) σ_3 u_13.2), b_k cB cC cI cJ cZ oA rA (mrg (fun j => j == 9) σ_3 u_13.2), b_p cB cC cI cJ cZ oA rA (mrg (fun j => j == 9) σ_3 u_13.2), b_o cB cC cI cJ cZ oA rA (mrg (fun j => j == 9) σ_3 u_13.2), b_s cB cC cI cJ cZ oA rA (mrg (fun j => j == 9) σ_3 u_13.2), b_c cB cC cI cJ cZ oA rA (mrg (fun j => j == 9) σ_3 u_13.2), b_t cB cC cI cJ cZ oA rA (mrg (fun j => j == 9) σ_3 u_13.2), b_d cB cC cI cJ cZ oA rA (mrg (fun j => j == 9) σ_3 u_13.2)]) hP' (fl_a fl_7 fl_1) fl_8 [0, 1, 7, 2, 3, 4, 5, 6] rfl
    clear hP' hD'
    refine lv_if_ne (tgt := 56) hx hb dX8_close_40 (by decide) (fun c_17 => ?_) (fun c_17 => ?_)
    · have hF_24 := ineg c_17 hF_16
      clear hF_16
      refine lv_aload_n hx hb dX8_close_56 rfl (lv_at hl 0 rfl) ?_
      refine va_get (D := (dC, dI)) (ci := 8) (v := .ref (oA 9)) (C := RX8) (T := TX8) (N := 16) hx hb hts ii_X8 hown hK hP 0 rfl rfl 0 (by decide) (hts (.fieldLink RX8 22 "StoryHouse$Teller" "play" "LStoryHouse$Play;") wq_286) (fun _ h9 => h9) rfl dX8_close_57 ?_
      refine lv_aload_n hx hb dX8_close_60 rfl (lv_at hl 0 rfl) ?_
      refine va_get (D := (dC, dI)) (ci := 8) (v := .int ((σ_15 11).1 10)) (C := RX8) (T := TX8) (N := 16) hx hb hts ii_X8 hown hK hP 0 rfl rfl 10 (by decide) (hts (.fieldLink RX8 114 "StoryHouse$Teller" "noun" "I") wq_297) (fun _ h9 => h9) rfl dX8_close_61 ?_
      refine lv_iconst (v := 4) hx hb dX8_close_64 (by decide +kernel) ?_
      refine lv_iconst (v := 0) hx hb dX8_close_65 (by decide +kernel) ?_
      obtain ⟨u_25, hu_25, hF_26⟩ := Option.bind_eq_some_iff.mp hF_24
      clear hF_24
      have hPc := bx_P (bs := [b_e cB cC cI cJ cZ oA rA σ_15, b_k cB cC cI cJ cZ oA rA σ_15, b_p cB cC cI cJ cZ oA rA σ_15, b_o cB cC cI cJ cZ oA rA σ_15, b_s cB cC cI cJ cZ oA rA σ_15, b_c cB cC cI cJ cZ oA rA σ_15, b_t cB cC cI cJ cZ oA rA σ_15, b_d cB cC cI cJ cZ oA rA σ_15]) (bs' := [b_p cB cC cI cJ cZ oA rA σ_15]) (ws' := (b_p cB cC cI cJ cZ oA rA σ_15)) hP fl_8 fl_1 [2] rfl
      have hDc := bx_D (bs := [b_e cB cC cI cJ cZ oA rA σ_15, b_k cB cC cI cJ cZ oA rA σ_15, b_p cB cC cI cJ cZ oA rA σ_15, b_o cB cC cI cJ cZ oA rA σ_15, b_s cB cC cI cJ cZ oA rA σ_15, b_c cB cC cI cJ cZ oA rA σ_15, b_t cB cC cI cJ cZ oA rA σ_15, b_d cB cC cI cJ cZ oA rA σ_15]) (bs' := [b_p cB cC cI cJ cZ oA rA σ_15]) (ws' := (b_p cB cC cI cJ cZ oA rA σ_15)) (hDD σ_15) fl_8 fl_1 [2] (by decide +kernel) rfl
      have hFc := bx_F (bs := [b_e cB cC cI cJ cZ oA rA σ_15, b_k cB cC cI cJ cZ oA rA σ_15, b_p cB cC cI cJ cZ oA rA σ_15, b_o cB cC cI cJ cZ oA rA σ_15, b_s cB cC cI cJ cZ oA rA σ_15, b_c cB cC cI cJ cZ oA rA σ_15, b_t cB cC cI cJ cZ oA rA σ_15, b_d cB cC cI cJ cZ oA rA σ_15]) (bs' := [b_p cB cC cI cJ cZ oA rA σ_15]) (wc := (b_p cB cC cI cJ cZ oA rA σ_15)) (hDD σ_15) hS hA fl_8 fl_1 [2] rfl
      refine g_ofv (wc := (b_p cB cC cI cJ cZ oA rA σ_15)) (wr := (b_e cB cC cI cJ cZ oA rA σ_15 ++ b_k cB cC cI cJ cZ oA rA σ_15 ++ b_o cB cC cI cJ cZ oA rA σ_15 ++ b_s cB cC cI cJ cZ oA rA σ_15 ++ b_c cB cC cI cJ cZ oA rA σ_15 ++ b_t cB cC cI cJ cZ oA rA σ_15 ++ b_d cB cC cI cJ cZ oA rA σ_15)) hP (hDD σ_15) hS hFc (bx_ix [b_e cB cC cI cJ cZ oA rA σ_15, b_k cB cC cI cJ cZ oA rA σ_15, b_p cB cC cI cJ cZ oA rA σ_15, b_o cB cC cI cJ cZ oA rA σ_15, b_s cB cC cI cJ cZ oA rA σ_15, b_c cB cC cI cJ cZ oA rA σ_15, b_t cB cC cI cJ cZ oA rA σ_15, b_d cB cC cI cJ cZ oA rA σ_15] [2]) (bx_ix [b_e cB cC cI cJ cZ oA rA σ_15, b_k cB cC cI cJ cZ oA rA σ_15, b_p cB cC cI cJ cZ oA rA σ_15, b_o cB cC cI cJ cZ oA rA σ_15, b_s cB cC cI cJ cZ oA rA σ_15, b_c cB cC cI cJ cZ oA rA σ_15, b_t cB cC cI cJ cZ oA rA σ_15, b_d cB cC cI cJ cZ oA rA σ_15] [0, 1, 3, 4, 5, 6, 7]) (bx_C (bs := [b_e cB cC cI cJ cZ oA rA σ_15, b_k cB cC cI cJ cZ oA rA σ_15, b_p cB cC cI cJ cZ oA rA σ_15, b_o cB cC cI cJ cZ oA rA σ_15, b_s cB cC cI cJ cZ oA rA σ_15, b_c cB cC cI cJ cZ oA rA σ_15, b_t cB cC cI cJ cZ oA rA σ_15, b_d cB cC cI cJ cZ oA rA σ_15]) (bs' := [b_p cB cC cI cJ cZ oA rA σ_15]) (is := [2]) fl_8 fl_1 rfl) (bx_C (bs := [b_e cB cC cI cJ cZ oA rA σ_15, b_k cB cC cI cJ cZ oA rA σ_15, b_p cB cC cI cJ cZ oA rA σ_15, b_o cB cC cI cJ cZ oA rA σ_15, b_s cB cC cI cJ cZ oA rA σ_15, b_c cB cC cI cJ cZ oA rA σ_15, b_t cB cC cI cJ cZ oA rA σ_15, b_d cB cC cI cJ cZ oA rA σ_15]) (bs' := [b_e cB cC cI cJ cZ oA rA σ_15, b_k cB cC cI cJ cZ oA rA σ_15, b_o cB cC cI cJ cZ oA rA σ_15, b_s cB cC cI cJ cZ oA rA σ_15, b_c cB cC cI cJ cZ oA rA σ_15, b_t cB cC cI cJ cZ oA rA σ_15, b_d cB cC cI cJ cZ oA rA σ_15]) (is := [0, 1, 3, 4, 5, 6, 7]) fl_8 fl_7 rfl) (bx_n (by decide +kernel)) (bx_d (by decide +kernel)) (va_runV (As := [.int ((σ_15 11).1 10), .int 4, .int 0]) (rest := []) ⟨hx, hb, hml, hown, hts⟩ (k_X6_give l dC dI cB cC cI cJ cZ cP oA rA H.size  ((σ_15 11).1 10) 4 0 σ_15 _ hu_25) (cwV 3 hts (g_gV wq_1239 wq_1172 wq_1173 wq_10 wq_1174) rfl rfl rfl (by decide +kernel) ⟨Nat.le_of_ble_eq_true rfl, Nat.le_of_ble_eq_true rfl⟩) (g_preV g_bl0 hK hPc hDc hS hE hFc g_to0 (q0 := 0) (ci := 6) rfl rfl) rfl rfl hl.1 rfl (lv_room (Nat.le_of_ble_eq_true rfl)) dX8_close_66 ⟨Nat.le_of_ble_eq_true rfl, Nat.le_of_ble_eq_true rfl⟩) (fun u9 H locs hw9 hP' hD' hS => ?_)
      clear hPc hDc hFc
      obtain ⟨σ_27, eσ_27, hF_28⟩ := bnd_e hF_26
      clear hF_26
      have hP : va_P (dC, dI) vwCl (b_e cB cC cI cJ cZ oA rA σ_27 ++ b_k cB cC cI cJ cZ oA rA σ_27 ++ b_p cB cC cI cJ cZ oA rA σ_27 ++ b_o cB cC cI cJ cZ oA rA σ_27 ++ b_s cB cC cI cJ cZ oA rA σ_27 ++ b_c cB cC cI cJ cZ oA rA σ_27 ++ b_t cB cC cI cJ cZ oA rA σ_27 ++ b_d cB cC cI cJ cZ oA rA σ_27) H := by rw [eσ_27]; exact bx_P (bs := [b_e cB cC cI cJ cZ oA rA σ_15, b_k cB cC cI cJ cZ oA rA σ_15, b_o cB cC cI cJ cZ oA rA σ_15, b_s cB cC cI cJ cZ oA rA σ_15, b_c cB cC cI cJ cZ oA rA σ_15, b_t cB cC cI cJ cZ oA rA σ_15, b_d cB cC cI cJ cZ oA rA σ_15] ++ [b_p cB cC cI cJ cZ oA rA u_25.2]) (bs' := [b_e cB cC cI cJ cZ oA rA (mrg (fun j => j == 9) σ_15 u_25.2), b_k cB cC cI cJ cZ oA rA (mrg (fun j => j == 9) σ_15 u_25.2), b_p cB cC cI cJ cZ oA rA (mrg (fun j => j == 9) σ_15 u_25.2), b_o cB cC cI cJ cZ oA rA (mrg (fun j => j == 9) σ_15 u_25.2), b_s cB cC cI cJ cZ oA rA (mrg (fun j => j == 9) σ_15 u_25.2), b_c cB cC cI cJ cZ oA rA (mrg (fun j => j == 9) σ_15 u_25.2), b_t cB cC cI cJ cZ oA rA (mrg (fun j => j == 9) σ_15 u_25.2), b_d cB cC cI cJ cZ oA rA (mrg (fun j => j == 9) σ_15 u_25.2)]) hP' (fl_a fl_7 fl_1) fl_8 [0, 1, 7, 2, 3, 4, 5, 6] rfl
      clear hP' hD'
      refine lv_aload_n hx hb dX8_close_69 rfl (lv_at hl 0 rfl) ?_
      refine va_get (D := (dC, dI)) (ci := 8) (v := .ref (oA 8)) (C := RX8) (T := TX8) (N := 16) hx hb hts ii_X8 hown hK hP 0 rfl rfl 1 (by decide) (hts (.fieldLink RX8 26 "StoryHouse$Teller" "told" "LStoryHouse$Out;") wq_287) (fun _ h9 => h9) rfl dX8_close_70 ?_
      obtain ⟨q_29, vq_29, hRq_29, hSq_29⟩ := hE.2.2.2.2 _ (List.mem_of_getElem? (i := 63) rfl)
      refine g_ldcwS (own := RX8) (tx := "Closed.") hx hb hown hRq_29 dX8_close_73 ?_
      obtain ⟨u_30, hu_30, hF_31⟩ := Option.bind_eq_some_iff.mp hF_28
      clear hF_28
      have hPc := bx_P (bs := [b_e cB cC cI cJ cZ oA rA σ_27, b_k cB cC cI cJ cZ oA rA σ_27, b_p cB cC cI cJ cZ oA rA σ_27, b_o cB cC cI cJ cZ oA rA σ_27, b_s cB cC cI cJ cZ oA rA σ_27, b_c cB cC cI cJ cZ oA rA σ_27, b_t cB cC cI cJ cZ oA rA σ_27, b_d cB cC cI cJ cZ oA rA σ_27]) (bs' := [b_o cB cC cI cJ cZ oA rA σ_27]) (ws' := (b_o cB cC cI cJ cZ oA rA σ_27)) hP fl_8 fl_1 [3] rfl
      have hDc := bx_D (bs := [b_e cB cC cI cJ cZ oA rA σ_27, b_k cB cC cI cJ cZ oA rA σ_27, b_p cB cC cI cJ cZ oA rA σ_27, b_o cB cC cI cJ cZ oA rA σ_27, b_s cB cC cI cJ cZ oA rA σ_27, b_c cB cC cI cJ cZ oA rA σ_27, b_t cB cC cI cJ cZ oA rA σ_27, b_d cB cC cI cJ cZ oA rA σ_27]) (bs' := [b_o cB cC cI cJ cZ oA rA σ_27]) (ws' := (b_o cB cC cI cJ cZ oA rA σ_27)) (hDD σ_27) fl_8 fl_1 [3] (by decide +kernel) rfl
      have hFc := bx_F (bs := [b_e cB cC cI cJ cZ oA rA σ_27, b_k cB cC cI cJ cZ oA rA σ_27, b_p cB cC cI cJ cZ oA rA σ_27, b_o cB cC cI cJ cZ oA rA σ_27, b_s cB cC cI cJ cZ oA rA σ_27, b_c cB cC cI cJ cZ oA rA σ_27, b_t cB cC cI cJ cZ oA rA σ_27, b_d cB cC cI cJ cZ oA rA σ_27]) (bs' := [b_o cB cC cI cJ cZ oA rA σ_27]) (wc := (b_o cB cC cI cJ cZ oA rA σ_27)) (hDD σ_27) hS hA fl_8 fl_1 [3] rfl
      refine g_ofv (wc := (b_o cB cC cI cJ cZ oA rA σ_27)) (wr := (b_e cB cC cI cJ cZ oA rA σ_27 ++ b_k cB cC cI cJ cZ oA rA σ_27 ++ b_p cB cC cI cJ cZ oA rA σ_27 ++ b_s cB cC cI cJ cZ oA rA σ_27 ++ b_c cB cC cI cJ cZ oA rA σ_27 ++ b_t cB cC cI cJ cZ oA rA σ_27 ++ b_d cB cC cI cJ cZ oA rA σ_27)) hP (hDD σ_27) hS hFc (bx_ix [b_e cB cC cI cJ cZ oA rA σ_27, b_k cB cC cI cJ cZ oA rA σ_27, b_p cB cC cI cJ cZ oA rA σ_27, b_o cB cC cI cJ cZ oA rA σ_27, b_s cB cC cI cJ cZ oA rA σ_27, b_c cB cC cI cJ cZ oA rA σ_27, b_t cB cC cI cJ cZ oA rA σ_27, b_d cB cC cI cJ cZ oA rA σ_27] [3]) (bx_ix [b_e cB cC cI cJ cZ oA rA σ_27, b_k cB cC cI cJ cZ oA rA σ_27, b_p cB cC cI cJ cZ oA rA σ_27, b_o cB cC cI cJ cZ oA rA σ_27, b_s cB cC cI cJ cZ oA rA σ_27, b_c cB cC cI cJ cZ oA rA σ_27, b_t cB cC cI cJ cZ oA rA σ_27, b_d cB cC cI cJ cZ oA rA σ_27] [0, 1, 2, 4, 5, 6, 7]) (bx_C (bs := [b_e cB cC cI cJ cZ oA rA σ_27, b_k cB cC cI cJ cZ oA rA σ_27, b_p cB cC cI cJ cZ oA rA σ_27, b_o cB cC cI cJ cZ oA rA σ_27, b_s cB cC cI cJ cZ oA rA σ_27, b_c cB cC cI cJ cZ oA rA σ_27, b_t cB cC cI cJ cZ oA rA σ_27, b_d cB cC cI cJ cZ oA rA σ_27]) (bs' := [b_o cB cC cI cJ cZ oA rA σ_27]) (is := [3]) fl_8 fl_1 rfl) (bx_C (bs := [b_e cB cC cI cJ cZ oA rA σ_27, b_k cB cC cI cJ cZ oA rA σ_27, b_p cB cC cI cJ cZ oA rA σ_27, b_o cB cC cI cJ cZ oA rA σ_27, b_s cB cC cI cJ cZ oA rA σ_27, b_c cB cC cI cJ cZ oA rA σ_27, b_t cB cC cI cJ cZ oA rA σ_27, b_d cB cC cI cJ cZ oA rA σ_27]) (bs' := [b_e cB cC cI cJ cZ oA rA σ_27, b_k cB cC cI cJ cZ oA rA σ_27, b_p cB cC cI cJ cZ oA rA σ_27, b_s cB cC cI cJ cZ oA rA σ_27, b_c cB cC cI cJ cZ oA rA σ_27, b_t cB cC cI cJ cZ oA rA σ_27, b_d cB cC cI cJ cZ oA rA σ_27]) (is := [0, 1, 2, 4, 5, 6, 7]) fl_8 fl_7 rfl) (bx_n (by decide +kernel)) (bx_d (by decide +kernel)) (va_runV (As := [.ref q_29]) (rest := []) ⟨hx, hb, hml, hown, hts⟩ (k_X5_line l dC dI cB cC cI cJ cZ cP oA rA H.size q_29 _ ([67, 108, 111, 115, 101, 100, 46] : List Int32) σ_27 _ hu_30) (cwV 1 hts (g_gV wq_998 wq_999 wq_1000 wq_9 wq_1001) rfl rfl rfl (by decide +kernel) ⟨Nat.le_of_ble_eq_true rfl, Nat.le_of_ble_eq_true rfl⟩) (g_preV g_blS hK hPc hDc hS hE hFc (g_toS hSq_29 hS hFc) (q0 := 0) (ci := 5) rfl rfl) rfl rfl hl.1 rfl (lv_room (Nat.le_of_ble_eq_true rfl)) dX8_close_76 ⟨Nat.le_of_ble_eq_true rfl, Nat.le_of_ble_eq_true rfl⟩) (fun u9 H locs hw9 hP' hD' hS => ?_)
      clear hPc hDc hFc
      obtain ⟨σ_32, eσ_32, hF_33⟩ := bnd_e hF_31
      clear hF_31
      have hP : va_P (dC, dI) vwCl (b_e cB cC cI cJ cZ oA rA σ_32 ++ b_k cB cC cI cJ cZ oA rA σ_32 ++ b_p cB cC cI cJ cZ oA rA σ_32 ++ b_o cB cC cI cJ cZ oA rA σ_32 ++ b_s cB cC cI cJ cZ oA rA σ_32 ++ b_c cB cC cI cJ cZ oA rA σ_32 ++ b_t cB cC cI cJ cZ oA rA σ_32 ++ b_d cB cC cI cJ cZ oA rA σ_32) H := by rw [eσ_32]; exact bx_P (bs := [b_e cB cC cI cJ cZ oA rA σ_27, b_k cB cC cI cJ cZ oA rA σ_27, b_p cB cC cI cJ cZ oA rA σ_27, b_s cB cC cI cJ cZ oA rA σ_27, b_c cB cC cI cJ cZ oA rA σ_27, b_t cB cC cI cJ cZ oA rA σ_27, b_d cB cC cI cJ cZ oA rA σ_27] ++ [b_o cB cC cI cJ cZ oA rA u_30.2]) (bs' := [b_e cB cC cI cJ cZ oA rA (mrg (fun j => j == 8) σ_27 u_30.2), b_k cB cC cI cJ cZ oA rA (mrg (fun j => j == 8) σ_27 u_30.2), b_p cB cC cI cJ cZ oA rA (mrg (fun j => j == 8) σ_27 u_30.2), b_o cB cC cI cJ cZ oA rA (mrg (fun j => j == 8) σ_27 u_30.2), b_s cB cC cI cJ cZ oA rA (mrg (fun j => j == 8) σ_27 u_30.2), b_c cB cC cI cJ cZ oA rA (mrg (fun j => j == 8) σ_27 u_30.2), b_t cB cC cI cJ cZ oA rA (mrg (fun j => j == 8) σ_27 u_30.2), b_d cB cC cI cJ cZ oA rA (mrg (fun j => j == 8) σ_27 u_30.2)]) hP' (fl_a fl_7 fl_1) fl_8 [0, 1, 2, 7, 3, 4, 5, 6] rfl
      clear hP' hD'
      have h9 := Option.some.inj hF_33
      subst h9
      exact W.vret hx hb hr (fun t ht hW => ⟨⟨(), rfl, trivial, m_end ht hP, hDD _⟩, hS.F ht⟩) hS.2.2 dX8_close_79
    · have hF_18 := ipos c_17 hF_16
      clear hF_16
      refine lv_aload_n hx hb dX8_close_43 rfl (lv_at hl 0 rfl) ?_
      refine va_get (D := (dC, dI)) (ci := 8) (v := .ref (oA 8)) (C := RX8) (T := TX8) (N := 16) hx hb hts ii_X8 hown hK hP 0 rfl rfl 1 (by decide) (hts (.fieldLink RX8 26 "StoryHouse$Teller" "told" "LStoryHouse$Out;") wq_287) (fun _ h9 => h9) rfl dX8_close_44 ?_
      obtain ⟨q_19, vq_19, hRq_19, hSq_19⟩ := hE.2.2.2.2 _ (List.mem_of_getElem? (i := 62) rfl)
      refine g_ldcwS (own := RX8) (tx := "That is closed.") hx hb hown hRq_19 dX8_close_47 ?_
      obtain ⟨u_20, hu_20, hF_21⟩ := Option.bind_eq_some_iff.mp hF_18
      clear hF_18
      have hPc := bx_P (bs := [b_e cB cC cI cJ cZ oA rA σ_15, b_k cB cC cI cJ cZ oA rA σ_15, b_p cB cC cI cJ cZ oA rA σ_15, b_o cB cC cI cJ cZ oA rA σ_15, b_s cB cC cI cJ cZ oA rA σ_15, b_c cB cC cI cJ cZ oA rA σ_15, b_t cB cC cI cJ cZ oA rA σ_15, b_d cB cC cI cJ cZ oA rA σ_15]) (bs' := [b_o cB cC cI cJ cZ oA rA σ_15]) (ws' := (b_o cB cC cI cJ cZ oA rA σ_15)) hP fl_8 fl_1 [3] rfl
      have hDc := bx_D (bs := [b_e cB cC cI cJ cZ oA rA σ_15, b_k cB cC cI cJ cZ oA rA σ_15, b_p cB cC cI cJ cZ oA rA σ_15, b_o cB cC cI cJ cZ oA rA σ_15, b_s cB cC cI cJ cZ oA rA σ_15, b_c cB cC cI cJ cZ oA rA σ_15, b_t cB cC cI cJ cZ oA rA σ_15, b_d cB cC cI cJ cZ oA rA σ_15]) (bs' := [b_o cB cC cI cJ cZ oA rA σ_15]) (ws' := (b_o cB cC cI cJ cZ oA rA σ_15)) (hDD σ_15) fl_8 fl_1 [3] (by decide +kernel) rfl
      have hFc := bx_F (bs := [b_e cB cC cI cJ cZ oA rA σ_15, b_k cB cC cI cJ cZ oA rA σ_15, b_p cB cC cI cJ cZ oA rA σ_15, b_o cB cC cI cJ cZ oA rA σ_15, b_s cB cC cI cJ cZ oA rA σ_15, b_c cB cC cI cJ cZ oA rA σ_15, b_t cB cC cI cJ cZ oA rA σ_15, b_d cB cC cI cJ cZ oA rA σ_15]) (bs' := [b_o cB cC cI cJ cZ oA rA σ_15]) (wc := (b_o cB cC cI cJ cZ oA rA σ_15)) (hDD σ_15) hS hA fl_8 fl_1 [3] rfl
      refine g_ofv (wc := (b_o cB cC cI cJ cZ oA rA σ_15)) (wr := (b_e cB cC cI cJ cZ oA rA σ_15 ++ b_k cB cC cI cJ cZ oA rA σ_15 ++ b_p cB cC cI cJ cZ oA rA σ_15 ++ b_s cB cC cI cJ cZ oA rA σ_15 ++ b_c cB cC cI cJ cZ oA rA σ_15 ++ b_t cB cC cI cJ cZ oA rA σ_15 ++ b_d cB cC cI cJ cZ oA rA σ_15)) hP (hDD σ_15) hS hFc (bx_ix [b_e cB cC cI cJ cZ oA rA σ_15, b_k cB cC cI cJ cZ oA rA σ_15, b_p cB cC cI cJ cZ oA rA σ_15, b_o cB cC cI cJ cZ oA rA σ_15, b_s cB cC cI cJ cZ oA rA σ_15, b_c cB cC cI cJ cZ oA rA σ_15, b_t cB cC cI cJ cZ oA rA σ_15, b_d cB cC cI cJ cZ oA rA σ_15] [3]) (bx_ix [b_e cB cC cI cJ cZ oA rA σ_15, b_k cB cC cI cJ cZ oA rA σ_15, b_p cB cC cI cJ cZ oA rA σ_15, b_o cB cC cI cJ cZ oA rA σ_15, b_s cB cC cI cJ cZ oA rA σ_15, b_c cB cC cI cJ cZ oA rA σ_15, b_t cB cC cI cJ cZ oA rA σ_15, b_d cB cC cI cJ cZ oA rA σ_15] [0, 1, 2, 4, 5, 6, 7]) (bx_C (bs := [b_e cB cC cI cJ cZ oA rA σ_15, b_k cB cC cI cJ cZ oA rA σ_15, b_p cB cC cI cJ cZ oA rA σ_15, b_o cB cC cI cJ cZ oA rA σ_15, b_s cB cC cI cJ cZ oA rA σ_15, b_c cB cC cI cJ cZ oA rA σ_15, b_t cB cC cI cJ cZ oA rA σ_15, b_d cB cC cI cJ cZ oA rA σ_15]) (bs' := [b_o cB cC cI cJ cZ oA rA σ_15]) (is := [3]) fl_8 fl_1 rfl) (bx_C (bs := [b_e cB cC cI cJ cZ oA rA σ_15, b_k cB cC cI cJ cZ oA rA σ_15, b_p cB cC cI cJ cZ oA rA σ_15, b_o cB cC cI cJ cZ oA rA σ_15, b_s cB cC cI cJ cZ oA rA σ_15, b_c cB cC cI cJ cZ oA rA σ_15, b_t cB cC cI cJ cZ oA rA σ_15, b_d cB cC cI cJ cZ oA rA σ_15]) (bs' := [b_e cB cC cI cJ cZ oA rA σ_15, b_k cB cC cI cJ cZ oA rA σ_15, b_p cB cC cI cJ cZ oA rA σ_15, b_s cB cC cI cJ cZ oA rA σ_15, b_c cB cC cI cJ cZ oA rA σ_15, b_t cB cC cI cJ cZ oA rA σ_15, b_d cB cC cI cJ cZ oA rA σ_15]) (is := [0, 1, 2, 4, 5, 6, 7]) fl_8 fl_7 rfl) (bx_n (by decide +kernel)) (bx_d (by decide +kernel)) (va_runV (As := [.ref q_19]) (rest := []) ⟨hx, hb, hml, hown, hts⟩ (k_X5_line l dC dI cB cC cI cJ cZ cP oA rA H.size q_19 _ ([84, 104, 97, 116, 32, 105, 115, 32, 99, 108, 111, 115, 101, 100, 46] : List Int32) σ_15 _ hu_20) (cwV 1 hts (g_gV wq_998 wq_999 wq_1000 wq_9 wq_1001) rfl rfl rfl (by decide +kernel) ⟨Nat.le_of_ble_eq_true rfl, Nat.le_of_ble_eq_true rfl⟩) (g_preV g_blS hK hPc hDc hS hE hFc (g_toS hSq_19 hS hFc) (q0 := 0) (ci := 5) rfl rfl) rfl rfl hl.1 rfl (lv_room (Nat.le_of_ble_eq_true rfl)) dX8_close_50 ⟨Nat.le_of_ble_eq_true rfl, Nat.le_of_ble_eq_true rfl⟩) (fun u9 H locs hw9 hP' hD' hS => ?_)
      clear hPc hDc hFc
      obtain ⟨σ_22, eσ_22, hF_23⟩ := bnd_e hF_21
      clear hF_21
      have hP : va_P (dC, dI) vwCl (b_e cB cC cI cJ cZ oA rA σ_22 ++ b_k cB cC cI cJ cZ oA rA σ_22 ++ b_p cB cC cI cJ cZ oA rA σ_22 ++ b_o cB cC cI cJ cZ oA rA σ_22 ++ b_s cB cC cI cJ cZ oA rA σ_22 ++ b_c cB cC cI cJ cZ oA rA σ_22 ++ b_t cB cC cI cJ cZ oA rA σ_22 ++ b_d cB cC cI cJ cZ oA rA σ_22) H := by rw [eσ_22]; exact bx_P (bs := [b_e cB cC cI cJ cZ oA rA σ_15, b_k cB cC cI cJ cZ oA rA σ_15, b_p cB cC cI cJ cZ oA rA σ_15, b_s cB cC cI cJ cZ oA rA σ_15, b_c cB cC cI cJ cZ oA rA σ_15, b_t cB cC cI cJ cZ oA rA σ_15, b_d cB cC cI cJ cZ oA rA σ_15] ++ [b_o cB cC cI cJ cZ oA rA u_20.2]) (bs' := [b_e cB cC cI cJ cZ oA rA (mrg (fun j => j == 8) σ_15 u_20.2), b_k cB cC cI cJ cZ oA rA (mrg (fun j => j == 8) σ_15 u_20.2), b_p cB cC cI cJ cZ oA rA (mrg (fun j => j == 8) σ_15 u_20.2), b_o cB cC cI cJ cZ oA rA (mrg (fun j => j == 8) σ_15 u_20.2), b_s cB cC cI cJ cZ oA rA (mrg (fun j => j == 8) σ_15 u_20.2), b_c cB cC cI cJ cZ oA rA (mrg (fun j => j == 8) σ_15 u_20.2), b_t cB cC cI cJ cZ oA rA (mrg (fun j => j == 8) σ_15 u_20.2), b_d cB cC cI cJ cZ oA rA (mrg (fun j => j == 8) σ_15 u_20.2)]) hP' (fl_a fl_7 fl_1) fl_8 [0, 1, 2, 7, 3, 4, 5, 6] rfl
      clear hP' hD'
      refine lv_goto (tgt := 79) hx hb dX8_close_53 (by decide) ?_
      have h9 := Option.some.inj hF_23
      subst h9
      exact W.vret hx hb hr (fun t ht hW => ⟨⟨(), rfl, trivial, m_end ht hP, hDD _⟩, hS.F ht⟩) hS.2.2 dX8_close_79
  · have hF_6 := ipos c_5 hF_4
    clear hF_4
    refine lv_aload_n hx hb dX8_close_15 rfl (lv_at hl 0 rfl) ?_
    refine va_get (D := (dC, dI)) (ci := 8) (v := .ref (oA 8)) (C := RX8) (T := TX8) (N := 16) hx hb hts ii_X8 hown hK hP 0 rfl rfl 1 (by decide) (hts (.fieldLink RX8 26 "StoryHouse$Teller" "told" "LStoryHouse$Out;") wq_287) (fun _ h9 => h9) rfl dX8_close_16 ?_
    obtain ⟨q_7, vq_7, hRq_7, hSq_7⟩ := hE.2.2.2.2 _ (List.mem_of_getElem? (i := 61) rfl)
    refine g_ldcwS (own := RX8) (tx := "You can not close that.") hx hb hown hRq_7 dX8_close_19 ?_
    obtain ⟨u_8, hu_8, hF_9⟩ := Option.bind_eq_some_iff.mp hF_6
    clear hF_6
    have hPc := bx_P (bs := [b_e cB cC cI cJ cZ oA rA σ_3, b_k cB cC cI cJ cZ oA rA σ_3, b_p cB cC cI cJ cZ oA rA σ_3, b_o cB cC cI cJ cZ oA rA σ_3, b_s cB cC cI cJ cZ oA rA σ_3, b_c cB cC cI cJ cZ oA rA σ_3, b_t cB cC cI cJ cZ oA rA σ_3, b_d cB cC cI cJ cZ oA rA σ_3]) (bs' := [b_o cB cC cI cJ cZ oA rA σ_3]) (ws' := (b_o cB cC cI cJ cZ oA rA σ_3)) hP fl_8 fl_1 [3] rfl
    have hDc := bx_D (bs := [b_e cB cC cI cJ cZ oA rA σ_3, b_k cB cC cI cJ cZ oA rA σ_3, b_p cB cC cI cJ cZ oA rA σ_3, b_o cB cC cI cJ cZ oA rA σ_3, b_s cB cC cI cJ cZ oA rA σ_3, b_c cB cC cI cJ cZ oA rA σ_3, b_t cB cC cI cJ cZ oA rA σ_3, b_d cB cC cI cJ cZ oA rA σ_3]) (bs' := [b_o cB cC cI cJ cZ oA rA σ_3]) (ws' := (b_o cB cC cI cJ cZ oA rA σ_3)) (hDD σ_3) fl_8 fl_1 [3] (by decide +kernel) rfl
    have hFc := bx_F (bs := [b_e cB cC cI cJ cZ oA rA σ_3, b_k cB cC cI cJ cZ oA rA σ_3, b_p cB cC cI cJ cZ oA rA σ_3, b_o cB cC cI cJ cZ oA rA σ_3, b_s cB cC cI cJ cZ oA rA σ_3, b_c cB cC cI cJ cZ oA rA σ_3, b_t cB cC cI cJ cZ oA rA σ_3, b_d cB cC cI cJ cZ oA rA σ_3]) (bs' := [b_o cB cC cI cJ cZ oA rA σ_3]) (wc := (b_o cB cC cI cJ cZ oA rA σ_3)) (hDD σ_3) hS hA fl_8 fl_1 [3] rfl
    refine g_ofv (wc := (b_o cB cC cI cJ cZ oA rA σ_3)) (wr := (b_e cB cC cI cJ cZ oA rA σ_3 ++ b_k cB cC cI cJ cZ oA rA σ_3 ++ b_p cB cC cI cJ cZ oA rA σ_3 ++ b_s cB cC cI cJ cZ oA rA σ_3 ++ b_c cB cC cI cJ cZ oA rA σ_3 ++ b_t cB cC cI cJ cZ oA rA σ_3 ++ b_d cB cC cI cJ cZ oA rA σ_3)) hP (hDD σ_3) hS hFc (bx_ix [b_e cB cC cI cJ cZ oA rA σ_3, b_k cB cC cI cJ cZ oA rA σ_3, b_p cB cC cI cJ cZ oA rA σ_3, b_o cB cC cI cJ cZ oA rA σ_3, b_s cB cC cI cJ cZ oA rA σ_3, b_c cB cC cI cJ cZ oA rA σ_3, b_t cB cC cI cJ cZ oA rA σ_3, b_d cB cC cI cJ cZ oA rA σ_3] [3]) (bx_ix [b_e cB cC cI cJ cZ oA rA σ_3, b_k cB cC cI cJ cZ oA rA σ_3, b_p cB cC cI cJ cZ oA rA σ_3, b_o cB cC cI cJ cZ oA rA σ_3, b_s cB cC cI cJ cZ oA rA σ_3, b_c cB cC cI cJ cZ oA rA σ_3, b_t cB cC cI cJ cZ oA rA σ_3, b_d cB cC cI cJ cZ oA rA σ_3] [0, 1, 2, 4, 5, 6, 7]) (bx_C (bs := [b_e cB cC cI cJ cZ oA rA σ_3, b_k cB cC cI cJ cZ oA rA σ_3, b_p cB cC cI cJ cZ oA rA σ_3, b_o cB cC cI cJ cZ oA rA σ_3, b_s cB cC cI cJ cZ oA rA σ_3, b_c cB cC cI cJ cZ oA rA σ_3, b_t cB cC cI cJ cZ oA rA σ_3, b_d cB cC cI cJ cZ oA rA σ_3]) (bs' := [b_o cB cC cI cJ cZ oA rA σ_3]) (is := [3]) fl_8 fl_1 rfl) (bx_C (bs := [b_e cB cC cI cJ cZ oA rA σ_3, b_k cB cC cI cJ cZ oA rA σ_3, b_p cB cC cI cJ cZ oA rA σ_3, b_o cB cC cI cJ cZ oA rA σ_3, b_s cB cC cI cJ cZ oA rA σ_3, b_c cB cC cI cJ cZ oA rA σ_3, b_t cB cC cI cJ cZ oA rA σ_3, b_d cB cC cI cJ cZ oA rA σ_3]) (bs' := [b_e cB cC cI cJ cZ oA rA σ_3, b_k cB cC cI cJ cZ oA rA σ_3, b_p cB cC cI cJ cZ oA rA σ_3, b_s cB cC cI cJ cZ oA rA σ_3, b_c cB cC cI cJ cZ oA rA σ_3, b_t cB cC cI cJ cZ oA rA σ_3, b_d cB cC cI cJ cZ oA rA σ_3]) (is := [0, 1, 2, 4, 5, 6, 7]) fl_8 fl_7 rfl) (bx_n (by decide +kernel)) (bx_d (by decide +kernel)) (va_runV (As := [.ref q_7]) (rest := []) ⟨hx, hb, hml, hown, hts⟩ (k_X5_line l dC dI cB cC cI cJ cZ cP oA rA H.size q_7 _ ([89, 111, 117, 32, 99, 97, 110, 32, 110, 111, 116, 32, 99, 108, 111, 115, 101, 32, 116, 104, 97, 116, 46] : List Int32) σ_3 _ hu_8) (cwV 1 hts (g_gV wq_998 wq_999 wq_1000 wq_9 wq_1001) rfl rfl rfl (by decide +kernel) ⟨Nat.le_of_ble_eq_true rfl, Nat.le_of_ble_eq_true rfl⟩) (g_preV g_blS hK hPc hDc hS hE hFc (g_toS hSq_7 hS hFc) (q0 := 0) (ci := 5) rfl rfl) rfl rfl hl.1 rfl (lv_room (Nat.le_of_ble_eq_true rfl)) dX8_close_22 ⟨Nat.le_of_ble_eq_true rfl, Nat.le_of_ble_eq_true rfl⟩) (fun u9 H locs hw9 hP' hD' hS => ?_)
    clear hPc hDc hFc
    obtain ⟨σ_10, eσ_10, hF_11⟩ := bnd_e hF_9
    clear hF_9
    have hP : va_P (dC, dI) vwCl (b_e cB cC cI cJ cZ oA rA σ_10 ++ b_k cB cC cI cJ cZ oA rA σ_10 ++ b_p cB cC cI cJ cZ oA rA σ_10 ++ b_o cB cC cI cJ cZ oA rA σ_10 ++ b_s cB cC cI cJ cZ oA rA σ_10 ++ b_c cB cC cI cJ cZ oA rA σ_10 ++ b_t cB cC cI cJ cZ oA rA σ_10 ++ b_d cB cC cI cJ cZ oA rA σ_10) H := by rw [eσ_10]; exact bx_P (bs := [b_e cB cC cI cJ cZ oA rA σ_3, b_k cB cC cI cJ cZ oA rA σ_3, b_p cB cC cI cJ cZ oA rA σ_3, b_s cB cC cI cJ cZ oA rA σ_3, b_c cB cC cI cJ cZ oA rA σ_3, b_t cB cC cI cJ cZ oA rA σ_3, b_d cB cC cI cJ cZ oA rA σ_3] ++ [b_o cB cC cI cJ cZ oA rA u_8.2]) (bs' := [b_e cB cC cI cJ cZ oA rA (mrg (fun j => j == 8) σ_3 u_8.2), b_k cB cC cI cJ cZ oA rA (mrg (fun j => j == 8) σ_3 u_8.2), b_p cB cC cI cJ cZ oA rA (mrg (fun j => j == 8) σ_3 u_8.2), b_o cB cC cI cJ cZ oA rA (mrg (fun j => j == 8) σ_3 u_8.2), b_s cB cC cI cJ cZ oA rA (mrg (fun j => j == 8) σ_3 u_8.2), b_c cB cC cI cJ cZ oA rA (mrg (fun j => j == 8) σ_3 u_8.2), b_t cB cC cI cJ cZ oA rA (mrg (fun j => j == 8) σ_3 u_8.2), b_d cB cC cI cJ cZ oA rA (mrg (fun j => j == 8) σ_3 u_8.2)]) hP' (fl_a fl_7 fl_1) fl_8 [0, 1, 2, 7, 3, 4, 5, 6] rfl
    clear hP' hD'
    refine lv_goto (tgt := 79) hx hb dX8_close_25 (by decide) ?_
    have h9 := Option.some.inj hF_11
    subst h9
    exact W.vret hx hb hr (fun t ht hW => ⟨⟨(), rfl, trivial, m_end ht hP, hDD _⟩, hS.F ht⟩) hS.2.2 dX8_close_79
theorem dX8_playerHas_0 : decode cX8_playerHas 0 = .ok (.aload_n 0, 1) := by decide +kernel
theorem dX8_playerHas_1 : decode cX8_playerHas 1 = .ok (.getfield 22, 3) := by decide +kernel
theorem dX8_playerHas_4 : decode cX8_playerHas 4 = .ok (.getfield 224, 3) := by decide +kernel
theorem dX8_playerHas_7 : decode cX8_playerHas 7 = .ok (.iload_n 1, 1) := by decide +kernel
theorem dX8_playerHas_8 : decode cX8_playerHas 8 = .ok (.invokestatic 70, 3) := by decide +kernel
theorem dX8_playerHas_11 : decode cX8_playerHas 11 = .ok (.iconst 1, 1) := by decide +kernel
theorem dX8_playerHas_12 : decode cX8_playerHas 12 = .ok (.if_icmp .ne 7, 3) := by decide +kernel
theorem dX8_playerHas_15 : decode cX8_playerHas 15 = .ok (.iconst 1, 1) := by decide +kernel
theorem dX8_playerHas_16 : decode cX8_playerHas 16 = .ok (.goto 4, 3) := by decide +kernel
theorem dX8_playerHas_19 : decode cX8_playerHas 19 = .ok (.iconst 0, 1) := by decide +kernel
theorem dX8_playerHas_20 : decode cX8_playerHas 20 = .ok (.ireturn, 1) := by decide +kernel
def F_X8_playerHas (p0 : Int32) (Γ : HS) : HR :=
  bnd ((g_at 121 ((Γ 9).2.1 0) p0)) fun (x_1 : Int32) =>
  if x_1 = 1 then (
    some (1, Γ)
  ) else (
    some (0, Γ)
  )
set_option maxHeartbeats 4000000 in
set_option maxRecDepth 100000 in
theorem k_X8_playerHas (l : Launch) (dC : Nat → ClassId) (dI : Nat → Nat → Nat) (cB cC cI cJ cZ cP : ClassId) (oA : Nat → Nat) (rA : Nat → Nat → Nat) (sz : Nat)  (p0 : Int32) (Γ : HS) (res : Int32 × HS) (hF : F_X8_playerHas p0 Γ = some res) : Met l yX8_playerHas (g_ws yX8_playerHas cX8_playerHas 2 (some .boolean)) ({ frames := 3, cells := 0, slots := 0, locals := 81 }) (va_Pc [.ref (oA 11), .int p0] (g_B (dC, dI) [(cB, .byte), (cC, .char), (cI, .int), (cJ, .long), (cZ, .boolean), (cP, .object "StoryHouse$Play")] sz (b_e cB cC cI cJ cZ oA rA Γ ++ b_k cB cC cI cJ cZ oA rA Γ ++ b_p cB cC cI cJ cZ oA rA Γ ++ b_o cB cC cI cJ cZ oA rA Γ ++ b_s cB cC cI cJ cZ oA rA Γ ++ b_c cB cC cI cJ cZ oA rA Γ ++ b_t cB cC cI cJ cZ oA rA Γ ++ b_d cB cC cI cJ cZ oA rA Γ) g_0)) (va_Qi (fun r (_ : Unit) => r = res.1) (g_Bo (dC, dI) (va_A (b_e cB cC cI cJ cZ oA rA Γ ++ b_k cB cC cI cJ cZ oA rA Γ ++ b_p cB cC cI cJ cZ oA rA Γ ++ b_o cB cC cI cJ cZ oA rA Γ ++ b_s cB cC cI cJ cZ oA rA Γ ++ b_c cB cC cI cJ cZ oA rA Γ ++ b_t cB cC cI cJ cZ oA rA Γ ++ b_d cB cC cI cJ cZ oA rA Γ) sz) (fun (_ : Unit) => (b_e cB cC cI cJ cZ oA rA res.2 ++ b_k cB cC cI cJ cZ oA rA res.2 ++ b_p cB cC cI cJ cZ oA rA res.2 ++ b_o cB cC cI cJ cZ oA rA res.2 ++ b_s cB cC cI cJ cZ oA rA res.2 ++ b_c cB cC cI cJ cZ oA rA res.2 ++ b_t cB cC cI cJ cZ oA rA res.2 ++ b_d cB cC cI cJ cZ oA rA res.2))) (va_A (b_e cB cC cI cJ cZ oA rA Γ ++ b_k cB cC cI cJ cZ oA rA Γ ++ b_p cB cC cI cJ cZ oA rA Γ ++ b_o cB cC cI cJ cZ oA rA Γ ++ b_s cB cC cI cJ cZ oA rA Γ ++ b_c cB cC cI cJ cZ oA rA Γ ++ b_t cB cC cI cJ cZ oA rA Γ ++ b_d cB cC cI cJ cZ oA rA Γ) sz)) 0 0 (va_A (b_e cB cC cI cJ cZ oA rA Γ ++ b_k cB cC cI cJ cZ oA rA Γ ++ b_p cB cC cI cJ cZ oA rA Γ ++ b_o cB cC cI cJ cZ oA rA Γ ++ b_s cB cC cI cJ cZ oA rA Γ ++ b_c cB cC cI cJ cZ oA rA Γ ++ b_t cB cC cI cJ cZ oA rA Γ ++ b_d cB cC cI cJ cZ oA rA Γ) sz) := by
  refine Met.ofW (cc := cX8_playerHas) (maxL := 2) (ret := (some .boolean)) (by decide) rfl ?_
  intro p e s m args below meth c s₁ B hml hv
  obtain ⟨rfl, hsz, hP, hK, hD0, hE, hX⟩ := hv
  have hx := B.exec
  have hb := B.bytes
  have hr := B.returns
  have hts0 := atoms_spec (ws := g_ws yX8_playerHas cX8_playerHas 2 (some .boolean)) B.pre
  have hts : ∀ w ∈ lw_good, w.before ([.ref (oA 11), .int p0] : List Value).toArray s = true := fun w z => hts0 w (List.mem_cons_of_mem _ z)
  have hown : s.vm.findClass RX8 = some m.cls := findClass_of_methodNamed B.named
  have hlocks := B.notSynchronized
  subst hsz
  have hD1 := hD0.self (sz := s.heap.size)
  generalize hAe : va_A (b_e cB cC cI cJ cZ oA rA Γ ++ b_k cB cC cI cJ cZ oA rA Γ ++ b_p cB cC cI cJ cZ oA rA Γ ++ b_o cB cC cI cJ cZ oA rA Γ ++ b_s cB cC cI cJ cZ oA rA Γ ++ b_c cB cC cI cJ cZ oA rA Γ ++ b_t cB cC cI cJ cZ oA rA Γ ++ b_d cB cC cI cJ cZ oA rA Γ) s.heap.size = A at hD1 hE hX ⊢
  have hA : ∀ q : Nat, s.heap.size ≤ q → A q := fun q z => by rw [← hAe]; exact Or.inr z
  have hDD : ∀ Γ : HS, va_D A (b_e cB cC cI cJ cZ oA rA Γ ++ b_k cB cC cI cJ cZ oA rA Γ ++ b_p cB cC cI cJ cZ oA rA Γ ++ b_o cB cC cI cJ cZ oA rA Γ ++ b_s cB cC cI cJ cZ oA rA Γ ++ b_c cB cC cI cJ cZ oA rA Γ ++ b_t cB cC cI cJ cZ oA rA Γ ++ b_d cB cC cI cJ cZ oA rA Γ) := fun Γ9 => va_D_fst (ws := (b_e cB cC cI cJ cZ oA rA Γ ++ b_k cB cC cI cJ cZ oA rA Γ ++ b_p cB cC cI cJ cZ oA rA Γ ++ b_o cB cC cI cJ cZ oA rA Γ ++ b_s cB cC cI cJ cZ oA rA Γ ++ b_c cB cC cI cJ cZ oA rA Γ ++ b_t cB cC cI cJ cZ oA rA Γ ++ b_d cB cC cI cJ cZ oA rA Γ)) (ws' := (b_e cB cC cI cJ cZ oA rA Γ9 ++ b_k cB cC cI cJ cZ oA rA Γ9 ++ b_p cB cC cI cJ cZ oA rA Γ9 ++ b_o cB cC cI cJ cZ oA rA Γ9 ++ b_s cB cC cI cJ cZ oA rA Γ9 ++ b_c cB cC cI cJ cZ oA rA Γ9 ++ b_t cB cC cI cJ cZ oA rA Γ9 ++ b_d cB cC cI cJ cZ oA rA Γ9)) rfl hD1
  have hN := hE.1
  have hS : va_S A s.heap s.heap [] := va_S.rf
  have hl := lv_entry ([.ref (oA 11), .int p0]) (n := 2) (Nat.le_of_ble_eq_true rfl)
  rw [lg_entry_eq]
  generalize (lg_sl ([.ref (oA 11), .int p0]) ++ List.replicate (2 - (lg_sl ([.ref (oA 11), .int p0])).length) Slot.unset).toArray = ls at hl ⊢
  have hl : lv_has ls 2 [(0, .ref (oA 11)), (1, .int p0)] := hl
  unfold F_X8_playerHas at hF
  refine lv_aload_n hx hb dX8_playerHas_0 rfl (lv_at hl 0 rfl) ?_
  refine va_get (D := (dC, dI)) (ci := 8) (v := .ref (oA 9)) (C := RX8) (T := TX8) (N := 16) hx hb hts ii_X8 hown hK hP 0 rfl rfl 0 (by decide) (hts (.fieldLink RX8 22 "StoryHouse$Teller" "play" "LStoryHouse$Play;") wq_286) (fun _ h9 => h9) rfl dX8_playerHas_1 ?_
  refine va_get (D := (dC, dI)) (ci := 6) (v := .ref (rA 9 0)) (C := RX6) (T := TX6) (N := 12) hx hb hts ii_X6 hown hK hP 9 rfl rfl 0 (by decide) (hts (.fieldLink RX8 224 "StoryHouse$Play" "parents" "[I") wq_219) (fun _ h9 => h9) rfl dX8_playerHas_4 ?_
  refine lv_iload_n hx hb dX8_playerHas_7 rfl (lv_at hl 1 rfl) ?_
  have hq9 : ((b_e cB cC cI cJ cZ oA rA Γ ++ b_k cB cC cI cJ cZ oA rA Γ ++ b_p cB cC cI cJ cZ oA rA Γ ++ b_o cB cC cI cJ cZ oA rA Γ ++ b_s cB cC cI cJ cZ oA rA Γ ++ b_c cB cC cI cJ cZ oA rA Γ ++ b_t cB cC cI cJ cZ oA rA Γ ++ b_d cB cC cI cJ cZ oA rA Γ))[10]? = some (rA 9 0, .inl (cI, 121, .inl ((Γ 9).2.1 0))) := rfl
  have hPc := hP.sub (ws' := [(rA 9 0, .inl (cI, 121, .inl ((Γ 9).2.1 0)))]) [10] (pk_fm (er_C hq9))
  have hDc := (hDD Γ).sub (ws' := [(rA 9 0, .inl (cI, 121, .inl ((Γ 9).2.1 0)))]) [10] (by decide +kernel) (er_C hq9)
  have hFc := va_free (wc := [(rA 9 0, .inl (cI, 121, .inl ((Γ 9).2.1 0)))]) (hDD Γ) hS hA [10] (er_C hq9)
  refine g_ofi (wc := [(rA 9 0, .inl (cI, 121, .inl ((Γ 9).2.1 0)))]) (wr := (((b_e cB cC cI cJ cZ oA rA Γ ++ b_k cB cC cI cJ cZ oA rA Γ ++ b_p cB cC cI cJ cZ oA rA Γ ++ b_o cB cC cI cJ cZ oA rA Γ ++ b_s cB cC cI cJ cZ oA rA Γ ++ b_c cB cC cI cJ cZ oA rA Γ ++ b_t cB cC cI cJ cZ oA rA Γ ++ b_d cB cC cI cJ cZ oA rA Γ)).eraseIdx 10)) hP (hDD Γ) hS hFc [10] ((List.range ((b_e cB cC cI cJ cZ oA rA Γ ++ b_k cB cC cI cJ cZ oA rA Γ ++ b_p cB cC cI cJ cZ oA rA Γ ++ b_o cB cC cI cJ cZ oA rA Γ ++ b_s cB cC cI cJ cZ oA rA Γ ++ b_c cB cC cI cJ cZ oA rA Γ ++ b_t cB cC cI cJ cZ oA rA Γ ++ b_d cB cC cI cJ cZ oA rA Γ)).length).eraseIdx 10) (er_C hq9) er_R er_n er_d (va_runSN (As := [.ref (rA 9 0), .int p0]) (rest := []) ⟨hx, hb, hml, hown, hts⟩ (c_X11_at l dC dI cB cC cI cJ cZ cP s.heap.size (rA 9 0) p0 121 ((Γ 9).2.1 0) (by decide)) ⟨va_cnB 2 hts (g_gA wq_407) rfl rfl rfl (nw_31 hN) (hts (.initialized RX11) wq_1) (by decide +kernel) ⟨Nat.le_of_ble_eq_true rfl, Nat.le_of_ble_eq_true rfl⟩, (hts (.static yX11_at) wq_406), trivial⟩ (g_preS g_bl0 hK hPc hDc hS hE hFc g_to0) rfl rfl hl.1 rfl (lv_room (Nat.le_of_ble_eq_true rfl)) dX8_playerHas_8 ⟨Nat.le_of_ble_eq_true rfl, Nat.le_of_ble_eq_true rfl⟩) (fun r9 u9 H locs hw9 hP' hD' hS => ?_)
  clear hPc hDc hFc hD'
  have hP : va_P (dC, dI) vwCl (b_e cB cC cI cJ cZ oA rA Γ ++ b_k cB cC cI cJ cZ oA rA Γ ++ b_p cB cC cI cJ cZ oA rA Γ ++ b_o cB cC cI cJ cZ oA rA Γ ++ b_s cB cC cI cJ cZ oA rA Γ ++ b_c cB cC cI cJ cZ oA rA Γ ++ b_t cB cC cI cJ cZ oA rA Γ ++ b_d cB cC cI cJ cZ oA rA Γ) H := er_I hP' hq9
  clear hP' hq9
  subst hw9
  obtain ⟨x_1, ex_1, hF_2⟩ := bnd_e hF
  clear hF
  refine m_top ex_1 ?_
  refine lv_iconst (v := 1) hx hb dX8_playerHas_11 (by decide +kernel) ?_
  refine lv_icmp_ne (tgt := 19) hx hb dX8_playerHas_12 (by decide) (fun c_3 => ?_) (fun c_3 => ?_)
  · have hF_5 := ineg c_3 hF_2
    clear hF_2
    refine lv_iconst (v := 0) hx hb dX8_playerHas_19 (by decide +kernel) ?_
    have h9 := Option.some.inj hF_5
    subst h9
    exact W.zret (v := 0) hx hb hr (by decide +kernel) (fun t ht hW => ⟨⟨0, (), rfl, rfl, m_end ht hP, hDD _⟩, hS.F ht⟩) hS.2.2 dX8_playerHas_20
  · have hF_4 := ipos c_3 hF_2
    clear hF_2
    refine lv_iconst (v := 1) hx hb dX8_playerHas_15 (by decide +kernel) ?_
    refine lv_goto (tgt := 20) hx hb dX8_playerHas_16 (by decide) ?_
    have h9 := Option.some.inj hF_4
    subst h9
    exact W.zret (v := 1) hx hb hr (by decide +kernel) (fun t ht hW => ⟨⟨1, (), rfl, rfl, m_end ht hP, hDD _⟩, hS.F ht⟩) hS.2.2 dX8_playerHas_20
theorem dX8_drop_0 : decode cX8_drop 0 = .ok (.aload_n 0, 1) := by decide +kernel
theorem dX8_drop_1 : decode cX8_drop 1 = .ok (.aload_n 0, 1) := by decide +kernel
theorem dX8_drop_2 : decode cX8_drop 2 = .ok (.getfield 114, 3) := by decide +kernel
theorem dX8_drop_5 : decode cX8_drop 5 = .ok (.invokevirtual 348, 3) := by decide +kernel
theorem dX8_drop_8 : decode cX8_drop 8 = .ok (.ifCond .ne 16, 3) := by decide +kernel
theorem dX8_drop_11 : decode cX8_drop 11 = .ok (.aload_n 0, 1) := by decide +kernel
theorem dX8_drop_12 : decode cX8_drop 12 = .ok (.getfield 26, 3) := by decide +kernel
theorem dX8_drop_15 : decode cX8_drop 15 = .ok (.ldc_w 361, 3) := by decide +kernel
theorem dX8_drop_18 : decode cX8_drop 18 = .ok (.invokevirtual 65, 3) := by decide +kernel
theorem dX8_drop_21 : decode cX8_drop 21 = .ok (.goto 31, 3) := by decide +kernel
theorem dX8_drop_24 : decode cX8_drop 24 = .ok (.aload_n 0, 1) := by decide +kernel
theorem dX8_drop_25 : decode cX8_drop 25 = .ok (.getfield 22, 3) := by decide +kernel
theorem dX8_drop_28 : decode cX8_drop 28 = .ok (.aload_n 0, 1) := by decide +kernel
theorem dX8_drop_29 : decode cX8_drop 29 = .ok (.getfield 114, 3) := by decide +kernel
theorem dX8_drop_32 : decode cX8_drop 32 = .ok (.aload_n 0, 1) := by decide +kernel
theorem dX8_drop_33 : decode cX8_drop 33 = .ok (.getfield 22, 3) := by decide +kernel
theorem dX8_drop_36 : decode cX8_drop 36 = .ok (.invokevirtual 195, 3) := by decide +kernel
theorem dX8_drop_39 : decode cX8_drop 39 = .ok (.invokevirtual 355, 3) := by decide +kernel
theorem dX8_drop_42 : decode cX8_drop 42 = .ok (.aload_n 0, 1) := by decide +kernel
theorem dX8_drop_43 : decode cX8_drop 43 = .ok (.getfield 26, 3) := by decide +kernel
theorem dX8_drop_46 : decode cX8_drop 46 = .ok (.ldc_w 363, 3) := by decide +kernel
theorem dX8_drop_49 : decode cX8_drop 49 = .ok (.invokevirtual 65, 3) := by decide +kernel
theorem dX8_drop_52 : decode cX8_drop 52 = .ok (.return_, 1) := by decide +kernel
def F_X8_drop  (Γ : HS) : HR :=
  (F_X8_playerHas ((Γ 11).1 10) Γ).bind fun u_1 =>
  if u_1.1 = 0 then (
    (F_X5_line ([89, 111, 117, 32, 100, 111, 32, 110, 111, 116, 32, 104, 97, 118, 101, 32, 116, 104, 97, 116, 46] : List Int32) u_1.2).bind fun u_6 =>
    bnd (mrg (fun j => j == 8) u_1.2 u_6.2) fun σ_8 =>
    some (0, σ_8)
  ) else (
    (F_X6_here u_1.2).bind fun u_11 =>
    bnd (mrg (fun j => j == 9) u_1.2 u_11.2) fun σ_13 =>
    (F_X6_moveInto ((u_1.2 11).1 10) u_11.1 σ_13).bind fun u_15 =>
    bnd (mrg (fun j => j == 9) σ_13 u_15.2) fun σ_17 =>
    (F_X5_line ([68, 114, 111, 112, 112, 101, 100, 46] : List Int32) σ_17).bind fun u_20 =>
    bnd (mrg (fun j => j == 8) σ_17 u_20.2) fun σ_22 =>
    some (0, σ_22)
  )
set_option maxHeartbeats 4000000 in
set_option maxRecDepth 100000 in
theorem k_X8_drop (l : Launch) (dC : Nat → ClassId) (dI : Nat → Nat → Nat) (cB cC cI cJ cZ cP : ClassId) (oA : Nat → Nat) (rA : Nat → Nat → Nat) (sz : Nat)   (Γ : HS) (res : Int32 × HS) (hF : F_X8_drop  Γ = some res) : Met l yX8_drop (g_ws yX8_drop cX8_drop 1 none) ({ frames := 7, cells := 0, slots := 0, locals := 168 }) (va_Pc [.ref (oA 11)] (g_B (dC, dI) [(cB, .byte), (cC, .char), (cI, .int), (cJ, .long), (cZ, .boolean), (cP, .object "StoryHouse$Play")] sz (b_e cB cC cI cJ cZ oA rA Γ ++ b_k cB cC cI cJ cZ oA rA Γ ++ b_p cB cC cI cJ cZ oA rA Γ ++ b_o cB cC cI cJ cZ oA rA Γ ++ b_s cB cC cI cJ cZ oA rA Γ ++ b_c cB cC cI cJ cZ oA rA Γ ++ b_t cB cC cI cJ cZ oA rA Γ ++ b_d cB cC cI cJ cZ oA rA Γ) g_0)) (va_Qv (fun (_ : Unit) => True) (g_Bo (dC, dI) (va_A (b_e cB cC cI cJ cZ oA rA Γ ++ b_k cB cC cI cJ cZ oA rA Γ ++ b_p cB cC cI cJ cZ oA rA Γ ++ b_o cB cC cI cJ cZ oA rA Γ ++ b_s cB cC cI cJ cZ oA rA Γ ++ b_c cB cC cI cJ cZ oA rA Γ ++ b_t cB cC cI cJ cZ oA rA Γ ++ b_d cB cC cI cJ cZ oA rA Γ) sz) (fun (_ : Unit) => (b_e cB cC cI cJ cZ oA rA res.2 ++ b_k cB cC cI cJ cZ oA rA res.2 ++ b_p cB cC cI cJ cZ oA rA res.2 ++ b_o cB cC cI cJ cZ oA rA res.2 ++ b_s cB cC cI cJ cZ oA rA res.2 ++ b_c cB cC cI cJ cZ oA rA res.2 ++ b_t cB cC cI cJ cZ oA rA res.2 ++ b_d cB cC cI cJ cZ oA rA res.2))) (va_A (b_e cB cC cI cJ cZ oA rA Γ ++ b_k cB cC cI cJ cZ oA rA Γ ++ b_p cB cC cI cJ cZ oA rA Γ ++ b_o cB cC cI cJ cZ oA rA Γ ++ b_s cB cC cI cJ cZ oA rA Γ ++ b_c cB cC cI cJ cZ oA rA Γ ++ b_t cB cC cI cJ cZ oA rA Γ ++ b_d cB cC cI cJ cZ oA rA Γ) sz)) 0 0 (va_A (b_e cB cC cI cJ cZ oA rA Γ ++ b_k cB cC cI cJ cZ oA rA Γ ++ b_p cB cC cI cJ cZ oA rA Γ ++ b_o cB cC cI cJ cZ oA rA Γ ++ b_s cB cC cI cJ cZ oA rA Γ ++ b_c cB cC cI cJ cZ oA rA Γ ++ b_t cB cC cI cJ cZ oA rA Γ ++ b_d cB cC cI cJ cZ oA rA Γ) sz) := by
  refine Met.ofW (cc := cX8_drop) (maxL := 1) (ret := none) (by decide) rfl ?_
  intro p e s m args below meth c s₁ B hml hv
  obtain ⟨rfl, hsz, hP, hK, hD0, hE, hX⟩ := hv
  have hx := B.exec
  have hb := B.bytes
  have hr := B.returns
  have hts0 := atoms_spec (ws := g_ws yX8_drop cX8_drop 1 none) B.pre
  have hts : ∀ w ∈ lw_good, w.before ([.ref (oA 11)] : List Value).toArray s = true := fun w z => hts0 w (List.mem_cons_of_mem _ z)
  have hown : s.vm.findClass RX8 = some m.cls := findClass_of_methodNamed B.named
  have hlocks := B.notSynchronized
  subst hsz
  have hD1 := hD0.self (sz := s.heap.size)
  generalize hAe : va_A (b_e cB cC cI cJ cZ oA rA Γ ++ b_k cB cC cI cJ cZ oA rA Γ ++ b_p cB cC cI cJ cZ oA rA Γ ++ b_o cB cC cI cJ cZ oA rA Γ ++ b_s cB cC cI cJ cZ oA rA Γ ++ b_c cB cC cI cJ cZ oA rA Γ ++ b_t cB cC cI cJ cZ oA rA Γ ++ b_d cB cC cI cJ cZ oA rA Γ) s.heap.size = A at hD1 hE hX ⊢
  have hA : ∀ q : Nat, s.heap.size ≤ q → A q := fun q z => by rw [← hAe]; exact Or.inr z
  have hDD : ∀ Γ : HS, va_D A (b_e cB cC cI cJ cZ oA rA Γ ++ b_k cB cC cI cJ cZ oA rA Γ ++ b_p cB cC cI cJ cZ oA rA Γ ++ b_o cB cC cI cJ cZ oA rA Γ ++ b_s cB cC cI cJ cZ oA rA Γ ++ b_c cB cC cI cJ cZ oA rA Γ ++ b_t cB cC cI cJ cZ oA rA Γ ++ b_d cB cC cI cJ cZ oA rA Γ) := fun Γ9 => va_D_fst (ws := (b_e cB cC cI cJ cZ oA rA Γ ++ b_k cB cC cI cJ cZ oA rA Γ ++ b_p cB cC cI cJ cZ oA rA Γ ++ b_o cB cC cI cJ cZ oA rA Γ ++ b_s cB cC cI cJ cZ oA rA Γ ++ b_c cB cC cI cJ cZ oA rA Γ ++ b_t cB cC cI cJ cZ oA rA Γ ++ b_d cB cC cI cJ cZ oA rA Γ)) (ws' := (b_e cB cC cI cJ cZ oA rA Γ9 ++ b_k cB cC cI cJ cZ oA rA Γ9 ++ b_p cB cC cI cJ cZ oA rA Γ9 ++ b_o cB cC cI cJ cZ oA rA Γ9 ++ b_s cB cC cI cJ cZ oA rA Γ9 ++ b_c cB cC cI cJ cZ oA rA Γ9 ++ b_t cB cC cI cJ cZ oA rA Γ9 ++ b_d cB cC cI cJ cZ oA rA Γ9)) rfl hD1
  have hN := hE.1
  have hS : va_S A s.heap s.heap [] := va_S.rf
  have hl := lv_entry ([.ref (oA 11)]) (n := 1) (Nat.le_of_ble_eq_true rfl)
  rw [lg_entry_eq]
  generalize (lg_sl ([.ref (oA 11)]) ++ List.replicate (1 - (lg_sl ([.ref (oA 11)])).length) Slot.unset).toArray = ls at hl ⊢
  have hl : lv_has ls 1 [(0, .ref (oA 11))] := hl
  unfold F_X8_drop at hF
  refine lv_aload_n hx hb dX8_drop_0 rfl (lv_at hl 0 rfl) ?_
  refine lv_aload_n hx hb dX8_drop_1 rfl (lv_at hl 0 rfl) ?_
  refine va_get (D := (dC, dI)) (ci := 8) (v := .int ((Γ 11).1 10)) (C := RX8) (T := TX8) (N := 16) hx hb hts ii_X8 hown hK hP 0 rfl rfl 10 (by decide) (hts (.fieldLink RX8 114 "StoryHouse$Teller" "noun" "I") wq_297) (fun _ h9 => h9) rfl dX8_drop_2 ?_
  obtain ⟨u_1, hu_1, hF_2⟩ := Option.bind_eq_some_iff.mp hF
  clear hF
  have hPc := bx_P (bs := [b_e cB cC cI cJ cZ oA rA Γ, b_k cB cC cI cJ cZ oA rA Γ, b_p cB cC cI cJ cZ oA rA Γ, b_o cB cC cI cJ cZ oA rA Γ, b_s cB cC cI cJ cZ oA rA Γ, b_c cB cC cI cJ cZ oA rA Γ, b_t cB cC cI cJ cZ oA rA Γ, b_d cB cC cI cJ cZ oA rA Γ]) (bs' := [b_e cB cC cI cJ cZ oA rA Γ, b_k cB cC cI cJ cZ oA rA Γ, b_p cB cC cI cJ cZ oA rA Γ, b_o cB cC cI cJ cZ oA rA Γ, b_s cB cC cI cJ cZ oA rA Γ, b_c cB cC cI cJ cZ oA rA Γ, b_t cB cC cI cJ cZ oA rA Γ, b_d cB cC cI cJ cZ oA rA Γ]) (ws' := (b_e cB cC cI cJ cZ oA rA Γ ++ b_k cB cC cI cJ cZ oA rA Γ ++ b_p cB cC cI cJ cZ oA rA Γ ++ b_o cB cC cI cJ cZ oA rA Γ ++ b_s cB cC cI cJ cZ oA rA Γ ++ b_c cB cC cI cJ cZ oA rA Γ ++ b_t cB cC cI cJ cZ oA rA Γ ++ b_d cB cC cI cJ cZ oA rA Γ)) hP fl_8 fl_8 [0, 1, 2, 3, 4, 5, 6, 7] rfl
  have hDc := bx_D (bs := [b_e cB cC cI cJ cZ oA rA Γ, b_k cB cC cI cJ cZ oA rA Γ, b_p cB cC cI cJ cZ oA rA Γ, b_o cB cC cI cJ cZ oA rA Γ, b_s cB cC cI cJ cZ oA rA Γ, b_c cB cC cI cJ cZ oA rA Γ, b_t cB cC cI cJ cZ oA rA Γ, b_d cB cC cI cJ cZ oA rA Γ]) (bs' := [b_e cB cC cI cJ cZ oA rA Γ, b_k cB cC cI cJ cZ oA rA Γ, b_p cB cC cI cJ cZ oA rA Γ, b_o cB cC cI cJ cZ oA rA Γ, b_s cB cC cI cJ cZ oA rA Γ, b_c cB cC cI cJ cZ oA rA Γ, b_t cB cC cI cJ cZ oA rA Γ, b_d cB cC cI cJ cZ oA rA Γ]) (ws' := (b_e cB cC cI cJ cZ oA rA Γ ++ b_k cB cC cI cJ cZ oA rA Γ ++ b_p cB cC cI cJ cZ oA rA Γ ++ b_o cB cC cI cJ cZ oA rA Γ ++ b_s cB cC cI cJ cZ oA rA Γ ++ b_c cB cC cI cJ cZ oA rA Γ ++ b_t cB cC cI cJ cZ oA rA Γ ++ b_d cB cC cI cJ cZ oA rA Γ)) (hDD Γ) fl_8 fl_8 [0, 1, 2, 3, 4, 5, 6, 7] (by decide +kernel) rfl
  have hFc := bx_F (bs := [b_e cB cC cI cJ cZ oA rA Γ, b_k cB cC cI cJ cZ oA rA Γ, b_p cB cC cI cJ cZ oA rA Γ, b_o cB cC cI cJ cZ oA rA Γ, b_s cB cC cI cJ cZ oA rA Γ, b_c cB cC cI cJ cZ oA rA Γ, b_t cB cC cI cJ cZ oA rA Γ, b_d cB cC cI cJ cZ oA rA Γ]) (bs' := [b_e cB cC cI cJ cZ oA rA Γ, b_k cB cC cI cJ cZ oA rA Γ, b_p cB cC cI cJ cZ oA rA Γ, b_o cB cC cI cJ cZ oA rA Γ, b_s cB cC cI cJ cZ oA rA Γ, b_c cB cC cI cJ cZ oA rA Γ, b_t cB cC cI cJ cZ oA rA Γ, b_d cB cC cI cJ cZ oA rA Γ]) (wc := (b_e cB cC cI cJ cZ oA rA Γ ++ b_k cB cC cI cJ cZ oA rA Γ ++ b_p cB cC cI cJ cZ oA rA Γ ++ b_o cB cC cI cJ cZ oA rA Γ ++ b_s cB cC cI cJ cZ oA rA Γ ++ b_c cB cC cI cJ cZ oA rA Γ ++ b_t cB cC cI cJ cZ oA rA Γ ++ b_d cB cC cI cJ cZ oA rA Γ)) (hDD Γ) hS hA fl_8 fl_8 [0, 1, 2, 3, 4, 5, 6, 7] rfl
  refine g_ofi (wc := (b_e cB cC cI cJ cZ oA rA Γ ++ b_k cB cC cI cJ cZ oA rA Γ ++ b_p cB cC cI cJ cZ oA rA Γ ++ b_o cB cC cI cJ cZ oA rA Γ ++ b_s cB cC cI cJ cZ oA rA Γ ++ b_c cB cC cI cJ cZ oA rA Γ ++ b_t cB cC cI cJ cZ oA rA Γ ++ b_d cB cC cI cJ cZ oA rA Γ)) (wr := ([] : va_W)) hP (hDD Γ) hS hFc (bx_ix [b_e cB cC cI cJ cZ oA rA Γ, b_k cB cC cI cJ cZ oA rA Γ, b_p cB cC cI cJ cZ oA rA Γ, b_o cB cC cI cJ cZ oA rA Γ, b_s cB cC cI cJ cZ oA rA Γ, b_c cB cC cI cJ cZ oA rA Γ, b_t cB cC cI cJ cZ oA rA Γ, b_d cB cC cI cJ cZ oA rA Γ] [0, 1, 2, 3, 4, 5, 6, 7]) (bx_ix [b_e cB cC cI cJ cZ oA rA Γ, b_k cB cC cI cJ cZ oA rA Γ, b_p cB cC cI cJ cZ oA rA Γ, b_o cB cC cI cJ cZ oA rA Γ, b_s cB cC cI cJ cZ oA rA Γ, b_c cB cC cI cJ cZ oA rA Γ, b_t cB cC cI cJ cZ oA rA Γ, b_d cB cC cI cJ cZ oA rA Γ] []) (bx_C (bs := [b_e cB cC cI cJ cZ oA rA Γ, b_k cB cC cI cJ cZ oA rA Γ, b_p cB cC cI cJ cZ oA rA Γ, b_o cB cC cI cJ cZ oA rA Γ, b_s cB cC cI cJ cZ oA rA Γ, b_c cB cC cI cJ cZ oA rA Γ, b_t cB cC cI cJ cZ oA rA Γ, b_d cB cC cI cJ cZ oA rA Γ]) (bs' := [b_e cB cC cI cJ cZ oA rA Γ, b_k cB cC cI cJ cZ oA rA Γ, b_p cB cC cI cJ cZ oA rA Γ, b_o cB cC cI cJ cZ oA rA Γ, b_s cB cC cI cJ cZ oA rA Γ, b_c cB cC cI cJ cZ oA rA Γ, b_t cB cC cI cJ cZ oA rA Γ, b_d cB cC cI cJ cZ oA rA Γ]) (is := [0, 1, 2, 3, 4, 5, 6, 7]) fl_8 fl_8 rfl) (bx_C (bs := [b_e cB cC cI cJ cZ oA rA Γ, b_k cB cC cI cJ cZ oA rA Γ, b_p cB cC cI cJ cZ oA rA Γ, b_o cB cC cI cJ cZ oA rA Γ, b_s cB cC cI cJ cZ oA rA Γ, b_c cB cC cI cJ cZ oA rA Γ, b_t cB cC cI cJ cZ oA rA Γ, b_d cB cC cI cJ cZ oA rA Γ]) (bs' := []) (is := []) fl_8 fl_0 rfl) (bx_n (by decide +kernel)) (bx_d (by decide +kernel)) (va_runV (As := [.int ((Γ 11).1 10)]) (rest := []) ⟨hx, hb, hml, hown, hts⟩ (k_X8_playerHas l dC dI cB cC cI cJ cZ cP oA rA s.heap.size  ((Γ 11).1 10) Γ _ hu_1) (cwV 1 hts (g_gV wq_1226 wq_1227 wq_2103 wq_12 wq_1228) rfl rfl rfl (by decide +kernel) ⟨Nat.le_of_ble_eq_true rfl, Nat.le_of_ble_eq_true rfl⟩) (g_preV g_bl0 hK hPc hDc hS hE hFc g_to0 (q0 := 0) (ci := 8) rfl rfl) rfl rfl hl.1 rfl (lv_room (Nat.le_of_ble_eq_true rfl)) dX8_drop_5 ⟨Nat.le_of_ble_eq_true rfl, Nat.le_of_ble_eq_true rfl⟩) (fun r9 u9 H locs hw9 hP' hD' hS => ?_)
  clear hPc hDc hFc
  subst hw9
  have hP : va_P (dC, dI) vwCl (b_e cB cC cI cJ cZ oA rA u_1.2 ++ b_k cB cC cI cJ cZ oA rA u_1.2 ++ b_p cB cC cI cJ cZ oA rA u_1.2 ++ b_o cB cC cI cJ cZ oA rA u_1.2 ++ b_s cB cC cI cJ cZ oA rA u_1.2 ++ b_c cB cC cI cJ cZ oA rA u_1.2 ++ b_t cB cC cI cJ cZ oA rA u_1.2 ++ b_d cB cC cI cJ cZ oA rA u_1.2) H := hP'
  clear hP' hD'
  refine lv_if_ne (tgt := 24) hx hb dX8_drop_8 (by decide) (fun c_3 => ?_) (fun c_3 => ?_)
  · have hF_10 := ineg c_3 hF_2
    clear hF_2
    refine lv_aload_n hx hb dX8_drop_24 rfl (lv_at hl 0 rfl) ?_
    refine va_get (D := (dC, dI)) (ci := 8) (v := .ref (oA 9)) (C := RX8) (T := TX8) (N := 16) hx hb hts ii_X8 hown hK hP 0 rfl rfl 0 (by decide) (hts (.fieldLink RX8 22 "StoryHouse$Teller" "play" "LStoryHouse$Play;") wq_286) (fun _ h9 => h9) rfl dX8_drop_25 ?_
    refine lv_aload_n hx hb dX8_drop_28 rfl (lv_at hl 0 rfl) ?_
    refine va_get (D := (dC, dI)) (ci := 8) (v := .int ((u_1.2 11).1 10)) (C := RX8) (T := TX8) (N := 16) hx hb hts ii_X8 hown hK hP 0 rfl rfl 10 (by decide) (hts (.fieldLink RX8 114 "StoryHouse$Teller" "noun" "I") wq_297) (fun _ h9 => h9) rfl dX8_drop_29 ?_
    refine lv_aload_n hx hb dX8_drop_32 rfl (lv_at hl 0 rfl) ?_
    refine va_get (D := (dC, dI)) (ci := 8) (v := .ref (oA 9)) (C := RX8) (T := TX8) (N := 16) hx hb hts ii_X8 hown hK hP 0 rfl rfl 0 (by decide) (hts (.fieldLink RX8 22 "StoryHouse$Teller" "play" "LStoryHouse$Play;") wq_286) (fun _ h9 => h9) rfl dX8_drop_33 ?_
    obtain ⟨u_11, hu_11, hF_12⟩ := Option.bind_eq_some_iff.mp hF_10
    clear hF_10
    have hPc := bx_P (bs := [b_e cB cC cI cJ cZ oA rA u_1.2, b_k cB cC cI cJ cZ oA rA u_1.2, b_p cB cC cI cJ cZ oA rA u_1.2, b_o cB cC cI cJ cZ oA rA u_1.2, b_s cB cC cI cJ cZ oA rA u_1.2, b_c cB cC cI cJ cZ oA rA u_1.2, b_t cB cC cI cJ cZ oA rA u_1.2, b_d cB cC cI cJ cZ oA rA u_1.2]) (bs' := [b_p cB cC cI cJ cZ oA rA u_1.2]) (ws' := (b_p cB cC cI cJ cZ oA rA u_1.2)) hP fl_8 fl_1 [2] rfl
    have hDc := bx_D (bs := [b_e cB cC cI cJ cZ oA rA u_1.2, b_k cB cC cI cJ cZ oA rA u_1.2, b_p cB cC cI cJ cZ oA rA u_1.2, b_o cB cC cI cJ cZ oA rA u_1.2, b_s cB cC cI cJ cZ oA rA u_1.2, b_c cB cC cI cJ cZ oA rA u_1.2, b_t cB cC cI cJ cZ oA rA u_1.2, b_d cB cC cI cJ cZ oA rA u_1.2]) (bs' := [b_p cB cC cI cJ cZ oA rA u_1.2]) (ws' := (b_p cB cC cI cJ cZ oA rA u_1.2)) (hDD u_1.2) fl_8 fl_1 [2] (by decide +kernel) rfl
    have hFc := bx_F (bs := [b_e cB cC cI cJ cZ oA rA u_1.2, b_k cB cC cI cJ cZ oA rA u_1.2, b_p cB cC cI cJ cZ oA rA u_1.2, b_o cB cC cI cJ cZ oA rA u_1.2, b_s cB cC cI cJ cZ oA rA u_1.2, b_c cB cC cI cJ cZ oA rA u_1.2, b_t cB cC cI cJ cZ oA rA u_1.2, b_d cB cC cI cJ cZ oA rA u_1.2]) (bs' := [b_p cB cC cI cJ cZ oA rA u_1.2]) (wc := (b_p cB cC cI cJ cZ oA rA u_1.2)) (hDD u_1.2) hS hA fl_8 fl_1 [2] rfl
    refine g_ofi (wc := (b_p cB cC cI cJ cZ oA rA u_1.2)) (wr := (b_e cB cC cI cJ cZ oA rA u_1.2 ++ b_k cB cC cI cJ cZ oA rA u_1.2 ++ b_o cB cC cI cJ cZ oA rA u_1.2 ++ b_s cB cC cI cJ cZ oA rA u_1.2 ++ b_c cB cC cI cJ cZ oA rA u_1.2 ++ b_t cB cC cI cJ cZ oA rA u_1.2 ++ b_d cB cC cI cJ cZ oA rA u_1.2)) hP (hDD u_1.2) hS hFc (bx_ix [b_e cB cC cI cJ cZ oA rA u_1.2, b_k cB cC cI cJ cZ oA rA u_1.2, b_p cB cC cI cJ cZ oA rA u_1.2, b_o cB cC cI cJ cZ oA rA u_1.2, b_s cB cC cI cJ cZ oA rA u_1.2, b_c cB cC cI cJ cZ oA rA u_1.2, b_t cB cC cI cJ cZ oA rA u_1.2, b_d cB cC cI cJ cZ oA rA u_1.2] [2]) (bx_ix [b_e cB cC cI cJ cZ oA rA u_1.2, b_k cB cC cI cJ cZ oA rA u_1.2, b_p cB cC cI cJ cZ oA rA u_1.2, b_o cB cC cI cJ cZ oA rA u_1.2, b_s cB cC cI cJ cZ oA rA u_1.2, b_c cB cC cI cJ cZ oA rA u_1.2, b_t cB cC cI cJ cZ oA rA u_1.2, b_d cB cC cI cJ cZ oA rA u_1.2] [0, 1, 3, 4, 5, 6, 7]) (bx_C (bs := [b_e cB cC cI cJ cZ oA rA u_1.2, b_k cB cC cI cJ cZ oA rA u_1.2, b_p cB cC cI cJ cZ oA rA u_1.2, b_o cB cC cI cJ cZ oA rA u_1.2, b_s cB cC cI cJ cZ oA rA u_1.2, b_c cB cC cI cJ cZ oA rA u_1.2, b_t cB cC cI cJ cZ oA rA u_1.2, b_d cB cC cI cJ cZ oA rA u_1.2]) (bs' := [b_p cB cC cI cJ cZ oA rA u_1.2]) (is := [2]) fl_8 fl_1 rfl) (bx_C (bs := [b_e cB cC cI cJ cZ oA rA u_1.2, b_k cB cC cI cJ cZ oA rA u_1.2, b_p cB cC cI cJ cZ oA rA u_1.2, b_o cB cC cI cJ cZ oA rA u_1.2, b_s cB cC cI cJ cZ oA rA u_1.2, b_c cB cC cI cJ cZ oA rA u_1.2, b_t cB cC cI cJ cZ oA rA u_1.2, b_d cB cC cI cJ cZ oA rA u_1.2]) (bs' := [b_e cB cC cI cJ cZ oA rA u_1.2, b_k cB cC cI cJ cZ oA rA u_1.2, b_o cB cC cI cJ cZ oA rA u_1.2, b_s cB cC cI cJ cZ oA rA u_1.2, b_c cB cC cI cJ cZ oA rA u_1.2, b_t cB cC cI cJ cZ oA rA u_1.2, b_d cB cC cI cJ cZ oA rA u_1.2]) (is := [0, 1, 3, 4, 5, 6, 7]) fl_8 fl_7 rfl) (bx_n (by decide +kernel)) (bx_d (by decide +kernel)) (va_runV (As := []) (rest := [.int ((u_1.2 11).1 10), .ref (oA 9)]) ⟨hx, hb, hml, hown, hts⟩ (k_X6_here l dC dI cB cC cI cJ cZ cP oA rA H.size  u_1.2 _ hu_11) (cwV 0 hts (g_gV wq_1012 wq_983 wq_984 wq_10 wq_985) rfl rfl rfl (by decide +kernel) ⟨Nat.le_of_ble_eq_true rfl, Nat.le_of_ble_eq_true rfl⟩) (g_preV g_bl0 hK hPc hDc hS hE hFc g_to0 (q0 := 0) (ci := 6) rfl rfl) rfl rfl hl.1 rfl (lv_room (Nat.le_of_ble_eq_true rfl)) dX8_drop_36 ⟨Nat.le_of_ble_eq_true rfl, Nat.le_of_ble_eq_true rfl⟩) (fun r9 u9 H locs hw9 hP' hD' hS => ?_)
    clear hPc hDc hFc
    subst hw9
    obtain ⟨σ_13, eσ_13, hF_14⟩ := bnd_e hF_12
    clear hF_12
    have hP : va_P (dC, dI) vwCl (b_e cB cC cI cJ cZ oA rA σ_13 ++ b_k cB cC cI cJ cZ oA rA σ_13 ++ b_p cB cC cI cJ cZ oA rA σ_13 ++ b_o cB cC cI cJ cZ oA rA σ_13 ++ b_s cB cC cI cJ cZ oA rA σ_13 ++ b_c cB cC cI cJ cZ oA rA σ_13 ++ b_t cB cC cI cJ cZ oA rA σ_13 ++ b_d cB cC cI cJ cZ oA rA σ_13) H := by rw [eσ_13]; exact bx_P (bs := [b_e cB cC cI cJ cZ oA rA u_1.2, b_k cB cC cI cJ cZ oA rA u_1.2, b_o cB cC cI cJ cZ oA rA u_1.2, b_s cB cC cI cJ cZ oA rA u_1.2, b_c cB cC cI cJ cZ oA rA u_1.2, b_t cB cC cI cJ cZ oA rA u_1.2, b_d cB cC cI cJ cZ oA rA u_1.2] ++ [b_p cB cC cI cJ cZ oA rA u_11.2]) (bs' := [b_e cB cC cI cJ cZ oA rA (mrg (fun j => j == 9) u_1.2 u_11.2), b_k cB cC cI cJ cZ oA rA (mrg (fun j => j == 9) u_1.2 u_11.2), b_p cB cC cI cJ cZ oA rA (mrg (fun j => j == 9) u_1.2 u_11.2), b_o cB cC cI cJ cZ oA rA (mrg (fun j => j == 9) u_1.2 u_11.2), b_s cB cC cI cJ cZ oA rA (mrg (fun j => j == 9) u_1.2 u_11.2), b_c cB cC cI cJ cZ oA rA (mrg (fun j => j == 9) u_1.2 u_11.2), b_t cB cC cI cJ cZ oA rA (mrg (fun j => j == 9) u_1.2 u_11.2), b_d cB cC cI cJ cZ oA rA (mrg (fun j => j == 9) u_1.2 u_11.2)]) hP' (fl_a fl_7 fl_1) fl_8 [0, 1, 7, 2, 3, 4, 5, 6] rfl
    clear hP' hD'
    obtain ⟨u_15, hu_15, hF_16⟩ := Option.bind_eq_some_iff.mp hF_14
    clear hF_14
    have hPc := bx_P (bs := [b_e cB cC cI cJ cZ oA rA σ_13, b_k cB cC cI cJ cZ oA rA σ_13, b_p cB cC cI cJ cZ oA rA σ_13, b_o cB cC cI cJ cZ oA rA σ_13, b_s cB cC cI cJ cZ oA rA σ_13, b_c cB cC cI cJ cZ oA rA σ_13, b_t cB cC cI cJ cZ oA rA σ_13, b_d cB cC cI cJ cZ oA rA σ_13]) (bs' := [b_p cB cC cI cJ cZ oA rA σ_13]) (ws' := (b_p cB cC cI cJ cZ oA rA σ_13)) hP fl_8 fl_1 [2] rfl
    have hDc := bx_D (bs := [b_e cB cC cI cJ cZ oA rA σ_13, b_k cB cC cI cJ cZ oA rA σ_13, b_p cB cC cI cJ cZ oA rA σ_13, b_o cB cC cI cJ cZ oA rA σ_13, b_s cB cC cI cJ cZ oA rA σ_13, b_c cB cC cI cJ cZ oA rA σ_13, b_t cB cC cI cJ cZ oA rA σ_13, b_d cB cC cI cJ cZ oA rA σ_13]) (bs' := [b_p cB cC cI cJ cZ oA rA σ_13]) (ws' := (b_p cB cC cI cJ cZ oA rA σ_13)) (hDD σ_13) fl_8 fl_1 [2] (by decide +kernel) rfl
    have hFc := bx_F (bs := [b_e cB cC cI cJ cZ oA rA σ_13, b_k cB cC cI cJ cZ oA rA σ_13, b_p cB cC cI cJ cZ oA rA σ_13, b_o cB cC cI cJ cZ oA rA σ_13, b_s cB cC cI cJ cZ oA rA σ_13, b_c cB cC cI cJ cZ oA rA σ_13, b_t cB cC cI cJ cZ oA rA σ_13, b_d cB cC cI cJ cZ oA rA σ_13]) (bs' := [b_p cB cC cI cJ cZ oA rA σ_13]) (wc := (b_p cB cC cI cJ cZ oA rA σ_13)) (hDD σ_13) hS hA fl_8 fl_1 [2] rfl
    refine g_ofv (wc := (b_p cB cC cI cJ cZ oA rA σ_13)) (wr := (b_e cB cC cI cJ cZ oA rA σ_13 ++ b_k cB cC cI cJ cZ oA rA σ_13 ++ b_o cB cC cI cJ cZ oA rA σ_13 ++ b_s cB cC cI cJ cZ oA rA σ_13 ++ b_c cB cC cI cJ cZ oA rA σ_13 ++ b_t cB cC cI cJ cZ oA rA σ_13 ++ b_d cB cC cI cJ cZ oA rA σ_13)) hP (hDD σ_13) hS hFc (bx_ix [b_e cB cC cI cJ cZ oA rA σ_13, b_k cB cC cI cJ cZ oA rA σ_13, b_p cB cC cI cJ cZ oA rA σ_13, b_o cB cC cI cJ cZ oA rA σ_13, b_s cB cC cI cJ cZ oA rA σ_13, b_c cB cC cI cJ cZ oA rA σ_13, b_t cB cC cI cJ cZ oA rA σ_13, b_d cB cC cI cJ cZ oA rA σ_13] [2]) (bx_ix [b_e cB cC cI cJ cZ oA rA σ_13, b_k cB cC cI cJ cZ oA rA σ_13, b_p cB cC cI cJ cZ oA rA σ_13, b_o cB cC cI cJ cZ oA rA σ_13, b_s cB cC cI cJ cZ oA rA σ_13, b_c cB cC cI cJ cZ oA rA σ_13, b_t cB cC cI cJ cZ oA rA σ_13, b_d cB cC cI cJ cZ oA rA σ_13] [0, 1, 3, 4, 5, 6, 7]) (bx_C (bs := [b_e cB cC cI cJ cZ oA rA σ_13, b_k cB cC cI cJ cZ oA rA σ_13, b_p cB cC cI cJ cZ oA rA σ_13, b_o cB cC cI cJ cZ oA rA σ_13, b_s cB cC cI cJ cZ oA rA σ_13, b_c cB cC cI cJ cZ oA rA σ_13, b_t cB cC cI cJ cZ oA rA σ_13, b_d cB cC cI cJ cZ oA rA σ_13]) (bs' := [b_p cB cC cI cJ cZ oA rA σ_13]) (is := [2]) fl_8 fl_1 rfl) (bx_C (bs := [b_e cB cC cI cJ cZ oA rA σ_13, b_k cB cC cI cJ cZ oA rA σ_13, b_p cB cC cI cJ cZ oA rA σ_13, b_o cB cC cI cJ cZ oA rA σ_13, b_s cB cC cI cJ cZ oA rA σ_13, b_c cB cC cI cJ cZ oA rA σ_13, b_t cB cC cI cJ cZ oA rA σ_13, b_d cB cC cI cJ cZ oA rA σ_13]) (bs' := [b_e cB cC cI cJ cZ oA rA σ_13, b_k cB cC cI cJ cZ oA rA σ_13, b_o cB cC cI cJ cZ oA rA σ_13, b_s cB cC cI cJ cZ oA rA σ_13, b_c cB cC cI cJ cZ oA rA σ_13, b_t cB cC cI cJ cZ oA rA σ_13, b_d cB cC cI cJ cZ oA rA σ_13]) (is := [0, 1, 3, 4, 5, 6, 7]) fl_8 fl_7 rfl) (bx_n (by decide +kernel)) (bx_d (by decide +kernel)) (va_runV (As := [.int ((u_1.2 11).1 10), .int u_11.1]) (rest := []) ⟨hx, hb, hml, hown, hts⟩ (k_X6_moveInto l dC dI cB cC cI cJ cZ cP oA rA H.size  ((u_1.2 11).1 10) u_11.1 σ_13 _ hu_15) (cwV 2 hts (g_gV wq_1229 wq_963 wq_964 wq_10 wq_965) rfl rfl rfl (by decide +kernel) ⟨Nat.le_of_ble_eq_true rfl, Nat.le_of_ble_eq_true rfl⟩) (g_preV g_bl0 hK hPc hDc hS hE hFc g_to0 (q0 := 0) (ci := 6) rfl rfl) rfl rfl hl.1 rfl (lv_room (Nat.le_of_ble_eq_true rfl)) dX8_drop_39 ⟨Nat.le_of_ble_eq_true rfl, Nat.le_of_ble_eq_true rfl⟩) (fun u9 H locs hw9 hP' hD' hS => ?_)
    clear hPc hDc hFc
    obtain ⟨σ_17, eσ_17, hF_18⟩ := bnd_e hF_16
    clear hF_16
    have hP : va_P (dC, dI) vwCl (b_e cB cC cI cJ cZ oA rA σ_17 ++ b_k cB cC cI cJ cZ oA rA σ_17 ++ b_p cB cC cI cJ cZ oA rA σ_17 ++ b_o cB cC cI cJ cZ oA rA σ_17 ++ b_s cB cC cI cJ cZ oA rA σ_17 ++ b_c cB cC cI cJ cZ oA rA σ_17 ++ b_t cB cC cI cJ cZ oA rA σ_17 ++ b_d cB cC cI cJ cZ oA rA σ_17) H := by rw [eσ_17]; exact bx_P (bs := [b_e cB cC cI cJ cZ oA rA σ_13, b_k cB cC cI cJ cZ oA rA σ_13, b_o cB cC cI cJ cZ oA rA σ_13, b_s cB cC cI cJ cZ oA rA σ_13, b_c cB cC cI cJ cZ oA rA σ_13, b_t cB cC cI cJ cZ oA rA σ_13, b_d cB cC cI cJ cZ oA rA σ_13] ++ [b_p cB cC cI cJ cZ oA rA u_15.2]) (bs' := [b_e cB cC cI cJ cZ oA rA (mrg (fun j => j == 9) σ_13 u_15.2), b_k cB cC cI cJ cZ oA rA (mrg (fun j => j == 9) σ_13 u_15.2), b_p cB cC cI cJ cZ oA rA (mrg (fun j => j == 9) σ_13 u_15.2), b_o cB cC cI cJ cZ oA rA (mrg (fun j => j == 9) σ_13 u_15.2), b_s cB cC cI cJ cZ oA rA (mrg (fun j => j == 9) σ_13 u_15.2), b_c cB cC cI cJ cZ oA rA (mrg (fun j => j == 9) σ_13 u_15.2), b_t cB cC cI cJ cZ oA rA (mrg (fun j => j == 9) σ_13 u_15.2), b_d cB cC cI cJ cZ oA rA (mrg (fun j => j == 9) σ_13 u_15.2)]) hP' (fl_a fl_7 fl_1) fl_8 [0, 1, 7, 2, 3, 4, 5, 6] rfl
    clear hP' hD'
    refine lv_aload_n hx hb dX8_drop_42 rfl (lv_at hl 0 rfl) ?_
    refine va_get (D := (dC, dI)) (ci := 8) (v := .ref (oA 8)) (C := RX8) (T := TX8) (N := 16) hx hb hts ii_X8 hown hK hP 0 rfl rfl 1 (by decide) (hts (.fieldLink RX8 26 "StoryHouse$Teller" "told" "LStoryHouse$Out;") wq_287) (fun _ h9 => h9) rfl dX8_drop_43 ?_
    obtain ⟨q_19, vq_19, hRq_19, hSq_19⟩ := hE.2.2.2.2 _ (List.mem_of_getElem? (i := 56) rfl)
    refine g_ldcwS (own := RX8) (tx := "Dropped.") hx hb hown hRq_19 dX8_drop_46 ?_
    obtain ⟨u_20, hu_20, hF_21⟩ := Option.bind_eq_some_iff.mp hF_18
    clear hF_18
    have hPc := bx_P (bs := [b_e cB cC cI cJ cZ oA rA σ_17, b_k cB cC cI cJ cZ oA rA σ_17, b_p cB cC cI cJ cZ oA rA σ_17, b_o cB cC cI cJ cZ oA rA σ_17, b_s cB cC cI cJ cZ oA rA σ_17, b_c cB cC cI cJ cZ oA rA σ_17, b_t cB cC cI cJ cZ oA rA σ_17, b_d cB cC cI cJ cZ oA rA σ_17]) (bs' := [b_o cB cC cI cJ cZ oA rA σ_17]) (ws' := (b_o cB cC cI cJ cZ oA rA σ_17)) hP fl_8 fl_1 [3] rfl
    have hDc := bx_D (bs := [b_e cB cC cI cJ cZ oA rA σ_17, b_k cB cC cI cJ cZ oA rA σ_17, b_p cB cC cI cJ cZ oA rA σ_17, b_o cB cC cI cJ cZ oA rA σ_17, b_s cB cC cI cJ cZ oA rA σ_17, b_c cB cC cI cJ cZ oA rA σ_17, b_t cB cC cI cJ cZ oA rA σ_17, b_d cB cC cI cJ cZ oA rA σ_17]) (bs' := [b_o cB cC cI cJ cZ oA rA σ_17]) (ws' := (b_o cB cC cI cJ cZ oA rA σ_17)) (hDD σ_17) fl_8 fl_1 [3] (by decide +kernel) rfl
    have hFc := bx_F (bs := [b_e cB cC cI cJ cZ oA rA σ_17, b_k cB cC cI cJ cZ oA rA σ_17, b_p cB cC cI cJ cZ oA rA σ_17, b_o cB cC cI cJ cZ oA rA σ_17, b_s cB cC cI cJ cZ oA rA σ_17, b_c cB cC cI cJ cZ oA rA σ_17, b_t cB cC cI cJ cZ oA rA σ_17, b_d cB cC cI cJ cZ oA rA σ_17]) (bs' := [b_o cB cC cI cJ cZ oA rA σ_17]) (wc := (b_o cB cC cI cJ cZ oA rA σ_17)) (hDD σ_17) hS hA fl_8 fl_1 [3] rfl
    refine g_ofv (wc := (b_o cB cC cI cJ cZ oA rA σ_17)) (wr := (b_e cB cC cI cJ cZ oA rA σ_17 ++ b_k cB cC cI cJ cZ oA rA σ_17 ++ b_p cB cC cI cJ cZ oA rA σ_17 ++ b_s cB cC cI cJ cZ oA rA σ_17 ++ b_c cB cC cI cJ cZ oA rA σ_17 ++ b_t cB cC cI cJ cZ oA rA σ_17 ++ b_d cB cC cI cJ cZ oA rA σ_17)) hP (hDD σ_17) hS hFc (bx_ix [b_e cB cC cI cJ cZ oA rA σ_17, b_k cB cC cI cJ cZ oA rA σ_17, b_p cB cC cI cJ cZ oA rA σ_17, b_o cB cC cI cJ cZ oA rA σ_17, b_s cB cC cI cJ cZ oA rA σ_17, b_c cB cC cI cJ cZ oA rA σ_17, b_t cB cC cI cJ cZ oA rA σ_17, b_d cB cC cI cJ cZ oA rA σ_17] [3]) (bx_ix [b_e cB cC cI cJ cZ oA rA σ_17, b_k cB cC cI cJ cZ oA rA σ_17, b_p cB cC cI cJ cZ oA rA σ_17, b_o cB cC cI cJ cZ oA rA σ_17, b_s cB cC cI cJ cZ oA rA σ_17, b_c cB cC cI cJ cZ oA rA σ_17, b_t cB cC cI cJ cZ oA rA σ_17, b_d cB cC cI cJ cZ oA rA σ_17] [0, 1, 2, 4, 5, 6, 7]) (bx_C (bs := [b_e cB cC cI cJ cZ oA rA σ_17, b_k cB cC cI cJ cZ oA rA σ_17, b_p cB cC cI cJ cZ oA rA σ_17, b_o cB cC cI cJ cZ oA rA σ_17, b_s cB cC cI cJ cZ oA rA σ_17, b_c cB cC cI cJ cZ oA rA σ_17, b_t cB cC cI cJ cZ oA rA σ_17, b_d cB cC cI cJ cZ oA rA σ_17]) (bs' := [b_o cB cC cI cJ cZ oA rA σ_17]) (is := [3]) fl_8 fl_1 rfl) (bx_C (bs := [b_e cB cC cI cJ cZ oA rA σ_17, b_k cB cC cI cJ cZ oA rA σ_17, b_p cB cC cI cJ cZ oA rA σ_17, b_o cB cC cI cJ cZ oA rA σ_17, b_s cB cC cI cJ cZ oA rA σ_17, b_c cB cC cI cJ cZ oA rA σ_17, b_t cB cC cI cJ cZ oA rA σ_17, b_d cB cC cI cJ cZ oA rA σ_17]) (bs' := [b_e cB cC cI cJ cZ oA rA σ_17, b_k cB cC cI cJ cZ oA rA σ_17, b_p cB cC cI cJ cZ oA rA σ_17, b_s cB cC cI cJ cZ oA rA σ_17, b_c cB cC cI cJ cZ oA rA σ_17, b_t cB cC cI cJ cZ oA rA σ_17, b_d cB cC cI cJ cZ oA rA σ_17]) (is := [0, 1, 2, 4, 5, 6, 7]) fl_8 fl_7 rfl) (bx_n (by decide +kernel)) (bx_d (by decide +kernel)) (va_runV (As := [.ref q_19]) (rest := []) ⟨hx, hb, hml, hown, hts⟩ (k_X5_line l dC dI cB cC cI cJ cZ cP oA rA H.size q_19 _ ([68, 114, 111, 112, 112, 101, 100, 46] : List Int32) σ_17 _ hu_20) (cwV 1 hts (g_gV wq_998 wq_999 wq_1000 wq_9 wq_1001) rfl rfl rfl (by decide +kernel) ⟨Nat.le_of_ble_eq_true rfl, Nat.le_of_ble_eq_true rfl⟩) (g_preV g_blS hK hPc hDc hS hE hFc (g_toS hSq_19 hS hFc) (q0 := 0) (ci := 5) rfl rfl) rfl rfl hl.1 rfl (lv_room (Nat.le_of_ble_eq_true rfl)) dX8_drop_49 ⟨Nat.le_of_ble_eq_true rfl, Nat.le_of_ble_eq_true rfl⟩) (fun u9 H locs hw9 hP' hD' hS => ?_)
    clear hPc hDc hFc
    obtain ⟨σ_22, eσ_22, hF_23⟩ := bnd_e hF_21
    clear hF_21
    have hP : va_P (dC, dI) vwCl (b_e cB cC cI cJ cZ oA rA σ_22 ++ b_k cB cC cI cJ cZ oA rA σ_22 ++ b_p cB cC cI cJ cZ oA rA σ_22 ++ b_o cB cC cI cJ cZ oA rA σ_22 ++ b_s cB cC cI cJ cZ oA rA σ_22 ++ b_c cB cC cI cJ cZ oA rA σ_22 ++ b_t cB cC cI cJ cZ oA rA σ_22 ++ b_d cB cC cI cJ cZ oA rA σ_22) H := by rw [eσ_22]; exact bx_P (bs := [b_e cB cC cI cJ cZ oA rA σ_17, b_k cB cC cI cJ cZ oA rA σ_17, b_p cB cC cI cJ cZ oA rA σ_17, b_s cB cC cI cJ cZ oA rA σ_17, b_c cB cC cI cJ cZ oA rA σ_17, b_t cB cC cI cJ cZ oA rA σ_17, b_d cB cC cI cJ cZ oA rA σ_17] ++ [b_o cB cC cI cJ cZ oA rA u_20.2]) (bs' := [b_e cB cC cI cJ cZ oA rA (mrg (fun j => j == 8) σ_17 u_20.2), b_k cB cC cI cJ cZ oA rA (mrg (fun j => j == 8) σ_17 u_20.2), b_p cB cC cI cJ cZ oA rA (mrg (fun j => j == 8) σ_17 u_20.2), b_o cB cC cI cJ cZ oA rA (mrg (fun j => j == 8) σ_17 u_20.2), b_s cB cC cI cJ cZ oA rA (mrg (fun j => j == 8) σ_17 u_20.2), b_c cB cC cI cJ cZ oA rA (mrg (fun j => j == 8) σ_17 u_20.2), b_t cB cC cI cJ cZ oA rA (mrg (fun j => j == 8) σ_17 u_20.2), b_d cB cC cI cJ cZ oA rA (mrg (fun j => j == 8) σ_17 u_20.2)]) hP' (fl_a fl_7 fl_1) fl_8 [0, 1, 2, 7, 3, 4, 5, 6] rfl
    clear hP' hD'
    have h9 := Option.some.inj hF_23
    subst h9
    exact W.vret hx hb hr (fun t ht hW => ⟨⟨(), rfl, trivial, m_end ht hP, hDD _⟩, hS.F ht⟩) hS.2.2 dX8_drop_52
  · have hF_4 := ipos c_3 hF_2
    clear hF_2
    refine lv_aload_n hx hb dX8_drop_11 rfl (lv_at hl 0 rfl) ?_
    refine va_get (D := (dC, dI)) (ci := 8) (v := .ref (oA 8)) (C := RX8) (T := TX8) (N := 16) hx hb hts ii_X8 hown hK hP 0 rfl rfl 1 (by decide) (hts (.fieldLink RX8 26 "StoryHouse$Teller" "told" "LStoryHouse$Out;") wq_287) (fun _ h9 => h9) rfl dX8_drop_12 ?_
    obtain ⟨q_5, vq_5, hRq_5, hSq_5⟩ := hE.2.2.2.2 _ (List.mem_of_getElem? (i := 55) rfl)
    refine g_ldcwS (own := RX8) (tx := "You do not have that.") hx hb hown hRq_5 dX8_drop_15 ?_
    obtain ⟨u_6, hu_6, hF_7⟩ := Option.bind_eq_some_iff.mp hF_4
    clear hF_4
    have hPc := bx_P (bs := [b_e cB cC cI cJ cZ oA rA u_1.2, b_k cB cC cI cJ cZ oA rA u_1.2, b_p cB cC cI cJ cZ oA rA u_1.2, b_o cB cC cI cJ cZ oA rA u_1.2, b_s cB cC cI cJ cZ oA rA u_1.2, b_c cB cC cI cJ cZ oA rA u_1.2, b_t cB cC cI cJ cZ oA rA u_1.2, b_d cB cC cI cJ cZ oA rA u_1.2]) (bs' := [b_o cB cC cI cJ cZ oA rA u_1.2]) (ws' := (b_o cB cC cI cJ cZ oA rA u_1.2)) hP fl_8 fl_1 [3] rfl
    have hDc := bx_D (bs := [b_e cB cC cI cJ cZ oA rA u_1.2, b_k cB cC cI cJ cZ oA rA u_1.2, b_p cB cC cI cJ cZ oA rA u_1.2, b_o cB cC cI cJ cZ oA rA u_1.2, b_s cB cC cI cJ cZ oA rA u_1.2, b_c cB cC cI cJ cZ oA rA u_1.2, b_t cB cC cI cJ cZ oA rA u_1.2, b_d cB cC cI cJ cZ oA rA u_1.2]) (bs' := [b_o cB cC cI cJ cZ oA rA u_1.2]) (ws' := (b_o cB cC cI cJ cZ oA rA u_1.2)) (hDD u_1.2) fl_8 fl_1 [3] (by decide +kernel) rfl
    have hFc := bx_F (bs := [b_e cB cC cI cJ cZ oA rA u_1.2, b_k cB cC cI cJ cZ oA rA u_1.2, b_p cB cC cI cJ cZ oA rA u_1.2, b_o cB cC cI cJ cZ oA rA u_1.2, b_s cB cC cI cJ cZ oA rA u_1.2, b_c cB cC cI cJ cZ oA rA u_1.2, b_t cB cC cI cJ cZ oA rA u_1.2, b_d cB cC cI cJ cZ oA rA u_1.2]) (bs' := [b_o cB cC cI cJ cZ oA rA u_1.2]) (wc := (b_o cB cC cI cJ cZ oA rA u_1.2)) (hDD u_1.2) hS hA fl_8 fl_1 [3] rfl
    refine g_ofv (wc := (b_o cB cC cI cJ cZ oA rA u_1.2)) (wr := (b_e cB cC cI cJ cZ oA rA u_1.2 ++ b_k cB cC cI cJ cZ oA rA u_1.2 ++ b_p cB cC cI cJ cZ oA rA u_1.2 ++ b_s cB cC cI cJ cZ oA rA u_1.2 ++ b_c cB cC cI cJ cZ oA rA u_1.2 ++ b_t cB cC cI cJ cZ oA rA u_1.2 ++ b_d cB cC cI cJ cZ oA rA u_1.2)) hP (hDD u_1.2) hS hFc (bx_ix [b_e cB cC cI cJ cZ oA rA u_1.2, b_k cB cC cI cJ cZ oA rA u_1.2, b_p cB cC cI cJ cZ oA rA u_1.2, b_o cB cC cI cJ cZ oA rA u_1.2, b_s cB cC cI cJ cZ oA rA u_1.2, b_c cB cC cI cJ cZ oA rA u_1.2, b_t cB cC cI cJ cZ oA rA u_1.2, b_d cB cC cI cJ cZ oA rA u_1.2] [3]) (bx_ix [b_e cB cC cI cJ cZ oA rA u_1.2, b_k cB cC cI cJ cZ oA rA u_1.2, b_p cB cC cI cJ cZ oA rA u_1.2, b_o cB cC cI cJ cZ oA rA u_1.2, b_s cB cC cI cJ cZ oA rA u_1.2, b_c cB cC cI cJ cZ oA rA u_1.2, b_t cB cC cI cJ cZ oA rA u_1.2, b_d cB cC cI cJ cZ oA rA u_1.2] [0, 1, 2, 4, 5, 6, 7]) (bx_C (bs := [b_e cB cC cI cJ cZ oA rA u_1.2, b_k cB cC cI cJ cZ oA rA u_1.2, b_p cB cC cI cJ cZ oA rA u_1.2, b_o cB cC cI cJ cZ oA rA u_1.2, b_s cB cC cI cJ cZ oA rA u_1.2, b_c cB cC cI cJ cZ oA rA u_1.2, b_t cB cC cI cJ cZ oA rA u_1.2, b_d cB cC cI cJ cZ oA rA u_1.2]) (bs' := [b_o cB cC cI cJ cZ oA rA u_1.2]) (is := [3]) fl_8 fl_1 rfl) (bx_C (bs := [b_e cB cC cI cJ cZ oA rA u_1.2, b_k cB cC cI cJ cZ oA rA u_1.2, b_p cB cC cI cJ cZ oA rA u_1.2, b_o cB cC cI cJ cZ oA rA u_1.2, b_s cB cC cI cJ cZ oA rA u_1.2, b_c cB cC cI cJ cZ oA rA u_1.2, b_t cB cC cI cJ cZ oA rA u_1.2, b_d cB cC cI cJ cZ oA rA u_1.2]) (bs' := [b_e cB cC cI cJ cZ oA rA u_1.2, b_k cB cC cI cJ cZ oA rA u_1.2, b_p cB cC cI cJ cZ oA rA u_1.2, b_s cB cC cI cJ cZ oA rA u_1.2, b_c cB cC cI cJ cZ oA rA u_1.2, b_t cB cC cI cJ cZ oA rA u_1.2, b_d cB cC cI cJ cZ oA rA u_1.2]) (is := [0, 1, 2, 4, 5, 6, 7]) fl_8 fl_7 rfl) (bx_n (by decide +kernel)) (bx_d (by decide +kernel)) (va_runV (As := [.ref q_5]) (rest := []) ⟨hx, hb, hml, hown, hts⟩ (k_X5_line l dC dI cB cC cI cJ cZ cP oA rA H.size q_5 _ ([89, 111, 117, 32, 100, 111, 32, 110, 111, 116, 32, 104, 97, 118, 101, 32, 116, 104, 97, 116, 46] : List Int32) u_1.2 _ hu_6) (cwV 1 hts (g_gV wq_998 wq_999 wq_1000 wq_9 wq_1001) rfl rfl rfl (by decide +kernel) ⟨Nat.le_of_ble_eq_true rfl, Nat.le_of_ble_eq_true rfl⟩) (g_preV g_blS hK hPc hDc hS hE hFc (g_toS hSq_5 hS hFc) (q0 := 0) (ci := 5) rfl rfl) rfl rfl hl.1 rfl (lv_room (Nat.le_of_ble_eq_true rfl)) dX8_drop_18 ⟨Nat.le_of_ble_eq_true rfl, Nat.le_of_ble_eq_true rfl⟩) (fun u9 H locs hw9 hP' hD' hS => ?_)
    clear hPc hDc hFc
    obtain ⟨σ_8, eσ_8, hF_9⟩ := bnd_e hF_7
    clear hF_7
    have hP : va_P (dC, dI) vwCl (b_e cB cC cI cJ cZ oA rA σ_8 ++ b_k cB cC cI cJ cZ oA rA σ_8 ++ b_p cB cC cI cJ cZ oA rA σ_8 ++ b_o cB cC cI cJ cZ oA rA σ_8 ++ b_s cB cC cI cJ cZ oA rA σ_8 ++ b_c cB cC cI cJ cZ oA rA σ_8 ++ b_t cB cC cI cJ cZ oA rA σ_8 ++ b_d cB cC cI cJ cZ oA rA σ_8) H := by rw [eσ_8]; exact bx_P (bs := [b_e cB cC cI cJ cZ oA rA u_1.2, b_k cB cC cI cJ cZ oA rA u_1.2, b_p cB cC cI cJ cZ oA rA u_1.2, b_s cB cC cI cJ cZ oA rA u_1.2, b_c cB cC cI cJ cZ oA rA u_1.2, b_t cB cC cI cJ cZ oA rA u_1.2, b_d cB cC cI cJ cZ oA rA u_1.2] ++ [b_o cB cC cI cJ cZ oA rA u_6.2]) (bs' := [b_e cB cC cI cJ cZ oA rA (mrg (fun j => j == 8) u_1.2 u_6.2), b_k cB cC cI cJ cZ oA rA (mrg (fun j => j == 8) u_1.2 u_6.2), b_p cB cC cI cJ cZ oA rA (mrg (fun j => j == 8) u_1.2 u_6.2), b_o cB cC cI cJ cZ oA rA (mrg (fun j => j == 8) u_1.2 u_6.2), b_s cB cC cI cJ cZ oA rA (mrg (fun j => j == 8) u_1.2 u_6.2), b_c cB cC cI cJ cZ oA rA (mrg (fun j => j == 8) u_1.2 u_6.2), b_t cB cC cI cJ cZ oA rA (mrg (fun j => j == 8) u_1.2 u_6.2), b_d cB cC cI cJ cZ oA rA (mrg (fun j => j == 8) u_1.2 u_6.2)]) hP' (fl_a fl_7 fl_1) fl_8 [0, 1, 2, 7, 3, 4, 5, 6] rfl
    clear hP' hD'
    refine lv_goto (tgt := 52) hx hb dX8_drop_21 (by decide) ?_
    have h9 := Option.some.inj hF_9
    subst h9
    exact W.vret hx hb hr (fun t ht hW => ⟨⟨(), rfl, trivial, m_end ht hP, hDD _⟩, hS.F ht⟩) hS.2.2 dX8_drop_52
