/-! methods of the class: what each does is its function -/
theorem dX6_takeOut_0 : decode cX6_takeOut 0 = .ok (.aload_n 0, 1) := by decide +kernel
theorem dX6_takeOut_1 : decode cX6_takeOut 1 = .ok (.getfield 9, 3) := by decide +kernel
theorem dX6_takeOut_4 : decode cX6_takeOut 4 = .ok (.iload_n 1, 1) := by decide +kernel
theorem dX6_takeOut_5 : decode cX6_takeOut 5 = .ok (.invokestatic 83, 3) := by decide +kernel
theorem dX6_takeOut_8 : decode cX6_takeOut 8 = .ok (.istore_n 2, 1) := by decide +kernel
theorem dX6_takeOut_9 : decode cX6_takeOut 9 = .ok (.iload_n 2, 1) := by decide +kernel
theorem dX6_takeOut_10 : decode cX6_takeOut 10 = .ok (.ifCond .ne 4, 3) := by decide +kernel
theorem dX6_takeOut_13 : decode cX6_takeOut 13 = .ok (.return_, 1) := by decide +kernel
theorem dX6_takeOut_14 : decode cX6_takeOut 14 = .ok (.aload_n 0, 1) := by decide +kernel
theorem dX6_takeOut_15 : decode cX6_takeOut 15 = .ok (.getfield 15, 3) := by decide +kernel
theorem dX6_takeOut_18 : decode cX6_takeOut 18 = .ok (.iload_n 2, 1) := by decide +kernel
theorem dX6_takeOut_19 : decode cX6_takeOut 19 = .ok (.invokestatic 83, 3) := by decide +kernel
theorem dX6_takeOut_22 : decode cX6_takeOut 22 = .ok (.iload_n 1, 1) := by decide +kernel
theorem dX6_takeOut_23 : decode cX6_takeOut 23 = .ok (.if_icmp .ne 22, 3) := by decide +kernel
theorem dX6_takeOut_26 : decode cX6_takeOut 26 = .ok (.aload_n 0, 1) := by decide +kernel
theorem dX6_takeOut_27 : decode cX6_takeOut 27 = .ok (.getfield 15, 3) := by decide +kernel
theorem dX6_takeOut_30 : decode cX6_takeOut 30 = .ok (.iload_n 2, 1) := by decide +kernel
theorem dX6_takeOut_31 : decode cX6_takeOut 31 = .ok (.aload_n 0, 1) := by decide +kernel
theorem dX6_takeOut_32 : decode cX6_takeOut 32 = .ok (.getfield 18, 3) := by decide +kernel
theorem dX6_takeOut_35 : decode cX6_takeOut 35 = .ok (.iload_n 1, 1) := by decide +kernel
theorem dX6_takeOut_36 : decode cX6_takeOut 36 = .ok (.invokestatic 83, 3) := by decide +kernel
theorem dX6_takeOut_39 : decode cX6_takeOut 39 = .ok (.invokestatic 91, 3) := by decide +kernel
theorem dX6_takeOut_42 : decode cX6_takeOut 42 = .ok (.goto 69, 3) := by decide +kernel
theorem dX6_takeOut_45 : decode cX6_takeOut 45 = .ok (.aload_n 0, 1) := by decide +kernel
theorem dX6_takeOut_46 : decode cX6_takeOut 46 = .ok (.getfield 15, 3) := by decide +kernel
theorem dX6_takeOut_49 : decode cX6_takeOut 49 = .ok (.iload_n 2, 1) := by decide +kernel
theorem dX6_takeOut_50 : decode cX6_takeOut 50 = .ok (.invokestatic 83, 3) := by decide +kernel
theorem dX6_takeOut_53 : decode cX6_takeOut 53 = .ok (.istore_n 3, 1) := by decide +kernel
theorem dX6_takeOut_54 : decode cX6_takeOut 54 = .ok (.iconst 0, 1) := by decide +kernel
theorem dX6_takeOut_55 : decode cX6_takeOut 55 = .ok (.istore 4, 2) := by decide +kernel
theorem dX6_takeOut_57 : decode cX6_takeOut 57 = .ok (.iload 4, 2) := by decide +kernel
theorem dX6_takeOut_59 : decode cX6_takeOut 59 = .ok (.bipush 120, 2) := by decide +kernel
theorem dX6_takeOut_61 : decode cX6_takeOut 61 = .ok (.if_icmp .ge 34, 3) := by decide +kernel
theorem dX6_takeOut_64 : decode cX6_takeOut 64 = .ok (.iload_n 3, 1) := by decide +kernel
theorem dX6_takeOut_65 : decode cX6_takeOut 65 = .ok (.ifCond .eq 30, 3) := by decide +kernel
theorem dX6_takeOut_68 : decode cX6_takeOut 68 = .ok (.aload_n 0, 1) := by decide +kernel
theorem dX6_takeOut_69 : decode cX6_takeOut 69 = .ok (.getfield 18, 3) := by decide +kernel
theorem dX6_takeOut_72 : decode cX6_takeOut 72 = .ok (.iload_n 3, 1) := by decide +kernel
theorem dX6_takeOut_73 : decode cX6_takeOut 73 = .ok (.invokestatic 83, 3) := by decide +kernel
theorem dX6_takeOut_76 : decode cX6_takeOut 76 = .ok (.iload_n 1, 1) := by decide +kernel
theorem dX6_takeOut_77 : decode cX6_takeOut 77 = .ok (.if_icmp .eq 18, 3) := by decide +kernel
theorem dX6_takeOut_80 : decode cX6_takeOut 80 = .ok (.aload_n 0, 1) := by decide +kernel
theorem dX6_takeOut_81 : decode cX6_takeOut 81 = .ok (.getfield 18, 3) := by decide +kernel
theorem dX6_takeOut_84 : decode cX6_takeOut 84 = .ok (.iload_n 3, 1) := by decide +kernel
theorem dX6_takeOut_85 : decode cX6_takeOut 85 = .ok (.invokestatic 83, 3) := by decide +kernel
theorem dX6_takeOut_88 : decode cX6_takeOut 88 = .ok (.istore_n 3, 1) := by decide +kernel
theorem dX6_takeOut_89 : decode cX6_takeOut 89 = .ok (.iinc 4 1, 3) := by decide +kernel
theorem dX6_takeOut_92 : decode cX6_takeOut 92 = .ok (.goto (-35), 3) := by decide +kernel
theorem dX6_takeOut_95 : decode cX6_takeOut 95 = .ok (.aload_n 0, 1) := by decide +kernel
theorem dX6_takeOut_96 : decode cX6_takeOut 96 = .ok (.getfield 18, 3) := by decide +kernel
theorem dX6_takeOut_99 : decode cX6_takeOut 99 = .ok (.iload_n 3, 1) := by decide +kernel
theorem dX6_takeOut_100 : decode cX6_takeOut 100 = .ok (.aload_n 0, 1) := by decide +kernel
theorem dX6_takeOut_101 : decode cX6_takeOut 101 = .ok (.getfield 18, 3) := by decide +kernel
theorem dX6_takeOut_104 : decode cX6_takeOut 104 = .ok (.iload_n 1, 1) := by decide +kernel
theorem dX6_takeOut_105 : decode cX6_takeOut 105 = .ok (.invokestatic 83, 3) := by decide +kernel
theorem dX6_takeOut_108 : decode cX6_takeOut 108 = .ok (.invokestatic 91, 3) := by decide +kernel
theorem dX6_takeOut_111 : decode cX6_takeOut 111 = .ok (.aload_n 0, 1) := by decide +kernel
theorem dX6_takeOut_112 : decode cX6_takeOut 112 = .ok (.getfield 18, 3) := by decide +kernel
theorem dX6_takeOut_115 : decode cX6_takeOut 115 = .ok (.iload_n 1, 1) := by decide +kernel
theorem dX6_takeOut_116 : decode cX6_takeOut 116 = .ok (.iconst 0, 1) := by decide +kernel
theorem dX6_takeOut_117 : decode cX6_takeOut 117 = .ok (.invokestatic 91, 3) := by decide +kernel
theorem dX6_takeOut_120 : decode cX6_takeOut 120 = .ok (.aload_n 0, 1) := by decide +kernel
theorem dX6_takeOut_121 : decode cX6_takeOut 121 = .ok (.getfield 9, 3) := by decide +kernel
theorem dX6_takeOut_124 : decode cX6_takeOut 124 = .ok (.iload_n 1, 1) := by decide +kernel
theorem dX6_takeOut_125 : decode cX6_takeOut 125 = .ok (.iconst 0, 1) := by decide +kernel
theorem dX6_takeOut_126 : decode cX6_takeOut 126 = .ok (.invokestatic 91, 3) := by decide +kernel
theorem dX6_takeOut_129 : decode cX6_takeOut 129 = .ok (.return_, 1) := by decide +kernel
def F_X6_takeOut (p0 : Int32) (Γ : HS) : HR :=
  bnd ((g_at 121 ((Γ 9).2.1 0) p0)) fun (x_1 : Int32) =>
  if x_1 = 0 then (
    some (0, Γ)
  ) else (
    bnd ((g_at 121 ((Γ 9).2.1 1) x_1)) fun (x_6 : Int32) =>
    bnd (fun  (σ_8 : HS) => (
      bnd (cA' σ_8 9 2 (g_put 121 ((σ_8 9).2.1 2) p0 0)) fun σ_12 =>
      bnd (cA' σ_12 9 0 (g_put 121 ((σ_12 9).2.1 0) p0 0)) fun σ_14 =>
      some (0, σ_14)
    ) : HS → HR) fun j_9 =>
    if x_6 = p0 then (
      bnd ((g_at 121 ((Γ 9).2.1 2) p0)) fun (x_18 : Int32) =>
      bnd (cA' Γ 9 1 (g_put 121 ((Γ 9).2.1 1) x_1 x_18)) fun σ_20 =>
      j_9  σ_20
    ) else (
      bnd ((g_at 121 ((Γ 9).2.1 1) x_1)) fun (x_23 : Int32) =>
      loopF (fun (again_26 : (Int32 × Int32 × HS) → HR) (s_25 : Int32 × Int32 × HS) => (
        bnd (fun  (σ_29 : HS) => (
          bnd ((g_at 121 ((σ_29 9).2.1 2) p0)) fun (x_33 : Int32) =>
          bnd (cA' σ_29 9 2 (g_put 121 ((σ_29 9).2.1 2) s_25.1 x_33)) fun σ_35 =>
          j_9  σ_35
        ) : HS → HR) fun j_30 =>
        if 120 ≤ s_25.2.1 then (
          j_30  s_25.2.2
        ) else (
          if s_25.1 = 0 then (
            j_30  s_25.2.2
          ) else (
            bnd ((g_at 121 ((s_25.2.2 9).2.1 2) s_25.1)) fun (x_43 : Int32) =>
            if x_43 = p0 then (
              j_30  s_25.2.2
            ) else (
              bnd ((g_at 121 ((s_25.2.2 9).2.1 2) s_25.1)) fun (x_48 : Int32) =>
              bnd (s_25.2.1 + 1) fun (x_50 : Int32) =>
              again_26 (x_48, x_50, s_25.2.2)
            )
          )
        )
      )) FU (x_23, 0, Γ)
    )
  )
set_option maxHeartbeats 4000000 in
set_option maxRecDepth 100000 in
theorem k_X6_takeOut (l : Launch) (dC : Nat → ClassId) (dI : Nat → Nat → Nat) (cB cC cI cJ cZ cP : ClassId) (oA : Nat → Nat) (rA : Nat → Nat → Nat) (sz : Nat)  (p0 : Int32) (Γ : HS) (res : Int32 × HS) (hF : F_X6_takeOut p0 Γ = some res) : Met l yX6_takeOut (g_ws yX6_takeOut cX6_takeOut 5 none) ({ frames := 3, cells := 0, slots := 0, locals := 82 }) (va_Pc [.ref (oA 9), .int p0] (g_B (dC, dI) [(cB, .byte), (cC, .char), (cI, .int), (cJ, .long), (cZ, .boolean), (cP, .object "StoryHouse$Play")] sz (b_p cB cC cI cJ cZ oA rA Γ) g_0)) (va_Qv (fun (_ : Unit) => True) (g_Bo (dC, dI) (va_A (b_p cB cC cI cJ cZ oA rA Γ) sz) (fun (_ : Unit) => (b_p cB cC cI cJ cZ oA rA res.2))) (va_A (b_p cB cC cI cJ cZ oA rA Γ) sz)) 0 0 (va_A (b_p cB cC cI cJ cZ oA rA Γ) sz) := by
  refine Met.ofW (cc := cX6_takeOut) (maxL := 5) (ret := none) (by decide) rfl ?_
  intro p e s m args below meth c s₁ B hml hv
  obtain ⟨rfl, hsz, hP, hK, hD0, hE, hX⟩ := hv
  have hx := B.exec
  have hb := B.bytes
  have hr := B.returns
  have hts0 := atoms_spec (ws := g_ws yX6_takeOut cX6_takeOut 5 none) B.pre
  have hts : ∀ w ∈ lw_good, w.before ([.ref (oA 9), .int p0] : List Value).toArray s = true := fun w z => hts0 w (List.mem_cons_of_mem _ z)
  have hown : s.vm.findClass RX6 = some m.cls := findClass_of_methodNamed B.named
  have hlocks := B.notSynchronized
  subst hsz
  have hD1 := hD0.self (sz := s.heap.size)
  generalize hAe : va_A (b_p cB cC cI cJ cZ oA rA Γ) s.heap.size = A at hD1 hE hX ⊢
  have hA : ∀ q : Nat, s.heap.size ≤ q → A q := fun q z => by rw [← hAe]; exact Or.inr z
  have hDD : ∀ Γ : HS, va_D A (b_p cB cC cI cJ cZ oA rA Γ) := fun Γ9 => va_D_fst (ws := (b_p cB cC cI cJ cZ oA rA Γ)) (ws' := (b_p cB cC cI cJ cZ oA rA Γ9)) rfl hD1
  have hN := hE.1
  have hS : va_S A s.heap s.heap [] := va_S.rf
  have hl := lv_entry ([.ref (oA 9), .int p0]) (n := 5) (Nat.le_of_ble_eq_true rfl)
  rw [lg_entry_eq]
  generalize (lg_sl ([.ref (oA 9), .int p0]) ++ List.replicate (5 - (lg_sl ([.ref (oA 9), .int p0])).length) Slot.unset).toArray = ls at hl ⊢
  have hl : lv_has ls 5 [(0, .ref (oA 9)), (1, .int p0)] := hl
  unfold F_X6_takeOut at hF
  refine lv_aload_n hx hb dX6_takeOut_0 rfl (lv_at hl 0 rfl) ?_
  refine va_get (D := (dC, dI)) (ci := 6) (v := .ref (rA 9 0)) (C := RX6) (T := TX6) (N := 12) hx hb hts ii_X6 hown hK hP 0 rfl rfl 0 (by decide) (hts (.fieldLink RX6 9 "StoryHouse$Play" "parents" "[I") wq_217) (fun _ h9 => h9) rfl dX6_takeOut_1 ?_
  refine lv_iload_n hx hb dX6_takeOut_4 rfl (lv_at hl 1 rfl) ?_
  have hq9 : ((b_p cB cC cI cJ cZ oA rA Γ))[1]? = some (rA 9 0, .inl (cI, 121, .inl ((Γ 9).2.1 0))) := rfl
  have hPc := hP.sub (ws' := [(rA 9 0, .inl (cI, 121, .inl ((Γ 9).2.1 0)))]) [1] (pk_fm (er_C hq9))
  have hDc := (hDD Γ).sub (ws' := [(rA 9 0, .inl (cI, 121, .inl ((Γ 9).2.1 0)))]) [1] (by decide +kernel) (er_C hq9)
  have hFc := va_free (wc := [(rA 9 0, .inl (cI, 121, .inl ((Γ 9).2.1 0)))]) (hDD Γ) hS hA [1] (er_C hq9)
  refine g_ofi (wc := [(rA 9 0, .inl (cI, 121, .inl ((Γ 9).2.1 0)))]) (wr := (((b_p cB cC cI cJ cZ oA rA Γ)).eraseIdx 1)) hP (hDD Γ) hS hFc [1] ((List.range ((b_p cB cC cI cJ cZ oA rA Γ)).length).eraseIdx 1) (er_C hq9) er_R er_n er_d (va_runSN (As := [.ref (rA 9 0), .int p0]) (rest := []) ⟨hx, hb, hml, hown, hts⟩ (c_X11_at l dC dI cB cC cI cJ cZ cP s.heap.size (rA 9 0) p0 121 ((Γ 9).2.1 0) (by decide)) ⟨va_cnB 2 hts (g_gA wq_407) rfl rfl rfl (nw_28 hN) (hts (.initialized RX11) wq_1) (by decide +kernel) ⟨Nat.le_of_ble_eq_true rfl, Nat.le_of_ble_eq_true rfl⟩, (hts (.static yX11_at) wq_406), trivial⟩ (g_preS g_bl0 hK hPc hDc hS hE hFc g_to0) rfl rfl hl.1 rfl (lv_room (Nat.le_of_ble_eq_true rfl)) dX6_takeOut_5 ⟨Nat.le_of_ble_eq_true rfl, Nat.le_of_ble_eq_true rfl⟩) (fun r9 u9 H locs hw9 hP' hD' hS => ?_)
  clear hPc hDc hFc hD'
  have hP : va_P (dC, dI) vwCl (b_p cB cC cI cJ cZ oA rA Γ) H := er_I hP' hq9
  clear hP' hq9
  subst hw9
  obtain ⟨x_1, ex_1, hF_2⟩ := bnd_e hF
  clear hF
  refine m_top ex_1 ?_
  refine lv_istore_n (lv' := [(2, .int x_1), (0, .ref (oA 9)), (1, .int p0)]) hx hb dX6_takeOut_8 rfl hl (by decide) rfl (fun ls hl => ?_)
  refine lv_iload_n hx hb dX6_takeOut_9 rfl (lv_at hl 0 rfl) ?_
  refine lv_if_ne (tgt := 14) hx hb dX6_takeOut_10 (by decide) (fun c_3 => ?_) (fun c_3 => ?_)
  · have hF_5 := ineg c_3 hF_2
    clear hF_2
    refine lv_aload_n hx hb dX6_takeOut_14 rfl (lv_at hl 1 rfl) ?_
    refine va_get (D := (dC, dI)) (ci := 6) (v := .ref (rA 9 1)) (C := RX6) (T := TX6) (N := 12) hx hb hts ii_X6 hown hK hP 0 rfl rfl 1 (by decide) (hts (.fieldLink RX6 15 "StoryHouse$Play" "firsts" "[I") wq_221) (fun _ h9 => h9) rfl dX6_takeOut_15 ?_
    refine lv_iload_n hx hb dX6_takeOut_18 rfl (lv_at hl 0 rfl) ?_
    have hq9 : ((b_p cB cC cI cJ cZ oA rA Γ))[2]? = some (rA 9 1, .inl (cI, 121, .inl ((Γ 9).2.1 1))) := rfl
    have hPc := hP.sub (ws' := [(rA 9 1, .inl (cI, 121, .inl ((Γ 9).2.1 1)))]) [2] (pk_fm (er_C hq9))
    have hDc := (hDD Γ).sub (ws' := [(rA 9 1, .inl (cI, 121, .inl ((Γ 9).2.1 1)))]) [2] (by decide +kernel) (er_C hq9)
    have hFc := va_free (wc := [(rA 9 1, .inl (cI, 121, .inl ((Γ 9).2.1 1)))]) (hDD Γ) hS hA [2] (er_C hq9)
    refine g_ofi (wc := [(rA 9 1, .inl (cI, 121, .inl ((Γ 9).2.1 1)))]) (wr := (((b_p cB cC cI cJ cZ oA rA Γ)).eraseIdx 2)) hP (hDD Γ) hS hFc [2] ((List.range ((b_p cB cC cI cJ cZ oA rA Γ)).length).eraseIdx 2) (er_C hq9) er_R er_n er_d (va_runSN (As := [.ref (rA 9 1), .int x_1]) (rest := []) ⟨hx, hb, hml, hown, hts⟩ (c_X11_at l dC dI cB cC cI cJ cZ cP H.size (rA 9 1) x_1 121 ((Γ 9).2.1 1) (by decide)) ⟨va_cnB 2 hts (g_gA wq_407) rfl rfl rfl (nw_28 hN) (hts (.initialized RX11) wq_1) (by decide +kernel) ⟨Nat.le_of_ble_eq_true rfl, Nat.le_of_ble_eq_true rfl⟩, (hts (.static yX11_at) wq_406), trivial⟩ (g_preS g_bl0 hK hPc hDc hS hE hFc g_to0) rfl rfl hl.1 rfl (lv_room (Nat.le_of_ble_eq_true rfl)) dX6_takeOut_19 ⟨Nat.le_of_ble_eq_true rfl, Nat.le_of_ble_eq_true rfl⟩) (fun r9 u9 H locs hw9 hP' hD' hS => ?_)
    clear hPc hDc hFc hD'
    have hP : va_P (dC, dI) vwCl (b_p cB cC cI cJ cZ oA rA Γ) H := er_I hP' hq9
    clear hP' hq9
    subst hw9
    obtain ⟨x_6, ex_6, hF_7⟩ := bnd_e hF_5
    clear hF_5
    refine m_top ex_6 ?_
    refine lv_iload_n hx hb dX6_takeOut_22 rfl (lv_at hl 2 rfl) ?_
    obtain ⟨j_9, ej_9, hF_10⟩ := bnd_e hF_7
    clear hF_7
    have Jj_9 : ∀  (σ_8 : HS), j_9  σ_8 = some res → ∀ (H : Heap) (locs : List Loc), va_P (dC, dI) vwCl (b_p cB cC cI cJ cZ oA rA σ_8) H → va_S A s.heap H locs → ∀ ls : Array Slot, lv_has ls 5 [(0, .ref (oA 9)), (1, .int p0)] → W p l e (headSpec (g_ws yX6_takeOut cX6_takeOut 5 none) { frames := 3, cells := 0, slots := 0, locals := 82 }).room s m ([.ref (oA 9), .int p0] : List Value).toArray below meth c H locs 0 0 (MQ below (va_Qv (fun (_ : Unit) => True) (g_Bo (dC, dI) A (fun (_ : Unit) => (b_p cB cC cI cJ cZ oA rA res.2))) A) ([.ref (oA 9), .int p0] : List Value).toArray s 0 0 A) (F0 m 111 ls []) := by
      intro  σ_8 hF0 H locs hP hS ls hl
      subst ej_9
      have hF_11 := hF0
      clear hF0
      refine lv_aload_n hx hb dX6_takeOut_111 rfl (lv_at hl 0 rfl) ?_
      refine va_get (D := (dC, dI)) (ci := 6) (v := .ref (rA 9 2)) (C := RX6) (T := TX6) (N := 12) hx hb hts ii_X6 hown hK hP 0 rfl rfl 2 (by decide) (hts (.fieldLink RX6 18 "StoryHouse$Play" "nexts" "[I") wq_225) (fun _ h9 => h9) rfl dX6_takeOut_112 ?_
      refine lv_iload_n hx hb dX6_takeOut_115 rfl (lv_at hl 1 rfl) ?_
      refine lv_iconst (v := 0) hx hb dX6_takeOut_116 (by decide +kernel) ?_
      have hq9 : ((b_p cB cC cI cJ cZ oA rA σ_8))[3]? = some (rA 9 2, .inl (cI, 121, .inl ((σ_8 9).2.1 2))) := rfl
      have hPc := hP.sub (ws' := [(rA 9 2, .inl (cI, 121, .inl ((σ_8 9).2.1 2)))]) [3] (pk_fm (er_C hq9))
      have hDc := (hDD σ_8).sub (ws' := [(rA 9 2, .inl (cI, 121, .inl ((σ_8 9).2.1 2)))]) [3] (by decide +kernel) (er_C hq9)
      have hFc := va_free (wc := [(rA 9 2, .inl (cI, 121, .inl ((σ_8 9).2.1 2)))]) (hDD σ_8) hS hA [3] (er_C hq9)
      refine g_ofv (wc := [(rA 9 2, .inl (cI, 121, .inl ((σ_8 9).2.1 2)))]) (wr := (((b_p cB cC cI cJ cZ oA rA σ_8)).eraseIdx 3)) hP (hDD σ_8) hS hFc [3] ((List.range ((b_p cB cC cI cJ cZ oA rA σ_8)).length).eraseIdx 3) (er_C hq9) er_R er_n er_d (va_runSN (As := [.ref (rA 9 2), .int p0, .int 0]) (rest := []) ⟨hx, hb, hml, hown, hts⟩ (c_X11_put l dC dI cB cC cI cJ cZ cP H.size (rA 9 2) p0 0 121 ((σ_8 9).2.1 2) (by decide)) ⟨va_cnB 3 hts (g_gA wq_412) rfl rfl rfl (nw_29 hN) (hts (.initialized RX11) wq_1) (by decide +kernel) ⟨Nat.le_of_ble_eq_true rfl, Nat.le_of_ble_eq_true rfl⟩, (hts (.static yX11_put) wq_411), trivial⟩ (g_preS g_bl0 hK hPc hDc hS hE hFc g_to0) rfl rfl hl.1 rfl (lv_room (Nat.le_of_ble_eq_true rfl)) dX6_takeOut_117 ⟨Nat.le_of_ble_eq_true rfl, Nat.le_of_ble_eq_true rfl⟩) (fun g9 H locs hw9 hP' hD' hS => ?_)
      clear hPc hDc hFc hD'
      obtain ⟨σ_12, eσ_12, hF_13⟩ := bnd_e hF_11
      clear hF_11
      subst hw9
      have hP : va_P (dC, dI) vwCl (b_p cB cC cI cJ cZ oA rA σ_12) H := by rw [eσ_12]; exact cs_p_p_2 ▸ er_P hP' (er_lt hq9)
      clear hP' hq9
      refine lv_aload_n hx hb dX6_takeOut_120 rfl (lv_at hl 0 rfl) ?_
      refine va_get (D := (dC, dI)) (ci := 6) (v := .ref (rA 9 0)) (C := RX6) (T := TX6) (N := 12) hx hb hts ii_X6 hown hK hP 0 rfl rfl 0 (by decide) (hts (.fieldLink RX6 9 "StoryHouse$Play" "parents" "[I") wq_217) (fun _ h9 => h9) rfl dX6_takeOut_121 ?_
      refine lv_iload_n hx hb dX6_takeOut_124 rfl (lv_at hl 1 rfl) ?_
      refine lv_iconst (v := 0) hx hb dX6_takeOut_125 (by decide +kernel) ?_
      have hq9 : ((b_p cB cC cI cJ cZ oA rA σ_12))[1]? = some (rA 9 0, .inl (cI, 121, .inl ((σ_12 9).2.1 0))) := rfl
      have hPc := hP.sub (ws' := [(rA 9 0, .inl (cI, 121, .inl ((σ_12 9).2.1 0)))]) [1] (pk_fm (er_C hq9))
      have hDc := (hDD σ_12).sub (ws' := [(rA 9 0, .inl (cI, 121, .inl ((σ_12 9).2.1 0)))]) [1] (by decide +kernel) (er_C hq9)
      have hFc := va_free (wc := [(rA 9 0, .inl (cI, 121, .inl ((σ_12 9).2.1 0)))]) (hDD σ_12) hS hA [1] (er_C hq9)
      refine g_ofv (wc := [(rA 9 0, .inl (cI, 121, .inl ((σ_12 9).2.1 0)))]) (wr := (((b_p cB cC cI cJ cZ oA rA σ_12)).eraseIdx 1)) hP (hDD σ_12) hS hFc [1] ((List.range ((b_p cB cC cI cJ cZ oA rA σ_12)).length).eraseIdx 1) (er_C hq9) er_R er_n er_d (va_runSN (As := [.ref (rA 9 0), .int p0, .int 0]) (rest := []) ⟨hx, hb, hml, hown, hts⟩ (c_X11_put l dC dI cB cC cI cJ cZ cP H.size (rA 9 0) p0 0 121 ((σ_12 9).2.1 0) (by decide)) ⟨va_cnB 3 hts (g_gA wq_412) rfl rfl rfl (nw_29 hN) (hts (.initialized RX11) wq_1) (by decide +kernel) ⟨Nat.le_of_ble_eq_true rfl, Nat.le_of_ble_eq_true rfl⟩, (hts (.static yX11_put) wq_411), trivial⟩ (g_preS g_bl0 hK hPc hDc hS hE hFc g_to0) rfl rfl hl.1 rfl (lv_room (Nat.le_of_ble_eq_true rfl)) dX6_takeOut_126 ⟨Nat.le_of_ble_eq_true rfl, Nat.le_of_ble_eq_true rfl⟩) (fun g9 H locs hw9 hP' hD' hS => ?_)
      clear hPc hDc hFc hD'
      obtain ⟨σ_14, eσ_14, hF_15⟩ := bnd_e hF_13
      clear hF_13
      subst hw9
      have hP : va_P (dC, dI) vwCl (b_p cB cC cI cJ cZ oA rA σ_14) H := by rw [eσ_14]; exact cs_p_p_0 ▸ er_P hP' (er_lt hq9)
      clear hP' hq9
      have h9 := Option.some.inj hF_15
      subst h9
      exact W.vret hx hb hr (fun t ht hW => ⟨⟨(), rfl, trivial, m_end ht hP, hDD _⟩, hS.F ht⟩) hS.2.2 dX6_takeOut_129
    refine lv_icmp_ne (tgt := 45) hx hb dX6_takeOut_23 (by decide) (fun c_16 => ?_) (fun c_16 => ?_)
    · have hF_22 := ineg c_16 hF_10
      clear hF_10
      refine lv_aload_n hx hb dX6_takeOut_45 rfl (lv_at hl 1 rfl) ?_
      refine va_get (D := (dC, dI)) (ci := 6) (v := .ref (rA 9 1)) (C := RX6) (T := TX6) (N := 12) hx hb hts ii_X6 hown hK hP 0 rfl rfl 1 (by decide) (hts (.fieldLink RX6 15 "StoryHouse$Play" "firsts" "[I") wq_221) (fun _ h9 => h9) rfl dX6_takeOut_46 ?_
      refine lv_iload_n hx hb dX6_takeOut_49 rfl (lv_at hl 0 rfl) ?_
      have hq9 : ((b_p cB cC cI cJ cZ oA rA Γ))[2]? = some (rA 9 1, .inl (cI, 121, .inl ((Γ 9).2.1 1))) := rfl
      have hPc := hP.sub (ws' := [(rA 9 1, .inl (cI, 121, .inl ((Γ 9).2.1 1)))]) [2] (pk_fm (er_C hq9))
      have hDc := (hDD Γ).sub (ws' := [(rA 9 1, .inl (cI, 121, .inl ((Γ 9).2.1 1)))]) [2] (by decide +kernel) (er_C hq9)
      have hFc := va_free (wc := [(rA 9 1, .inl (cI, 121, .inl ((Γ 9).2.1 1)))]) (hDD Γ) hS hA [2] (er_C hq9)
      refine g_ofi (wc := [(rA 9 1, .inl (cI, 121, .inl ((Γ 9).2.1 1)))]) (wr := (((b_p cB cC cI cJ cZ oA rA Γ)).eraseIdx 2)) hP (hDD Γ) hS hFc [2] ((List.range ((b_p cB cC cI cJ cZ oA rA Γ)).length).eraseIdx 2) (er_C hq9) er_R er_n er_d (va_runSN (As := [.ref (rA 9 1), .int x_1]) (rest := []) ⟨hx, hb, hml, hown, hts⟩ (c_X11_at l dC dI cB cC cI cJ cZ cP H.size (rA 9 1) x_1 121 ((Γ 9).2.1 1) (by decide)) ⟨va_cnB 2 hts (g_gA wq_407) rfl rfl rfl (nw_28 hN) (hts (.initialized RX11) wq_1) (by decide +kernel) ⟨Nat.le_of_ble_eq_true rfl, Nat.le_of_ble_eq_true rfl⟩, (hts (.static yX11_at) wq_406), trivial⟩ (g_preS g_bl0 hK hPc hDc hS hE hFc g_to0) rfl rfl hl.1 rfl (lv_room (Nat.le_of_ble_eq_true rfl)) dX6_takeOut_50 ⟨Nat.le_of_ble_eq_true rfl, Nat.le_of_ble_eq_true rfl⟩) (fun r9 u9 H locs hw9 hP' hD' hS => ?_)
      clear hPc hDc hFc hD'
      have hP : va_P (dC, dI) vwCl (b_p cB cC cI cJ cZ oA rA Γ) H := er_I hP' hq9
      clear hP' hq9
      subst hw9
      obtain ⟨x_23, ex_23, hF_24⟩ := bnd_e hF_22
      clear hF_22
      refine m_top ex_23 ?_
      refine lv_istore_n (lv' := [(3, .int x_23), (2, .int x_1), (0, .ref (oA 9)), (1, .int p0)]) hx hb dX6_takeOut_53 rfl hl (by decide) rfl (fun ls hl => ?_)
      refine lv_iconst (v := 0) hx hb dX6_takeOut_54 (by decide +kernel) ?_
      refine lv_istore (lv' := [(4, .int 0), (3, .int x_23), (2, .int x_1), (0, .ref (oA 9)), (1, .int p0)]) hx hb dX6_takeOut_55 hl (by decide) rfl (fun ls hl => ?_)
      refine loopF_ind (P := fun (s_25 : Int32 × Int32 × HS) => ∀ (H : Heap) (locs : List Loc), va_P (dC, dI) vwCl (b_p cB cC cI cJ cZ oA rA s_25.2.2) H → va_S A s.heap H locs → ∀ ls : Array Slot, lv_has ls 5 [(0, .ref (oA 9)), (1, .int p0), (3, .int s_25.1), (4, .int s_25.2.1)] → W p l e (headSpec (g_ws yX6_takeOut cX6_takeOut 5 none) { frames := 3, cells := 0, slots := 0, locals := 82 }).room s m ([.ref (oA 9), .int p0] : List Value).toArray below meth c H locs 0 0 (MQ below (va_Qv (fun (_ : Unit) => True) (g_Bo (dC, dI) A (fun (_ : Unit) => (b_p cB cC cI cJ cZ oA rA res.2))) A) ([.ref (oA 9), .int p0] : List Value).toArray s 0 0 A) (F0 m 57 ls [])) ?_ _ _ hF_24 _ _ hP hS ls (lv_sub hl [3, 4, 1, 0] rfl)
      intro again_26 s_25 ih_27 hF_28
      intro H locs hP hS ls hl
      refine lv_iload hx hb dX6_takeOut_57 (lv_at hl 3 rfl) ?_
      refine lv_bipush (v := 120) hx hb dX6_takeOut_59 (by decide +kernel) ?_
      obtain ⟨j_30, ej_30, hF_31⟩ := bnd_e hF_28
      clear hF_28
      have Jj_30 : ∀  (σ_29 : HS), j_30  σ_29 = some res → ∀ (H : Heap) (locs : List Loc), va_P (dC, dI) vwCl (b_p cB cC cI cJ cZ oA rA σ_29) H → va_S A s.heap H locs → ∀ ls : Array Slot, lv_has ls 5 [(0, .ref (oA 9)), (1, .int p0), (3, .int s_25.1)] → W p l e (headSpec (g_ws yX6_takeOut cX6_takeOut 5 none) { frames := 3, cells := 0, slots := 0, locals := 82 }).room s m ([.ref (oA 9), .int p0] : List Value).toArray below meth c H locs 0 0 (MQ below (va_Qv (fun (_ : Unit) => True) (g_Bo (dC, dI) A (fun (_ : Unit) => (b_p cB cC cI cJ cZ oA rA res.2))) A) ([.ref (oA 9), .int p0] : List Value).toArray s 0 0 A) (F0 m 95 ls []) := by
        intro  σ_29 hF0 H locs hP hS ls hl
        subst ej_30
        have hF_32 := hF0
        clear hF0
        refine lv_aload_n hx hb dX6_takeOut_95 rfl (lv_at hl 0 rfl) ?_
        refine va_get (D := (dC, dI)) (ci := 6) (v := .ref (rA 9 2)) (C := RX6) (T := TX6) (N := 12) hx hb hts ii_X6 hown hK hP 0 rfl rfl 2 (by decide) (hts (.fieldLink RX6 18 "StoryHouse$Play" "nexts" "[I") wq_225) (fun _ h9 => h9) rfl dX6_takeOut_96 ?_
        refine lv_iload_n hx hb dX6_takeOut_99 rfl (lv_at hl 2 rfl) ?_
        refine lv_aload_n hx hb dX6_takeOut_100 rfl (lv_at hl 0 rfl) ?_
        refine va_get (D := (dC, dI)) (ci := 6) (v := .ref (rA 9 2)) (C := RX6) (T := TX6) (N := 12) hx hb hts ii_X6 hown hK hP 0 rfl rfl 2 (by decide) (hts (.fieldLink RX6 18 "StoryHouse$Play" "nexts" "[I") wq_225) (fun _ h9 => h9) rfl dX6_takeOut_101 ?_
        refine lv_iload_n hx hb dX6_takeOut_104 rfl (lv_at hl 1 rfl) ?_
        have hq9 : ((b_p cB cC cI cJ cZ oA rA σ_29))[3]? = some (rA 9 2, .inl (cI, 121, .inl ((σ_29 9).2.1 2))) := rfl
        have hPc := hP.sub (ws' := [(rA 9 2, .inl (cI, 121, .inl ((σ_29 9).2.1 2)))]) [3] (pk_fm (er_C hq9))
        have hDc := (hDD σ_29).sub (ws' := [(rA 9 2, .inl (cI, 121, .inl ((σ_29 9).2.1 2)))]) [3] (by decide +kernel) (er_C hq9)
        have hFc := va_free (wc := [(rA 9 2, .inl (cI, 121, .inl ((σ_29 9).2.1 2)))]) (hDD σ_29) hS hA [3] (er_C hq9)
        refine g_ofi (wc := [(rA 9 2, .inl (cI, 121, .inl ((σ_29 9).2.1 2)))]) (wr := (((b_p cB cC cI cJ cZ oA rA σ_29)).eraseIdx 3)) hP (hDD σ_29) hS hFc [3] ((List.range ((b_p cB cC cI cJ cZ oA rA σ_29)).length).eraseIdx 3) (er_C hq9) er_R er_n er_d (va_runSN (As := [.ref (rA 9 2), .int p0]) (rest := [.int s_25.1, .ref (rA 9 2)]) ⟨hx, hb, hml, hown, hts⟩ (c_X11_at l dC dI cB cC cI cJ cZ cP H.size (rA 9 2) p0 121 ((σ_29 9).2.1 2) (by decide)) ⟨va_cnB 2 hts (g_gA wq_407) rfl rfl rfl (nw_28 hN) (hts (.initialized RX11) wq_1) (by decide +kernel) ⟨Nat.le_of_ble_eq_true rfl, Nat.le_of_ble_eq_true rfl⟩, (hts (.static yX11_at) wq_406), trivial⟩ (g_preS g_bl0 hK hPc hDc hS hE hFc g_to0) rfl rfl hl.1 rfl (lv_room (Nat.le_of_ble_eq_true rfl)) dX6_takeOut_105 ⟨Nat.le_of_ble_eq_true rfl, Nat.le_of_ble_eq_true rfl⟩) (fun r9 u9 H locs hw9 hP' hD' hS => ?_)
        clear hPc hDc hFc hD'
        have hP : va_P (dC, dI) vwCl (b_p cB cC cI cJ cZ oA rA σ_29) H := er_I hP' hq9
        clear hP' hq9
        subst hw9
        obtain ⟨x_33, ex_33, hF_34⟩ := bnd_e hF_32
        clear hF_32
        refine m_top ex_33 ?_
        have hq9 : ((b_p cB cC cI cJ cZ oA rA σ_29))[3]? = some (rA 9 2, .inl (cI, 121, .inl ((σ_29 9).2.1 2))) := rfl
        have hPc := hP.sub (ws' := [(rA 9 2, .inl (cI, 121, .inl ((σ_29 9).2.1 2)))]) [3] (pk_fm (er_C hq9))
        have hDc := (hDD σ_29).sub (ws' := [(rA 9 2, .inl (cI, 121, .inl ((σ_29 9).2.1 2)))]) [3] (by decide +kernel) (er_C hq9)
        have hFc := va_free (wc := [(rA 9 2, .inl (cI, 121, .inl ((σ_29 9).2.1 2)))]) (hDD σ_29) hS hA [3] (er_C hq9)
        refine g_ofv (wc := [(rA 9 2, .inl (cI, 121, .inl ((σ_29 9).2.1 2)))]) (wr := (((b_p cB cC cI cJ cZ oA rA σ_29)).eraseIdx 3)) hP (hDD σ_29) hS hFc [3] ((List.range ((b_p cB cC cI cJ cZ oA rA σ_29)).length).eraseIdx 3) (er_C hq9) er_R er_n er_d (va_runSN (As := [.ref (rA 9 2), .int s_25.1, .int x_33]) (rest := []) ⟨hx, hb, hml, hown, hts⟩ (c_X11_put l dC dI cB cC cI cJ cZ cP H.size (rA 9 2) s_25.1 x_33 121 ((σ_29 9).2.1 2) (by decide)) ⟨va_cnB 3 hts (g_gA wq_412) rfl rfl rfl (nw_29 hN) (hts (.initialized RX11) wq_1) (by decide +kernel) ⟨Nat.le_of_ble_eq_true rfl, Nat.le_of_ble_eq_true rfl⟩, (hts (.static yX11_put) wq_411), trivial⟩ (g_preS g_bl0 hK hPc hDc hS hE hFc g_to0) rfl rfl hl.1 rfl (lv_room (Nat.le_of_ble_eq_true rfl)) dX6_takeOut_108 ⟨Nat.le_of_ble_eq_true rfl, Nat.le_of_ble_eq_true rfl⟩) (fun g9 H locs hw9 hP' hD' hS => ?_)
        clear hPc hDc hFc hD'
        obtain ⟨σ_35, eσ_35, hF_36⟩ := bnd_e hF_34
        clear hF_34
        subst hw9
        have hP : va_P (dC, dI) vwCl (b_p cB cC cI cJ cZ oA rA σ_35) H := by rw [eσ_35]; exact cs_p_p_2 ▸ er_P hP' (er_lt hq9)
        clear hP' hq9
        exact Jj_9  σ_35 hF_36 _ _ hP hS ls (lv_sub hl [0, 1] rfl)
      refine lv_icmp_ge (tgt := 95) hx hb dX6_takeOut_61 (by decide) (fun c_37 => ?_) (fun c_37 => ?_)
      · have hF_38 := ipos c_37 hF_31
        clear hF_31
        exact Jj_30  s_25.2.2 hF_38 _ _ hP hS ls (lv_sub hl [0, 1, 2] rfl)
      · have hF_39 := ineg c_37 hF_31
        clear hF_31
        refine lv_iload_n hx hb dX6_takeOut_64 rfl (lv_at hl 2 rfl) ?_
        refine lv_if_eq (tgt := 95) hx hb dX6_takeOut_65 (by decide) (fun c_40 => ?_) (fun c_40 => ?_)
        · have hF_41 := ipos c_40 hF_39
          clear hF_39
          exact Jj_30  s_25.2.2 hF_41 _ _ hP hS ls (lv_sub hl [0, 1, 2] rfl)
        · have hF_42 := ineg c_40 hF_39
          clear hF_39
          refine lv_aload_n hx hb dX6_takeOut_68 rfl (lv_at hl 0 rfl) ?_
          refine va_get (D := (dC, dI)) (ci := 6) (v := .ref (rA 9 2)) (C := RX6) (T := TX6) (N := 12) hx hb hts ii_X6 hown hK hP 0 rfl rfl 2 (by decide) (hts (.fieldLink RX6 18 "StoryHouse$Play" "nexts" "[I") wq_225) (fun _ h9 => h9) rfl dX6_takeOut_69 ?_
          refine lv_iload_n hx hb dX6_takeOut_72 rfl (lv_at hl 2 rfl) ?_
          have hq9 : ((b_p cB cC cI cJ cZ oA rA s_25.2.2))[3]? = some (rA 9 2, .inl (cI, 121, .inl ((s_25.2.2 9).2.1 2))) := rfl
          have hPc := hP.sub (ws' := [(rA 9 2, .inl (cI, 121, .inl ((s_25.2.2 9).2.1 2)))]) [3] (pk_fm (er_C hq9))
          have hDc := (hDD s_25.2.2).sub (ws' := [(rA 9 2, .inl (cI, 121, .inl ((s_25.2.2 9).2.1 2)))]) [3] (by decide +kernel) (er_C hq9)
          have hFc := va_free (wc := [(rA 9 2, .inl (cI, 121, .inl ((s_25.2.2 9).2.1 2)))]) (hDD s_25.2.2) hS hA [3] (er_C hq9)
          refine g_ofi (wc := [(rA 9 2, .inl (cI, 121, .inl ((s_25.2.2 9).2.1 2)))]) (wr := (((b_p cB cC cI cJ cZ oA rA s_25.2.2)).eraseIdx 3)) hP (hDD s_25.2.2) hS hFc [3] ((List.range ((b_p cB cC cI cJ cZ oA rA s_25.2.2)).length).eraseIdx 3) (er_C hq9) er_R er_n er_d (va_runSN (As := [.ref (rA 9 2), .int s_25.1]) (rest := []) ⟨hx, hb, hml, hown, hts⟩ (c_X11_at l dC dI cB cC cI cJ cZ cP H.size (rA 9 2) s_25.1 121 ((s_25.2.2 9).2.1 2) (by decide)) ⟨va_cnB 2 hts (g_gA wq_407) rfl rfl rfl (nw_28 hN) (hts (.initialized RX11) wq_1) (by decide +kernel) ⟨Nat.le_of_ble_eq_true rfl, Nat.le_of_ble_eq_true rfl⟩, (hts (.static yX11_at) wq_406), trivial⟩ (g_preS g_bl0 hK hPc hDc hS hE hFc g_to0) rfl rfl hl.1 rfl (lv_room (Nat.le_of_ble_eq_true rfl)) dX6_takeOut_73 ⟨Nat.le_of_ble_eq_true rfl, Nat.le_of_ble_eq_true rfl⟩) (fun r9 u9 H locs hw9 hP' hD' hS => ?_)
          clear hPc hDc hFc hD'
          have hP : va_P (dC, dI) vwCl (b_p cB cC cI cJ cZ oA rA s_25.2.2) H := er_I hP' hq9
          clear hP' hq9
          subst hw9
          obtain ⟨x_43, ex_43, hF_44⟩ := bnd_e hF_42
          clear hF_42
          refine m_top ex_43 ?_
          refine lv_iload_n hx hb dX6_takeOut_76 rfl (lv_at hl 1 rfl) ?_
          refine lv_icmp_eq (tgt := 95) hx hb dX6_takeOut_77 (by decide) (fun c_45 => ?_) (fun c_45 => ?_)
          · have hF_46 := ipos c_45 hF_44
            clear hF_44
            exact Jj_30  s_25.2.2 hF_46 _ _ hP hS ls (lv_sub hl [0, 1, 2] rfl)
          · have hF_47 := ineg c_45 hF_44
            clear hF_44
            refine lv_aload_n hx hb dX6_takeOut_80 rfl (lv_at hl 0 rfl) ?_
            refine va_get (D := (dC, dI)) (ci := 6) (v := .ref (rA 9 2)) (C := RX6) (T := TX6) (N := 12) hx hb hts ii_X6 hown hK hP 0 rfl rfl 2 (by decide) (hts (.fieldLink RX6 18 "StoryHouse$Play" "nexts" "[I") wq_225) (fun _ h9 => h9) rfl dX6_takeOut_81 ?_
            refine lv_iload_n hx hb dX6_takeOut_84 rfl (lv_at hl 2 rfl) ?_
            have hq9 : ((b_p cB cC cI cJ cZ oA rA s_25.2.2))[3]? = some (rA 9 2, .inl (cI, 121, .inl ((s_25.2.2 9).2.1 2))) := rfl
            have hPc := hP.sub (ws' := [(rA 9 2, .inl (cI, 121, .inl ((s_25.2.2 9).2.1 2)))]) [3] (pk_fm (er_C hq9))
            have hDc := (hDD s_25.2.2).sub (ws' := [(rA 9 2, .inl (cI, 121, .inl ((s_25.2.2 9).2.1 2)))]) [3] (by decide +kernel) (er_C hq9)
            have hFc := va_free (wc := [(rA 9 2, .inl (cI, 121, .inl ((s_25.2.2 9).2.1 2)))]) (hDD s_25.2.2) hS hA [3] (er_C hq9)
            refine g_ofi (wc := [(rA 9 2, .inl (cI, 121, .inl ((s_25.2.2 9).2.1 2)))]) (wr := (((b_p cB cC cI cJ cZ oA rA s_25.2.2)).eraseIdx 3)) hP (hDD s_25.2.2) hS hFc [3] ((List.range ((b_p cB cC cI cJ cZ oA rA s_25.2.2)).length).eraseIdx 3) (er_C hq9) er_R er_n er_d (va_runSN (As := [.ref (rA 9 2), .int s_25.1]) (rest := []) ⟨hx, hb, hml, hown, hts⟩ (c_X11_at l dC dI cB cC cI cJ cZ cP H.size (rA 9 2) s_25.1 121 ((s_25.2.2 9).2.1 2) (by decide)) ⟨va_cnB 2 hts (g_gA wq_407) rfl rfl rfl (nw_28 hN) (hts (.initialized RX11) wq_1) (by decide +kernel) ⟨Nat.le_of_ble_eq_true rfl, Nat.le_of_ble_eq_true rfl⟩, (hts (.static yX11_at) wq_406), trivial⟩ (g_preS g_bl0 hK hPc hDc hS hE hFc g_to0) rfl rfl hl.1 rfl (lv_room (Nat.le_of_ble_eq_true rfl)) dX6_takeOut_85 ⟨Nat.le_of_ble_eq_true rfl, Nat.le_of_ble_eq_true rfl⟩) (fun r9 u9 H locs hw9 hP' hD' hS => ?_)
            clear hPc hDc hFc hD'
            have hP : va_P (dC, dI) vwCl (b_p cB cC cI cJ cZ oA rA s_25.2.2) H := er_I hP' hq9
            clear hP' hq9
            subst hw9
            obtain ⟨x_48, ex_48, hF_49⟩ := bnd_e hF_47
            clear hF_47
            refine m_top ex_48 ?_
            refine lv_istore_n (lv' := [(3, .int x_48), (0, .ref (oA 9)), (1, .int p0), (4, .int s_25.2.1)]) hx hb dX6_takeOut_88 rfl hl (by decide) rfl (fun ls hl => ?_)
            obtain ⟨x_50, ex_50, hF_51⟩ := bnd_e hF_49
            clear hF_49
            refine lv_iinc (v := x_50) (lv' := [(4, .int x_50), (3, .int x_48), (0, .ref (oA 9)), (1, .int p0)]) hx hb dX6_takeOut_89 hl (k := 3) rfl (by rw [ex_50]; rfl) (by decide) rfl (fun ls hl => ?_)
            refine lv_goto (tgt := 57) hx hb dX6_takeOut_92 (by decide) ?_
            exact ih_27 (x_48, x_50, s_25.2.2) hF_51 _ _ hP hS ls (lv_sub hl [2, 3, 1, 0] rfl)
    · have hF_17 := ipos c_16 hF_10
      clear hF_10
      refine lv_aload_n hx hb dX6_takeOut_26 rfl (lv_at hl 1 rfl) ?_
      refine va_get (D := (dC, dI)) (ci := 6) (v := .ref (rA 9 1)) (C := RX6) (T := TX6) (N := 12) hx hb hts ii_X6 hown hK hP 0 rfl rfl 1 (by decide) (hts (.fieldLink RX6 15 "StoryHouse$Play" "firsts" "[I") wq_221) (fun _ h9 => h9) rfl dX6_takeOut_27 ?_
      refine lv_iload_n hx hb dX6_takeOut_30 rfl (lv_at hl 0 rfl) ?_
      refine lv_aload_n hx hb dX6_takeOut_31 rfl (lv_at hl 1 rfl) ?_
      refine va_get (D := (dC, dI)) (ci := 6) (v := .ref (rA 9 2)) (C := RX6) (T := TX6) (N := 12) hx hb hts ii_X6 hown hK hP 0 rfl rfl 2 (by decide) (hts (.fieldLink RX6 18 "StoryHouse$Play" "nexts" "[I") wq_225) (fun _ h9 => h9) rfl dX6_takeOut_32 ?_
      refine lv_iload_n hx hb dX6_takeOut_35 rfl (lv_at hl 2 rfl) ?_
      have hq9 : ((b_p cB cC cI cJ cZ oA rA Γ))[3]? = some (rA 9 2, .inl (cI, 121, .inl ((Γ 9).2.1 2))) := rfl
      have hPc := hP.sub (ws' := [(rA 9 2, .inl (cI, 121, .inl ((Γ 9).2.1 2)))]) [3] (pk_fm (er_C hq9))
      have hDc := (hDD Γ).sub (ws' := [(rA 9 2, .inl (cI, 121, .inl ((Γ 9).2.1 2)))]) [3] (by decide +kernel) (er_C hq9)
      have hFc := va_free (wc := [(rA 9 2, .inl (cI, 121, .inl ((Γ 9).2.1 2)))]) (hDD Γ) hS hA [3] (er_C hq9)
      refine g_ofi (wc := [(rA 9 2, .inl (cI, 121, .inl ((Γ 9).2.1 2)))]) (wr := (((b_p cB cC cI cJ cZ oA rA Γ)).eraseIdx 3)) hP (hDD Γ) hS hFc [3] ((List.range ((b_p cB cC cI cJ cZ oA rA Γ)).length).eraseIdx 3) (er_C hq9) er_R er_n er_d (va_runSN (As := [.ref (rA 9 2), .int p0]) (rest := [.int x_1, .ref (rA 9 1)]) ⟨hx, hb, hml, hown, hts⟩ (c_X11_at l dC dI cB cC cI cJ cZ cP H.size (rA 9 2) p0 121 ((Γ 9).2.1 2) (by decide)) ⟨va_cnB 2 hts (g_gA wq_407) rfl rfl rfl (nw_28 hN) (hts (.initialized RX11) wq_1) (by decide +kernel) ⟨Nat.le_of_ble_eq_true rfl, Nat.le_of_ble_eq_true rfl⟩, (hts (.static yX11_at) wq_406), trivial⟩ (g_preS g_bl0 hK hPc hDc hS hE hFc g_to0) rfl rfl hl.1 rfl (lv_room (Nat.le_of_ble_eq_true rfl)) dX6_takeOut_36 ⟨Nat.le_of_ble_eq_true rfl, Nat.le_of_ble_eq_true rfl⟩) (fun r9 u9 H locs hw9 hP' hD' hS => ?_)
      clear hPc hDc hFc hD'
      have hP : va_P (dC, dI) vwCl (b_p cB cC cI cJ cZ oA rA Γ) H := er_I hP' hq9
      clear hP' hq9
      subst hw9
      obtain ⟨x_18, ex_18, hF_19⟩ := bnd_e hF_17
      clear hF_17
      refine m_top ex_18 ?_
      have hq9 : ((b_p cB cC cI cJ cZ oA rA Γ))[2]? = some (rA 9 1, .inl (cI, 121, .inl ((Γ 9).2.1 1))) := rfl
      have hPc := hP.sub (ws' := [(rA 9 1, .inl (cI, 121, .inl ((Γ 9).2.1 1)))]) [2] (pk_fm (er_C hq9))
      have hDc := (hDD Γ).sub (ws' := [(rA 9 1, .inl (cI, 121, .inl ((Γ 9).2.1 1)))]) [2] (by decide +kernel) (er_C hq9)
      have hFc := va_free (wc := [(rA 9 1, .inl (cI, 121, .inl ((Γ 9).2.1 1)))]) (hDD Γ) hS hA [2] (er_C hq9)
      refine g_ofv (wc := [(rA 9 1, .inl (cI, 121, .inl ((Γ 9).2.1 1)))]) (wr := (((b_p cB cC cI cJ cZ oA rA Γ)).eraseIdx 2)) hP (hDD Γ) hS hFc [2] ((List.range ((b_p cB cC cI cJ cZ oA rA Γ)).length).eraseIdx 2) (er_C hq9) er_R er_n er_d (va_runSN (As := [.ref (rA 9 1), .int x_1, .int x_18]) (rest := []) ⟨hx, hb, hml, hown, hts⟩ (c_X11_put l dC dI cB cC cI cJ cZ cP H.size (rA 9 1) x_1 x_18 121 ((Γ 9).2.1 1) (by decide)) ⟨va_cnB 3 hts (g_gA wq_412) rfl rfl rfl (nw_29 hN) (hts (.initialized RX11) wq_1) (by decide +kernel) ⟨Nat.le_of_ble_eq_true rfl, Nat.le_of_ble_eq_true rfl⟩, (hts (.static yX11_put) wq_411), trivial⟩ (g_preS g_bl0 hK hPc hDc hS hE hFc g_to0) rfl rfl hl.1 rfl (lv_room (Nat.le_of_ble_eq_true rfl)) dX6_takeOut_39 ⟨Nat.le_of_ble_eq_true rfl, Nat.le_of_ble_eq_true rfl⟩) (fun g9 H locs hw9 hP' hD' hS => ?_)
      clear hPc hDc hFc hD'
      obtain ⟨σ_20, eσ_20, hF_21⟩ := bnd_e hF_19
      clear hF_19
      subst hw9
      have hP : va_P (dC, dI) vwCl (b_p cB cC cI cJ cZ oA rA σ_20) H := by rw [eσ_20]; exact cs_p_p_1 ▸ er_P hP' (er_lt hq9)
      clear hP' hq9
      refine lv_goto (tgt := 111) hx hb dX6_takeOut_42 (by decide) ?_
      exact Jj_9  σ_20 hF_21 _ _ hP hS ls (lv_sub hl [1, 2] rfl)
  · have hF_4 := ipos c_3 hF_2
    clear hF_2
    have h9 := Option.some.inj hF_4
    subst h9
    exact W.vret hx hb hr (fun t ht hW => ⟨⟨(), rfl, trivial, m_end ht hP, hDD _⟩, hS.F ht⟩) hS.2.2 dX6_takeOut_13
theorem dX6_moveInto_0 : decode cX6_moveInto 0 = .ok (.aload_n 0, 1) := by decide +kernel
theorem dX6_moveInto_1 : decode cX6_moveInto 1 = .ok (.iload_n 1, 1) := by decide +kernel
theorem dX6_moveInto_2 : decode cX6_moveInto 2 = .ok (.invokevirtual 87, 3) := by decide +kernel
theorem dX6_moveInto_5 : decode cX6_moveInto 5 = .ok (.aload_n 0, 1) := by decide +kernel
theorem dX6_moveInto_6 : decode cX6_moveInto 6 = .ok (.getfield 18, 3) := by decide +kernel
theorem dX6_moveInto_9 : decode cX6_moveInto 9 = .ok (.iload_n 1, 1) := by decide +kernel
theorem dX6_moveInto_10 : decode cX6_moveInto 10 = .ok (.aload_n 0, 1) := by decide +kernel
theorem dX6_moveInto_11 : decode cX6_moveInto 11 = .ok (.getfield 15, 3) := by decide +kernel
theorem dX6_moveInto_14 : decode cX6_moveInto 14 = .ok (.iload_n 2, 1) := by decide +kernel
theorem dX6_moveInto_15 : decode cX6_moveInto 15 = .ok (.invokestatic 83, 3) := by decide +kernel
theorem dX6_moveInto_18 : decode cX6_moveInto 18 = .ok (.invokestatic 91, 3) := by decide +kernel
theorem dX6_moveInto_21 : decode cX6_moveInto 21 = .ok (.aload_n 0, 1) := by decide +kernel
theorem dX6_moveInto_22 : decode cX6_moveInto 22 = .ok (.getfield 15, 3) := by decide +kernel
theorem dX6_moveInto_25 : decode cX6_moveInto 25 = .ok (.iload_n 2, 1) := by decide +kernel
theorem dX6_moveInto_26 : decode cX6_moveInto 26 = .ok (.iload_n 1, 1) := by decide +kernel
theorem dX6_moveInto_27 : decode cX6_moveInto 27 = .ok (.invokestatic 91, 3) := by decide +kernel
theorem dX6_moveInto_30 : decode cX6_moveInto 30 = .ok (.aload_n 0, 1) := by decide +kernel
theorem dX6_moveInto_31 : decode cX6_moveInto 31 = .ok (.getfield 9, 3) := by decide +kernel
theorem dX6_moveInto_34 : decode cX6_moveInto 34 = .ok (.iload_n 1, 1) := by decide +kernel
theorem dX6_moveInto_35 : decode cX6_moveInto 35 = .ok (.iload_n 2, 1) := by decide +kernel
theorem dX6_moveInto_36 : decode cX6_moveInto 36 = .ok (.invokestatic 91, 3) := by decide +kernel
theorem dX6_moveInto_39 : decode cX6_moveInto 39 = .ok (.return_, 1) := by decide +kernel
def F_X6_moveInto (p0 : Int32) (p1 : Int32) (Γ : HS) : HR :=
  (F_X6_takeOut p0 Γ).bind fun u_1 =>
  bnd ((g_at 121 ((u_1.2 9).2.1 1) p1)) fun (x_3 : Int32) =>
  bnd (cA' u_1.2 9 2 (g_put 121 ((u_1.2 9).2.1 2) p0 x_3)) fun σ_5 =>
  bnd (cA' σ_5 9 1 (g_put 121 ((σ_5 9).2.1 1) p1 p0)) fun σ_7 =>
  bnd (cA' σ_7 9 0 (g_put 121 ((σ_7 9).2.1 0) p0 p1)) fun σ_9 =>
  some (0, σ_9)
set_option maxHeartbeats 4000000 in
set_option maxRecDepth 100000 in
theorem k_X6_moveInto (l : Launch) (dC : Nat → ClassId) (dI : Nat → Nat → Nat) (cB cC cI cJ cZ cP : ClassId) (oA : Nat → Nat) (rA : Nat → Nat → Nat) (sz : Nat)  (p0 : Int32) (p1 : Int32) (Γ : HS) (res : Int32 × HS) (hF : F_X6_moveInto p0 p1 Γ = some res) : Met l yX6_moveInto (g_ws yX6_moveInto cX6_moveInto 3 none) ({ frames := 4, cells := 0, slots := 0, locals := 106 }) (va_Pc [.ref (oA 9), .int p0, .int p1] (g_B (dC, dI) [(cB, .byte), (cC, .char), (cI, .int), (cJ, .long), (cZ, .boolean), (cP, .object "StoryHouse$Play")] sz (b_p cB cC cI cJ cZ oA rA Γ) g_0)) (va_Qv (fun (_ : Unit) => True) (g_Bo (dC, dI) (va_A (b_p cB cC cI cJ cZ oA rA Γ) sz) (fun (_ : Unit) => (b_p cB cC cI cJ cZ oA rA res.2))) (va_A (b_p cB cC cI cJ cZ oA rA Γ) sz)) 0 0 (va_A (b_p cB cC cI cJ cZ oA rA Γ) sz) := by
  refine Met.ofW (cc := cX6_moveInto) (maxL := 3) (ret := none) (by decide) rfl ?_
  intro p e s m args below meth c s₁ B hml hv
  obtain ⟨rfl, hsz, hP, hK, hD0, hE, hX⟩ := hv
  have hx := B.exec
  have hb := B.bytes
  have hr := B.returns
  have hts0 := atoms_spec (ws := g_ws yX6_moveInto cX6_moveInto 3 none) B.pre
  have hts : ∀ w ∈ lw_good, w.before ([.ref (oA 9), .int p0, .int p1] : List Value).toArray s = true := fun w z => hts0 w (List.mem_cons_of_mem _ z)
  have hown : s.vm.findClass RX6 = some m.cls := findClass_of_methodNamed B.named
  have hlocks := B.notSynchronized
  subst hsz
  have hD1 := hD0.self (sz := s.heap.size)
  generalize hAe : va_A (b_p cB cC cI cJ cZ oA rA Γ) s.heap.size = A at hD1 hE hX ⊢
  have hA : ∀ q : Nat, s.heap.size ≤ q → A q := fun q z => by rw [← hAe]; exact Or.inr z
  have hDD : ∀ Γ : HS, va_D A (b_p cB cC cI cJ cZ oA rA Γ) := fun Γ9 => va_D_fst (ws := (b_p cB cC cI cJ cZ oA rA Γ)) (ws' := (b_p cB cC cI cJ cZ oA rA Γ9)) rfl hD1
  have hN := hE.1
  have hS : va_S A s.heap s.heap [] := va_S.rf
  have hl := lv_entry ([.ref (oA 9), .int p0, .int p1]) (n := 3) (Nat.le_of_ble_eq_true rfl)
  rw [lg_entry_eq]
  generalize (lg_sl ([.ref (oA 9), .int p0, .int p1]) ++ List.replicate (3 - (lg_sl ([.ref (oA 9), .int p0, .int p1])).length) Slot.unset).toArray = ls at hl ⊢
  have hl : lv_has ls 3 [(0, .ref (oA 9)), (1, .int p0), (2, .int p1)] := hl
  unfold F_X6_moveInto at hF
  refine lv_aload_n hx hb dX6_moveInto_0 rfl (lv_at hl 0 rfl) ?_
  refine lv_iload_n hx hb dX6_moveInto_1 rfl (lv_at hl 1 rfl) ?_
  obtain ⟨u_1, hu_1, hF_2⟩ := Option.bind_eq_some_iff.mp hF
  clear hF
  have hPc := bx_P (bs := [b_p cB cC cI cJ cZ oA rA Γ]) (bs' := [b_p cB cC cI cJ cZ oA rA Γ]) (ws' := (b_p cB cC cI cJ cZ oA rA Γ)) hP fl_1 fl_1 [0] rfl
  have hDc := bx_D (bs := [b_p cB cC cI cJ cZ oA rA Γ]) (bs' := [b_p cB cC cI cJ cZ oA rA Γ]) (ws' := (b_p cB cC cI cJ cZ oA rA Γ)) (hDD Γ) fl_1 fl_1 [0] (by decide +kernel) rfl
  have hFc := bx_F (bs := [b_p cB cC cI cJ cZ oA rA Γ]) (bs' := [b_p cB cC cI cJ cZ oA rA Γ]) (wc := (b_p cB cC cI cJ cZ oA rA Γ)) (hDD Γ) hS hA fl_1 fl_1 [0] rfl
  refine g_ofv (wc := (b_p cB cC cI cJ cZ oA rA Γ)) (wr := ([] : va_W)) hP (hDD Γ) hS hFc (bx_ix [b_p cB cC cI cJ cZ oA rA Γ] [0]) (bx_ix [b_p cB cC cI cJ cZ oA rA Γ] []) (bx_C (bs := [b_p cB cC cI cJ cZ oA rA Γ]) (bs' := [b_p cB cC cI cJ cZ oA rA Γ]) (is := [0]) fl_1 fl_1 rfl) (bx_C (bs := [b_p cB cC cI cJ cZ oA rA Γ]) (bs' := []) (is := []) fl_1 fl_0 rfl) (bx_n (by decide +kernel)) (bx_d (by decide +kernel)) (va_runV (As := [.int p0]) (rest := []) ⟨hx, hb, hml, hown, hts⟩ (k_X6_takeOut l dC dI cB cC cI cJ cZ cP oA rA s.heap.size  p0 Γ _ hu_1) (cwV 1 hts (g_gV wq_966 wq_967 wq_968 wq_10 wq_969) rfl rfl rfl (by decide +kernel) ⟨Nat.le_of_ble_eq_true rfl, Nat.le_of_ble_eq_true rfl⟩) (g_preV g_bl0 hK hPc hDc hS hE hFc g_to0 (q0 := 0) (ci := 6) rfl rfl) rfl rfl hl.1 rfl (lv_room (Nat.le_of_ble_eq_true rfl)) dX6_moveInto_2 ⟨Nat.le_of_ble_eq_true rfl, Nat.le_of_ble_eq_true rfl⟩) (fun u9 H locs hw9 hP' hD' hS => ?_)
  clear hPc hDc hFc
  have hP : va_P (dC, dI) vwCl (b_p cB cC cI cJ cZ oA rA u_1.2) H := hP'
  clear hP' hD'
  refine lv_aload_n hx hb dX6_moveInto_5 rfl (lv_at hl 0 rfl) ?_
  refine va_get (D := (dC, dI)) (ci := 6) (v := .ref (rA 9 2)) (C := RX6) (T := TX6) (N := 12) hx hb hts ii_X6 hown hK hP 0 rfl rfl 2 (by decide) (hts (.fieldLink RX6 18 "StoryHouse$Play" "nexts" "[I") wq_225) (fun _ h9 => h9) rfl dX6_moveInto_6 ?_
  refine lv_iload_n hx hb dX6_moveInto_9 rfl (lv_at hl 1 rfl) ?_
  refine lv_aload_n hx hb dX6_moveInto_10 rfl (lv_at hl 0 rfl) ?_
  refine va_get (D := (dC, dI)) (ci := 6) (v := .ref (rA 9 1)) (C := RX6) (T := TX6) (N := 12) hx hb hts ii_X6 hown hK hP 0 rfl rfl 1 (by decide) (hts (.fieldLink RX6 15 "StoryHouse$Play" "firsts" "[I") wq_221) (fun _ h9 => h9) rfl dX6_moveInto_11 ?_
  refine lv_iload_n hx hb dX6_moveInto_14 rfl (lv_at hl 2 rfl) ?_
  have hq9 : ((b_p cB cC cI cJ cZ oA rA u_1.2))[2]? = some (rA 9 1, .inl (cI, 121, .inl ((u_1.2 9).2.1 1))) := rfl
  have hPc := hP.sub (ws' := [(rA 9 1, .inl (cI, 121, .inl ((u_1.2 9).2.1 1)))]) [2] (pk_fm (er_C hq9))
  have hDc := (hDD u_1.2).sub (ws' := [(rA 9 1, .inl (cI, 121, .inl ((u_1.2 9).2.1 1)))]) [2] (by decide +kernel) (er_C hq9)
  have hFc := va_free (wc := [(rA 9 1, .inl (cI, 121, .inl ((u_1.2 9).2.1 1)))]) (hDD u_1.2) hS hA [2] (er_C hq9)
  refine g_ofi (wc := [(rA 9 1, .inl (cI, 121, .inl ((u_1.2 9).2.1 1)))]) (wr := (((b_p cB cC cI cJ cZ oA rA u_1.2)).eraseIdx 2)) hP (hDD u_1.2) hS hFc [2] ((List.range ((b_p cB cC cI cJ cZ oA rA u_1.2)).length).eraseIdx 2) (er_C hq9) er_R er_n er_d (va_runSN (As := [.ref (rA 9 1), .int p1]) (rest := [.int p0, .ref (rA 9 2)]) ⟨hx, hb, hml, hown, hts⟩ (c_X11_at l dC dI cB cC cI cJ cZ cP H.size (rA 9 1) p1 121 ((u_1.2 9).2.1 1) (by decide)) ⟨va_cnB 2 hts (g_gA wq_407) rfl rfl rfl (nw_28 hN) (hts (.initialized RX11) wq_1) (by decide +kernel) ⟨Nat.le_of_ble_eq_true rfl, Nat.le_of_ble_eq_true rfl⟩, (hts (.static yX11_at) wq_406), trivial⟩ (g_preS g_bl0 hK hPc hDc hS hE hFc g_to0) rfl rfl hl.1 rfl (lv_room (Nat.le_of_ble_eq_true rfl)) dX6_moveInto_15 ⟨Nat.le_of_ble_eq_true rfl, Nat.le_of_ble_eq_true rfl⟩) (fun r9 u9 H locs hw9 hP' hD' hS => ?_)
  clear hPc hDc hFc hD'
  have hP : va_P (dC, dI) vwCl (b_p cB cC cI cJ cZ oA rA u_1.2) H := er_I hP' hq9
  clear hP' hq9
  subst hw9
  obtain ⟨x_3, ex_3, hF_4⟩ := bnd_e hF_2
  clear hF_2
  refine m_top ex_3 ?_
  have hq9 : ((b_p cB cC cI cJ cZ oA rA u_1.2))[3]? = some (rA 9 2, .inl (cI, 121, .inl ((u_1.2 9).2.1 2))) := rfl
  have hPc := hP.sub (ws' := [(rA 9 2, .inl (cI, 121, .inl ((u_1.2 9).2.1 2)))]) [3] (pk_fm (er_C hq9))
  have hDc := (hDD u_1.2).sub (ws' := [(rA 9 2, .inl (cI, 121, .inl ((u_1.2 9).2.1 2)))]) [3] (by decide +kernel) (er_C hq9)
  have hFc := va_free (wc := [(rA 9 2, .inl (cI, 121, .inl ((u_1.2 9).2.1 2)))]) (hDD u_1.2) hS hA [3] (er_C hq9)
  refine g_ofv (wc := [(rA 9 2, .inl (cI, 121, .inl ((u_1.2 9).2.1 2)))]) (wr := (((b_p cB cC cI cJ cZ oA rA u_1.2)).eraseIdx 3)) hP (hDD u_1.2) hS hFc [3] ((List.range ((b_p cB cC cI cJ cZ oA rA u_1.2)).length).eraseIdx 3) (er_C hq9) er_R er_n er_d (va_runSN (As := [.ref (rA 9 2), .int p0, .int x_3]) (rest := []) ⟨hx, hb, hml, hown, hts⟩ (c_X11_put l dC dI cB cC cI cJ cZ cP H.size (rA 9 2) p0 x_3 121 ((u_1.2 9).2.1 2) (by decide)) ⟨va_cnB 3 hts (g_gA wq_412) rfl rfl rfl (nw_29 hN) (hts (.initialized RX11) wq_1) (by decide +kernel) ⟨Nat.le_of_ble_eq_true rfl, Nat.le_of_ble_eq_true rfl⟩, (hts (.static yX11_put) wq_411), trivial⟩ (g_preS g_bl0 hK hPc hDc hS hE hFc g_to0) rfl rfl hl.1 rfl (lv_room (Nat.le_of_ble_eq_true rfl)) dX6_moveInto_18 ⟨Nat.le_of_ble_eq_true rfl, Nat.le_of_ble_eq_true rfl⟩) (fun g9 H locs hw9 hP' hD' hS => ?_)
  clear hPc hDc hFc hD'
  obtain ⟨σ_5, eσ_5, hF_6⟩ := bnd_e hF_4
  clear hF_4
  subst hw9
  have hP : va_P (dC, dI) vwCl (b_p cB cC cI cJ cZ oA rA σ_5) H := by rw [eσ_5]; exact cs_p_p_2 ▸ er_P hP' (er_lt hq9)
  clear hP' hq9
  refine lv_aload_n hx hb dX6_moveInto_21 rfl (lv_at hl 0 rfl) ?_
  refine va_get (D := (dC, dI)) (ci := 6) (v := .ref (rA 9 1)) (C := RX6) (T := TX6) (N := 12) hx hb hts ii_X6 hown hK hP 0 rfl rfl 1 (by decide) (hts (.fieldLink RX6 15 "StoryHouse$Play" "firsts" "[I") wq_221) (fun _ h9 => h9) rfl dX6_moveInto_22 ?_
  refine lv_iload_n hx hb dX6_moveInto_25 rfl (lv_at hl 2 rfl) ?_
  refine lv_iload_n hx hb dX6_moveInto_26 rfl (lv_at hl 1 rfl) ?_
  have hq9 : ((b_p cB cC cI cJ cZ oA rA σ_5))[2]? = some (rA 9 1, .inl (cI, 121, .inl ((σ_5 9).2.1 1))) := rfl
  have hPc := hP.sub (ws' := [(rA 9 1, .inl (cI, 121, .inl ((σ_5 9).2.1 1)))]) [2] (pk_fm (er_C hq9))
  have hDc := (hDD σ_5).sub (ws' := [(rA 9 1, .inl (cI, 121, .inl ((σ_5 9).2.1 1)))]) [2] (by decide +kernel) (er_C hq9)
  have hFc := va_free (wc := [(rA 9 1, .inl (cI, 121, .inl ((σ_5 9).2.1 1)))]) (hDD σ_5) hS hA [2] (er_C hq9)
  refine g_ofv (wc := [(rA 9 1, .inl (cI, 121, .inl ((σ_5 9).2.1 1)))]) (wr := (((b_p cB cC cI cJ cZ oA rA σ_5)).eraseIdx 2)) hP (hDD σ_5) hS hFc [2] ((List.range ((b_p cB cC cI cJ cZ oA rA σ_5)).length).eraseIdx 2) (er_C hq9) er_R er_n er_d (va_runSN (As := [.ref (rA 9 1), .int p1, .int p0]) (rest := []) ⟨hx, hb, hml, hown, hts⟩ (c_X11_put l dC dI cB cC cI cJ cZ cP H.size (rA 9 1) p1 p0 121 ((σ_5 9).2.1 1) (by decide)) ⟨va_cnB 3 hts (g_gA wq_412) rfl rfl rfl (nw_29 hN) (hts (.initialized RX11) wq_1) (by decide +kernel) ⟨Nat.le_of_ble_eq_true rfl, Nat.le_of_ble_eq_true rfl⟩, (hts (.static yX11_put) wq_411), trivial⟩ (g_preS g_bl0 hK hPc hDc hS hE hFc g_to0) rfl rfl hl.1 rfl (lv_room (Nat.le_of_ble_eq_true rfl)) dX6_moveInto_27 ⟨Nat.le_of_ble_eq_true rfl, Nat.le_of_ble_eq_true rfl⟩) (fun g9 H locs hw9 hP' hD' hS => ?_)
  clear hPc hDc hFc hD'
  obtain ⟨σ_7, eσ_7, hF_8⟩ := bnd_e hF_6
  clear hF_6
  subst hw9
  have hP : va_P (dC, dI) vwCl (b_p cB cC cI cJ cZ oA rA σ_7) H := by rw [eσ_7]; exact cs_p_p_1 ▸ er_P hP' (er_lt hq9)
  clear hP' hq9
  refine lv_aload_n hx hb dX6_moveInto_30 rfl (lv_at hl 0 rfl) ?_
  refine va_get (D := (dC, dI)) (ci := 6) (v := .ref (rA 9 0)) (C := RX6) (T := TX6) (N := 12) hx hb hts ii_X6 hown hK hP 0 rfl rfl 0 (by decide) (hts (.fieldLink RX6 9 "StoryHouse$Play" "parents" "[I") wq_217) (fun _ h9 => h9) rfl dX6_moveInto_31 ?_
  refine lv_iload_n hx hb dX6_moveInto_34 rfl (lv_at hl 1 rfl) ?_
  refine lv_iload_n hx hb dX6_moveInto_35 rfl (lv_at hl 2 rfl) ?_
  have hq9 : ((b_p cB cC cI cJ cZ oA rA σ_7))[1]? = some (rA 9 0, .inl (cI, 121, .inl ((σ_7 9).2.1 0))) := rfl
  have hPc := hP.sub (ws' := [(rA 9 0, .inl (cI, 121, .inl ((σ_7 9).2.1 0)))]) [1] (pk_fm (er_C hq9))
  have hDc := (hDD σ_7).sub (ws' := [(rA 9 0, .inl (cI, 121, .inl ((σ_7 9).2.1 0)))]) [1] (by decide +kernel) (er_C hq9)
  have hFc := va_free (wc := [(rA 9 0, .inl (cI, 121, .inl ((σ_7 9).2.1 0)))]) (hDD σ_7) hS hA [1] (er_C hq9)
  refine g_ofv (wc := [(rA 9 0, .inl (cI, 121, .inl ((σ_7 9).2.1 0)))]) (wr := (((b_p cB cC cI cJ cZ oA rA σ_7)).eraseIdx 1)) hP (hDD σ_7) hS hFc [1] ((List.range ((b_p cB cC cI cJ cZ oA rA σ_7)).length).eraseIdx 1) (er_C hq9) er_R er_n er_d (va_runSN (As := [.ref (rA 9 0), .int p0, .int p1]) (rest := []) ⟨hx, hb, hml, hown, hts⟩ (c_X11_put l dC dI cB cC cI cJ cZ cP H.size (rA 9 0) p0 p1 121 ((σ_7 9).2.1 0) (by decide)) ⟨va_cnB 3 hts (g_gA wq_412) rfl rfl rfl (nw_29 hN) (hts (.initialized RX11) wq_1) (by decide +kernel) ⟨Nat.le_of_ble_eq_true rfl, Nat.le_of_ble_eq_true rfl⟩, (hts (.static yX11_put) wq_411), trivial⟩ (g_preS g_bl0 hK hPc hDc hS hE hFc g_to0) rfl rfl hl.1 rfl (lv_room (Nat.le_of_ble_eq_true rfl)) dX6_moveInto_36 ⟨Nat.le_of_ble_eq_true rfl, Nat.le_of_ble_eq_true rfl⟩) (fun g9 H locs hw9 hP' hD' hS => ?_)
  clear hPc hDc hFc hD'
  obtain ⟨σ_9, eσ_9, hF_10⟩ := bnd_e hF_8
  clear hF_8
  subst hw9
  have hP : va_P (dC, dI) vwCl (b_p cB cC cI cJ cZ oA rA σ_9) H := by rw [eσ_9]; exact cs_p_p_0 ▸ er_P hP' (er_lt hq9)
  clear hP' hq9
  have h9 := Option.some.inj hF_10
  subst h9
  exact W.vret hx hb hr (fun t ht hW => ⟨⟨(), rfl, trivial, m_end ht hP, hDD _⟩, hS.F ht⟩) hS.2.2 dX6_moveInto_39
theorem dX7_isObject_0 : decode cX7_isObject 0 = .ok (.iload_n 1, 1) := by decide +kernel
theorem dX7_isObject_1 : decode cX7_isObject 1 = .ok (.iconst 1, 1) := by decide +kernel
theorem dX7_isObject_2 : decode cX7_isObject 2 = .ok (.if_icmp .lt 17, 3) := by decide +kernel
theorem dX7_isObject_5 : decode cX7_isObject 5 = .ok (.iload_n 1, 1) := by decide +kernel
theorem dX7_isObject_6 : decode cX7_isObject 6 = .ok (.aload_n 0, 1) := by decide +kernel
theorem dX7_isObject_7 : decode cX7_isObject 7 = .ok (.getfield 9, 3) := by decide +kernel
theorem dX7_isObject_10 : decode cX7_isObject 10 = .ok (.iconst 0, 1) := by decide +kernel
theorem dX7_isObject_11 : decode cX7_isObject 11 = .ok (.iaload, 1) := by decide +kernel
theorem dX7_isObject_12 : decode cX7_isObject 12 = .ok (.if_icmp .gt 7, 3) := by decide +kernel
theorem dX7_isObject_15 : decode cX7_isObject 15 = .ok (.iconst 1, 1) := by decide +kernel
theorem dX7_isObject_16 : decode cX7_isObject 16 = .ok (.goto 4, 3) := by decide +kernel
theorem dX7_isObject_19 : decode cX7_isObject 19 = .ok (.iconst 0, 1) := by decide +kernel
theorem dX7_isObject_20 : decode cX7_isObject 20 = .ok (.ireturn, 1) := by decide +kernel
def F_X7_isObject (p0 : Int32) (Γ : HS) : HR :=
  if p0 < 1 then (
    some (0, Γ)
  ) else (
    if ((Γ 4).2.1 0 (0 : Int32).toNatClampNeg) < p0 then (
      some (0, Γ)
    ) else (
      some (1, Γ)
    )
  )
set_option maxHeartbeats 4000000 in
set_option maxRecDepth 100000 in
theorem k_X7_isObject (l : Launch) (dC : Nat → ClassId) (dI : Nat → Nat → Nat) (cB cC cI cJ cZ cP : ClassId) (oA : Nat → Nat) (rA : Nat → Nat → Nat) (sz : Nat)  (p0 : Int32) (Γ : HS) (res : Int32 × HS) (hF : F_X7_isObject p0 Γ = some res) : Met l yX7_isObject (g_ws yX7_isObject cX7_isObject 2 (some .boolean)) ({ frames := 1, cells := 0, slots := 0, locals := 40 }) (va_Pc [.ref (oA 4), .int p0] (g_B (dC, dI) [(cB, .byte), (cC, .char), (cI, .int), (cJ, .long), (cZ, .boolean), (cP, .object "StoryHouse$Play")] sz (b_s cB cC cI cJ cZ oA rA Γ ++ b_c cB cC cI cJ cZ oA rA Γ ++ b_t cB cC cI cJ cZ oA rA Γ ++ b_d cB cC cI cJ cZ oA rA Γ) g_0)) (va_Qi (fun r (_ : Unit) => r = res.1) (g_Bo (dC, dI) (va_A (b_s cB cC cI cJ cZ oA rA Γ ++ b_c cB cC cI cJ cZ oA rA Γ ++ b_t cB cC cI cJ cZ oA rA Γ ++ b_d cB cC cI cJ cZ oA rA Γ) sz) (fun (_ : Unit) => (b_s cB cC cI cJ cZ oA rA res.2 ++ b_c cB cC cI cJ cZ oA rA res.2 ++ b_t cB cC cI cJ cZ oA rA res.2 ++ b_d cB cC cI cJ cZ oA rA res.2))) (va_A (b_s cB cC cI cJ cZ oA rA Γ ++ b_c cB cC cI cJ cZ oA rA Γ ++ b_t cB cC cI cJ cZ oA rA Γ ++ b_d cB cC cI cJ cZ oA rA Γ) sz)) 0 0 (va_A (b_s cB cC cI cJ cZ oA rA Γ ++ b_c cB cC cI cJ cZ oA rA Γ ++ b_t cB cC cI cJ cZ oA rA Γ ++ b_d cB cC cI cJ cZ oA rA Γ) sz) := by
  refine Met.ofW (cc := cX7_isObject) (maxL := 2) (ret := (some .boolean)) (by decide) rfl ?_
  intro p e s m args below meth c s₁ B hml hv
  obtain ⟨rfl, hsz, hP, hK, hD0, hE, hX⟩ := hv
  have hx := B.exec
  have hb := B.bytes
  have hr := B.returns
  have hts0 := atoms_spec (ws := g_ws yX7_isObject cX7_isObject 2 (some .boolean)) B.pre
  have hts : ∀ w ∈ lw_good, w.before ([.ref (oA 4), .int p0] : List Value).toArray s = true := fun w z => hts0 w (List.mem_cons_of_mem _ z)
  have hown : s.vm.findClass RX7 = some m.cls := findClass_of_methodNamed B.named
  have hlocks := B.notSynchronized
  subst hsz
  have hD1 := hD0.self (sz := s.heap.size)
  generalize hAe : va_A (b_s cB cC cI cJ cZ oA rA Γ ++ b_c cB cC cI cJ cZ oA rA Γ ++ b_t cB cC cI cJ cZ oA rA Γ ++ b_d cB cC cI cJ cZ oA rA Γ) s.heap.size = A at hD1 hE hX ⊢
  have hA : ∀ q : Nat, s.heap.size ≤ q → A q := fun q z => by rw [← hAe]; exact Or.inr z
  have hDD : ∀ Γ : HS, va_D A (b_s cB cC cI cJ cZ oA rA Γ ++ b_c cB cC cI cJ cZ oA rA Γ ++ b_t cB cC cI cJ cZ oA rA Γ ++ b_d cB cC cI cJ cZ oA rA Γ) := fun Γ9 => va_D_fst (ws := (b_s cB cC cI cJ cZ oA rA Γ ++ b_c cB cC cI cJ cZ oA rA Γ ++ b_t cB cC cI cJ cZ oA rA Γ ++ b_d cB cC cI cJ cZ oA rA Γ)) (ws' := (b_s cB cC cI cJ cZ oA rA Γ9 ++ b_c cB cC cI cJ cZ oA rA Γ9 ++ b_t cB cC cI cJ cZ oA rA Γ9 ++ b_d cB cC cI cJ cZ oA rA Γ9)) rfl hD1
  have hN := hE.1
  have hS : va_S A s.heap s.heap [] := va_S.rf
  have hl := lv_entry ([.ref (oA 4), .int p0]) (n := 2) (Nat.le_of_ble_eq_true rfl)
  rw [lg_entry_eq]
  generalize (lg_sl ([.ref (oA 4), .int p0]) ++ List.replicate (2 - (lg_sl ([.ref (oA 4), .int p0])).length) Slot.unset).toArray = ls at hl ⊢
  have hl : lv_has ls 2 [(0, .ref (oA 4)), (1, .int p0)] := hl
  unfold F_X7_isObject at hF
  refine lv_iload_n hx hb dX7_isObject_0 rfl (lv_at hl 1 rfl) ?_
  refine lv_iconst (v := 1) hx hb dX7_isObject_1 (by decide +kernel) ?_
  refine lv_icmp_lt (tgt := 19) hx hb dX7_isObject_2 (by decide) (fun c_1 => ?_) (fun c_1 => ?_)
  · have hF_2 := ipos c_1 hF
    clear hF
    refine lv_iconst (v := 0) hx hb dX7_isObject_19 (by decide +kernel) ?_
    have h9 := Option.some.inj hF_2
    subst h9
    exact W.zret (v := 0) hx hb hr (by decide +kernel) (fun t ht hW => ⟨⟨0, (), rfl, rfl, m_end ht hP, hDD _⟩, hS.F ht⟩) hS.2.2 dX7_isObject_20
  · have hF_3 := ineg c_1 hF
    clear hF
    refine lv_iload_n hx hb dX7_isObject_5 rfl (lv_at hl 1 rfl) ?_
    refine lv_aload_n hx hb dX7_isObject_6 rfl (lv_at hl 0 rfl) ?_
    refine va_get (D := (dC, dI)) (ci := 7) (v := .ref (rA 4 0)) (C := RX7) (T := TX7) (N := 19) hx hb hts ii_X7 hown hK hP 0 rfl rfl 0 (by decide) (hts (.fieldLink RX7 9 "StoryHouse$Story" "counts" "[I") wq_152) (fun _ h9 => h9) rfl dX7_isObject_7 ?_
    refine lv_iconst (v := 0) hx hb dX7_isObject_10 (by decide +kernel) ?_
    refine va_iald (f := (Γ 4).2.1 0) hx hb hK hP 1 2 rfl rfl (vp_in_iff.mpr (by decide +kernel)) dX7_isObject_11 ?_
    refine lv_icmp_gt (tgt := 19) hx hb dX7_isObject_12 (by decide) (fun c_4 => ?_) (fun c_4 => ?_)
    · have hF_5 := ipos c_4 hF_3
      clear hF_3
      refine lv_iconst (v := 0) hx hb dX7_isObject_19 (by decide +kernel) ?_
      have h9 := Option.some.inj hF_5
      subst h9
      exact W.zret (v := 0) hx hb hr (by decide +kernel) (fun t ht hW => ⟨⟨0, (), rfl, rfl, m_end ht hP, hDD _⟩, hS.F ht⟩) hS.2.2 dX7_isObject_20
    · have hF_6 := ineg c_4 hF_3
      clear hF_3
      refine lv_iconst (v := 1) hx hb dX7_isObject_15 (by decide +kernel) ?_
      refine lv_goto (tgt := 20) hx hb dX7_isObject_16 (by decide) ?_
      have h9 := Option.some.inj hF_6
      subst h9
      exact W.zret (v := 1) hx hb hr (by decide +kernel) (fun t ht hW => ⟨⟨1, (), rfl, rfl, m_end ht hP, hDD _⟩, hS.F ht⟩) hS.2.2 dX7_isObject_20
theorem dX7_isRoom_0 : decode cX7_isRoom 0 = .ok (.iload_n 1, 1) := by decide +kernel
theorem dX7_isRoom_1 : decode cX7_isRoom 1 = .ok (.ifCond .lt 25, 3) := by decide +kernel
theorem dX7_isRoom_4 : decode cX7_isRoom 4 = .ok (.iload_n 1, 1) := by decide +kernel
theorem dX7_isRoom_5 : decode cX7_isRoom 5 = .ok (.aload_n 0, 1) := by decide +kernel
theorem dX7_isRoom_6 : decode cX7_isRoom 6 = .ok (.getfield 15, 3) := by decide +kernel
theorem dX7_isRoom_9 : decode cX7_isRoom 9 = .ok (.arraylength, 1) := by decide +kernel
theorem dX7_isRoom_10 : decode cX7_isRoom 10 = .ok (.if_icmp .ge 16, 3) := by decide +kernel
theorem dX7_isRoom_13 : decode cX7_isRoom 13 = .ok (.aload_n 0, 1) := by decide +kernel
theorem dX7_isRoom_14 : decode cX7_isRoom 14 = .ok (.getfield 15, 3) := by decide +kernel
theorem dX7_isRoom_17 : decode cX7_isRoom 17 = .ok (.iload_n 1, 1) := by decide +kernel
theorem dX7_isRoom_18 : decode cX7_isRoom 18 = .ok (.baload, 1) := by decide +kernel
theorem dX7_isRoom_19 : decode cX7_isRoom 19 = .ok (.ifCond .eq 7, 3) := by decide +kernel
theorem dX7_isRoom_22 : decode cX7_isRoom 22 = .ok (.iconst 1, 1) := by decide +kernel
theorem dX7_isRoom_23 : decode cX7_isRoom 23 = .ok (.goto 4, 3) := by decide +kernel
theorem dX7_isRoom_26 : decode cX7_isRoom 26 = .ok (.iconst 0, 1) := by decide +kernel
theorem dX7_isRoom_27 : decode cX7_isRoom 27 = .ok (.ireturn, 1) := by decide +kernel
def F_X7_isRoom (p0 : Int32) (Γ : HS) : HR :=
  if p0 < 0 then (
    some (0, Γ)
  ) else (
    if 121 ≤ p0 then (
      some (0, Γ)
    ) else (
      if p0 < 0 ∨ 121 ≤ p0.toNatClampNeg then none else
      if ((Γ 4).2.1 1 p0.toNatClampNeg) = 0 then (
        some (0, Γ)
      ) else (
        some (1, Γ)
      )
    )
  )
set_option maxHeartbeats 4000000 in
set_option maxRecDepth 100000 in
theorem k_X7_isRoom (l : Launch) (dC : Nat → ClassId) (dI : Nat → Nat → Nat) (cB cC cI cJ cZ cP : ClassId) (oA : Nat → Nat) (rA : Nat → Nat → Nat) (sz : Nat)  (p0 : Int32) (Γ : HS) (res : Int32 × HS) (hF : F_X7_isRoom p0 Γ = some res) : Met l yX7_isRoom (g_ws yX7_isRoom cX7_isRoom 2 (some .boolean)) ({ frames := 1, cells := 0, slots := 0, locals := 40 }) (va_Pc [.ref (oA 4), .int p0] (g_B (dC, dI) [(cB, .byte), (cC, .char), (cI, .int), (cJ, .long), (cZ, .boolean), (cP, .object "StoryHouse$Play")] sz (b_s cB cC cI cJ cZ oA rA Γ ++ b_c cB cC cI cJ cZ oA rA Γ ++ b_t cB cC cI cJ cZ oA rA Γ ++ b_d cB cC cI cJ cZ oA rA Γ) g_0)) (va_Qi (fun r (_ : Unit) => r = res.1) (g_Bo (dC, dI) (va_A (b_s cB cC cI cJ cZ oA rA Γ ++ b_c cB cC cI cJ cZ oA rA Γ ++ b_t cB cC cI cJ cZ oA rA Γ ++ b_d cB cC cI cJ cZ oA rA Γ) sz) (fun (_ : Unit) => (b_s cB cC cI cJ cZ oA rA res.2 ++ b_c cB cC cI cJ cZ oA rA res.2 ++ b_t cB cC cI cJ cZ oA rA res.2 ++ b_d cB cC cI cJ cZ oA rA res.2))) (va_A (b_s cB cC cI cJ cZ oA rA Γ ++ b_c cB cC cI cJ cZ oA rA Γ ++ b_t cB cC cI cJ cZ oA rA Γ ++ b_d cB cC cI cJ cZ oA rA Γ) sz)) 0 0 (va_A (b_s cB cC cI cJ cZ oA rA Γ ++ b_c cB cC cI cJ cZ oA rA Γ ++ b_t cB cC cI cJ cZ oA rA Γ ++ b_d cB cC cI cJ cZ oA rA Γ) sz) := by
  refine Met.ofW (cc := cX7_isRoom) (maxL := 2) (ret := (some .boolean)) (by decide) rfl ?_
  intro p e s m args below meth c s₁ B hml hv
  obtain ⟨rfl, hsz, hP, hK, hD0, hE, hX⟩ := hv
  have hx := B.exec
  have hb := B.bytes
  have hr := B.returns
  have hts0 := atoms_spec (ws := g_ws yX7_isRoom cX7_isRoom 2 (some .boolean)) B.pre
  have hts : ∀ w ∈ lw_good, w.before ([.ref (oA 4), .int p0] : List Value).toArray s = true := fun w z => hts0 w (List.mem_cons_of_mem _ z)
  have hown : s.vm.findClass RX7 = some m.cls := findClass_of_methodNamed B.named
  have hlocks := B.notSynchronized
  subst hsz
  have hD1 := hD0.self (sz := s.heap.size)
  generalize hAe : va_A (b_s cB cC cI cJ cZ oA rA Γ ++ b_c cB cC cI cJ cZ oA rA Γ ++ b_t cB cC cI cJ cZ oA rA Γ ++ b_d cB cC cI cJ cZ oA rA Γ) s.heap.size = A at hD1 hE hX ⊢
  have hA : ∀ q : Nat, s.heap.size ≤ q → A q := fun q z => by rw [← hAe]; exact Or.inr z
  have hDD : ∀ Γ : HS, va_D A (b_s cB cC cI cJ cZ oA rA Γ ++ b_c cB cC cI cJ cZ oA rA Γ ++ b_t cB cC cI cJ cZ oA rA Γ ++ b_d cB cC cI cJ cZ oA rA Γ) := fun Γ9 => va_D_fst (ws := (b_s cB cC cI cJ cZ oA rA Γ ++ b_c cB cC cI cJ cZ oA rA Γ ++ b_t cB cC cI cJ cZ oA rA Γ ++ b_d cB cC cI cJ cZ oA rA Γ)) (ws' := (b_s cB cC cI cJ cZ oA rA Γ9 ++ b_c cB cC cI cJ cZ oA rA Γ9 ++ b_t cB cC cI cJ cZ oA rA Γ9 ++ b_d cB cC cI cJ cZ oA rA Γ9)) rfl hD1
  have hN := hE.1
  have hS : va_S A s.heap s.heap [] := va_S.rf
  have hl := lv_entry ([.ref (oA 4), .int p0]) (n := 2) (Nat.le_of_ble_eq_true rfl)
  rw [lg_entry_eq]
  generalize (lg_sl ([.ref (oA 4), .int p0]) ++ List.replicate (2 - (lg_sl ([.ref (oA 4), .int p0])).length) Slot.unset).toArray = ls at hl ⊢
  have hl : lv_has ls 2 [(0, .ref (oA 4)), (1, .int p0)] := hl
  unfold F_X7_isRoom at hF
  refine lv_iload_n hx hb dX7_isRoom_0 rfl (lv_at hl 1 rfl) ?_
  refine lv_if_lt (tgt := 26) hx hb dX7_isRoom_1 (by decide) (fun c_1 => ?_) (fun c_1 => ?_)
  · have hF_2 := ipos c_1 hF
    clear hF
    refine lv_iconst (v := 0) hx hb dX7_isRoom_26 (by decide +kernel) ?_
    have h9 := Option.some.inj hF_2
    subst h9
    exact W.zret (v := 0) hx hb hr (by decide +kernel) (fun t ht hW => ⟨⟨0, (), rfl, rfl, m_end ht hP, hDD _⟩, hS.F ht⟩) hS.2.2 dX7_isRoom_27
  · have hF_3 := ineg c_1 hF
    clear hF
    refine lv_iload_n hx hb dX7_isRoom_4 rfl (lv_at hl 1 rfl) ?_
    refine lv_aload_n hx hb dX7_isRoom_5 rfl (lv_at hl 0 rfl) ?_
    refine va_get (D := (dC, dI)) (ci := 7) (v := .ref (rA 4 1)) (C := RX7) (T := TX7) (N := 19) hx hb hts ii_X7 hown hK hP 0 rfl rfl 1 (by decide) (hts (.fieldLink RX7 15 "StoryHouse$Story" "rooms" "[Z") wq_156) (fun _ h9 => h9) rfl dX7_isRoom_6 ?_
    refine va_alen (v := 121) hx hb hK hP 2 4 rfl rfl (by first | rfl | decide +kernel) dX7_isRoom_9 ?_
    refine lv_icmp_ge (tgt := 26) hx hb dX7_isRoom_10 (by decide) (fun c_4 => ?_) (fun c_4 => ?_)
    · have hF_5 := ipos c_4 hF_3
      clear hF_3
      refine lv_iconst (v := 0) hx hb dX7_isRoom_26 (by decide +kernel) ?_
      have h9 := Option.some.inj hF_5
      subst h9
      exact W.zret (v := 0) hx hb hr (by decide +kernel) (fun t ht hW => ⟨⟨0, (), rfl, rfl, m_end ht hP, hDD _⟩, hS.F ht⟩) hS.2.2 dX7_isRoom_27
    · have hF_6 := ineg c_4 hF_3
      clear hF_3
      refine lv_aload_n hx hb dX7_isRoom_13 rfl (lv_at hl 0 rfl) ?_
      refine va_get (D := (dC, dI)) (ci := 7) (v := .ref (rA 4 1)) (C := RX7) (T := TX7) (N := 19) hx hb hts ii_X7 hown hK hP 0 rfl rfl 1 (by decide) (hts (.fieldLink RX7 15 "StoryHouse$Story" "rooms" "[Z") wq_156) (fun _ h9 => h9) rfl dX7_isRoom_14 ?_
      refine lv_iload_n hx hb dX7_isRoom_17 rfl (lv_at hl 1 rfl) ?_
      obtain ⟨g_7, hF_8⟩ := nif_e hF_6
      clear hF_6
      refine va_zald (f := (Γ 4).2.1 1) hx hb hK hP 2 4 rfl rfl g_7 dX7_isRoom_18 ?_
      refine lv_if_eq (tgt := 26) hx hb dX7_isRoom_19 (by decide) (fun c_9 => ?_) (fun c_9 => ?_)
      · have hF_10 := ipos c_9 hF_8
        clear hF_8
        refine lv_iconst (v := 0) hx hb dX7_isRoom_26 (by decide +kernel) ?_
        have h9 := Option.some.inj hF_10
        subst h9
        exact W.zret (v := 0) hx hb hr (by decide +kernel) (fun t ht hW => ⟨⟨0, (), rfl, rfl, m_end ht hP, hDD _⟩, hS.F ht⟩) hS.2.2 dX7_isRoom_27
      · have hF_11 := ineg c_9 hF_8
        clear hF_8
        refine lv_iconst (v := 1) hx hb dX7_isRoom_22 (by decide +kernel) ?_
        refine lv_goto (tgt := 27) hx hb dX7_isRoom_23 (by decide) ?_
        have h9 := Option.some.inj hF_11
        subst h9
        exact W.zret (v := 1) hx hb hr (by decide +kernel) (fun t ht hW => ⟨⟨1, (), rfl, rfl, m_end ht hP, hDD _⟩, hS.F ht⟩) hS.2.2 dX7_isRoom_27
