/-! methods of the class: what each does is its function -/
theorem dX7_exitOf_0 : decode cX7_exitOf 0 = .ok (.iload_n 2, 1) := by decide +kernel
theorem dX7_exitOf_1 : decode cX7_exitOf 1 = .ok (.iconst 1, 1) := by decide +kernel
theorem dX7_exitOf_2 : decode cX7_exitOf 2 = .ok (.if_icmp .lt 27, 3) := by decide +kernel
theorem dX7_exitOf_5 : decode cX7_exitOf 5 = .ok (.iload_n 2, 1) := by decide +kernel
theorem dX7_exitOf_6 : decode cX7_exitOf 6 = .ok (.bipush 6, 2) := by decide +kernel
theorem dX7_exitOf_8 : decode cX7_exitOf 8 = .ok (.if_icmp .gt 21, 3) := by decide +kernel
theorem dX7_exitOf_11 : decode cX7_exitOf 11 = .ok (.aload_n 0, 1) := by decide +kernel
theorem dX7_exitOf_12 : decode cX7_exitOf 12 = .ok (.getfield 31, 3) := by decide +kernel
theorem dX7_exitOf_15 : decode cX7_exitOf 15 = .ok (.iload_n 1, 1) := by decide +kernel
theorem dX7_exitOf_16 : decode cX7_exitOf 16 = .ok (.bipush 6, 2) := by decide +kernel
theorem dX7_exitOf_18 : decode cX7_exitOf 18 = .ok (.imul, 1) := by decide +kernel
theorem dX7_exitOf_19 : decode cX7_exitOf 19 = .ok (.iload_n 2, 1) := by decide +kernel
theorem dX7_exitOf_20 : decode cX7_exitOf 20 = .ok (.iadd, 1) := by decide +kernel
theorem dX7_exitOf_21 : decode cX7_exitOf 21 = .ok (.iconst 1, 1) := by decide +kernel
theorem dX7_exitOf_22 : decode cX7_exitOf 22 = .ok (.isub, 1) := by decide +kernel
theorem dX7_exitOf_23 : decode cX7_exitOf 23 = .ok (.invokestatic 155, 3) := by decide +kernel
theorem dX7_exitOf_26 : decode cX7_exitOf 26 = .ok (.goto 4, 3) := by decide +kernel
theorem dX7_exitOf_29 : decode cX7_exitOf 29 = .ok (.iconst 0, 1) := by decide +kernel
theorem dX7_exitOf_30 : decode cX7_exitOf 30 = .ok (.ireturn, 1) := by decide +kernel
def F_X7_exitOf (p0 : Int32) (p1 : Int32) (Γ : HS) : HR :=
  if p1 < 1 then (
    some (0, Γ)
  ) else (
    if 6 < p1 then (
      some (0, Γ)
    ) else (
      bnd ((((p0 * 6) + p1) - 1)) fun (x_7 : Int32) =>
      bnd ((g_at 726 ((Γ 4).2.1 6) x_7)) fun (x_9 : Int32) =>
      some (x_9, Γ)
    )
  )
set_option maxHeartbeats 4000000 in
set_option maxRecDepth 100000 in
theorem k_X7_exitOf (l : Launch) (dC : Nat → ClassId) (dI : Nat → Nat → Nat) (cB cC cI cJ cZ cP : ClassId) (oA : Nat → Nat) (rA : Nat → Nat → Nat) (sz : Nat)  (p0 : Int32) (p1 : Int32) (Γ : HS) (res : Int32 × HS) (hF : F_X7_exitOf p0 p1 Γ = some res) : Met l yX7_exitOf (g_ws yX7_exitOf cX7_exitOf 3 (some .int)) ({ frames := 3, cells := 0, slots := 0, locals := 81 }) (va_Pc [.ref (oA 4), .int p0, .int p1] (g_B (dC, dI) [(cB, .byte), (cC, .char), (cI, .int), (cJ, .long), (cZ, .boolean), (cP, .object "StoryHouse$Play")] sz (b_s cB cC cI cJ cZ oA rA Γ ++ b_c cB cC cI cJ cZ oA rA Γ ++ b_t cB cC cI cJ cZ oA rA Γ ++ b_d cB cC cI cJ cZ oA rA Γ) g_0)) (va_Qi (fun r (_ : Unit) => r = res.1) (g_Bo (dC, dI) (va_A (b_s cB cC cI cJ cZ oA rA Γ ++ b_c cB cC cI cJ cZ oA rA Γ ++ b_t cB cC cI cJ cZ oA rA Γ ++ b_d cB cC cI cJ cZ oA rA Γ) sz) (fun (_ : Unit) => (b_s cB cC cI cJ cZ oA rA res.2 ++ b_c cB cC cI cJ cZ oA rA res.2 ++ b_t cB cC cI cJ cZ oA rA res.2 ++ b_d cB cC cI cJ cZ oA rA res.2))) (va_A (b_s cB cC cI cJ cZ oA rA Γ ++ b_c cB cC cI cJ cZ oA rA Γ ++ b_t cB cC cI cJ cZ oA rA Γ ++ b_d cB cC cI cJ cZ oA rA Γ) sz)) 0 0 (va_A (b_s cB cC cI cJ cZ oA rA Γ ++ b_c cB cC cI cJ cZ oA rA Γ ++ b_t cB cC cI cJ cZ oA rA Γ ++ b_d cB cC cI cJ cZ oA rA Γ) sz) := by
  refine Met.ofW (cc := cX7_exitOf) (maxL := 3) (ret := (some .int)) (by decide) rfl ?_
  intro p e s m args below meth c s₁ B hml hv
  obtain ⟨rfl, hsz, hP, hK, hD0, hE, hX⟩ := hv
  have hx := B.exec
  have hb := B.bytes
  have hr := B.returns
  have hts0 := atoms_spec (ws := g_ws yX7_exitOf cX7_exitOf 3 (some .int)) B.pre
  have hts : ∀ w ∈ lw_good, w.before ([.ref (oA 4), .int p0, .int p1] : List Value).toArray s = true := fun w z => hts0 w (List.mem_cons_of_mem _ z)
  have hown : s.vm.findClass RX7 = some m.cls := findClass_of_methodNamed B.named
  have hlocks := B.notSynchronized
  subst hsz
  have hD1 := hD0.self (sz := s.heap.size)
  generalize hAe : va_A (b_s cB cC cI cJ cZ oA rA Γ ++ b_c cB cC cI cJ cZ oA rA Γ ++ b_t cB cC cI cJ cZ oA rA Γ ++ b_d cB cC cI cJ cZ oA rA Γ) s.heap.size = A at hD1 hE hX ⊢
  have hA : ∀ q : Nat, s.heap.size ≤ q → A q := fun q z => by rw [← hAe]; exact Or.inr z
  have hDD : ∀ Γ : HS, va_D A (b_s cB cC cI cJ cZ oA rA Γ ++ b_c cB cC cI cJ cZ oA rA Γ ++ b_t cB cC cI cJ cZ oA rA Γ ++ b_d cB cC cI cJ cZ oA rA Γ) := fun Γ9 => va_D_fst (ws := (b_s cB cC cI cJ cZ oA rA Γ ++ b_c cB cC cI cJ cZ oA rA Γ ++ b_t cB cC cI cJ cZ oA rA Γ ++ b_d cB cC cI cJ cZ oA rA Γ)) (ws' := (b_s cB cC cI cJ cZ oA rA Γ9 ++ b_c cB cC cI cJ cZ oA rA Γ9 ++ b_t cB cC cI cJ cZ oA rA Γ9 ++ b_d cB cC cI cJ cZ oA rA Γ9)) rfl hD1
  have hN := hE.1
  have hS : va_S A s.heap s.heap [] := va_S.rf
  have hl := lv_entry ([.ref (oA 4), .int p0, .int p1]) (n := 3) (Nat.le_of_ble_eq_true rfl)
  rw [lg_entry_eq]
  generalize (lg_sl ([.ref (oA 4), .int p0, .int p1]) ++ List.replicate (3 - (lg_sl ([.ref (oA 4), .int p0, .int p1])).length) Slot.unset).toArray = ls at hl ⊢
  have hl : lv_has ls 3 [(0, .ref (oA 4)), (1, .int p0), (2, .int p1)] := hl
  unfold F_X7_exitOf at hF
  refine lv_iload_n hx hb dX7_exitOf_0 rfl (lv_at hl 2 rfl) ?_
  refine lv_iconst (v := 1) hx hb dX7_exitOf_1 (by decide +kernel) ?_
  refine lv_icmp_lt (tgt := 29) hx hb dX7_exitOf_2 (by decide) (fun c_1 => ?_) (fun c_1 => ?_)
  · have hF_2 := ipos c_1 hF
    clear hF
    refine lv_iconst (v := 0) hx hb dX7_exitOf_29 (by decide +kernel) ?_
    have h9 := Option.some.inj hF_2
    subst h9
    exact W.iret (v := 0) hx hb hr (fun t ht hW => ⟨⟨0, (), rfl, rfl, m_end ht hP, hDD _⟩, hS.F ht⟩) hS.2.2 dX7_exitOf_30
  · have hF_3 := ineg c_1 hF
    clear hF
    refine lv_iload_n hx hb dX7_exitOf_5 rfl (lv_at hl 2 rfl) ?_
    refine lv_bipush (v := 6) hx hb dX7_exitOf_6 (by decide +kernel) ?_
    refine lv_icmp_gt (tgt := 29) hx hb dX7_exitOf_8 (by decide) (fun c_4 => ?_) (fun c_4 => ?_)
    · have hF_5 := ipos c_4 hF_3
      clear hF_3
      refine lv_iconst (v := 0) hx hb dX7_exitOf_29 (by decide +kernel) ?_
      have h9 := Option.some.inj hF_5
      subst h9
      exact W.iret (v := 0) hx hb hr (fun t ht hW => ⟨⟨0, (), rfl, rfl, m_end ht hP, hDD _⟩, hS.F ht⟩) hS.2.2 dX7_exitOf_30
    · have hF_6 := ineg c_4 hF_3
      clear hF_3
      refine lv_aload_n hx hb dX7_exitOf_11 rfl (lv_at hl 0 rfl) ?_
      refine va_get (D := (dC, dI)) (ci := 7) (v := .ref (rA 4 6)) (C := RX7) (T := TX7) (N := 19) hx hb hts ii_X7 hown hK hP 0 rfl rfl 6 (by decide) (hts (.fieldLink RX7 31 "StoryHouse$Story" "exits" "[I") wq_168) (fun _ h9 => h9) rfl dX7_exitOf_12 ?_
      refine lv_iload_n hx hb dX7_exitOf_15 rfl (lv_at hl 1 rfl) ?_
      refine lv_bipush (v := 6) hx hb dX7_exitOf_16 (by decide +kernel) ?_
      refine lv_imul hx hb dX7_exitOf_18 ?_
      refine lv_iload_n hx hb dX7_exitOf_19 rfl (lv_at hl 2 rfl) ?_
      refine lv_iadd hx hb dX7_exitOf_20 ?_
      refine lv_iconst (v := 1) hx hb dX7_exitOf_21 (by decide +kernel) ?_
      refine lv_isub hx hb dX7_exitOf_22 ?_
      obtain ⟨x_7, ex_7, hF_8⟩ := bnd_e hF_6
      clear hF_6
      refine m_top ex_7 ?_
      have hq9 : ((b_s cB cC cI cJ cZ oA rA Γ ++ b_c cB cC cI cJ cZ oA rA Γ ++ b_t cB cC cI cJ cZ oA rA Γ ++ b_d cB cC cI cJ cZ oA rA Γ))[7]? = some (rA 4 6, .inl (cI, 726, .inl ((Γ 4).2.1 6))) := rfl
      have hPc := hP.sub (ws' := [(rA 4 6, .inl (cI, 726, .inl ((Γ 4).2.1 6)))]) [7] (pk_fm (er_C hq9))
      have hDc := (hDD Γ).sub (ws' := [(rA 4 6, .inl (cI, 726, .inl ((Γ 4).2.1 6)))]) [7] (by decide +kernel) (er_C hq9)
      have hFc := va_free (wc := [(rA 4 6, .inl (cI, 726, .inl ((Γ 4).2.1 6)))]) (hDD Γ) hS hA [7] (er_C hq9)
      refine g_ofi (wc := [(rA 4 6, .inl (cI, 726, .inl ((Γ 4).2.1 6)))]) (wr := (((b_s cB cC cI cJ cZ oA rA Γ ++ b_c cB cC cI cJ cZ oA rA Γ ++ b_t cB cC cI cJ cZ oA rA Γ ++ b_d cB cC cI cJ cZ oA rA Γ)).eraseIdx 7)) hP (hDD Γ) hS hFc [7] ((List.range ((b_s cB cC cI cJ cZ oA rA Γ ++ b_c cB cC cI cJ cZ oA rA Γ ++ b_t cB cC cI cJ cZ oA rA Γ ++ b_d cB cC cI cJ cZ oA rA Γ)).length).eraseIdx 7) (er_C hq9) er_R er_n er_d (va_runSN (As := [.ref (rA 4 6), .int x_7]) (rest := []) ⟨hx, hb, hml, hown, hts⟩ (c_X11_at l dC dI cB cC cI cJ cZ cP s.heap.size (rA 4 6) x_7 726 ((Γ 4).2.1 6) (by decide)) ⟨va_cnB 2 hts (g_gA wq_407) rfl rfl rfl (nw_17 hN) (hts (.initialized RX11) wq_1) (by decide +kernel) ⟨Nat.le_of_ble_eq_true rfl, Nat.le_of_ble_eq_true rfl⟩, (hts (.static yX11_at) wq_406), trivial⟩ (g_preS g_bl0 hK hPc hDc hS hE hFc g_to0) rfl rfl hl.1 rfl (lv_room (Nat.le_of_ble_eq_true rfl)) dX7_exitOf_23 ⟨Nat.le_of_ble_eq_true rfl, Nat.le_of_ble_eq_true rfl⟩) (fun r9 u9 H locs hw9 hP' hD' hS => ?_)
      clear hPc hDc hFc hD'
      have hP : va_P (dC, dI) vwCl (b_s cB cC cI cJ cZ oA rA Γ ++ b_c cB cC cI cJ cZ oA rA Γ ++ b_t cB cC cI cJ cZ oA rA Γ ++ b_d cB cC cI cJ cZ oA rA Γ) H := er_I hP' hq9
      clear hP' hq9
      subst hw9
      obtain ⟨x_9, ex_9, hF_10⟩ := bnd_e hF_8
      clear hF_8
      refine m_top ex_9 ?_
      refine lv_goto (tgt := 30) hx hb dX7_exitOf_26 (by decide) ?_
      have h9 := Option.some.inj hF_10
      subst h9
      exact W.iret (v := x_9) hx hb hr (fun t ht hW => ⟨⟨x_9, (), rfl, rfl, m_end ht hP, hDD _⟩, hS.F ht⟩) hS.2.2 dX7_exitOf_30
theorem dX8_termBetween_0 : decode cX8_termBetween 0 = .ok (.lconst 0, 1) := by decide +kernel
theorem dX8_termBetween_1 : decode cX8_termBetween 1 = .ok (.lstore_n 3, 1) := by decide +kernel
theorem dX8_termBetween_2 : decode cX8_termBetween 2 = .ok (.iload_n 1, 1) := by decide +kernel
theorem dX8_termBetween_3 : decode cX8_termBetween 3 = .ok (.istore 5, 2) := by decide +kernel
theorem dX8_termBetween_5 : decode cX8_termBetween 5 = .ok (.iload 5, 2) := by decide +kernel
theorem dX8_termBetween_7 : decode cX8_termBetween 7 = .ok (.iload_n 1, 1) := by decide +kernel
theorem dX8_termBetween_8 : decode cX8_termBetween 8 = .ok (.bipush 9, 2) := by decide +kernel
theorem dX8_termBetween_10 : decode cX8_termBetween 10 = .ok (.iadd, 1) := by decide +kernel
theorem dX8_termBetween_11 : decode cX8_termBetween 11 = .ok (.if_icmp .ge 52, 3) := by decide +kernel
theorem dX8_termBetween_14 : decode cX8_termBetween 14 = .ok (.lload_n 3, 1) := by decide +kernel
theorem dX8_termBetween_15 : decode cX8_termBetween 15 = .ok (.ldc2_w 109, 3) := by decide +kernel
theorem dX8_termBetween_18 : decode cX8_termBetween 18 = .ok (.lmul, 1) := by decide +kernel
theorem dX8_termBetween_19 : decode cX8_termBetween 19 = .ok (.iload 5, 2) := by decide +kernel
theorem dX8_termBetween_21 : decode cX8_termBetween 21 = .ok (.iload_n 2, 1) := by decide +kernel
theorem dX8_termBetween_22 : decode cX8_termBetween 22 = .ok (.if_icmp .ge 31, 3) := by decide +kernel
theorem dX8_termBetween_25 : decode cX8_termBetween 25 = .ok (.iload 5, 2) := by decide +kernel
theorem dX8_termBetween_27 : decode cX8_termBetween 27 = .ok (.ifCond .lt 26, 3) := by decide +kernel
theorem dX8_termBetween_30 : decode cX8_termBetween 30 = .ok (.iload 5, 2) := by decide +kernel
theorem dX8_termBetween_32 : decode cX8_termBetween 32 = .ok (.aload_n 0, 1) := by decide +kernel
theorem dX8_termBetween_33 : decode cX8_termBetween 33 = .ok (.getfield 9, 3) := by decide +kernel
theorem dX8_termBetween_36 : decode cX8_termBetween 36 = .ok (.arraylength, 1) := by decide +kernel
theorem dX8_termBetween_37 : decode cX8_termBetween 37 = .ok (.if_icmp .ge 16, 3) := by decide +kernel
theorem dX8_termBetween_40 : decode cX8_termBetween 40 = .ok (.aload_n 0, 1) := by decide +kernel
theorem dX8_termBetween_41 : decode cX8_termBetween 41 = .ok (.getfield 9, 3) := by decide +kernel
theorem dX8_termBetween_44 : decode cX8_termBetween 44 = .ok (.iload 5, 2) := by decide +kernel
theorem dX8_termBetween_46 : decode cX8_termBetween 46 = .ok (.baload, 1) := by decide +kernel
theorem dX8_termBetween_47 : decode cX8_termBetween 47 = .ok (.invokestatic 111, 3) := by decide +kernel
theorem dX8_termBetween_50 : decode cX8_termBetween 50 = .ok (.goto 4, 3) := by decide +kernel
theorem dX8_termBetween_53 : decode cX8_termBetween 53 = .ok (.iconst 0, 1) := by decide +kernel
theorem dX8_termBetween_54 : decode cX8_termBetween 54 = .ok (.i2l, 1) := by decide +kernel
theorem dX8_termBetween_55 : decode cX8_termBetween 55 = .ok (.ladd, 1) := by decide +kernel
theorem dX8_termBetween_56 : decode cX8_termBetween 56 = .ok (.lstore_n 3, 1) := by decide +kernel
theorem dX8_termBetween_57 : decode cX8_termBetween 57 = .ok (.iinc 5 1, 3) := by decide +kernel
theorem dX8_termBetween_60 : decode cX8_termBetween 60 = .ok (.goto (-55), 3) := by decide +kernel
theorem dX8_termBetween_63 : decode cX8_termBetween 63 = .ok (.lload_n 3, 1) := by decide +kernel
theorem dX8_termBetween_64 : decode cX8_termBetween 64 = .ok (.lreturn, 1) := by decide +kernel
def F_X8_termBetween (p0 : Int32) (p1 : Int32) (Γ : HS) : HJ :=
  loopF (fun (again_2 : (Int64 × Int32 × HS) → HJ) (s_1 : Int64 × Int32 × HS) => (
    if (p0 + 9) ≤ s_1.2.1 then (
      some (s_1.1, s_1.2.2)
    ) else (
      bnd (fun (t_8 : Int32) (σ_9 : HS) => (
        bnd (((s_1.1 * 37) + t_8.toInt64)) fun (y_13 : Int64) =>
        bnd (s_1.2.1 + 1) fun (x_15 : Int32) =>
        again_2 (y_13, x_15, σ_9)
      ) : Int32 → HS → HJ) fun j_10 =>
      bnd (fun  (σ_17 : HS) => (
        j_10 0 σ_17
      ) : HS → HJ) fun j_18 =>
      if p1 ≤ s_1.2.1 then (
        j_18  s_1.2.2
      ) else (
        if s_1.2.1 < 0 then (
          j_18  s_1.2.2
        ) else (
          if 120 ≤ s_1.2.1 then (
            j_18  s_1.2.2
          ) else (
            if s_1.2.1 < 0 ∨ 120 ≤ s_1.2.1.toNatClampNeg then none else
            (F_X11_nameSign ((nrB ((s_1.2.2 11).2.1 4)) s_1.2.1.toNatClampNeg) s_1.2.2).bind fun u_32 =>
            j_10 u_32.1 s_1.2.2
          )
        )
      )
    )
  )) FU (0, p0, Γ)
set_option maxHeartbeats 4000000 in
set_option maxRecDepth 100000 in
theorem k_X8_termBetween (l : Launch) (dC : Nat → ClassId) (dI : Nat → Nat → Nat) (cB cC cI cJ cZ cP : ClassId) (oA : Nat → Nat) (rA : Nat → Nat → Nat) (sz : Nat)  (p0 : Int32) (p1 : Int32) (Γ : HS) (res : Int64 × HS) (hF : F_X8_termBetween p0 p1 Γ = some res) : Met l yX8_termBetween (g_ws yX8_termBetween cX8_termBetween 6 (some .long)) ({ frames := 3, cells := 0, slots := 0, locals := 80 }) (va_Pc [.ref (oA 11), .int p0, .int p1] (g_B (dC, dI) [(cB, .byte), (cC, .char), (cI, .int), (cJ, .long), (cZ, .boolean), (cP, .object "StoryHouse$Play")] sz (b_e cB cC cI cJ cZ oA rA Γ ++ b_k cB cC cI cJ cZ oA rA Γ ++ b_p cB cC cI cJ cZ oA rA Γ ++ b_o cB cC cI cJ cZ oA rA Γ ++ b_s cB cC cI cJ cZ oA rA Γ ++ b_c cB cC cI cJ cZ oA rA Γ ++ b_t cB cC cI cJ cZ oA rA Γ ++ b_d cB cC cI cJ cZ oA rA Γ) g_0)) (va_Ql (fun r (_ : Unit) => r = res.1) (g_Bo (dC, dI) (va_A (b_e cB cC cI cJ cZ oA rA Γ ++ b_k cB cC cI cJ cZ oA rA Γ ++ b_p cB cC cI cJ cZ oA rA Γ ++ b_o cB cC cI cJ cZ oA rA Γ ++ b_s cB cC cI cJ cZ oA rA Γ ++ b_c cB cC cI cJ cZ oA rA Γ ++ b_t cB cC cI cJ cZ oA rA Γ ++ b_d cB cC cI cJ cZ oA rA Γ) sz) (fun (_ : Unit) => (b_e cB cC cI cJ cZ oA rA res.2 ++ b_k cB cC cI cJ cZ oA rA res.2 ++ b_p cB cC cI cJ cZ oA rA res.2 ++ b_o cB cC cI cJ cZ oA rA res.2 ++ b_s cB cC cI cJ cZ oA rA res.2 ++ b_c cB cC cI cJ cZ oA rA res.2 ++ b_t cB cC cI cJ cZ oA rA res.2 ++ b_d cB cC cI cJ cZ oA rA res.2))) (va_A (b_e cB cC cI cJ cZ oA rA Γ ++ b_k cB cC cI cJ cZ oA rA Γ ++ b_p cB cC cI cJ cZ oA rA Γ ++ b_o cB cC cI cJ cZ oA rA Γ ++ b_s cB cC cI cJ cZ oA rA Γ ++ b_c cB cC cI cJ cZ oA rA Γ ++ b_t cB cC cI cJ cZ oA rA Γ ++ b_d cB cC cI cJ cZ oA rA Γ) sz)) 0 0 (va_A (b_e cB cC cI cJ cZ oA rA Γ ++ b_k cB cC cI cJ cZ oA rA Γ ++ b_p cB cC cI cJ cZ oA rA Γ ++ b_o cB cC cI cJ cZ oA rA Γ ++ b_s cB cC cI cJ cZ oA rA Γ ++ b_c cB cC cI cJ cZ oA rA Γ ++ b_t cB cC cI cJ cZ oA rA Γ ++ b_d cB cC cI cJ cZ oA rA Γ) sz) := by
  refine Met.ofW (cc := cX8_termBetween) (maxL := 6) (ret := (some .long)) (by decide) rfl ?_
  intro p e s m args below meth c s₁ B hml hv
  obtain ⟨rfl, hsz, hP, hK, hD0, hE, hX⟩ := hv
  have hx := B.exec
  have hb := B.bytes
  have hr := B.returns
  have hts0 := atoms_spec (ws := g_ws yX8_termBetween cX8_termBetween 6 (some .long)) B.pre
  have hts : ∀ w ∈ lw_good, w.before ([.ref (oA 11), .int p0, .int p1] : List Value).toArray s = true := fun w z => hts0 w (List.mem_cons_of_mem _ z)
  have hown : s.vm.findClass RX8 = some m.cls := findClass_of_methodNamed B.named
  have hlocks := B.notSynchronized
  subst hsz
  have hD1 := hD0.self (sz := s.heap.size)
  generalize hAe : va_A (b_e cB cC cI cJ cZ oA rA Γ ++ b_k cB cC cI cJ cZ oA rA Γ ++ b_p cB cC cI cJ cZ oA rA Γ ++ b_o cB cC cI cJ cZ oA rA Γ ++ b_s cB cC cI cJ cZ oA rA Γ ++ b_c cB cC cI cJ cZ oA rA Γ ++ b_t cB cC cI cJ cZ oA rA Γ ++ b_d cB cC cI cJ cZ oA rA Γ) s.heap.size = A at hD1 hE hX ⊢
  have hA : ∀ q : Nat, s.heap.size ≤ q → A q := fun q z => by rw [← hAe]; exact Or.inr z
  have hDD : ∀ Γ : HS, va_D A (b_e cB cC cI cJ cZ oA rA Γ ++ b_k cB cC cI cJ cZ oA rA Γ ++ b_p cB cC cI cJ cZ oA rA Γ ++ b_o cB cC cI cJ cZ oA rA Γ ++ b_s cB cC cI cJ cZ oA rA Γ ++ b_c cB cC cI cJ cZ oA rA Γ ++ b_t cB cC cI cJ cZ oA rA Γ ++ b_d cB cC cI cJ cZ oA rA Γ) := fun Γ9 => va_D_fst (ws := (b_e cB cC cI cJ cZ oA rA Γ ++ b_k cB cC cI cJ cZ oA rA Γ ++ b_p cB cC cI cJ cZ oA rA Γ ++ b_o cB cC cI cJ cZ oA rA Γ ++ b_s cB cC cI cJ cZ oA rA Γ ++ b_c cB cC cI cJ cZ oA rA Γ ++ b_t cB cC cI cJ cZ oA rA Γ ++ b_d cB cC cI cJ cZ oA rA Γ)) (ws' := (b_e cB cC cI cJ cZ oA rA Γ9 ++ b_k cB cC cI cJ cZ oA rA Γ9 ++ b_p cB cC cI cJ cZ oA rA Γ9 ++ b_o cB cC cI cJ cZ oA rA Γ9 ++ b_s cB cC cI cJ cZ oA rA Γ9 ++ b_c cB cC cI cJ cZ oA rA Γ9 ++ b_t cB cC cI cJ cZ oA rA Γ9 ++ b_d cB cC cI cJ cZ oA rA Γ9)) rfl hD1
  have hN := hE.1
  have hS : va_S A s.heap s.heap [] := va_S.rf
  have hl := lv_entry ([.ref (oA 11), .int p0, .int p1]) (n := 6) (Nat.le_of_ble_eq_true rfl)
  rw [lg_entry_eq]
  generalize (lg_sl ([.ref (oA 11), .int p0, .int p1]) ++ List.replicate (6 - (lg_sl ([.ref (oA 11), .int p0, .int p1])).length) Slot.unset).toArray = ls at hl ⊢
  have hl : lv_has ls 6 [(0, .ref (oA 11)), (1, .int p0), (2, .int p1)] := hl
  unfold F_X8_termBetween at hF
  refine lv_lconst (v := 0) hx hb dX8_termBetween_0 (by decide +kernel) ?_
  refine lv_lstore_n (lv' := [(3, .long 0), (0, .ref (oA 11)), (1, .int p0), (2, .int p1)]) hx hb dX8_termBetween_1 rfl hl (by decide) rfl (fun ls hl => ?_)
  refine lv_iload_n hx hb dX8_termBetween_2 rfl (lv_at hl 2 rfl) ?_
  refine lv_istore (lv' := [(5, .int p0), (3, .long 0), (0, .ref (oA 11)), (1, .int p0), (2, .int p1)]) hx hb dX8_termBetween_3 hl (by decide) rfl (fun ls hl => ?_)
  refine loopF_ind (P := fun (s_1 : Int64 × Int32 × HS) => ∀ (H : Heap) (locs : List Loc), va_P (dC, dI) vwCl (b_e cB cC cI cJ cZ oA rA s_1.2.2 ++ b_k cB cC cI cJ cZ oA rA s_1.2.2 ++ b_p cB cC cI cJ cZ oA rA s_1.2.2 ++ b_o cB cC cI cJ cZ oA rA s_1.2.2 ++ b_s cB cC cI cJ cZ oA rA s_1.2.2 ++ b_c cB cC cI cJ cZ oA rA s_1.2.2 ++ b_t cB cC cI cJ cZ oA rA s_1.2.2 ++ b_d cB cC cI cJ cZ oA rA s_1.2.2) H → va_S A s.heap H locs → ∀ ls : Array Slot, lv_has ls 6 [(0, .ref (oA 11)), (1, .int p0), (2, .int p1), (3, .long s_1.1), (5, .int s_1.2.1)] → W p l e (headSpec (g_ws yX8_termBetween cX8_termBetween 6 (some .long)) { frames := 3, cells := 0, slots := 0, locals := 80 }).room s m ([.ref (oA 11), .int p0, .int p1] : List Value).toArray below meth c H locs 0 0 (MQ below (va_Ql (fun r (_ : Unit) => r = res.1) (g_Bo (dC, dI) A (fun (_ : Unit) => (b_e cB cC cI cJ cZ oA rA res.2 ++ b_k cB cC cI cJ cZ oA rA res.2 ++ b_p cB cC cI cJ cZ oA rA res.2 ++ b_o cB cC cI cJ cZ oA rA res.2 ++ b_s cB cC cI cJ cZ oA rA res.2 ++ b_c cB cC cI cJ cZ oA rA res.2 ++ b_t cB cC cI cJ cZ oA rA res.2 ++ b_d cB cC cI cJ cZ oA rA res.2))) A) ([.ref (oA 11), .int p0, .int p1] : List Value).toArray s 0 0 A) (F0 m 5 ls [])) ?_ _ _ hF _ _ hP hS ls (lv_sub hl [2, 3, 4, 1, 0] rfl)
  intro again_2 s_1 ih_3 hF_4
  intro H locs hP hS ls hl
  refine lv_iload hx hb dX8_termBetween_5 (lv_at hl 4 rfl) ?_
  refine lv_iload_n hx hb dX8_termBetween_7 rfl (lv_at hl 1 rfl) ?_
  refine lv_bipush (v := 9) hx hb dX8_termBetween_8 (by decide +kernel) ?_
  refine lv_iadd hx hb dX8_termBetween_10 ?_
  refine lv_icmp_ge (tgt := 63) hx hb dX8_termBetween_11 (by decide) (fun c_5 => ?_) (fun c_5 => ?_)
  · have hF_6 := ipos c_5 hF_4
    clear hF_4
    refine lv_lload_n hx hb dX8_termBetween_63 rfl (lv_at hl 3 rfl) ?_
    have h9 := Option.some.inj hF_6
    subst h9
    exact W.lret (v := s_1.1) hx hb hr (fun t ht hW => ⟨⟨s_1.1, (), rfl, rfl, m_end ht hP, hDD _⟩, hS.F ht⟩) hS.2.2 dX8_termBetween_64
  · have hF_7 := ineg c_5 hF_4
    clear hF_4
    refine lv_lload_n hx hb dX8_termBetween_14 rfl (lv_at hl 3 rfl) ?_
    refine lv_ldc2 (v := 37) hx hb hown (hts (.constantLong RX8 109 (37)) wq_1060) dX8_termBetween_15 ?_
    refine lv_lmul hx hb dX8_termBetween_18 ?_
    refine lv_iload hx hb dX8_termBetween_19 (lv_at hl 4 rfl) ?_
    refine lv_iload_n hx hb dX8_termBetween_21 rfl (lv_at hl 2 rfl) ?_
    obtain ⟨j_10, ej_10, hF_11⟩ := bnd_e hF_7
    clear hF_7
    have Jj_10 : ∀ (t_8 : Int32) (σ_9 : HS), j_10 t_8 σ_9 = some res → ∀ (H : Heap) (locs : List Loc), va_P (dC, dI) vwCl (b_e cB cC cI cJ cZ oA rA σ_9 ++ b_k cB cC cI cJ cZ oA rA σ_9 ++ b_p cB cC cI cJ cZ oA rA σ_9 ++ b_o cB cC cI cJ cZ oA rA σ_9 ++ b_s cB cC cI cJ cZ oA rA σ_9 ++ b_c cB cC cI cJ cZ oA rA σ_9 ++ b_t cB cC cI cJ cZ oA rA σ_9 ++ b_d cB cC cI cJ cZ oA rA σ_9) H → va_S A s.heap H locs → ∀ ls : Array Slot, lv_has ls 6 [(0, .ref (oA 11)), (1, .int p0), (2, .int p1), (5, .int s_1.2.1)] → W p l e (headSpec (g_ws yX8_termBetween cX8_termBetween 6 (some .long)) { frames := 3, cells := 0, slots := 0, locals := 80 }).room s m ([.ref (oA 11), .int p0, .int p1] : List Value).toArray below meth c H locs 0 0 (MQ below (va_Ql (fun r (_ : Unit) => r = res.1) (g_Bo (dC, dI) A (fun (_ : Unit) => (b_e cB cC cI cJ cZ oA rA res.2 ++ b_k cB cC cI cJ cZ oA rA res.2 ++ b_p cB cC cI cJ cZ oA rA res.2 ++ b_o cB cC cI cJ cZ oA rA res.2 ++ b_s cB cC cI cJ cZ oA rA res.2 ++ b_c cB cC cI cJ cZ oA rA res.2 ++ b_t cB cC cI cJ cZ oA rA res.2 ++ b_d cB cC cI cJ cZ oA rA res.2))) A) ([.ref (oA 11), .int p0, .int p1] : List Value).toArray s 0 0 A) (F0 m 54 ls [.int t_8, .long (s_1.1 * 37)]) := by
      intro t_8 σ_9 hF0 H locs hP hS ls hl
      subst ej_10
      have hF_12 := hF0
      clear hF0
      refine lv_i2l hx hb dX8_termBetween_54 rfl ?_
      refine lv_ladd hx hb dX8_termBetween_55 ?_
      obtain ⟨y_13, ey_13, hF_14⟩ := bnd_e hF_12
      clear hF_12
      refine c_topl ey_13 ?_
      refine lv_lstore_n (lv' := [(3, .long y_13), (0, .ref (oA 11)), (1, .int p0), (2, .int p1), (5, .int s_1.2.1)]) hx hb dX8_termBetween_56 rfl hl (by decide) rfl (fun ls hl => ?_)
      obtain ⟨x_15, ex_15, hF_16⟩ := bnd_e hF_14
      clear hF_14
      refine lv_iinc (v := x_15) (lv' := [(5, .int x_15), (3, .long y_13), (0, .ref (oA 11)), (1, .int p0), (2, .int p1)]) hx hb dX8_termBetween_57 hl (k := 4) rfl (by rw [ex_15]; rfl) (by decide) rfl (fun ls hl => ?_)
      refine lv_goto (tgt := 5) hx hb dX8_termBetween_60 (by decide) ?_
      exact ih_3 (y_13, x_15, σ_9) hF_16 _ _ hP hS ls (lv_sub hl [2, 3, 4, 1, 0] rfl)
    obtain ⟨j_18, ej_18, hF_19⟩ := bnd_e hF_11
    clear hF_11
    have Jj_18 : ∀  (σ_17 : HS), j_18  σ_17 = some res → ∀ (H : Heap) (locs : List Loc), va_P (dC, dI) vwCl (b_e cB cC cI cJ cZ oA rA σ_17 ++ b_k cB cC cI cJ cZ oA rA σ_17 ++ b_p cB cC cI cJ cZ oA rA σ_17 ++ b_o cB cC cI cJ cZ oA rA σ_17 ++ b_s cB cC cI cJ cZ oA rA σ_17 ++ b_c cB cC cI cJ cZ oA rA σ_17 ++ b_t cB cC cI cJ cZ oA rA σ_17 ++ b_d cB cC cI cJ cZ oA rA σ_17) H → va_S A s.heap H locs → ∀ ls : Array Slot, lv_has ls 6 [(0, .ref (oA 11)), (1, .int p0), (2, .int p1), (5, .int s_1.2.1)] → W p l e (headSpec (g_ws yX8_termBetween cX8_termBetween 6 (some .long)) { frames := 3, cells := 0, slots := 0, locals := 80 }).room s m ([.ref (oA 11), .int p0, .int p1] : List Value).toArray below meth c H locs 0 0 (MQ below (va_Ql (fun r (_ : Unit) => r = res.1) (g_Bo (dC, dI) A (fun (_ : Unit) => (b_e cB cC cI cJ cZ oA rA res.2 ++ b_k cB cC cI cJ cZ oA rA res.2 ++ b_p cB cC cI cJ cZ oA rA res.2 ++ b_o cB cC cI cJ cZ oA rA res.2 ++ b_s cB cC cI cJ cZ oA rA res.2 ++ b_c cB cC cI cJ cZ oA rA res.2 ++ b_t cB cC cI cJ cZ oA rA res.2 ++ b_d cB cC cI cJ cZ oA rA res.2))) A) ([.ref (oA 11), .int p0, .int p1] : List Value).toArray s 0 0 A) (F0 m 53 ls [.long (s_1.1 * 37)]) := by
      intro  σ_17 hF0 H locs hP hS ls hl
      subst ej_18
      have hF_20 := hF0
      clear hF0
      refine lv_iconst (v := 0) hx hb dX8_termBetween_53 (by decide +kernel) ?_
      exact Jj_10 0 σ_17 hF_20 _ _ hP hS ls (lv_sub hl [0, 1, 2, 3] rfl)
    refine lv_icmp_ge (tgt := 53) hx hb dX8_termBetween_22 (by decide) (fun c_21 => ?_) (fun c_21 => ?_)
    · have hF_22 := ipos c_21 hF_19
      clear hF_19
      exact Jj_18  s_1.2.2 hF_22 _ _ hP hS ls (lv_sub hl [0, 1, 2, 4] rfl)
    · have hF_23 := ineg c_21 hF_19
      clear hF_19
      refine lv_iload hx hb dX8_termBetween_25 (lv_at hl 4 rfl) ?_
      refine lv_if_lt (tgt := 53) hx hb dX8_termBetween_27 (by decide) (fun c_24 => ?_) (fun c_24 => ?_)
      · have hF_25 := ipos c_24 hF_23
        clear hF_23
        exact Jj_18  s_1.2.2 hF_25 _ _ hP hS ls (lv_sub hl [0, 1, 2, 4] rfl)
      · have hF_26 := ineg c_24 hF_23
        clear hF_23
        refine lv_iload hx hb dX8_termBetween_30 (lv_at hl 4 rfl) ?_
        refine lv_aload_n hx hb dX8_termBetween_32 rfl (lv_at hl 0 rfl) ?_
        refine va_get (D := (dC, dI)) (ci := 8) (v := .ref (rA 11 4)) (C := RX8) (T := TX8) (N := 16) hx hb hts ii_X8 hown hK hP 0 rfl rfl 4 (by decide) (hts (.fieldLink RX8 9 "StoryHouse$Teller" "line" "[B") wq_291) (fun _ h9 => h9) rfl dX8_termBetween_33 ?_
        refine va_alen (v := 120) hx hb hK hP 1 0 rfl rfl (by first | rfl | decide +kernel) dX8_termBetween_36 ?_
        refine lv_icmp_ge (tgt := 53) hx hb dX8_termBetween_37 (by decide) (fun c_27 => ?_) (fun c_27 => ?_)
        · have hF_28 := ipos c_27 hF_26
          clear hF_26
          exact Jj_18  s_1.2.2 hF_28 _ _ hP hS ls (lv_sub hl [0, 1, 2, 4] rfl)
        · have hF_29 := ineg c_27 hF_26
          clear hF_26
          refine lv_aload_n hx hb dX8_termBetween_40 rfl (lv_at hl 0 rfl) ?_
          refine va_get (D := (dC, dI)) (ci := 8) (v := .ref (rA 11 4)) (C := RX8) (T := TX8) (N := 16) hx hb hts ii_X8 hown hK hP 0 rfl rfl 4 (by decide) (hts (.fieldLink RX8 9 "StoryHouse$Teller" "line" "[B") wq_291) (fun _ h9 => h9) rfl dX8_termBetween_41 ?_
          refine lv_iload hx hb dX8_termBetween_44 (lv_at hl 4 rfl) ?_
          obtain ⟨g_30, hF_31⟩ := nif_e hF_29
          clear hF_29
          refine va_bald (f := (nrB ((s_1.2.2 11).2.1 4))) hx hb hK hP 1 0 rfl rfl g_30 dX8_termBetween_46 ?_
          obtain ⟨u_32, hu_32, hF_33⟩ := Option.bind_eq_some_iff.mp hF_31
          clear hF_31
          have hPc : va_P (dC, dI) vwCl [] H := fun k q z => by simp at z
          have hDc : va_D A [] := ⟨fun i j p q z => by simp at z, fun k q z => by simp at z⟩
          have hFc := c_nil hA hS
          refine c_cs (v := u_32.1) hA hP hS (va_runSN (As := [.int ((nrB ((s_1.2.2 11).2.1 4)) s_1.2.1.toNatClampNeg)]) (rest := [.long (s_1.1 * 37)]) ⟨hx, hb, hml, hown, hts⟩ (k_X11_nameSign l dC dI cB cC cI cJ cZ cP oA rA H.size  ((nrB ((s_1.2.2 11).2.1 4)) s_1.2.1.toNatClampNeg) s_1.2.2 _ hu_32) ⟨va_cnB 1 hts (g_gA wq_397) rfl rfl rfl (nw_33 hN) (hts (.initialized RX11) wq_1) (by decide +kernel) ⟨Nat.le_of_ble_eq_true rfl, Nat.le_of_ble_eq_true rfl⟩, (hts (.static yX11_nameSign) wq_396), trivial⟩ (g_preS g_bl0 hK hPc hDc hS hE hFc g_to0) rfl rfl hl.1 rfl (lv_room (Nat.le_of_ble_eq_true rfl)) dX8_termBetween_47 ⟨Nat.le_of_ble_eq_true rfl, Nat.le_of_ble_eq_true rfl⟩) (fun H locs hP hS => ?_)
          clear hPc hDc hFc
          refine lv_goto (tgt := 54) hx hb dX8_termBetween_50 (by decide) ?_
          exact Jj_10 u_32.1 s_1.2.2 hF_33 _ _ hP hS ls (lv_sub hl [0, 1, 2, 4] rfl)
