/-! methods of the class: what each does is its function -/
theorem dX8_term_0 : decode cX8_term 0 = .ok (.iload_n 1, 1) := by decide +kernel
theorem dX8_term_1 : decode cX8_term 1 = .ok (.ifCond .lt 22, 3) := by decide +kernel
theorem dX8_term_4 : decode cX8_term 4 = .ok (.iload_n 1, 1) := by decide +kernel
theorem dX8_term_5 : decode cX8_term 5 = .ok (.aload_n 0, 1) := by decide +kernel
theorem dX8_term_6 : decode cX8_term 6 = .ok (.getfield 50, 3) := by decide +kernel
theorem dX8_term_9 : decode cX8_term 9 = .ok (.if_icmp .ge 14, 3) := by decide +kernel
theorem dX8_term_12 : decode cX8_term 12 = .ok (.aload_n 0, 1) := by decide +kernel
theorem dX8_term_13 : decode cX8_term 13 = .ok (.getfield 15, 3) := by decide +kernel
theorem dX8_term_16 : decode cX8_term 16 = .ok (.iload_n 1, 1) := by decide +kernel
theorem dX8_term_17 : decode cX8_term 17 = .ok (.invokestatic 70, 3) := by decide +kernel
theorem dX8_term_20 : decode cX8_term 20 = .ok (.goto 4, 3) := by decide +kernel
theorem dX8_term_23 : decode cX8_term 23 = .ok (.iconst (-1), 1) := by decide +kernel
theorem dX8_term_24 : decode cX8_term 24 = .ok (.ireturn, 1) := by decide +kernel
def F_X8_term (p0 : Int32) (Γ : HS) : HR :=
  if p0 < 0 then (
    some ((-1), Γ)
  ) else (
    if ((Γ 11).1 7) ≤ p0 then (
      some ((-1), Γ)
    ) else (
      bnd ((g_at 12 ((Γ 11).2.1 6) p0)) fun (x_7 : Int32) =>
      some (x_7, Γ)
    )
  )
set_option maxHeartbeats 4000000 in
set_option maxRecDepth 100000 in
theorem k_X8_term (l : Launch) (dC : Nat → ClassId) (dI : Nat → Nat → Nat) (cB cC cI cJ cZ cP : ClassId) (oA : Nat → Nat) (rA : Nat → Nat → Nat) (sz : Nat)  (p0 : Int32) (Γ : HS) (res : Int32 × HS) (hF : F_X8_term p0 Γ = some res) : Met l yX8_term (g_ws yX8_term cX8_term 2 (some .int)) ({ frames := 3, cells := 0, slots := 0, locals := 81 }) (va_Pc [.ref (oA 11), .int p0] (g_B (dC, dI) [(cB, .byte), (cC, .char), (cI, .int), (cJ, .long), (cZ, .boolean), (cP, .object "StoryHouse$Play")] sz (b_e cB cC cI cJ cZ oA rA Γ ++ b_k cB cC cI cJ cZ oA rA Γ ++ b_p cB cC cI cJ cZ oA rA Γ ++ b_o cB cC cI cJ cZ oA rA Γ ++ b_s cB cC cI cJ cZ oA rA Γ ++ b_c cB cC cI cJ cZ oA rA Γ ++ b_t cB cC cI cJ cZ oA rA Γ ++ b_d cB cC cI cJ cZ oA rA Γ) g_0)) (va_Qi (fun r (_ : Unit) => r = res.1) (g_Bo (dC, dI) (va_A (b_e cB cC cI cJ cZ oA rA Γ ++ b_k cB cC cI cJ cZ oA rA Γ ++ b_p cB cC cI cJ cZ oA rA Γ ++ b_o cB cC cI cJ cZ oA rA Γ ++ b_s cB cC cI cJ cZ oA rA Γ ++ b_c cB cC cI cJ cZ oA rA Γ ++ b_t cB cC cI cJ cZ oA rA Γ ++ b_d cB cC cI cJ cZ oA rA Γ) sz) (fun (_ : Unit) => (b_e cB cC cI cJ cZ oA rA res.2 ++ b_k cB cC cI cJ cZ oA rA res.2 ++ b_p cB cC cI cJ cZ oA rA res.2 ++ b_o cB cC cI cJ cZ oA rA res.2 ++ b_s cB cC cI cJ cZ oA rA res.2 ++ b_c cB cC cI cJ cZ oA rA res.2 ++ b_t cB cC cI cJ cZ oA rA res.2 ++ b_d cB cC cI cJ cZ oA rA res.2))) (va_A (b_e cB cC cI cJ cZ oA rA Γ ++ b_k cB cC cI cJ cZ oA rA Γ ++ b_p cB cC cI cJ cZ oA rA Γ ++ b_o cB cC cI cJ cZ oA rA Γ ++ b_s cB cC cI cJ cZ oA rA Γ ++ b_c cB cC cI cJ cZ oA rA Γ ++ b_t cB cC cI cJ cZ oA rA Γ ++ b_d cB cC cI cJ cZ oA rA Γ) sz)) 0 0 (va_A (b_e cB cC cI cJ cZ oA rA Γ ++ b_k cB cC cI cJ cZ oA rA Γ ++ b_p cB cC cI cJ cZ oA rA Γ ++ b_o cB cC cI cJ cZ oA rA Γ ++ b_s cB cC cI cJ cZ oA rA Γ ++ b_c cB cC cI cJ cZ oA rA Γ ++ b_t cB cC cI cJ cZ oA rA Γ ++ b_d cB cC cI cJ cZ oA rA Γ) sz) := by
  refine Met.ofW (cc := cX8_term) (maxL := 2) (ret := (some .int)) (by decide) rfl ?_
  intro p e s m args below meth c s₁ B hml hv
  obtain ⟨rfl, hsz, hP, hK, hD0, hE, hX⟩ := hv
  have hx := B.exec
  have hb := B.bytes
  have hr := B.returns
  have hts0 := atoms_spec (ws := g_ws yX8_term cX8_term 2 (some .int)) B.pre
  have hts : ∀ w ∈ lw_good, w.before ([.ref (oA 11), .int p0] : List Value).toArray s = true := fun w z => hts0 w (List.mem_cons_of_mem _ z)
  have hown : s.vm.findClass RX8 = some m.cls := findClass_of_methodNamed B.named
  have hlocks := B.notSynchronized
  subst hsz
  have hD1 := hD0.self (sz := s.heap.size)
  generalize hAe : va_A (b_e cB cC cI cJ cZ oA rA Γ ++ b_k cB cC cI cJ cZ oA rA Γ ++ b_p cB cC cI cJ cZ oA rA Γ ++ b_o cB cC cI cJ cZ oA rA Γ ++ b_s cB cC cI cJ cZ oA rA Γ ++ b_c cB cC cI cJ cZ oA rA Γ ++ b_t cB cC cI cJ cZ oA rA Γ ++ b_d cB cC cI cJ cZ oA rA Γ) s.heap.size = A at hD1 hE hX ⊢
  have hA : ∀ q : Nat, s.heap.size ≤ q → A q := fun q z => by rw [← hAe]; exact Or.inr z
  have hDD : ∀ Γ : HS, va_D A (b_e cB cC cI cJ cZ oA rA Γ ++ b_k cB cC cI cJ cZ oA rA Γ ++ b_p cB cC cI cJ cZ oA rA Γ ++ b_o cB cC cI cJ cZ oA rA Γ ++ b_s cB cC cI cJ cZ oA rA Γ ++ b_c cB cC cI cJ cZ oA rA Γ ++ b_t cB cC cI cJ cZ oA rA Γ ++ b_d cB cC cI cJ cZ oA rA Γ) := fun Γ9 => va_D_fst (ws := (b_e cB cC cI cJ cZ oA rA Γ ++ b_k cB cC cI cJ cZ oA rA Γ ++ b_p cB cC cI cJ cZ oA rA Γ ++ b_o cB cC cI cJ cZ oA rA Γ ++ b_s cB cC cI cJ cZ oA rA Γ ++ b_c cB cC cI cJ cZ oA rA Γ ++ b_t cB cC cI cJ cZ oA rA Γ ++ b_d cB cC cI cJ cZ oA rA Γ)) (ws' := (b_e cB cC cI cJ cZ oA rA Γ9 ++ b_k cB cC cI cJ cZ oA rA Γ9 ++ b_p cB cC cI cJ cZ oA rA Γ9 ++ b_o cB cC cI cJ cZ oA rA Γ9 ++ b_s cB cC cI cJ cZ oA rA Γ9 ++ b_c cB cC cI cJ cZ oA rA Γ9 ++ b_t cB cC cI cJ cZ oA rA Γ9 ++ b_d cB cC cI cJ cZ oA rA Γ9)) rfl hD1
  have hN := hE.1
  have hS : va_S A s.heap s.heap [] := va_S.rf
  have hl := lv_entry ([.ref (oA 11), .int p0]) (n := 2) (Nat.le_of_ble_eq_true rfl)
  rw [lg_entry_eq]
  generalize (lg_sl ([.ref (oA 11), .int p0]) ++ List.replicate (2 - (lg_sl ([.ref (oA 11), .int p0])).length) Slot.unset).toArray = ls at hl ⊢
  have hl : lv_has ls 2 [(0, .ref (oA 11)), (1, .int p0)] := hl
  unfold F_X8_term at hF
  refine lv_iload_n hx hb dX8_term_0 rfl (lv_at hl 1 rfl) ?_
  refine lv_if_lt (tgt := 23) hx hb dX8_term_1 (by decide) (fun c_1 => ?_) (fun c_1 => ?_)
  · have hF_2 := ipos c_1 hF
    clear hF
    refine lv_iconst (v := (-1)) hx hb dX8_term_23 (by decide +kernel) ?_
    have h9 := Option.some.inj hF_2
    subst h9
    exact W.iret (v := (-1)) hx hb hr (fun t ht hW => ⟨⟨(-1), (), rfl, rfl, m_end ht hP, hDD _⟩, hS.F ht⟩) hS.2.2 dX8_term_24
  · have hF_3 := ineg c_1 hF
    clear hF
    refine lv_iload_n hx hb dX8_term_4 rfl (lv_at hl 1 rfl) ?_
    refine lv_aload_n hx hb dX8_term_5 rfl (lv_at hl 0 rfl) ?_
    refine va_get (D := (dC, dI)) (ci := 8) (v := .int ((Γ 11).1 7)) (C := RX8) (T := TX8) (N := 16) hx hb hts ii_X8 hown hK hP 0 rfl rfl 7 (by decide) (hts (.fieldLink RX8 50 "StoryHouse$Teller" "termCount" "I") wq_294) (fun _ h9 => h9) rfl dX8_term_6 ?_
    refine lv_icmp_ge (tgt := 23) hx hb dX8_term_9 (by decide) (fun c_4 => ?_) (fun c_4 => ?_)
    · have hF_5 := ipos c_4 hF_3
      clear hF_3
      refine lv_iconst (v := (-1)) hx hb dX8_term_23 (by decide +kernel) ?_
      have h9 := Option.some.inj hF_5
      subst h9
      exact W.iret (v := (-1)) hx hb hr (fun t ht hW => ⟨⟨(-1), (), rfl, rfl, m_end ht hP, hDD _⟩, hS.F ht⟩) hS.2.2 dX8_term_24
    · have hF_6 := ineg c_4 hF_3
      clear hF_3
      refine lv_aload_n hx hb dX8_term_12 rfl (lv_at hl 0 rfl) ?_
      refine va_get (D := (dC, dI)) (ci := 8) (v := .ref (rA 11 6)) (C := RX8) (T := TX8) (N := 16) hx hb hts ii_X8 hown hK hP 0 rfl rfl 6 (by decide) (hts (.fieldLink RX8 15 "StoryHouse$Teller" "terms" "[I") wq_293) (fun _ h9 => h9) rfl dX8_term_13 ?_
      refine lv_iload_n hx hb dX8_term_16 rfl (lv_at hl 1 rfl) ?_
      have hq9 : ((b_e cB cC cI cJ cZ oA rA Γ ++ b_k cB cC cI cJ cZ oA rA Γ ++ b_p cB cC cI cJ cZ oA rA Γ ++ b_o cB cC cI cJ cZ oA rA Γ ++ b_s cB cC cI cJ cZ oA rA Γ ++ b_c cB cC cI cJ cZ oA rA Γ ++ b_t cB cC cI cJ cZ oA rA Γ ++ b_d cB cC cI cJ cZ oA rA Γ))[2]? = some (rA 11 6, .inl (cI, 12, .inl ((Γ 11).2.1 6))) := rfl
      have hPc := hP.sub (ws' := [(rA 11 6, .inl (cI, 12, .inl ((Γ 11).2.1 6)))]) [2] (pk_fm (er_C hq9))
      have hDc := (hDD Γ).sub (ws' := [(rA 11 6, .inl (cI, 12, .inl ((Γ 11).2.1 6)))]) [2] (by decide +kernel) (er_C hq9)
      have hFc := va_free (wc := [(rA 11 6, .inl (cI, 12, .inl ((Γ 11).2.1 6)))]) (hDD Γ) hS hA [2] (er_C hq9)
      refine g_ofi (wc := [(rA 11 6, .inl (cI, 12, .inl ((Γ 11).2.1 6)))]) (wr := (((b_e cB cC cI cJ cZ oA rA Γ ++ b_k cB cC cI cJ cZ oA rA Γ ++ b_p cB cC cI cJ cZ oA rA Γ ++ b_o cB cC cI cJ cZ oA rA Γ ++ b_s cB cC cI cJ cZ oA rA Γ ++ b_c cB cC cI cJ cZ oA rA Γ ++ b_t cB cC cI cJ cZ oA rA Γ ++ b_d cB cC cI cJ cZ oA rA Γ)).eraseIdx 2)) hP (hDD Γ) hS hFc [2] ((List.range ((b_e cB cC cI cJ cZ oA rA Γ ++ b_k cB cC cI cJ cZ oA rA Γ ++ b_p cB cC cI cJ cZ oA rA Γ ++ b_o cB cC cI cJ cZ oA rA Γ ++ b_s cB cC cI cJ cZ oA rA Γ ++ b_c cB cC cI cJ cZ oA rA Γ ++ b_t cB cC cI cJ cZ oA rA Γ ++ b_d cB cC cI cJ cZ oA rA Γ)).length).eraseIdx 2) (er_C hq9) er_R er_n er_d (va_runSN (As := [.ref (rA 11 6), .int p0]) (rest := []) ⟨hx, hb, hml, hown, hts⟩ (c_X11_at l dC dI cB cC cI cJ cZ cP s.heap.size (rA 11 6) p0 12 ((Γ 11).2.1 6) (by decide)) ⟨va_cnB 2 hts (g_gA wq_407) rfl rfl rfl (nw_31 hN) (hts (.initialized RX11) wq_1) (by decide +kernel) ⟨Nat.le_of_ble_eq_true rfl, Nat.le_of_ble_eq_true rfl⟩, (hts (.static yX11_at) wq_406), trivial⟩ (g_preS g_bl0 hK hPc hDc hS hE hFc g_to0) rfl rfl hl.1 rfl (lv_room (Nat.le_of_ble_eq_true rfl)) dX8_term_17 ⟨Nat.le_of_ble_eq_true rfl, Nat.le_of_ble_eq_true rfl⟩) (fun r9 u9 H locs hw9 hP' hD' hS => ?_)
      clear hPc hDc hFc hD'
      have hP : va_P (dC, dI) vwCl (b_e cB cC cI cJ cZ oA rA Γ ++ b_k cB cC cI cJ cZ oA rA Γ ++ b_p cB cC cI cJ cZ oA rA Γ ++ b_o cB cC cI cJ cZ oA rA Γ ++ b_s cB cC cI cJ cZ oA rA Γ ++ b_c cB cC cI cJ cZ oA rA Γ ++ b_t cB cC cI cJ cZ oA rA Γ ++ b_d cB cC cI cJ cZ oA rA Γ) H := er_I hP' hq9
      clear hP' hq9
      subst hw9
      obtain ⟨x_7, ex_7, hF_8⟩ := bnd_e hF_6
      clear hF_6
      refine m_top ex_7 ?_
      refine lv_goto (tgt := 24) hx hb dX8_term_20 (by decide) ?_
      have h9 := Option.some.inj hF_8
      subst h9
      exact W.iret (v := x_7) hx hb hr (fun t ht hW => ⟨⟨x_7, (), rfl, rfl, m_end ht hP, hDD _⟩, hS.F ht⟩) hS.2.2 dX8_term_24
theorem dX8_listen_0 : decode cX8_listen 0 = .ok (.aload_n 0, 1) := by decide +kernel
theorem dX8_listen_1 : decode cX8_listen 1 = .ok (.getfield 22, 3) := by decide +kernel
theorem dX8_listen_4 : decode cX8_listen 4 = .ok (.getfield 34, 3) := by decide +kernel
theorem dX8_listen_7 : decode cX8_listen 7 = .ok (.ifCond .eq 10, 3) := by decide +kernel
theorem dX8_listen_10 : decode cX8_listen 10 = .ok (.aload_n 0, 1) := by decide +kernel
theorem dX8_listen_11 : decode cX8_listen 11 = .ok (.ldc 40, 2) := by decide +kernel
theorem dX8_listen_13 : decode cX8_listen 13 = .ok (.invokevirtual 42, 3) := by decide +kernel
theorem dX8_listen_16 : decode cX8_listen 16 = .ok (.ireturn, 1) := by decide +kernel
theorem dX8_listen_17 : decode cX8_listen 17 = .ok (.aload_n 0, 1) := by decide +kernel
theorem dX8_listen_18 : decode cX8_listen 18 = .ok (.aload_n 1, 1) := by decide +kernel
theorem dX8_listen_19 : decode cX8_listen 19 = .ok (.iload_n 2, 1) := by decide +kernel
theorem dX8_listen_20 : decode cX8_listen 20 = .ok (.invokevirtual 46, 3) := by decide +kernel
theorem dX8_listen_23 : decode cX8_listen 23 = .ok (.aload_n 0, 1) := by decide +kernel
theorem dX8_listen_24 : decode cX8_listen 24 = .ok (.getfield 50, 3) := by decide +kernel
theorem dX8_listen_27 : decode cX8_listen 27 = .ok (.ifCond .ne 10, 3) := by decide +kernel
theorem dX8_listen_30 : decode cX8_listen 30 = .ok (.aload_n 0, 1) := by decide +kernel
theorem dX8_listen_31 : decode cX8_listen 31 = .ok (.ldc 53, 2) := by decide +kernel
theorem dX8_listen_33 : decode cX8_listen 33 = .ok (.invokevirtual 42, 3) := by decide +kernel
theorem dX8_listen_36 : decode cX8_listen 36 = .ok (.ireturn, 1) := by decide +kernel
theorem dX8_listen_37 : decode cX8_listen 37 = .ok (.aload_n 0, 1) := by decide +kernel
theorem dX8_listen_38 : decode cX8_listen 38 = .ok (.getfield 50, 3) := by decide +kernel
theorem dX8_listen_41 : decode cX8_listen 41 = .ok (.iconst 1, 1) := by decide +kernel
theorem dX8_listen_42 : decode cX8_listen 42 = .ok (.if_icmp .ne 55, 3) := by decide +kernel
theorem dX8_listen_45 : decode cX8_listen 45 = .ok (.aload_n 0, 1) := by decide +kernel
theorem dX8_listen_46 : decode cX8_listen 46 = .ok (.iconst 0, 1) := by decide +kernel
theorem dX8_listen_47 : decode cX8_listen 47 = .ok (.invokevirtual 55, 3) := by decide +kernel
theorem dX8_listen_50 : decode cX8_listen 50 = .ok (.ifCond .eq 12, 3) := by decide +kernel
theorem dX8_listen_53 : decode cX8_listen 53 = .ok (.aload_n 0, 1) := by decide +kernel
theorem dX8_listen_54 : decode cX8_listen 54 = .ok (.iconst 0, 1) := by decide +kernel
theorem dX8_listen_55 : decode cX8_listen 55 = .ok (.invokevirtual 55, 3) := by decide +kernel
theorem dX8_listen_58 : decode cX8_listen 58 = .ok (.iconst 1, 1) := by decide +kernel
theorem dX8_listen_59 : decode cX8_listen 59 = .ok (.if_icmp .ne 38, 3) := by decide +kernel
theorem dX8_listen_62 : decode cX8_listen 62 = .ok (.aload_n 0, 1) := by decide +kernel
theorem dX8_listen_63 : decode cX8_listen 63 = .ok (.getfield 22, 3) := by decide +kernel
theorem dX8_listen_66 : decode cX8_listen 66 = .ok (.getfield 59, 3) := by decide +kernel
theorem dX8_listen_69 : decode cX8_listen 69 = .ok (.ifCond .ne 10, 3) := by decide +kernel
theorem dX8_listen_72 : decode cX8_listen 72 = .ok (.aload_n 0, 1) := by decide +kernel
theorem dX8_listen_73 : decode cX8_listen 73 = .ok (.ldc 62, 2) := by decide +kernel
theorem dX8_listen_75 : decode cX8_listen 75 = .ok (.invokevirtual 42, 3) := by decide +kernel
theorem dX8_listen_78 : decode cX8_listen 78 = .ok (.ireturn, 1) := by decide +kernel
theorem dX8_listen_79 : decode cX8_listen 79 = .ok (.aload_n 0, 1) := by decide +kernel
theorem dX8_listen_80 : decode cX8_listen 80 = .ok (.aload_n 0, 1) := by decide +kernel
theorem dX8_listen_81 : decode cX8_listen 81 = .ok (.getfield 22, 3) := by decide +kernel
theorem dX8_listen_84 : decode cX8_listen 84 = .ok (.getfield 64, 3) := by decide +kernel
theorem dX8_listen_87 : decode cX8_listen 87 = .ok (.aload_n 0, 1) := by decide +kernel
theorem dX8_listen_88 : decode cX8_listen 88 = .ok (.getfield 22, 3) := by decide +kernel
theorem dX8_listen_91 : decode cX8_listen 91 = .ok (.getfield 59, 3) := by decide +kernel
theorem dX8_listen_94 : decode cX8_listen 94 = .ok (.invokevirtual 46, 3) := by decide +kernel
theorem dX8_listen_97 : decode cX8_listen 97 = .ok (.iconst 1, 1) := by decide +kernel
theorem dX8_listen_98 : decode cX8_listen 98 = .ok (.ireturn, 1) := by decide +kernel
def F_X8_listen (p1 : Int32) (Γ : HS) : HR :=
  if ((Γ 9).1 10) = 0 then (
    (F_X8_hear_b p1 Γ).bind fun u_3 =>
    if ((u_3.2 11).1 7) = 0 then (
      (F_X8_refuse ([73, 32, 98, 101, 103, 32, 121, 111, 117, 114, 32, 112, 97, 114, 100, 111, 110, 63] : List Int32) u_3.2).bind fun u_8 =>
      bnd (mrg (fun j => j == 11 || j == 10 || j == 9 || j == 8 || j == 4 || j == 5 || j == 6 || j == 7) u_3.2 u_8.2) fun σ_10 =>
      if ¬ (u_8.1 = 0 ∨ u_8.1 = 1) then none else
      some (u_8.1, σ_10)
    ) else (
      if ((u_3.2 11).1 7) = 1 then (
        (F_X8_term 0 u_3.2).bind fun u_17 =>
        bnd (mrg (fun j => j == 11 || j == 10 || j == 9 || j == 8 || j == 4 || j == 5 || j == 6 || j == 7) u_3.2 u_17.2) fun σ_19 =>
        bnd (fun  (σ_21 : HS) => (
          if ((σ_21 9).1 7) = 0 then (
            (F_X8_refuse ([84, 104, 101, 114, 101, 32, 105, 115, 32, 110, 111, 116, 104, 105, 110, 103, 32, 116, 111, 32, 114, 101, 112, 101, 97, 116, 46] : List Int32) σ_21).bind fun u_28 =>
            bnd (mrg (fun j => j == 11 || j == 10 || j == 9 || j == 8 || j == 4 || j == 5 || j == 6 || j == 7) σ_21 u_28.2) fun σ_30 =>
            if ¬ (u_28.1 = 0 ∨ u_28.1 = 1) then none else
            some (u_28.1, σ_30)
          ) else (
            (F_X8_hear_p ((σ_21 9).1 7) σ_21).bind fun u_35 =>
            bnd (mrg (fun j => j == 11 || j == 10 || j == 9 || j == 8 || j == 4 || j == 5 || j == 6 || j == 7) σ_21 u_35.2) fun σ_37 =>
            some (1, σ_37)
          )
        ) : HS → HR) fun j_22 =>
        if u_17.1 = 0 then (
          j_22  σ_19
        ) else (
          (F_X8_term 0 σ_19).bind fun u_42 =>
          bnd (mrg (fun j => j == 11 || j == 10 || j == 9 || j == 8 || j == 4 || j == 5 || j == 6 || j == 7) σ_19 u_42.2) fun σ_44 =>
          if u_42.1 = 1 then (
            j_22  σ_44
          ) else (
            some (1, σ_44)
          )
        )
      ) else (
        some (1, u_3.2)
      )
    )
  ) else (
    (F_X8_refuse ([84, 104, 101, 32, 115, 116, 111, 114, 121, 32, 105, 115, 32, 111, 118, 101, 114, 46] : List Int32) Γ).bind fun u_52 =>
    bnd (mrg (fun j => j == 11 || j == 10 || j == 9 || j == 8 || j == 4 || j == 5 || j == 6 || j == 7) Γ u_52.2) fun σ_54 =>
    if ¬ (u_52.1 = 0 ∨ u_52.1 = 1) then none else
    some (u_52.1, σ_54)
  )
set_option maxHeartbeats 4000000 in
set_option maxRecDepth 100000 in
theorem k_X8_listen (l : Launch) (dC : Nat → ClassId) (dI : Nat → Nat → Nat) (cB cC cI cJ cZ cP : ClassId) (oA : Nat → Nat) (rA : Nat → Nat → Nat) (sz : Nat)  (p1 : Int32) (Γ : HS) (res : Int32 × HS) (hF : F_X8_listen p1 Γ = some res) : Met l yX8_listen (g_ws yX8_listen cX8_listen 3 (some .boolean)) ({ frames := 8, cells := 0, slots := 0, locals := 189 }) (va_Pc [.ref (oA 11), .ref (rA 13 0), .int p1] (g_B (dC, dI) [(cB, .byte), (cC, .char), (cI, .int), (cJ, .long), (cZ, .boolean), (cP, .object "StoryHouse$Play")] sz (b_b cB cC cI cJ cZ oA rA Γ ++ b_e cB cC cI cJ cZ oA rA Γ ++ b_k cB cC cI cJ cZ oA rA Γ ++ b_p cB cC cI cJ cZ oA rA Γ ++ b_o cB cC cI cJ cZ oA rA Γ ++ b_s cB cC cI cJ cZ oA rA Γ ++ b_c cB cC cI cJ cZ oA rA Γ ++ b_t cB cC cI cJ cZ oA rA Γ ++ b_d cB cC cI cJ cZ oA rA Γ) g_0)) (va_Qi (fun r (_ : Unit) => r = res.1) (g_Bo (dC, dI) (va_A (b_b cB cC cI cJ cZ oA rA Γ ++ b_e cB cC cI cJ cZ oA rA Γ ++ b_k cB cC cI cJ cZ oA rA Γ ++ b_p cB cC cI cJ cZ oA rA Γ ++ b_o cB cC cI cJ cZ oA rA Γ ++ b_s cB cC cI cJ cZ oA rA Γ ++ b_c cB cC cI cJ cZ oA rA Γ ++ b_t cB cC cI cJ cZ oA rA Γ ++ b_d cB cC cI cJ cZ oA rA Γ) sz) (fun (_ : Unit) => (b_b cB cC cI cJ cZ oA rA res.2 ++ b_e cB cC cI cJ cZ oA rA res.2 ++ b_k cB cC cI cJ cZ oA rA res.2 ++ b_p cB cC cI cJ cZ oA rA res.2 ++ b_o cB cC cI cJ cZ oA rA res.2 ++ b_s cB cC cI cJ cZ oA rA res.2 ++ b_c cB cC cI cJ cZ oA rA res.2 ++ b_t cB cC cI cJ cZ oA rA res.2 ++ b_d cB cC cI cJ cZ oA rA res.2))) (va_A (b_b cB cC cI cJ cZ oA rA Γ ++ b_e cB cC cI cJ cZ oA rA Γ ++ b_k cB cC cI cJ cZ oA rA Γ ++ b_p cB cC cI cJ cZ oA rA Γ ++ b_o cB cC cI cJ cZ oA rA Γ ++ b_s cB cC cI cJ cZ oA rA Γ ++ b_c cB cC cI cJ cZ oA rA Γ ++ b_t cB cC cI cJ cZ oA rA Γ ++ b_d cB cC cI cJ cZ oA rA Γ) sz)) 0 0 (va_A (b_b cB cC cI cJ cZ oA rA Γ ++ b_e cB cC cI cJ cZ oA rA Γ ++ b_k cB cC cI cJ cZ oA rA Γ ++ b_p cB cC cI cJ cZ oA rA Γ ++ b_o cB cC cI cJ cZ oA rA Γ ++ b_s cB cC cI cJ cZ oA rA Γ ++ b_c cB cC cI cJ cZ oA rA Γ ++ b_t cB cC cI cJ cZ oA rA Γ ++ b_d cB cC cI cJ cZ oA rA Γ) sz) := by
  refine Met.ofW (cc := cX8_listen) (maxL := 3) (ret := (some .boolean)) (by decide) rfl ?_
  intro p e s m args below meth c s₁ B hml hv
  obtain ⟨rfl, hsz, hP, hK, hD0, hE, hX⟩ := hv
  have hx := B.exec
  have hb := B.bytes
  have hr := B.returns
  have hts0 := atoms_spec (ws := g_ws yX8_listen cX8_listen 3 (some .boolean)) B.pre
  have hts : ∀ w ∈ lw_good, w.before ([.ref (oA 11), .ref (rA 13 0), .int p1] : List Value).toArray s = true := fun w z => hts0 w (List.mem_cons_of_mem _ z)
  have hown : s.vm.findClass RX8 = some m.cls := findClass_of_methodNamed B.named
  have hlocks := B.notSynchronized
  subst hsz
  have hD1 := hD0.self (sz := s.heap.size)
  generalize hAe : va_A (b_b cB cC cI cJ cZ oA rA Γ ++ b_e cB cC cI cJ cZ oA rA Γ ++ b_k cB cC cI cJ cZ oA rA Γ ++ b_p cB cC cI cJ cZ oA rA Γ ++ b_o cB cC cI cJ cZ oA rA Γ ++ b_s cB cC cI cJ cZ oA rA Γ ++ b_c cB cC cI cJ cZ oA rA Γ ++ b_t cB cC cI cJ cZ oA rA Γ ++ b_d cB cC cI cJ cZ oA rA Γ) s.heap.size = A at hD1 hE hX ⊢
  have hA : ∀ q : Nat, s.heap.size ≤ q → A q := fun q z => by rw [← hAe]; exact Or.inr z
  have hDD : ∀ Γ : HS, va_D A (b_b cB cC cI cJ cZ oA rA Γ ++ b_e cB cC cI cJ cZ oA rA Γ ++ b_k cB cC cI cJ cZ oA rA Γ ++ b_p cB cC cI cJ cZ oA rA Γ ++ b_o cB cC cI cJ cZ oA rA Γ ++ b_s cB cC cI cJ cZ oA rA Γ ++ b_c cB cC cI cJ cZ oA rA Γ ++ b_t cB cC cI cJ cZ oA rA Γ ++ b_d cB cC cI cJ cZ oA rA Γ) := fun Γ9 => va_D_fst (ws := (b_b cB cC cI cJ cZ oA rA Γ ++ b_e cB cC cI cJ cZ oA rA Γ ++ b_k cB cC cI cJ cZ oA rA Γ ++ b_p cB cC cI cJ cZ oA rA Γ ++ b_o cB cC cI cJ cZ oA rA Γ ++ b_s cB cC cI cJ cZ oA rA Γ ++ b_c cB cC cI cJ cZ oA rA Γ ++ b_t cB cC cI cJ cZ oA rA Γ ++ b_d cB cC cI cJ cZ oA rA Γ)) (ws' := (b_b cB cC cI cJ cZ oA rA Γ9 ++ b_e cB cC cI cJ cZ oA rA Γ9 ++ b_k cB cC cI cJ cZ oA rA Γ9 ++ b_p cB cC cI cJ cZ oA rA Γ9 ++ b_o cB cC cI cJ cZ oA rA Γ9 ++ b_s cB cC cI cJ cZ oA rA Γ9 ++ b_c cB cC cI cJ cZ oA rA Γ9 ++ b_t cB cC cI cJ cZ oA rA Γ9 ++ b_d cB cC cI cJ cZ oA rA Γ9)) rfl hD1
  have hN := hE.1
  have hS : va_S A s.heap s.heap [] := va_S.rf
  have hl := lv_entry ([.ref (oA 11), .ref (rA 13 0), .int p1]) (n := 3) (Nat.le_of_ble_eq_true rfl)
  rw [lg_entry_eq]
  generalize (lg_sl ([.ref (oA 11), .ref (rA 13 0), .int p1]) ++ List.replicate (3 - (lg_sl ([.ref (oA 11), .ref (rA 13 0), .int p1])).length) Slot.unset).toArray = ls at hl ⊢
  have hl : lv_has ls 3 [(0, .ref (oA 11)), (1, .ref (rA 13 0)), (2, .int p1)] := hl
  unfold F_X8_listen at hF
  refine lv_aload_n hx hb dX8_listen_0 rfl (lv_at hl 0 rfl) ?_
  refine va_get (D := (dC, dI)) (ci := 8) (v := .ref (oA 9)) (C := RX8) (T := TX8) (N := 16) hx hb hts ii_X8 hown hK hP 1 rfl rfl 0 (by decide) (hts (.fieldLink RX8 22 "StoryHouse$Teller" "play" "LStoryHouse$Play;") wq_286) (fun _ h9 => h9) rfl dX8_listen_1 ?_
  refine va_get (D := (dC, dI)) (ci := 6) (v := .int ((Γ 9).1 10)) (C := RX6) (T := TX6) (N := 12) hx hb hts ii_X6 hown hK hP 10 rfl rfl 10 (by decide) (hts (.fieldLink RX8 34 "StoryHouse$Play" "ended" "I") wq_246) (fun _ h9 => h9) rfl dX8_listen_4 ?_
  refine lv_if_eq (tgt := 17) hx hb dX8_listen_7 (by decide) (fun c_1 => ?_) (fun c_1 => ?_)
  · have hF_2 := ipos c_1 hF
    clear hF
    refine lv_aload_n hx hb dX8_listen_17 rfl (lv_at hl 0 rfl) ?_
    refine lv_aload_n hx hb dX8_listen_18 rfl (lv_at hl 1 rfl) ?_
    refine lv_iload_n hx hb dX8_listen_19 rfl (lv_at hl 2 rfl) ?_
    obtain ⟨u_3, hu_3, hF_4⟩ := Option.bind_eq_some_iff.mp hF_2
    clear hF_2
    have hPc := bx_P (bs := [b_b cB cC cI cJ cZ oA rA Γ, b_e cB cC cI cJ cZ oA rA Γ, b_k cB cC cI cJ cZ oA rA Γ, b_p cB cC cI cJ cZ oA rA Γ, b_o cB cC cI cJ cZ oA rA Γ, b_s cB cC cI cJ cZ oA rA Γ, b_c cB cC cI cJ cZ oA rA Γ, b_t cB cC cI cJ cZ oA rA Γ, b_d cB cC cI cJ cZ oA rA Γ]) (bs' := [b_b cB cC cI cJ cZ oA rA Γ, b_e cB cC cI cJ cZ oA rA Γ, b_k cB cC cI cJ cZ oA rA Γ, b_p cB cC cI cJ cZ oA rA Γ, b_o cB cC cI cJ cZ oA rA Γ, b_s cB cC cI cJ cZ oA rA Γ, b_c cB cC cI cJ cZ oA rA Γ, b_t cB cC cI cJ cZ oA rA Γ, b_d cB cC cI cJ cZ oA rA Γ]) (ws' := (b_b cB cC cI cJ cZ oA rA Γ ++ b_e cB cC cI cJ cZ oA rA Γ ++ b_k cB cC cI cJ cZ oA rA Γ ++ b_p cB cC cI cJ cZ oA rA Γ ++ b_o cB cC cI cJ cZ oA rA Γ ++ b_s cB cC cI cJ cZ oA rA Γ ++ b_c cB cC cI cJ cZ oA rA Γ ++ b_t cB cC cI cJ cZ oA rA Γ ++ b_d cB cC cI cJ cZ oA rA Γ)) hP fl_9 fl_9 [0, 1, 2, 3, 4, 5, 6, 7, 8] rfl
    have hDc := bx_D (bs := [b_b cB cC cI cJ cZ oA rA Γ, b_e cB cC cI cJ cZ oA rA Γ, b_k cB cC cI cJ cZ oA rA Γ, b_p cB cC cI cJ cZ oA rA Γ, b_o cB cC cI cJ cZ oA rA Γ, b_s cB cC cI cJ cZ oA rA Γ, b_c cB cC cI cJ cZ oA rA Γ, b_t cB cC cI cJ cZ oA rA Γ, b_d cB cC cI cJ cZ oA rA Γ]) (bs' := [b_b cB cC cI cJ cZ oA rA Γ, b_e cB cC cI cJ cZ oA rA Γ, b_k cB cC cI cJ cZ oA rA Γ, b_p cB cC cI cJ cZ oA rA Γ, b_o cB cC cI cJ cZ oA rA Γ, b_s cB cC cI cJ cZ oA rA Γ, b_c cB cC cI cJ cZ oA rA Γ, b_t cB cC cI cJ cZ oA rA Γ, b_d cB cC cI cJ cZ oA rA Γ]) (ws' := (b_b cB cC cI cJ cZ oA rA Γ ++ b_e cB cC cI cJ cZ oA rA Γ ++ b_k cB cC cI cJ cZ oA rA Γ ++ b_p cB cC cI cJ cZ oA rA Γ ++ b_o cB cC cI cJ cZ oA rA Γ ++ b_s cB cC cI cJ cZ oA rA Γ ++ b_c cB cC cI cJ cZ oA rA Γ ++ b_t cB cC cI cJ cZ oA rA Γ ++ b_d cB cC cI cJ cZ oA rA Γ)) (hDD Γ) fl_9 fl_9 [0, 1, 2, 3, 4, 5, 6, 7, 8] (by decide +kernel) rfl
    have hFc := bx_F (bs := [b_b cB cC cI cJ cZ oA rA Γ, b_e cB cC cI cJ cZ oA rA Γ, b_k cB cC cI cJ cZ oA rA Γ, b_p cB cC cI cJ cZ oA rA Γ, b_o cB cC cI cJ cZ oA rA Γ, b_s cB cC cI cJ cZ oA rA Γ, b_c cB cC cI cJ cZ oA rA Γ, b_t cB cC cI cJ cZ oA rA Γ, b_d cB cC cI cJ cZ oA rA Γ]) (bs' := [b_b cB cC cI cJ cZ oA rA Γ, b_e cB cC cI cJ cZ oA rA Γ, b_k cB cC cI cJ cZ oA rA Γ, b_p cB cC cI cJ cZ oA rA Γ, b_o cB cC cI cJ cZ oA rA Γ, b_s cB cC cI cJ cZ oA rA Γ, b_c cB cC cI cJ cZ oA rA Γ, b_t cB cC cI cJ cZ oA rA Γ, b_d cB cC cI cJ cZ oA rA Γ]) (wc := (b_b cB cC cI cJ cZ oA rA Γ ++ b_e cB cC cI cJ cZ oA rA Γ ++ b_k cB cC cI cJ cZ oA rA Γ ++ b_p cB cC cI cJ cZ oA rA Γ ++ b_o cB cC cI cJ cZ oA rA Γ ++ b_s cB cC cI cJ cZ oA rA Γ ++ b_c cB cC cI cJ cZ oA rA Γ ++ b_t cB cC cI cJ cZ oA rA Γ ++ b_d cB cC cI cJ cZ oA rA Γ)) (hDD Γ) hS hA fl_9 fl_9 [0, 1, 2, 3, 4, 5, 6, 7, 8] rfl
    refine g_ofv (wc := (b_b cB cC cI cJ cZ oA rA Γ ++ b_e cB cC cI cJ cZ oA rA Γ ++ b_k cB cC cI cJ cZ oA rA Γ ++ b_p cB cC cI cJ cZ oA rA Γ ++ b_o cB cC cI cJ cZ oA rA Γ ++ b_s cB cC cI cJ cZ oA rA Γ ++ b_c cB cC cI cJ cZ oA rA Γ ++ b_t cB cC cI cJ cZ oA rA Γ ++ b_d cB cC cI cJ cZ oA rA Γ)) (wr := ([] : va_W)) hP (hDD Γ) hS hFc (bx_ix [b_b cB cC cI cJ cZ oA rA Γ, b_e cB cC cI cJ cZ oA rA Γ, b_k cB cC cI cJ cZ oA rA Γ, b_p cB cC cI cJ cZ oA rA Γ, b_o cB cC cI cJ cZ oA rA Γ, b_s cB cC cI cJ cZ oA rA Γ, b_c cB cC cI cJ cZ oA rA Γ, b_t cB cC cI cJ cZ oA rA Γ, b_d cB cC cI cJ cZ oA rA Γ] [0, 1, 2, 3, 4, 5, 6, 7, 8]) (bx_ix [b_b cB cC cI cJ cZ oA rA Γ, b_e cB cC cI cJ cZ oA rA Γ, b_k cB cC cI cJ cZ oA rA Γ, b_p cB cC cI cJ cZ oA rA Γ, b_o cB cC cI cJ cZ oA rA Γ, b_s cB cC cI cJ cZ oA rA Γ, b_c cB cC cI cJ cZ oA rA Γ, b_t cB cC cI cJ cZ oA rA Γ, b_d cB cC cI cJ cZ oA rA Γ] []) (bx_C (bs := [b_b cB cC cI cJ cZ oA rA Γ, b_e cB cC cI cJ cZ oA rA Γ, b_k cB cC cI cJ cZ oA rA Γ, b_p cB cC cI cJ cZ oA rA Γ, b_o cB cC cI cJ cZ oA rA Γ, b_s cB cC cI cJ cZ oA rA Γ, b_c cB cC cI cJ cZ oA rA Γ, b_t cB cC cI cJ cZ oA rA Γ, b_d cB cC cI cJ cZ oA rA Γ]) (bs' := [b_b cB cC cI cJ cZ oA rA Γ, b_e cB cC cI cJ cZ oA rA Γ, b_k cB cC cI cJ cZ oA rA Γ, b_p cB cC cI cJ cZ oA rA Γ, b_o cB cC cI cJ cZ oA rA Γ, b_s cB cC cI cJ cZ oA rA Γ, b_c cB cC cI cJ cZ oA rA Γ, b_t cB cC cI cJ cZ oA rA Γ, b_d cB cC cI cJ cZ oA rA Γ]) (is := [0, 1, 2, 3, 4, 5, 6, 7, 8]) fl_9 fl_9 rfl) (bx_C (bs := [b_b cB cC cI cJ cZ oA rA Γ, b_e cB cC cI cJ cZ oA rA Γ, b_k cB cC cI cJ cZ oA rA Γ, b_p cB cC cI cJ cZ oA rA Γ, b_o cB cC cI cJ cZ oA rA Γ, b_s cB cC cI cJ cZ oA rA Γ, b_c cB cC cI cJ cZ oA rA Γ, b_t cB cC cI cJ cZ oA rA Γ, b_d cB cC cI cJ cZ oA rA Γ]) (bs' := []) (is := []) fl_9 fl_0 rfl) (bx_n (by decide +kernel)) (bx_d (by decide +kernel)) (va_runV (As := [.ref (rA 13 0), .int p1]) (rest := []) ⟨hx, hb, hml, hown, hts⟩ (k_X8_hear_b l dC dI cB cC cI cJ cZ cP oA rA s.heap.size  p1 Γ _ hu_3) (cwV 2 hts (g_gV wq_1053 wq_1054 wq_2072 wq_12 wq_1055) rfl rfl rfl (by decide +kernel) ⟨Nat.le_of_ble_eq_true rfl, Nat.le_of_ble_eq_true rfl⟩) (g_preV g_bl0 hK hPc hDc hS hE hFc g_to0 (q0 := 1) (ci := 8) rfl rfl) rfl rfl hl.1 rfl (lv_room (Nat.le_of_ble_eq_true rfl)) dX8_listen_20 ⟨Nat.le_of_ble_eq_true rfl, Nat.le_of_ble_eq_true rfl⟩) (fun u9 H locs hw9 hP' hD' hS => ?_)
    clear hPc hDc hFc
    have hP : va_P (dC, dI) vwCl (b_b cB cC cI cJ cZ oA rA u_3.2 ++ b_e cB cC cI cJ cZ oA rA u_3.2 ++ b_k cB cC cI cJ cZ oA rA u_3.2 ++ b_p cB cC cI cJ cZ oA rA u_3.2 ++ b_o cB cC cI cJ cZ oA rA u_3.2 ++ b_s cB cC cI cJ cZ oA rA u_3.2 ++ b_c cB cC cI cJ cZ oA rA u_3.2 ++ b_t cB cC cI cJ cZ oA rA u_3.2 ++ b_d cB cC cI cJ cZ oA rA u_3.2) H := hP'
    clear hP' hD'
    refine lv_aload_n hx hb dX8_listen_23 rfl (lv_at hl 0 rfl) ?_
    refine va_get (D := (dC, dI)) (ci := 8) (v := .int ((u_3.2 11).1 7)) (C := RX8) (T := TX8) (N := 16) hx hb hts ii_X8 hown hK hP 1 rfl rfl 7 (by decide) (hts (.fieldLink RX8 50 "StoryHouse$Teller" "termCount" "I") wq_294) (fun _ h9 => h9) rfl dX8_listen_24 ?_
    refine lv_if_ne (tgt := 37) hx hb dX8_listen_27 (by decide) (fun c_5 => ?_) (fun c_5 => ?_)
    · have hF_14 := ineg c_5 hF_4
      clear hF_4
      refine lv_aload_n hx hb dX8_listen_37 rfl (lv_at hl 0 rfl) ?_
      refine va_get (D := (dC, dI)) (ci := 8) (v := .int ((u_3.2 11).1 7)) (C := RX8) (T := TX8) (N := 16) hx hb hts ii_X8 hown hK hP 1 rfl rfl 7 (by decide) (hts (.fieldLink RX8 50 "StoryHouse$Teller" "termCount" "I") wq_294) (fun _ h9 => h9) rfl dX8_listen_38 ?_
      refine lv_iconst (v := 1) hx hb dX8_listen_41 (by decide +kernel) ?_
      refine lv_icmp_ne (tgt := 97) hx hb dX8_listen_42 (by decide) (fun c_15 => ?_) (fun c_15 => ?_)
      · have hF_49 := ineg c_15 hF_14
        clear hF_14
        refine lv_iconst (v := 1) hx hb dX8_listen_97 (by decide +kernel) ?_
        have h9 := Option.some.inj hF_49
        subst h9
        exact W.zret (v := 1) hx hb hr (by decide +kernel) (fun t ht hW => ⟨⟨1, (), rfl, rfl, m_end ht hP, hDD _⟩, hS.F ht⟩) hS.2.2 dX8_listen_98
      · have hF_16 := ipos c_15 hF_14
        clear hF_14
        refine lv_aload_n hx hb dX8_listen_45 rfl (lv_at hl 0 rfl) ?_
        refine lv_iconst (v := 0) hx hb dX8_listen_46 (by decide +kernel) ?_
        obtain ⟨u_17, hu_17, hF_18⟩ := Option.bind_eq_some_iff.mp hF_16
        clear hF_16
        have hPc := bx_P (bs := [b_b cB cC cI cJ cZ oA rA u_3.2, b_e cB cC cI cJ cZ oA rA u_3.2, b_k cB cC cI cJ cZ oA rA u_3.2, b_p cB cC cI cJ cZ oA rA u_3.2, b_o cB cC cI cJ cZ oA rA u_3.2, b_s cB cC cI cJ cZ oA rA u_3.2, b_c cB cC cI cJ cZ oA rA u_3.2, b_t cB cC cI cJ cZ oA rA u_3.2, b_d cB cC cI cJ cZ oA rA u_3.2]) (bs' := [b_e cB cC cI cJ cZ oA rA u_3.2, b_k cB cC cI cJ cZ oA rA u_3.2, b_p cB cC cI cJ cZ oA rA u_3.2, b_o cB cC cI cJ cZ oA rA u_3.2, b_s cB cC cI cJ cZ oA rA u_3.2, b_c cB cC cI cJ cZ oA rA u_3.2, b_t cB cC cI cJ cZ oA rA u_3.2, b_d cB cC cI cJ cZ oA rA u_3.2]) (ws' := (b_e cB cC cI cJ cZ oA rA u_3.2 ++ b_k cB cC cI cJ cZ oA rA u_3.2 ++ b_p cB cC cI cJ cZ oA rA u_3.2 ++ b_o cB cC cI cJ cZ oA rA u_3.2 ++ b_s cB cC cI cJ cZ oA rA u_3.2 ++ b_c cB cC cI cJ cZ oA rA u_3.2 ++ b_t cB cC cI cJ cZ oA rA u_3.2 ++ b_d cB cC cI cJ cZ oA rA u_3.2)) hP fl_9 fl_8 [1, 2, 3, 4, 5, 6, 7, 8] rfl
        have hDc := bx_D (bs := [b_b cB cC cI cJ cZ oA rA u_3.2, b_e cB cC cI cJ cZ oA rA u_3.2, b_k cB cC cI cJ cZ oA rA u_3.2, b_p cB cC cI cJ cZ oA rA u_3.2, b_o cB cC cI cJ cZ oA rA u_3.2, b_s cB cC cI cJ cZ oA rA u_3.2, b_c cB cC cI cJ cZ oA rA u_3.2, b_t cB cC cI cJ cZ oA rA u_3.2, b_d cB cC cI cJ cZ oA rA u_3.2]) (bs' := [b_e cB cC cI cJ cZ oA rA u_3.2, b_k cB cC cI cJ cZ oA rA u_3.2, b_p cB cC cI cJ cZ oA rA u_3.2, b_o cB cC cI cJ cZ oA rA u_3.2, b_s cB cC cI cJ cZ oA rA u_3.2, b_c cB cC cI cJ cZ oA rA u_3.2, b_t cB cC cI cJ cZ oA rA u_3.2, b_d cB cC cI cJ cZ oA rA u_3.2]) (ws' := (b_e cB cC cI cJ cZ oA rA u_3.2 ++ b_k cB cC cI cJ cZ oA rA u_3.2 ++ b_p cB cC cI cJ cZ oA rA u_3.2 ++ b_o cB cC cI cJ cZ oA rA u_3.2 ++ b_s cB cC cI cJ cZ oA rA u_3.2 ++ b_c cB cC cI cJ cZ oA rA u_3.2 ++ b_t cB cC cI cJ cZ oA rA u_3.2 ++ b_d cB cC cI cJ cZ oA rA u_3.2)) (hDD u_3.2) fl_9 fl_8 [1, 2, 3, 4, 5, 6, 7, 8] (by decide +kernel) rfl
        have hFc := bx_F (bs := [b_b cB cC cI cJ cZ oA rA u_3.2, b_e cB cC cI cJ cZ oA rA u_3.2, b_k cB cC cI cJ cZ oA rA u_3.2, b_p cB cC cI cJ cZ oA rA u_3.2, b_o cB cC cI cJ cZ oA rA u_3.2, b_s cB cC cI cJ cZ oA rA u_3.2, b_c cB cC cI cJ cZ oA rA u_3.2, b_t cB cC cI cJ cZ oA rA u_3.2, b_d cB cC cI cJ cZ oA rA u_3.2]) (bs' := [b_e cB cC cI cJ cZ oA rA u_3.2, b_k cB cC cI cJ cZ oA rA u_3.2, b_p cB cC cI cJ cZ oA rA u_3.2, b_o cB cC cI cJ cZ oA rA u_3.2, b_s cB cC cI cJ cZ oA rA u_3.2, b_c cB cC cI cJ cZ oA rA u_3.2, b_t cB cC cI cJ cZ oA rA u_3.2, b_d cB cC cI cJ cZ oA rA u_3.2]) (wc := (b_e cB cC cI cJ cZ oA rA u_3.2 ++ b_k cB cC cI cJ cZ oA rA u_3.2 ++ b_p cB cC cI cJ cZ oA rA u_3.2 ++ b_o cB cC cI cJ cZ oA rA u_3.2 ++ b_s cB cC cI cJ cZ oA rA u_3.2 ++ b_c cB cC cI cJ cZ oA rA u_3.2 ++ b_t cB cC cI cJ cZ oA rA u_3.2 ++ b_d cB cC cI cJ cZ oA rA u_3.2)) (hDD u_3.2) hS hA fl_9 fl_8 [1, 2, 3, 4, 5, 6, 7, 8] rfl
        refine g_ofi (wc := (b_e cB cC cI cJ cZ oA rA u_3.2 ++ b_k cB cC cI cJ cZ oA rA u_3.2 ++ b_p cB cC cI cJ cZ oA rA u_3.2 ++ b_o cB cC cI cJ cZ oA rA u_3.2 ++ b_s cB cC cI cJ cZ oA rA u_3.2 ++ b_c cB cC cI cJ cZ oA rA u_3.2 ++ b_t cB cC cI cJ cZ oA rA u_3.2 ++ b_d cB cC cI cJ cZ oA rA u_3.2)) (wr := (b_b cB cC cI cJ cZ oA rA u_3.2)) hP (hDD u_3.2) hS hFc (bx_ix [b_b cB cC cI cJ cZ oA rA u_3.2, b_e cB cC cI cJ cZ oA rA u_3.2, b_k cB cC cI cJ cZ oA rA u_3.2, b_p cB cC cI cJ cZ oA rA u_3.2, b_o cB cC cI cJ cZ oA rA u_3.2, b_s cB cC cI cJ cZ oA rA u_3.2, b_c cB cC cI cJ cZ oA rA u_3.2, b_t cB cC cI cJ cZ oA rA u_3.2, b_d cB cC cI cJ cZ oA rA u_3.2] [1, 2, 3, 4, 5, 6, 7, 8]) (bx_ix [b_b cB cC cI cJ cZ oA rA u_3.2, b_e cB cC cI cJ cZ oA rA u_3.2, b_k cB cC cI cJ cZ oA rA u_3.2, b_p cB cC cI cJ cZ oA rA u_3.2, b_o cB cC cI cJ cZ oA rA u_3.2, b_s cB cC cI cJ cZ oA rA u_3.2, b_c cB cC cI cJ cZ oA rA u_3.2, b_t cB cC cI cJ cZ oA rA u_3.2, b_d cB cC cI cJ cZ oA rA u_3.2] [0]) (bx_C (bs := [b_b cB cC cI cJ cZ oA rA u_3.2, b_e cB cC cI cJ cZ oA rA u_3.2, b_k cB cC cI cJ cZ oA rA u_3.2, b_p cB cC cI cJ cZ oA rA u_3.2, b_o cB cC cI cJ cZ oA rA u_3.2, b_s cB cC cI cJ cZ oA rA u_3.2, b_c cB cC cI cJ cZ oA rA u_3.2, b_t cB cC cI cJ cZ oA rA u_3.2, b_d cB cC cI cJ cZ oA rA u_3.2]) (bs' := [b_e cB cC cI cJ cZ oA rA u_3.2, b_k cB cC cI cJ cZ oA rA u_3.2, b_p cB cC cI cJ cZ oA rA u_3.2, b_o cB cC cI cJ cZ oA rA u_3.2, b_s cB cC cI cJ cZ oA rA u_3.2, b_c cB cC cI cJ cZ oA rA u_3.2, b_t cB cC cI cJ cZ oA rA u_3.2, b_d cB cC cI cJ cZ oA rA u_3.2]) (is := [1, 2, 3, 4, 5, 6, 7, 8]) fl_9 fl_8 rfl) (bx_C (bs := [b_b cB cC cI cJ cZ oA rA u_3.2, b_e cB cC cI cJ cZ oA rA u_3.2, b_k cB cC cI cJ cZ oA rA u_3.2, b_p cB cC cI cJ cZ oA rA u_3.2, b_o cB cC cI cJ cZ oA rA u_3.2, b_s cB cC cI cJ cZ oA rA u_3.2, b_c cB cC cI cJ cZ oA rA u_3.2, b_t cB cC cI cJ cZ oA rA u_3.2, b_d cB cC cI cJ cZ oA rA u_3.2]) (bs' := [b_b cB cC cI cJ cZ oA rA u_3.2]) (is := [0]) fl_9 fl_1 rfl) (bx_n (by decide +kernel)) (bx_d (by decide +kernel)) (va_runV (As := [.int 0]) (rest := []) ⟨hx, hb, hml, hown, hts⟩ (k_X8_term l dC dI cB cC cI cJ cZ cP oA rA H.size  0 u_3.2 _ hu_17) (cwV 1 hts (g_gV wq_1065 wq_1066 wq_2074 wq_12 wq_1067) rfl rfl rfl (by decide +kernel) ⟨Nat.le_of_ble_eq_true rfl, Nat.le_of_ble_eq_true rfl⟩) (g_preV g_bl0 hK hPc hDc hS hE hFc g_to0 (q0 := 0) (ci := 8) rfl rfl) rfl rfl hl.1 rfl (lv_room (Nat.le_of_ble_eq_true rfl)) dX8_listen_47 ⟨Nat.le_of_ble_eq_true rfl, Nat.le_of_ble_eq_true rfl⟩) (fun r9 u9 H locs hw9 hP' hD' hS => ?_)
        clear hPc hDc hFc
        subst hw9
        obtain ⟨σ_19, eσ_19, hF_20⟩ := bnd_e hF_18
        clear hF_18
        have hP : va_P (dC, dI) vwCl (b_b cB cC cI cJ cZ oA rA σ_19 ++ b_e cB cC cI cJ cZ oA rA σ_19 ++ b_k cB cC cI cJ cZ oA rA σ_19 ++ b_p cB cC cI cJ cZ oA rA σ_19 ++ b_o cB cC cI cJ cZ oA rA σ_19 ++ b_s cB cC cI cJ cZ oA rA σ_19 ++ b_c cB cC cI cJ cZ oA rA σ_19 ++ b_t cB cC cI cJ cZ oA rA σ_19 ++ b_d cB cC cI cJ cZ oA rA σ_19) H := by rw [eσ_19]; exact bx_P (bs := [b_b cB cC cI cJ cZ oA rA u_3.2] ++ [b_e cB cC cI cJ cZ oA rA u_17.2, b_k cB cC cI cJ cZ oA rA u_17.2, b_p cB cC cI cJ cZ oA rA u_17.2, b_o cB cC cI cJ cZ oA rA u_17.2, b_s cB cC cI cJ cZ oA rA u_17.2, b_c cB cC cI cJ cZ oA rA u_17.2, b_t cB cC cI cJ cZ oA rA u_17.2, b_d cB cC cI cJ cZ oA rA u_17.2]) (bs' := [b_b cB cC cI cJ cZ oA rA (mrg (fun j => j == 11 || j == 10 || j == 9 || j == 8 || j == 4 || j == 5 || j == 6 || j == 7) u_3.2 u_17.2), b_e cB cC cI cJ cZ oA rA (mrg (fun j => j == 11 || j == 10 || j == 9 || j == 8 || j == 4 || j == 5 || j == 6 || j == 7) u_3.2 u_17.2), b_k cB cC cI cJ cZ oA rA (mrg (fun j => j == 11 || j == 10 || j == 9 || j == 8 || j == 4 || j == 5 || j == 6 || j == 7) u_3.2 u_17.2), b_p cB cC cI cJ cZ oA rA (mrg (fun j => j == 11 || j == 10 || j == 9 || j == 8 || j == 4 || j == 5 || j == 6 || j == 7) u_3.2 u_17.2), b_o cB cC cI cJ cZ oA rA (mrg (fun j => j == 11 || j == 10 || j == 9 || j == 8 || j == 4 || j == 5 || j == 6 || j == 7) u_3.2 u_17.2), b_s cB cC cI cJ cZ oA rA (mrg (fun j => j == 11 || j == 10 || j == 9 || j == 8 || j == 4 || j == 5 || j == 6 || j == 7) u_3.2 u_17.2), b_c cB cC cI cJ cZ oA rA (mrg (fun j => j == 11 || j == 10 || j == 9 || j == 8 || j == 4 || j == 5 || j == 6 || j == 7) u_3.2 u_17.2), b_t cB cC cI cJ cZ oA rA (mrg (fun j => j == 11 || j == 10 || j == 9 || j == 8 || j == 4 || j == 5 || j == 6 || j == 7) u_3.2 u_17.2), b_d cB cC cI cJ cZ oA rA (mrg (fun j => j == 11 || j == 10 || j == 9 || j == 8 || j == 4 || j == 5 || j == 6 || j == 7) u_3.2 u_17.2)]) hP' (fl_a fl_1 fl_8) fl_9 [0, 1, 2, 3, 4, 5, 6, 7, 8] rfl
        clear hP' hD'
        obtain ⟨j_22, ej_22, hF_23⟩ := bnd_e hF_20
        clear hF_20
        have Jj_22 : ∀  (σ_21 : HS), j_22  σ_21 = some res → ∀ (H : Heap) (locs : List Loc), va_P (dC, dI) vwCl (b_b cB cC cI cJ cZ oA rA σ_21 ++ b_e cB cC cI cJ cZ oA rA σ_21 ++ b_k cB cC cI cJ cZ oA rA σ_21 ++ b_p cB cC cI cJ cZ oA rA σ_21 ++ b_o cB cC cI cJ cZ oA rA σ_21 ++ b_s cB cC cI cJ cZ oA rA σ_21 ++ b_c cB cC cI cJ cZ oA rA σ_21 ++ b_t cB cC cI cJ cZ oA rA σ_21 ++ b_d cB cC cI cJ cZ oA rA σ_21) H → va_S A s.heap H locs → ∀ ls : Array Slot, lv_has ls 3 [(0, .ref (oA 11))] → W p l e (headSpec (g_ws yX8_listen cX8_listen 3 (some .boolean)) { frames := 8, cells := 0, slots := 0, locals := 189 }).room s m ([.ref (oA 11), .ref (rA 13 0), .int p1] : List Value).toArray below meth c H locs 0 0 (MQ below (va_Qi (fun r (_ : Unit) => r = res.1) (g_Bo (dC, dI) A (fun (_ : Unit) => (b_b cB cC cI cJ cZ oA rA res.2 ++ b_e cB cC cI cJ cZ oA rA res.2 ++ b_k cB cC cI cJ cZ oA rA res.2 ++ b_p cB cC cI cJ cZ oA rA res.2 ++ b_o cB cC cI cJ cZ oA rA res.2 ++ b_s cB cC cI cJ cZ oA rA res.2 ++ b_c cB cC cI cJ cZ oA rA res.2 ++ b_t cB cC cI cJ cZ oA rA res.2 ++ b_d cB cC cI cJ cZ oA rA res.2))) A) ([.ref (oA 11), .ref (rA 13 0), .int p1] : List Value).toArray s 0 0 A) (F0 m 62 ls []) := by
          intro  σ_21 hF0 H locs hP hS ls hl
          subst ej_22
          have hF_24 := hF0
          clear hF0
          refine lv_aload_n hx hb dX8_listen_62 rfl (lv_at hl 0 rfl) ?_
          refine va_get (D := (dC, dI)) (ci := 8) (v := .ref (oA 9)) (C := RX8) (T := TX8) (N := 16) hx hb hts ii_X8 hown hK hP 1 rfl rfl 0 (by decide) (hts (.fieldLink RX8 22 "StoryHouse$Teller" "play" "LStoryHouse$Play;") wq_286) (fun _ h9 => h9) rfl dX8_listen_63 ?_
          refine va_get (D := (dC, dI)) (ci := 6) (v := .int ((σ_21 9).1 7)) (C := RX6) (T := TX6) (N := 12) hx hb hts ii_X6 hown hK hP 10 rfl rfl 7 (by decide) (hts (.fieldLink RX8 59 "StoryHouse$Play" "lineLength" "I") wq_238) (fun _ h9 => h9) rfl dX8_listen_66 ?_
          refine lv_if_ne (tgt := 79) hx hb dX8_listen_69 (by decide) (fun c_25 => ?_) (fun c_25 => ?_)
          · have hF_34 := ineg c_25 hF_24
            clear hF_24
            refine lv_aload_n hx hb dX8_listen_79 rfl (lv_at hl 0 rfl) ?_
            refine lv_aload_n hx hb dX8_listen_80 rfl (lv_at hl 0 rfl) ?_
            refine va_get (D := (dC, dI)) (ci := 8) (v := .ref (oA 9)) (C := RX8) (T := TX8) (N := 16) hx hb hts ii_X8 hown hK hP 1 rfl rfl 0 (by decide) (hts (.fieldLink RX8 22 "StoryHouse$Teller" "play" "LStoryHouse$Play;") wq_286) (fun _ h9 => h9) rfl dX8_listen_81 ?_
            refine va_get (D := (dC, dI)) (ci := 6) (v := .ref (rA 9 6)) (C := RX6) (T := TX6) (N := 12) hx hb hts ii_X6 hown hK hP 10 rfl rfl 6 (by decide) (hts (.fieldLink RX8 64 "StoryHouse$Play" "line" "[B") wq_237) (fun _ h9 => h9) rfl dX8_listen_84 ?_
            refine lv_aload_n hx hb dX8_listen_87 rfl (lv_at hl 0 rfl) ?_
            refine va_get (D := (dC, dI)) (ci := 8) (v := .ref (oA 9)) (C := RX8) (T := TX8) (N := 16) hx hb hts ii_X8 hown hK hP 1 rfl rfl 0 (by decide) (hts (.fieldLink RX8 22 "StoryHouse$Teller" "play" "LStoryHouse$Play;") wq_286) (fun _ h9 => h9) rfl dX8_listen_88 ?_
            refine va_get (D := (dC, dI)) (ci := 6) (v := .int ((σ_21 9).1 7)) (C := RX6) (T := TX6) (N := 12) hx hb hts ii_X6 hown hK hP 10 rfl rfl 7 (by decide) (hts (.fieldLink RX8 59 "StoryHouse$Play" "lineLength" "I") wq_238) (fun _ h9 => h9) rfl dX8_listen_91 ?_
            obtain ⟨u_35, hu_35, hF_36⟩ := Option.bind_eq_some_iff.mp hF_34
            clear hF_34
            have hPc := bx_P (bs := [b_b cB cC cI cJ cZ oA rA σ_21, b_e cB cC cI cJ cZ oA rA σ_21, b_k cB cC cI cJ cZ oA rA σ_21, b_p cB cC cI cJ cZ oA rA σ_21, b_o cB cC cI cJ cZ oA rA σ_21, b_s cB cC cI cJ cZ oA rA σ_21, b_c cB cC cI cJ cZ oA rA σ_21, b_t cB cC cI cJ cZ oA rA σ_21, b_d cB cC cI cJ cZ oA rA σ_21]) (bs' := [b_e cB cC cI cJ cZ oA rA σ_21, b_k cB cC cI cJ cZ oA rA σ_21, b_p cB cC cI cJ cZ oA rA σ_21, b_o cB cC cI cJ cZ oA rA σ_21, b_s cB cC cI cJ cZ oA rA σ_21, b_c cB cC cI cJ cZ oA rA σ_21, b_t cB cC cI cJ cZ oA rA σ_21, b_d cB cC cI cJ cZ oA rA σ_21]) (ws' := (b_e cB cC cI cJ cZ oA rA σ_21 ++ b_k cB cC cI cJ cZ oA rA σ_21 ++ b_p cB cC cI cJ cZ oA rA σ_21 ++ b_o cB cC cI cJ cZ oA rA σ_21 ++ b_s cB cC cI cJ cZ oA rA σ_21 ++ b_c cB cC cI cJ cZ oA rA σ_21 ++ b_t cB cC cI cJ cZ oA rA σ_21 ++ b_d cB cC cI cJ cZ oA rA σ_21)) hP fl_9 fl_8 [1, 2, 3, 4, 5, 6, 7, 8] rfl
            have hDc := bx_D (bs := [b_b cB cC cI cJ cZ oA rA σ_21, b_e cB cC cI cJ cZ oA rA σ_21, b_k cB cC cI cJ cZ oA rA σ_21, b_p cB cC cI cJ cZ oA rA σ_21, b_o cB cC cI cJ cZ oA rA σ_21, b_s cB cC cI cJ cZ oA rA σ_21, b_c cB cC cI cJ cZ oA rA σ_21, b_t cB cC cI cJ cZ oA rA σ_21, b_d cB cC cI cJ cZ oA rA σ_21]) (bs' := [b_e cB cC cI cJ cZ oA rA σ_21, b_k cB cC cI cJ cZ oA rA σ_21, b_p cB cC cI cJ cZ oA rA σ_21, b_o cB cC cI cJ cZ oA rA σ_21, b_s cB cC cI cJ cZ oA rA σ_21, b_c cB cC cI cJ cZ oA rA σ_21, b_t cB cC cI cJ cZ oA rA σ_21, b_d cB cC cI cJ cZ oA rA σ_21]) (ws' := (b_e cB cC cI cJ cZ oA rA σ_21 ++ b_k cB cC cI cJ cZ oA rA σ_21 ++ b_p cB cC cI cJ cZ oA rA σ_21 ++ b_o cB cC cI cJ cZ oA rA σ_21 ++ b_s cB cC cI cJ cZ oA rA σ_21 ++ b_c cB cC cI cJ cZ oA rA σ_21 ++ b_t cB cC cI cJ cZ oA rA σ_21 ++ b_d cB cC cI cJ cZ oA rA σ_21)) (hDD σ_21) fl_9 fl_8 [1, 2, 3, 4, 5, 6, 7, 8] (by decide +kernel) rfl
            have hFc := bx_F (bs := [b_b cB cC cI cJ cZ oA rA σ_21, b_e cB cC cI cJ cZ oA rA σ_21, b_k cB cC cI cJ cZ oA rA σ_21, b_p cB cC cI cJ cZ oA rA σ_21, b_o cB cC cI cJ cZ oA rA σ_21, b_s cB cC cI cJ cZ oA rA σ_21, b_c cB cC cI cJ cZ oA rA σ_21, b_t cB cC cI cJ cZ oA rA σ_21, b_d cB cC cI cJ cZ oA rA σ_21]) (bs' := [b_e cB cC cI cJ cZ oA rA σ_21, b_k cB cC cI cJ cZ oA rA σ_21, b_p cB cC cI cJ cZ oA rA σ_21, b_o cB cC cI cJ cZ oA rA σ_21, b_s cB cC cI cJ cZ oA rA σ_21, b_c cB cC cI cJ cZ oA rA σ_21, b_t cB cC cI cJ cZ oA rA σ_21, b_d cB cC cI cJ cZ oA rA σ_21]) (wc := (b_e cB cC cI cJ cZ oA rA σ_21 ++ b_k cB cC cI cJ cZ oA rA σ_21 ++ b_p cB cC cI cJ cZ oA rA σ_21 ++ b_o cB cC cI cJ cZ oA rA σ_21 ++ b_s cB cC cI cJ cZ oA rA σ_21 ++ b_c cB cC cI cJ cZ oA rA σ_21 ++ b_t cB cC cI cJ cZ oA rA σ_21 ++ b_d cB cC cI cJ cZ oA rA σ_21)) (hDD σ_21) hS hA fl_9 fl_8 [1, 2, 3, 4, 5, 6, 7, 8] rfl
            refine g_ofv (wc := (b_e cB cC cI cJ cZ oA rA σ_21 ++ b_k cB cC cI cJ cZ oA rA σ_21 ++ b_p cB cC cI cJ cZ oA rA σ_21 ++ b_o cB cC cI cJ cZ oA rA σ_21 ++ b_s cB cC cI cJ cZ oA rA σ_21 ++ b_c cB cC cI cJ cZ oA rA σ_21 ++ b_t cB cC cI cJ cZ oA rA σ_21 ++ b_d cB cC cI cJ cZ oA rA σ_21)) (wr := (b_b cB cC cI cJ cZ oA rA σ_21)) hP (hDD σ_21) hS hFc (bx_ix [b_b cB cC cI cJ cZ oA rA σ_21, b_e cB cC cI cJ cZ oA rA σ_21, b_k cB cC cI cJ cZ oA rA σ_21, b_p cB cC cI cJ cZ oA rA σ_21, b_o cB cC cI cJ cZ oA rA σ_21, b_s cB cC cI cJ cZ oA rA σ_21, b_c cB cC cI cJ cZ oA rA σ_21, b_t cB cC cI cJ cZ oA rA σ_21, b_d cB cC cI cJ cZ oA rA σ_21] [1, 2, 3, 4, 5, 6, 7, 8]) (bx_ix [b_b cB cC cI cJ cZ oA rA σ_21, b_e cB cC cI cJ cZ oA rA σ_21, b_k cB cC cI cJ cZ oA rA σ_21, b_p cB cC cI cJ cZ oA rA σ_21, b_o cB cC cI cJ cZ oA rA σ_21, b_s cB cC cI cJ cZ oA rA σ_21, b_c cB cC cI cJ cZ oA rA σ_21, b_t cB cC cI cJ cZ oA rA σ_21, b_d cB cC cI cJ cZ oA rA σ_21] [0]) (bx_C (bs := [b_b cB cC cI cJ cZ oA rA σ_21, b_e cB cC cI cJ cZ oA rA σ_21, b_k cB cC cI cJ cZ oA rA σ_21, b_p cB cC cI cJ cZ oA rA σ_21, b_o cB cC cI cJ cZ oA rA σ_21, b_s cB cC cI cJ cZ oA rA σ_21, b_c cB cC cI cJ cZ oA rA σ_21, b_t cB cC cI cJ cZ oA rA σ_21, b_d cB cC cI cJ cZ oA rA σ_21]) (bs' := [b_e cB cC cI cJ cZ oA rA σ_21, b_k cB cC cI cJ cZ oA rA σ_21, b_p cB cC cI cJ cZ oA rA σ_21, b_o cB cC cI cJ cZ oA rA σ_21, b_s cB cC cI cJ cZ oA rA σ_21, b_c cB cC cI cJ cZ oA rA σ_21, b_t cB cC cI cJ cZ oA rA σ_21, b_d cB cC cI cJ cZ oA rA σ_21]) (is := [1, 2, 3, 4, 5, 6, 7, 8]) fl_9 fl_8 rfl) (bx_C (bs := [b_b cB cC cI cJ cZ oA rA σ_21, b_e cB cC cI cJ cZ oA rA σ_21, b_k cB cC cI cJ cZ oA rA σ_21, b_p cB cC cI cJ cZ oA rA σ_21, b_o cB cC cI cJ cZ oA rA σ_21, b_s cB cC cI cJ cZ oA rA σ_21, b_c cB cC cI cJ cZ oA rA σ_21, b_t cB cC cI cJ cZ oA rA σ_21, b_d cB cC cI cJ cZ oA rA σ_21]) (bs' := [b_b cB cC cI cJ cZ oA rA σ_21]) (is := [0]) fl_9 fl_1 rfl) (bx_n (by decide +kernel)) (bx_d (by decide +kernel)) (va_runV (As := [.ref (rA 9 6), .int ((σ_21 9).1 7)]) (rest := []) ⟨hx, hb, hml, hown, hts⟩ (k_X8_hear_p l dC dI cB cC cI cJ cZ cP oA rA H.size  ((σ_21 9).1 7) σ_21 _ hu_35) (cwV 2 hts (g_gV wq_1053 wq_1054 wq_2072 wq_12 wq_1055) rfl rfl rfl (by decide +kernel) ⟨Nat.le_of_ble_eq_true rfl, Nat.le_of_ble_eq_true rfl⟩) (g_preV g_bl0 hK hPc hDc hS hE hFc g_to0 (q0 := 0) (ci := 8) rfl rfl) rfl rfl hl.1 rfl (lv_room (Nat.le_of_ble_eq_true rfl)) dX8_listen_94 ⟨Nat.le_of_ble_eq_true rfl, Nat.le_of_ble_eq_true rfl⟩) (fun u9 H locs hw9 hP' hD' hS => ?_)
            clear hPc hDc hFc
            obtain ⟨σ_37, eσ_37, hF_38⟩ := bnd_e hF_36
            clear hF_36
            have hP : va_P (dC, dI) vwCl (b_b cB cC cI cJ cZ oA rA σ_37 ++ b_e cB cC cI cJ cZ oA rA σ_37 ++ b_k cB cC cI cJ cZ oA rA σ_37 ++ b_p cB cC cI cJ cZ oA rA σ_37 ++ b_o cB cC cI cJ cZ oA rA σ_37 ++ b_s cB cC cI cJ cZ oA rA σ_37 ++ b_c cB cC cI cJ cZ oA rA σ_37 ++ b_t cB cC cI cJ cZ oA rA σ_37 ++ b_d cB cC cI cJ cZ oA rA σ_37) H := by rw [eσ_37]; exact bx_P (bs := [b_b cB cC cI cJ cZ oA rA σ_21] ++ [b_e cB cC cI cJ cZ oA rA u_35.2, b_k cB cC cI cJ cZ oA rA u_35.2, b_p cB cC cI cJ cZ oA rA u_35.2, b_o cB cC cI cJ cZ oA rA u_35.2, b_s cB cC cI cJ cZ oA rA u_35.2, b_c cB cC cI cJ cZ oA rA u_35.2, b_t cB cC cI cJ cZ oA rA u_35.2, b_d cB cC cI cJ cZ oA rA u_35.2]) (bs' := [b_b cB cC cI cJ cZ oA rA (mrg (fun j => j == 11 || j == 10 || j == 9 || j == 8 || j == 4 || j == 5 || j == 6 || j == 7) σ_21 u_35.2), b_e cB cC cI cJ cZ oA rA (mrg (fun j => j == 11 || j == 10 || j == 9 || j == 8 || j == 4 || j == 5 || j == 6 || j == 7) σ_21 u_35.2), b_k cB cC cI cJ cZ oA rA (mrg (fun j => j == 11 || j == 10 || j == 9 || j == 8 || j == 4 || j == 5 || j == 6 || j == 7) σ_21 u_35.2), b_p cB cC cI cJ cZ oA rA (mrg (fun j => j == 11 || j == 10 || j == 9 || j == 8 || j == 4 || j == 5 || j == 6 || j == 7) σ_21 u_35.2), b_o cB cC cI cJ cZ oA rA (mrg (fun j => j == 11 || j == 10 || j == 9 || j == 8 || j == 4 || j == 5 || j == 6 || j == 7) σ_21 u_35.2), b_s cB cC cI cJ cZ oA rA (mrg (fun j => j == 11 || j == 10 || j == 9 || j == 8 || j == 4 || j == 5 || j == 6 || j == 7) σ_21 u_35.2), b_c cB cC cI cJ cZ oA rA (mrg (fun j => j == 11 || j == 10 || j == 9 || j == 8 || j == 4 || j == 5 || j == 6 || j == 7) σ_21 u_35.2), b_t cB cC cI cJ cZ oA rA (mrg (fun j => j == 11 || j == 10 || j == 9 || j == 8 || j == 4 || j == 5 || j == 6 || j == 7) σ_21 u_35.2), b_d cB cC cI cJ cZ oA rA (mrg (fun j => j == 11 || j == 10 || j == 9 || j == 8 || j == 4 || j == 5 || j == 6 || j == 7) σ_21 u_35.2)]) hP' (fl_a fl_1 fl_8) fl_9 [0, 1, 2, 3, 4, 5, 6, 7, 8] rfl
            clear hP' hD'
            refine lv_iconst (v := 1) hx hb dX8_listen_97 (by decide +kernel) ?_
            have h9 := Option.some.inj hF_38
            subst h9
            exact W.zret (v := 1) hx hb hr (by decide +kernel) (fun t ht hW => ⟨⟨1, (), rfl, rfl, m_end ht hP, hDD _⟩, hS.F ht⟩) hS.2.2 dX8_listen_98
          · have hF_26 := ipos c_25 hF_24
            clear hF_24
            refine lv_aload_n hx hb dX8_listen_72 rfl (lv_at hl 0 rfl) ?_
            obtain ⟨q_27, vq_27, hRq_27, hSq_27⟩ := hE.2.2.2.2 _ (List.mem_of_getElem? (i := 38) rfl)
            refine va_ldcS (own := RX8) (tx := "There is nothing to repeat.") hx hb hown hRq_27 dX8_listen_73 ?_
            obtain ⟨u_28, hu_28, hF_29⟩ := Option.bind_eq_some_iff.mp hF_26
            clear hF_26
            have hPc := bx_P (bs := [b_b cB cC cI cJ cZ oA rA σ_21, b_e cB cC cI cJ cZ oA rA σ_21, b_k cB cC cI cJ cZ oA rA σ_21, b_p cB cC cI cJ cZ oA rA σ_21, b_o cB cC cI cJ cZ oA rA σ_21, b_s cB cC cI cJ cZ oA rA σ_21, b_c cB cC cI cJ cZ oA rA σ_21, b_t cB cC cI cJ cZ oA rA σ_21, b_d cB cC cI cJ cZ oA rA σ_21]) (bs' := [b_e cB cC cI cJ cZ oA rA σ_21, b_k cB cC cI cJ cZ oA rA σ_21, b_p cB cC cI cJ cZ oA rA σ_21, b_o cB cC cI cJ cZ oA rA σ_21, b_s cB cC cI cJ cZ oA rA σ_21, b_c cB cC cI cJ cZ oA rA σ_21, b_t cB cC cI cJ cZ oA rA σ_21, b_d cB cC cI cJ cZ oA rA σ_21]) (ws' := (b_e cB cC cI cJ cZ oA rA σ_21 ++ b_k cB cC cI cJ cZ oA rA σ_21 ++ b_p cB cC cI cJ cZ oA rA σ_21 ++ b_o cB cC cI cJ cZ oA rA σ_21 ++ b_s cB cC cI cJ cZ oA rA σ_21 ++ b_c cB cC cI cJ cZ oA rA σ_21 ++ b_t cB cC cI cJ cZ oA rA σ_21 ++ b_d cB cC cI cJ cZ oA rA σ_21)) hP fl_9 fl_8 [1, 2, 3, 4, 5, 6, 7, 8] rfl
            have hDc := bx_D (bs := [b_b cB cC cI cJ cZ oA rA σ_21, b_e cB cC cI cJ cZ oA rA σ_21, b_k cB cC cI cJ cZ oA rA σ_21, b_p cB cC cI cJ cZ oA rA σ_21, b_o cB cC cI cJ cZ oA rA σ_21, b_s cB cC cI cJ cZ oA rA σ_21, b_c cB cC cI cJ cZ oA rA σ_21, b_t cB cC cI cJ cZ oA rA σ_21, b_d cB cC cI cJ cZ oA rA σ_21]) (bs' := [b_e cB cC cI cJ cZ oA rA σ_21, b_k cB cC cI cJ cZ oA rA σ_21, b_p cB cC cI cJ cZ oA rA σ_21, b_o cB cC cI cJ cZ oA rA σ_21, b_s cB cC cI cJ cZ oA rA σ_21, b_c cB cC cI cJ cZ oA rA σ_21, b_t cB cC cI cJ cZ oA rA σ_21, b_d cB cC cI cJ cZ oA rA σ_21]) (ws' := (b_e cB cC cI cJ cZ oA rA σ_21 ++ b_k cB cC cI cJ cZ oA rA σ_21 ++ b_p cB cC cI cJ cZ oA rA σ_21 ++ b_o cB cC cI cJ cZ oA rA σ_21 ++ b_s cB cC cI cJ cZ oA rA σ_21 ++ b_c cB cC cI cJ cZ oA rA σ_21 ++ b_t cB cC cI cJ cZ oA rA σ_21 ++ b_d cB cC cI cJ cZ oA rA σ_21)) (hDD σ_21) fl_9 fl_8 [1, 2, 3, 4, 5, 6, 7, 8] (by decide +kernel) rfl
            have hFc := bx_F (bs := [b_b cB cC cI cJ cZ oA rA σ_21, b_e cB cC cI cJ cZ oA rA σ_21, b_k cB cC cI cJ cZ oA rA σ_21, b_p cB cC cI cJ cZ oA rA σ_21, b_o cB cC cI cJ cZ oA rA σ_21, b_s cB cC cI cJ cZ oA rA σ_21, b_c cB cC cI cJ cZ oA rA σ_21, b_t cB cC cI cJ cZ oA rA σ_21, b_d cB cC cI cJ cZ oA rA σ_21]) (bs' := [b_e cB cC cI cJ cZ oA rA σ_21, b_k cB cC cI cJ cZ oA rA σ_21, b_p cB cC cI cJ cZ oA rA σ_21, b_o cB cC cI cJ cZ oA rA σ_21, b_s cB cC cI cJ cZ oA rA σ_21, b_c cB cC cI cJ cZ oA rA σ_21, b_t cB cC cI cJ cZ oA rA σ_21, b_d cB cC cI cJ cZ oA rA σ_21]) (wc := (b_e cB cC cI cJ cZ oA rA σ_21 ++ b_k cB cC cI cJ cZ oA rA σ_21 ++ b_p cB cC cI cJ cZ oA rA σ_21 ++ b_o cB cC cI cJ cZ oA rA σ_21 ++ b_s cB cC cI cJ cZ oA rA σ_21 ++ b_c cB cC cI cJ cZ oA rA σ_21 ++ b_t cB cC cI cJ cZ oA rA σ_21 ++ b_d cB cC cI cJ cZ oA rA σ_21)) (hDD σ_21) hS hA fl_9 fl_8 [1, 2, 3, 4, 5, 6, 7, 8] rfl
            refine g_ofi (wc := (b_e cB cC cI cJ cZ oA rA σ_21 ++ b_k cB cC cI cJ cZ oA rA σ_21 ++ b_p cB cC cI cJ cZ oA rA σ_21 ++ b_o cB cC cI cJ cZ oA rA σ_21 ++ b_s cB cC cI cJ cZ oA rA σ_21 ++ b_c cB cC cI cJ cZ oA rA σ_21 ++ b_t cB cC cI cJ cZ oA rA σ_21 ++ b_d cB cC cI cJ cZ oA rA σ_21)) (wr := (b_b cB cC cI cJ cZ oA rA σ_21)) hP (hDD σ_21) hS hFc (bx_ix [b_b cB cC cI cJ cZ oA rA σ_21, b_e cB cC cI cJ cZ oA rA σ_21, b_k cB cC cI cJ cZ oA rA σ_21, b_p cB cC cI cJ cZ oA rA σ_21, b_o cB cC cI cJ cZ oA rA σ_21, b_s cB cC cI cJ cZ oA rA σ_21, b_c cB cC cI cJ cZ oA rA σ_21, b_t cB cC cI cJ cZ oA rA σ_21, b_d cB cC cI cJ cZ oA rA σ_21] [1, 2, 3, 4, 5, 6, 7, 8]) (bx_ix [b_b cB cC cI cJ cZ oA rA σ_21, b_e cB cC cI cJ cZ oA rA σ_21, b_k cB cC cI cJ cZ oA rA σ_21, b_p cB cC cI cJ cZ oA rA σ_21, b_o cB cC cI cJ cZ oA rA σ_21, b_s cB cC cI cJ cZ oA rA σ_21, b_c cB cC cI cJ cZ oA rA σ_21, b_t cB cC cI cJ cZ oA rA σ_21, b_d cB cC cI cJ cZ oA rA σ_21] [0]) (bx_C (bs := [b_b cB cC cI cJ cZ oA rA σ_21, b_e cB cC cI cJ cZ oA rA σ_21, b_k cB cC cI cJ cZ oA rA σ_21, b_p cB cC cI cJ cZ oA rA σ_21, b_o cB cC cI cJ cZ oA rA σ_21, b_s cB cC cI cJ cZ oA rA σ_21, b_c cB cC cI cJ cZ oA rA σ_21, b_t cB cC cI cJ cZ oA rA σ_21, b_d cB cC cI cJ cZ oA rA σ_21]) (bs' := [b_e cB cC cI cJ cZ oA rA σ_21, b_k cB cC cI cJ cZ oA rA σ_21, b_p cB cC cI cJ cZ oA rA σ_21, b_o cB cC cI cJ cZ oA rA σ_21, b_s cB cC cI cJ cZ oA rA σ_21, b_c cB cC cI cJ cZ oA rA σ_21, b_t cB cC cI cJ cZ oA rA σ_21, b_d cB cC cI cJ cZ oA rA σ_21]) (is := [1, 2, 3, 4, 5, 6, 7, 8]) fl_9 fl_8 rfl) (bx_C (bs := [b_b cB cC cI cJ cZ oA rA σ_21, b_e cB cC cI cJ cZ oA rA σ_21, b_k cB cC cI cJ cZ oA rA σ_21, b_p cB cC cI cJ cZ oA rA σ_21, b_o cB cC cI cJ cZ oA rA σ_21, b_s cB cC cI cJ cZ oA rA σ_21, b_c cB cC cI cJ cZ oA rA σ_21, b_t cB cC cI cJ cZ oA rA σ_21, b_d cB cC cI cJ cZ oA rA σ_21]) (bs' := [b_b cB cC cI cJ cZ oA rA σ_21]) (is := [0]) fl_9 fl_1 rfl) (bx_n (by decide +kernel)) (bx_d (by decide +kernel)) (va_runV (As := [.ref q_27]) (rest := []) ⟨hx, hb, hml, hown, hts⟩ (k_X8_refuse l dC dI cB cC cI cJ cZ cP oA rA H.size q_27 _ ([84, 104, 101, 114, 101, 32, 105, 115, 32, 110, 111, 116, 104, 105, 110, 103, 32, 116, 111, 32, 114, 101, 112, 101, 97, 116, 46] : List Int32) σ_21 _ hu_28) (cwV 1 hts (g_gV wq_1050 wq_1051 wq_2071 wq_12 wq_1052) rfl rfl rfl (by decide +kernel) ⟨Nat.le_of_ble_eq_true rfl, Nat.le_of_ble_eq_true rfl⟩) (g_preV g_blS hK hPc hDc hS hE hFc (g_toS hSq_27 hS hFc) (q0 := 0) (ci := 8) rfl rfl) rfl rfl hl.1 rfl (lv_room (Nat.le_of_ble_eq_true rfl)) dX8_listen_75 ⟨Nat.le_of_ble_eq_true rfl, Nat.le_of_ble_eq_true rfl⟩) (fun r9 u9 H locs hw9 hP' hD' hS => ?_)
            clear hPc hDc hFc
            subst hw9
            obtain ⟨σ_30, eσ_30, hF_31⟩ := bnd_e hF_29
            clear hF_29
            have hP : va_P (dC, dI) vwCl (b_b cB cC cI cJ cZ oA rA σ_30 ++ b_e cB cC cI cJ cZ oA rA σ_30 ++ b_k cB cC cI cJ cZ oA rA σ_30 ++ b_p cB cC cI cJ cZ oA rA σ_30 ++ b_o cB cC cI cJ cZ oA rA σ_30 ++ b_s cB cC cI cJ cZ oA rA σ_30 ++ b_c cB cC cI cJ cZ oA rA σ_30 ++ b_t cB cC cI cJ cZ oA rA σ_30 ++ b_d cB cC cI cJ cZ oA rA σ_30) H := by rw [eσ_30]; exact bx_P (bs := [b_b cB cC cI cJ cZ oA rA σ_21] ++ [b_e cB cC cI cJ cZ oA rA u_28.2, b_k cB cC cI cJ cZ oA rA u_28.2, b_p cB cC cI cJ cZ oA rA u_28.2, b_o cB cC cI cJ cZ oA rA u_28.2, b_s cB cC cI cJ cZ oA rA u_28.2, b_c cB cC cI cJ cZ oA rA u_28.2, b_t cB cC cI cJ cZ oA rA u_28.2, b_d cB cC cI cJ cZ oA rA u_28.2]) (bs' := [b_b cB cC cI cJ cZ oA rA (mrg (fun j => j == 11 || j == 10 || j == 9 || j == 8 || j == 4 || j == 5 || j == 6 || j == 7) σ_21 u_28.2), b_e cB cC cI cJ cZ oA rA (mrg (fun j => j == 11 || j == 10 || j == 9 || j == 8 || j == 4 || j == 5 || j == 6 || j == 7) σ_21 u_28.2), b_k cB cC cI cJ cZ oA rA (mrg (fun j => j == 11 || j == 10 || j == 9 || j == 8 || j == 4 || j == 5 || j == 6 || j == 7) σ_21 u_28.2), b_p cB cC cI cJ cZ oA rA (mrg (fun j => j == 11 || j == 10 || j == 9 || j == 8 || j == 4 || j == 5 || j == 6 || j == 7) σ_21 u_28.2), b_o cB cC cI cJ cZ oA rA (mrg (fun j => j == 11 || j == 10 || j == 9 || j == 8 || j == 4 || j == 5 || j == 6 || j == 7) σ_21 u_28.2), b_s cB cC cI cJ cZ oA rA (mrg (fun j => j == 11 || j == 10 || j == 9 || j == 8 || j == 4 || j == 5 || j == 6 || j == 7) σ_21 u_28.2), b_c cB cC cI cJ cZ oA rA (mrg (fun j => j == 11 || j == 10 || j == 9 || j == 8 || j == 4 || j == 5 || j == 6 || j == 7) σ_21 u_28.2), b_t cB cC cI cJ cZ oA rA (mrg (fun j => j == 11 || j == 10 || j == 9 || j == 8 || j == 4 || j == 5 || j == 6 || j == 7) σ_21 u_28.2), b_d cB cC cI cJ cZ oA rA (mrg (fun j => j == 11 || j == 10 || j == 9 || j == 8 || j == 4 || j == 5 || j == 6 || j == 7) σ_21 u_28.2)]) hP' (fl_a fl_1 fl_8) fl_9 [0, 1, 2, 3, 4, 5, 6, 7, 8] rfl
            clear hP' hD'
            obtain ⟨g_32, hF_33⟩ := nif_e hF_31
            clear hF_31
            have h9 := Option.some.inj hF_33
            subst h9
            exact W.zret (v := u_28.1) hx hb hr (m_bool (Classical.not_not.mp g_32)).1 (fun t ht hW => ⟨⟨u_28.1, (), rfl, rfl, m_end ht hP, hDD _⟩, hS.F ht⟩) hS.2.2 dX8_listen_78
        refine lv_if_eq (tgt := 62) hx hb dX8_listen_50 (by decide) (fun c_39 => ?_) (fun c_39 => ?_)
        · have hF_40 := ipos c_39 hF_23
          clear hF_23
          exact Jj_22  σ_19 hF_40 _ _ hP hS ls (lv_sub hl [0] rfl)
        · have hF_41 := ineg c_39 hF_23
          clear hF_23
          refine lv_aload_n hx hb dX8_listen_53 rfl (lv_at hl 0 rfl) ?_
          refine lv_iconst (v := 0) hx hb dX8_listen_54 (by decide +kernel) ?_
          obtain ⟨u_42, hu_42, hF_43⟩ := Option.bind_eq_some_iff.mp hF_41
          clear hF_41
          have hPc := bx_P (bs := [b_b cB cC cI cJ cZ oA rA σ_19, b_e cB cC cI cJ cZ oA rA σ_19, b_k cB cC cI cJ cZ oA rA σ_19, b_p cB cC cI cJ cZ oA rA σ_19, b_o cB cC cI cJ cZ oA rA σ_19, b_s cB cC cI cJ cZ oA rA σ_19, b_c cB cC cI cJ cZ oA rA σ_19, b_t cB cC cI cJ cZ oA rA σ_19, b_d cB cC cI cJ cZ oA rA σ_19]) (bs' := [b_e cB cC cI cJ cZ oA rA σ_19, b_k cB cC cI cJ cZ oA rA σ_19, b_p cB cC cI cJ cZ oA rA σ_19, b_o cB cC cI cJ cZ oA rA σ_19, b_s cB cC cI cJ cZ oA rA σ_19, b_c cB cC cI cJ cZ oA rA σ_19, b_t cB cC cI cJ cZ oA rA σ_19, b_d cB cC cI cJ cZ oA rA σ_19]) (ws' := (b_e cB cC cI cJ cZ oA rA σ_19 ++ b_k cB cC cI cJ cZ oA rA σ_19 ++ b_p cB cC cI cJ cZ oA rA σ_19 ++ b_o cB cC cI cJ cZ oA rA σ_19 ++ b_s cB cC cI cJ cZ oA rA σ_19 ++ b_c cB cC cI cJ cZ oA rA σ_19 ++ b_t cB cC cI cJ cZ oA rA σ_19 ++ b_d cB cC cI cJ cZ oA rA σ_19)) hP fl_9 fl_8 [1, 2, 3, 4, 5, 6, 7, 8] rfl
          have hDc := bx_D (bs := [b_b cB cC cI cJ cZ oA rA σ_19, b_e cB cC cI cJ cZ oA rA σ_19, b_k cB cC cI cJ cZ oA rA σ_19, b_p cB cC cI cJ cZ oA rA σ_19, b_o cB cC cI cJ cZ oA rA σ_19, b_s cB cC cI cJ cZ oA rA σ_19, b_c cB cC cI cJ cZ oA rA σ_19, b_t cB cC cI cJ cZ oA rA σ_19, b_d cB cC cI cJ cZ oA rA σ_19]) (bs' := [b_e cB cC cI cJ cZ oA rA σ_19, b_k cB cC cI cJ cZ oA rA σ_19, b_p cB cC cI cJ cZ oA rA σ_19, b_o cB cC cI cJ cZ oA rA σ_19, b_s cB cC cI cJ cZ oA rA σ_19, b_c cB cC cI cJ cZ oA rA σ_19, b_t cB cC cI cJ cZ oA rA σ_19, b_d cB cC cI cJ cZ oA rA σ_19]) (ws' := (b_e cB cC cI cJ cZ oA rA σ_19 ++ b_k cB cC cI cJ cZ oA rA σ_19 ++ b_p cB cC cI cJ cZ oA rA σ_19 ++ b_o cB cC cI cJ cZ oA rA σ_19 ++ b_s cB cC cI cJ cZ oA rA σ_19 ++ b_c cB cC cI cJ cZ oA rA σ_19 ++ b_t cB cC cI cJ cZ oA rA σ_19 ++ b_d cB cC cI cJ cZ oA rA σ_19)) (hDD σ_19) fl_9 fl_8 [1, 2, 3, 4, 5, 6, 7, 8] (by decide +kernel) rfl
          have hFc := bx_F (bs := [b_b cB cC cI cJ cZ oA rA σ_19, b_e cB cC cI cJ cZ oA rA σ_19, b_k cB cC cI cJ cZ oA rA σ_19, b_p cB cC cI cJ cZ oA rA σ_19, b_o cB cC cI cJ cZ oA rA σ_19, b_s cB cC cI cJ cZ oA rA σ_19, b_c cB cC cI cJ cZ oA rA σ_19, b_t cB cC cI cJ cZ oA rA σ_19, b_d cB cC cI cJ cZ oA rA σ_19]) (bs' := [b_e cB cC cI cJ cZ oA rA σ_19, b_k cB cC cI cJ cZ oA rA σ_19, b_p cB cC cI cJ cZ oA rA σ_19, b_o cB cC cI cJ cZ oA rA σ_19, b_s cB cC cI cJ cZ oA rA σ_19, b_c cB cC cI cJ cZ oA rA σ_19, b_t cB cC cI cJ cZ oA rA σ_19, b_d cB cC cI cJ cZ oA rA σ_19]) (wc := (b_e cB cC cI cJ cZ oA rA σ_19 ++ b_k cB cC cI cJ cZ oA rA σ_19 ++ b_p cB cC cI cJ cZ oA rA σ_19 ++ b_o cB cC cI cJ cZ oA rA σ_19 ++ b_s cB cC cI cJ cZ oA rA σ_19 ++ b_c cB cC cI cJ cZ oA rA σ_19 ++ b_t cB cC cI cJ cZ oA rA σ_19 ++ b_d cB cC cI cJ cZ oA rA σ_19)) (hDD σ_19) hS hA fl_9 fl_8 [1, 2, 3, 4, 5, 6, 7, 8] rfl
          refine g_ofi (wc := (b_e cB cC cI cJ cZ oA rA σ_19 ++ b_k cB cC cI cJ cZ oA rA σ_19 ++ b_p cB cC cI cJ cZ oA rA σ_19 ++ b_o cB cC cI cJ cZ oA rA σ_19 ++ b_s cB cC cI cJ cZ oA rA σ_19 ++ b_c cB cC cI cJ cZ oA rA σ_19 ++ b_t cB cC cI cJ cZ oA rA σ_19 ++ b_d cB cC cI cJ cZ oA rA σ_19)) (wr := (b_b cB cC cI cJ cZ oA rA σ_19)) hP (hDD σ_19) hS hFc (bx_ix [b_b cB cC cI cJ cZ oA rA σ_19, b_e cB cC cI cJ cZ oA rA σ_19, b_k cB cC cI cJ cZ oA rA σ_19, b_p cB cC cI cJ cZ oA rA σ_19, b_o cB cC cI cJ cZ oA rA σ_19, b_s cB cC cI cJ cZ oA rA σ_19, b_c cB cC cI cJ cZ oA rA σ_19, b_t cB cC cI cJ cZ oA rA σ_19, b_d cB cC cI cJ cZ oA rA σ_19] [1, 2, 3, 4, 5, 6, 7, 8]) (bx_ix [b_b cB cC cI cJ cZ oA rA σ_19, b_e cB cC cI cJ cZ oA rA σ_19, b_k cB cC cI cJ cZ oA rA σ_19, b_p cB cC cI cJ cZ oA rA σ_19, b_o cB cC cI cJ cZ oA rA σ_19, b_s cB cC cI cJ cZ oA rA σ_19, b_c cB cC cI cJ cZ oA rA σ_19, b_t cB cC cI cJ cZ oA rA σ_19, b_d cB cC cI cJ cZ oA rA σ_19] [0]) (bx_C (bs := [b_b cB cC cI cJ cZ oA rA σ_19, b_e cB cC cI cJ cZ oA rA σ_19, b_k cB cC cI cJ cZ oA rA σ_19, b_p cB cC cI cJ cZ oA rA σ_19, b_o cB cC cI cJ cZ oA rA σ_19, b_s cB cC cI cJ cZ oA rA σ_19, b_c cB cC cI cJ cZ oA rA σ_19, b_t cB cC cI cJ cZ oA rA σ_19, b_d cB cC cI cJ cZ oA rA σ_19]) (bs' := [b_e cB cC cI cJ cZ oA rA σ_19, b_k cB cC cI cJ cZ oA rA σ_19, b_p cB cC cI cJ cZ oA rA σ_19, b_o cB cC cI cJ cZ oA rA σ_19, b_s cB cC cI cJ cZ oA rA σ_19, b_c cB cC cI cJ cZ oA rA σ_19, b_t cB cC cI cJ cZ oA rA σ_19, b_d cB cC cI cJ cZ oA rA σ_19]) (is := [1, 2, 3, 4, 5, 6, 7, 8]) fl_9 fl_8 rfl) (bx_C (bs := [b_b cB cC cI cJ cZ oA rA σ_19, b_e cB cC cI cJ cZ oA rA σ_19, b_k cB cC cI cJ cZ oA rA σ_19, b_p cB cC cI cJ cZ oA rA σ_19, b_o cB cC cI cJ cZ oA rA σ_19, b_s cB cC cI cJ cZ oA rA σ_19, b_c cB cC cI cJ cZ oA rA σ_19, b_t cB cC cI cJ cZ oA rA σ_19, b_d cB cC cI cJ cZ oA rA σ_19]) (bs' := [b_b cB cC cI cJ cZ oA rA σ_19]) (is := [0]) fl_9 fl_1 rfl) (bx_n (by decide +kernel)) (bx_d (by decide +kernel)) (va_runV (As := [.int 0]) (rest := []) ⟨hx, hb, hml, hown, hts⟩ (k_X8_term l dC dI cB cC cI cJ cZ cP oA rA H.size  0 σ_19 _ hu_42) (cwV 1 hts (g_gV wq_1065 wq_1066 wq_2074 wq_12 wq_1067) rfl rfl rfl (by decide +kernel) ⟨Nat.le_of_ble_eq_true rfl, Nat.le_of_ble_eq_true rfl⟩) (g_preV g_bl0 hK hPc hDc hS hE hFc g_to0 (q0 := 0) (ci := 8) rfl rfl) rfl rfl hl.1 rfl (lv_room (Nat.le_of_ble_eq_true rfl)) dX8_listen_55 ⟨Nat.le_of_ble_eq_true rfl, Nat.le_of_ble_eq_true rfl⟩) (fun r9 u9 H locs hw9 hP' hD' hS => ?_)
          clear hPc hDc hFc
          subst hw9
          obtain ⟨σ_44, eσ_44, hF_45⟩ := bnd_e hF_43
          clear hF_43
          have hP : va_P (dC, dI) vwCl (b_b cB cC cI cJ cZ oA rA σ_44 ++ b_e cB cC cI cJ cZ oA rA σ_44 ++ b_k cB cC cI cJ cZ oA rA σ_44 ++ b_p cB cC cI cJ cZ oA rA σ_44 ++ b_o cB cC cI cJ cZ oA rA σ_44 ++ b_s cB cC cI cJ cZ oA rA σ_44 ++ b_c cB cC cI cJ cZ oA rA σ_44 ++ b_t cB cC cI cJ cZ oA rA σ_44 ++ b_d cB cC cI cJ cZ oA rA σ_44) H := by rw [eσ_44]; exact bx_P (bs := [b_b cB cC cI cJ cZ oA rA σ_19] ++ [b_e cB cC cI cJ cZ oA rA u_42.2, b_k cB cC cI cJ cZ oA rA u_42.2, b_p cB cC cI cJ cZ oA rA u_42.2, b_o cB cC cI cJ cZ oA rA u_42.2, b_s cB cC cI cJ cZ oA rA u_42.2, b_c cB cC cI cJ cZ oA rA u_42.2, b_t cB cC cI cJ cZ oA rA u_42.2, b_d cB cC cI cJ cZ oA rA u_42.2]) (bs' := [b_b cB cC cI cJ cZ oA rA (mrg (fun j => j == 11 || j == 10 || j == 9 || j == 8 || j == 4 || j == 5 || j == 6 || j == 7) σ_19 u_42.2), b_e cB cC cI cJ cZ oA rA (mrg (fun j => j == 11 || j == 10 || j == 9 || j == 8 || j == 4 || j == 5 || j == 6 || j == 7) σ_19 u_42.2), b_k cB cC cI cJ cZ oA rA (mrg (fun j => j == 11 || j == 10 || j == 9 || j == 8 || j == 4 || j == 5 || j == 6 || j == 7) σ_19 u_42.2), b_p cB cC cI cJ cZ oA rA (mrg (fun j => j == 11 || j == 10 || j == 9 || j == 8 || j == 4 || j == 5 || j == 6 || j == 7) σ_19 u_42.2), b_o cB cC cI cJ cZ oA rA (mrg (fun j => j == 11 || j == 10 || j == 9 || j == 8 || j == 4 || j == 5 || j == 6 || j == 7) σ_19 u_42.2), b_s cB cC cI cJ cZ oA rA (mrg (fun j => j == 11 || j == 10 || j == 9 || j == 8 || j == 4 || j == 5 || j == 6 || j == 7) σ_19 u_42.2), b_c cB cC cI cJ cZ oA rA (mrg (fun j => j == 11 || j == 10 || j == 9 || j == 8 || j == 4 || j == 5 || j == 6 || j == 7) σ_19 u_42.2), b_t cB cC cI cJ cZ oA rA (mrg (fun j => j == 11 || j == 10 || j == 9 || j == 8 || j == 4 || j == 5 || j == 6 || j == 7) σ_19 u_42.2), b_d cB cC cI cJ cZ oA rA (mrg (fun j => j == 11 || j == 10 || j == 9 || j == 8 || j == 4 || j == 5 || j == 6 || j == 7) σ_19 u_42.2)]) hP' (fl_a fl_1 fl_8) fl_9 [0, 1, 2, 3, 4, 5, 6, 7, 8] rfl
          clear hP' hD'
          refine lv_iconst (v := 1) hx hb dX8_listen_58 (by decide +kernel) ?_
          refine lv_icmp_ne (tgt := 97) hx hb dX8_listen_59 (by decide) (fun c_46 => ?_) (fun c_46 => ?_)
          · have hF_48 := ineg c_46 hF_45
            clear hF_45
            refine lv_iconst (v := 1) hx hb dX8_listen_97 (by decide +kernel) ?_
            have h9 := Option.some.inj hF_48
            subst h9
            exact W.zret (v := 1) hx hb hr (by decide +kernel) (fun t ht hW => ⟨⟨1, (), rfl, rfl, m_end ht hP, hDD _⟩, hS.F ht⟩) hS.2.2 dX8_listen_98
          · have hF_47 := ipos c_46 hF_45
            clear hF_45
            exact Jj_22  σ_44 hF_47 _ _ hP hS ls (lv_sub hl [0] rfl)
    · have hF_6 := ipos c_5 hF_4
      clear hF_4
      refine lv_aload_n hx hb dX8_listen_30 rfl (lv_at hl 0 rfl) ?_
      obtain ⟨q_7, vq_7, hRq_7, hSq_7⟩ := hE.2.2.2.2 _ (List.mem_of_getElem? (i := 37) rfl)
      refine va_ldcS (own := RX8) (tx := "I beg your pardon?") hx hb hown hRq_7 dX8_listen_31 ?_
      obtain ⟨u_8, hu_8, hF_9⟩ := Option.bind_eq_some_iff.mp hF_6
      clear hF_6
      have hPc := bx_P (bs := [b_b cB cC cI cJ cZ oA rA u_3.2, b_e cB cC cI cJ cZ oA rA u_3.2, b_k cB cC cI cJ cZ oA rA u_3.2, b_p cB cC cI cJ cZ oA rA u_3.2, b_o cB cC cI cJ cZ oA rA u_3.2, b_s cB cC cI cJ cZ oA rA u_3.2, b_c cB cC cI cJ cZ oA rA u_3.2, b_t cB cC cI cJ cZ oA rA u_3.2, b_d cB cC cI cJ cZ oA rA u_3.2]) (bs' := [b_e cB cC cI cJ cZ oA rA u_3.2, b_k cB cC cI cJ cZ oA rA u_3.2, b_p cB cC cI cJ cZ oA rA u_3.2, b_o cB cC cI cJ cZ oA rA u_3.2, b_s cB cC cI cJ cZ oA rA u_3.2, b_c cB cC cI cJ cZ oA rA u_3.2, b_t cB cC cI cJ cZ oA rA u_3.2, b_d cB cC cI cJ cZ oA rA u_3.2]) (ws' := (b_e cB cC cI cJ cZ oA rA u_3.2 ++ b_k cB cC cI cJ cZ oA rA u_3.2 ++ b_p cB cC cI cJ cZ oA rA u_3.2 ++ b_o cB cC cI cJ cZ oA rA u_3.2 ++ b_s cB cC cI cJ cZ oA rA u_3.2 ++ b_c cB cC cI cJ cZ oA rA u_3.2 ++ b_t cB cC cI cJ cZ oA rA u_3.2 ++ b_d cB cC cI cJ cZ oA rA u_3.2)) hP fl_9 fl_8 [1, 2, 3, 4, 5, 6, 7, 8] rfl
      have hDc := bx_D (bs := [b_b cB cC cI cJ cZ oA rA u_3.2, b_e cB cC cI cJ cZ oA rA u_3.2, b_k cB cC cI cJ cZ oA rA u_3.2, b_p cB cC cI cJ cZ oA rA u_3.2, b_o cB cC cI cJ cZ oA rA u_3.2, b_s cB cC cI cJ cZ oA rA u_3.2, b_c cB cC cI cJ cZ oA rA u_3.2, b_t cB cC cI cJ cZ oA rA u_3.2, b_d cB cC cI cJ cZ oA rA u_3.2]) (bs' := [b_e cB cC cI cJ cZ oA rA u_3.2, b_k cB cC cI cJ cZ oA rA u_3.2, b_p cB cC cI cJ cZ oA rA u_3.2, b_o cB cC cI cJ cZ oA rA u_3.2, b_s cB cC cI cJ cZ oA rA u_3.2, b_c cB cC cI cJ cZ oA rA u_3.2, b_t cB cC cI cJ cZ oA rA u_3.2, b_d cB cC cI cJ cZ oA rA u_3.2]) (ws' := (b_e cB cC cI cJ cZ oA rA u_3.2 ++ b_k cB cC cI cJ cZ oA rA u_3.2 ++ b_p cB cC cI cJ cZ oA rA u_3.2 ++ b_o cB cC cI cJ cZ oA rA u_3.2 ++ b_s cB cC cI cJ cZ oA rA u_3.2 ++ b_c cB cC cI cJ cZ oA rA u_3.2 ++ b_t cB cC cI cJ cZ oA rA u_3.2 ++ b_d cB cC cI cJ cZ oA rA u_3.2)) (hDD u_3.2) fl_9 fl_8 [1, 2, 3, 4, 5, 6, 7, 8] (by decide +kernel) rfl
      have hFc := bx_F (bs := [b_b cB cC cI cJ cZ oA rA u_3.2, b_e cB cC cI cJ cZ oA rA u_3.2, b_k cB cC cI cJ cZ oA rA u_3.2, b_p cB cC cI cJ cZ oA rA u_3.2, b_o cB cC cI cJ cZ oA rA u_3.2, b_s cB cC cI cJ cZ oA rA u_3.2, b_c cB cC cI cJ cZ oA rA u_3.2, b_t cB cC cI cJ cZ oA rA u_3.2, b_d cB cC cI cJ cZ oA rA u_3.2]) (bs' := [b_e cB cC cI cJ cZ oA rA u_3.2, b_k cB cC cI cJ cZ oA rA u_3.2, b_p cB cC cI cJ cZ oA rA u_3.2, b_o cB cC cI cJ cZ oA rA u_3.2, b_s cB cC cI cJ cZ oA rA u_3.2, b_c cB cC cI cJ cZ oA rA u_3.2, b_t cB cC cI cJ cZ oA rA u_3.2, b_d cB cC cI cJ cZ oA rA u_3.2]) (wc := (b_e cB cC cI cJ cZ oA rA u_3.2 ++ b_k cB cC cI cJ cZ oA rA u_3.2 ++ b_p cB cC cI cJ cZ oA rA u_3.2 ++ b_o cB cC cI cJ cZ oA rA u_3.2 ++ b_s cB cC cI cJ cZ oA rA u_3.2 ++ b_c cB cC cI cJ cZ oA rA u_3.2 ++ b_t cB cC cI cJ cZ oA rA u_3.2 ++ b_d cB cC cI cJ cZ oA rA u_3.2)) (hDD u_3.2) hS hA fl_9 fl_8 [1, 2, 3, 4, 5, 6, 7, 8] rfl
      refine g_ofi (wc := (b_e cB cC cI cJ cZ oA rA u_3.2 ++ b_k cB cC cI cJ cZ oA rA u_3.2 ++ b_p cB cC cI cJ cZ oA rA u_3.2 ++ b_o cB cC cI cJ cZ oA rA u_3.2 ++ b_s cB cC cI cJ cZ oA rA u_3.2 ++ b_c cB cC cI cJ cZ oA rA u_3.2 ++ b_t cB cC cI cJ cZ oA rA u_3.2 ++ b_d cB cC cI cJ cZ oA rA u_3.2)) (wr := (b_b cB cC cI cJ cZ oA rA u_3.2)) hP (hDD u_3.2) hS hFc (bx_ix [b_b cB cC cI cJ cZ oA rA u_3.2, b_e cB cC cI cJ cZ oA rA u_3.2, b_k cB cC cI cJ cZ oA rA u_3.2, b_p cB cC cI cJ cZ oA rA u_3.2, b_o cB cC cI cJ cZ oA rA u_3.2, b_s cB cC cI cJ cZ oA rA u_3.2, b_c cB cC cI cJ cZ oA rA u_3.2, b_t cB cC cI cJ cZ oA rA u_3.2, b_d cB cC cI cJ cZ oA rA u_3.2] [1, 2, 3, 4, 5, 6, 7, 8]) (bx_ix [b_b cB cC cI cJ cZ oA rA u_3.2, b_e cB cC cI cJ cZ oA rA u_3.2, b_k cB cC cI cJ cZ oA rA u_3.2, b_p cB cC cI cJ cZ oA rA u_3.2, b_o cB cC cI cJ cZ oA rA u_3.2, b_s cB cC cI cJ cZ oA rA u_3.2, b_c cB cC cI cJ cZ oA rA u_3.2, b_t cB cC cI cJ cZ oA rA u_3.2, b_d cB cC cI cJ cZ oA rA u_3.2] [0]) (bx_C (bs := [b_b cB cC cI cJ cZ oA rA u_3.2, b_e cB cC cI cJ cZ oA rA u_3.2, b_k cB cC cI cJ cZ oA rA u_3.2, b_p cB cC cI cJ cZ oA rA u_3.2, b_o cB cC cI cJ cZ oA rA u_3.2, b_s cB cC cI cJ cZ oA rA u_3.2, b_c cB cC cI cJ cZ oA rA u_3.2, b_t cB cC cI cJ cZ oA rA u_3.2, b_d cB cC cI cJ cZ oA rA u_3.2]) (bs' := [b_e cB cC cI cJ cZ oA rA u_3.2, b_k cB cC cI cJ cZ oA rA u_3.2, b_p cB cC cI cJ cZ oA rA u_3.2, b_o cB cC cI cJ cZ oA rA u_3.2, b_s cB cC cI cJ cZ oA rA u_3.2, b_c cB cC cI cJ cZ oA rA u_3.2, b_t cB cC cI cJ cZ oA rA u_3.2, b_d cB cC cI cJ cZ oA rA u_3.2]) (is := [1, 2, 3, 4, 5, 6, 7, 8]) fl_9 fl_8 rfl) (bx_C (bs := [b_b cB cC cI cJ cZ oA rA u_3.2, b_e cB cC cI cJ cZ oA rA u_3.2, b_k cB cC cI cJ cZ oA rA u_3.2, b_p cB cC cI cJ cZ oA rA u_3.2, b_o cB cC cI cJ cZ oA rA u_3.2, b_s cB cC cI cJ cZ oA rA u_3.2, b_c cB cC cI cJ cZ oA rA u_3.2, b_t cB cC cI cJ cZ oA rA u_3.2, b_d cB cC cI cJ cZ oA rA u_3.2]) (bs' := [b_b cB cC cI cJ cZ oA rA u_3.2]) (is := [0]) fl_9 fl_1 rfl) (bx_n (by decide +kernel)) (bx_d (by decide +kernel)) (va_runV (As := [.ref q_7]) (rest := []) ⟨hx, hb, hml, hown, hts⟩ (k_X8_refuse l dC dI cB cC cI cJ cZ cP oA rA H.size q_7 _ ([73, 32, 98, 101, 103, 32, 121, 111, 117, 114, 32, 112, 97, 114, 100, 111, 110, 63] : List Int32) u_3.2 _ hu_8) (cwV 1 hts (g_gV wq_1050 wq_1051 wq_2071 wq_12 wq_1052) rfl rfl rfl (by decide +kernel) ⟨Nat.le_of_ble_eq_true rfl, Nat.le_of_ble_eq_true rfl⟩) (g_preV g_blS hK hPc hDc hS hE hFc (g_toS hSq_7 hS hFc) (q0 := 0) (ci := 8) rfl rfl) rfl rfl hl.1 rfl (lv_room (Nat.le_of_ble_eq_true rfl)) dX8_listen_33 ⟨Nat.le_of_ble_eq_true rfl, Nat.le_of_ble_eq_true rfl⟩) (fun r9 u9 H locs hw9 hP' hD' hS => ?_)
      clear hPc hDc hFc
      subst hw9
      obtain ⟨σ_10, eσ_10, hF_11⟩ := bnd_e hF_9
      clear hF_9
      have hP : va_P (dC, dI) vwCl (b_b cB cC cI cJ cZ oA rA σ_10 ++ b_e cB cC cI cJ cZ oA rA σ_10 ++ b_k cB cC cI cJ cZ oA rA σ_10 ++ b_p cB cC cI cJ cZ oA rA σ_10 ++ b_o cB cC cI cJ cZ oA rA σ_10 ++ b_s cB cC cI cJ cZ oA rA σ_10 ++ b_c cB cC cI cJ cZ oA rA σ_10 ++ b_t cB cC cI cJ cZ oA rA σ_10 ++ b_d cB cC cI cJ cZ oA rA σ_10) H := by rw [eσ_10]; exact bx_P (bs := [b_b cB cC cI cJ cZ oA rA u_3.2] ++ [b_e cB cC cI cJ cZ oA rA u_8.2, b_k cB cC cI cJ cZ oA rA u_8.2, b_p cB cC cI cJ cZ oA rA u_8.2, b_o cB cC cI cJ cZ oA rA u_8.2, b_s cB cC cI cJ cZ oA rA u_8.2, b_c cB cC cI cJ cZ oA rA u_8.2, b_t cB cC cI cJ cZ oA rA u_8.2, b_d cB cC cI cJ cZ oA rA u_8.2]) (bs' := [b_b cB cC cI cJ cZ oA rA (mrg (fun j => j == 11 || j == 10 || j == 9 || j == 8 || j == 4 || j == 5 || j == 6 || j == 7) u_3.2 u_8.2), b_e cB cC cI cJ cZ oA rA (mrg (fun j => j == 11 || j == 10 || j == 9 || j == 8 || j == 4 || j == 5 || j == 6 || j == 7) u_3.2 u_8.2), b_k cB cC cI cJ cZ oA rA (mrg (fun j => j == 11 || j == 10 || j == 9 || j == 8 || j == 4 || j == 5 || j == 6 || j == 7) u_3.2 u_8.2), b_p cB cC cI cJ cZ oA rA (mrg (fun j => j == 11 || j == 10 || j == 9 || j == 8 || j == 4 || j == 5 || j == 6 || j == 7) u_3.2 u_8.2), b_o cB cC cI cJ cZ oA rA (mrg (fun j => j == 11 || j == 10 || j == 9 || j == 8 || j == 4 || j == 5 || j == 6 || j == 7) u_3.2 u_8.2), b_s cB cC cI cJ cZ oA rA (mrg (fun j => j == 11 || j == 10 || j == 9 || j == 8 || j == 4 || j == 5 || j == 6 || j == 7) u_3.2 u_8.2), b_c cB cC cI cJ cZ oA rA (mrg (fun j => j == 11 || j == 10 || j == 9 || j == 8 || j == 4 || j == 5 || j == 6 || j == 7) u_3.2 u_8.2), b_t cB cC cI cJ cZ oA rA (mrg (fun j => j == 11 || j == 10 || j == 9 || j == 8 || j == 4 || j == 5 || j == 6 || j == 7) u_3.2 u_8.2), b_d cB cC cI cJ cZ oA rA (mrg (fun j => j == 11 || j == 10 || j == 9 || j == 8 || j == 4 || j == 5 || j == 6 || j == 7) u_3.2 u_8.2)]) hP' (fl_a fl_1 fl_8) fl_9 [0, 1, 2, 3, 4, 5, 6, 7, 8] rfl
      clear hP' hD'
      obtain ⟨g_12, hF_13⟩ := nif_e hF_11
      clear hF_11
      have h9 := Option.some.inj hF_13
      subst h9
      exact W.zret (v := u_8.1) hx hb hr (m_bool (Classical.not_not.mp g_12)).1 (fun t ht hW => ⟨⟨u_8.1, (), rfl, rfl, m_end ht hP, hDD _⟩, hS.F ht⟩) hS.2.2 dX8_listen_36
  · have hF_50 := ineg c_1 hF
    clear hF
    refine lv_aload_n hx hb dX8_listen_10 rfl (lv_at hl 0 rfl) ?_
    obtain ⟨q_51, vq_51, hRq_51, hSq_51⟩ := hE.2.2.2.2 _ (List.mem_of_getElem? (i := 36) rfl)
    refine va_ldcS (own := RX8) (tx := "The story is over.") hx hb hown hRq_51 dX8_listen_11 ?_
    obtain ⟨u_52, hu_52, hF_53⟩ := Option.bind_eq_some_iff.mp hF_50
    clear hF_50
    have hPc := bx_P (bs := [b_b cB cC cI cJ cZ oA rA Γ, b_e cB cC cI cJ cZ oA rA Γ, b_k cB cC cI cJ cZ oA rA Γ, b_p cB cC cI cJ cZ oA rA Γ, b_o cB cC cI cJ cZ oA rA Γ, b_s cB cC cI cJ cZ oA rA Γ, b_c cB cC cI cJ cZ oA rA Γ, b_t cB cC cI cJ cZ oA rA Γ, b_d cB cC cI cJ cZ oA rA Γ]) (bs' := [b_e cB cC cI cJ cZ oA rA Γ, b_k cB cC cI cJ cZ oA rA Γ, b_p cB cC cI cJ cZ oA rA Γ, b_o cB cC cI cJ cZ oA rA Γ, b_s cB cC cI cJ cZ oA rA Γ, b_c cB cC cI cJ cZ oA rA Γ, b_t cB cC cI cJ cZ oA rA Γ, b_d cB cC cI cJ cZ oA rA Γ]) (ws' := (b_e cB cC cI cJ cZ oA rA Γ ++ b_k cB cC cI cJ cZ oA rA Γ ++ b_p cB cC cI cJ cZ oA rA Γ ++ b_o cB cC cI cJ cZ oA rA Γ ++ b_s cB cC cI cJ cZ oA rA Γ ++ b_c cB cC cI cJ cZ oA rA Γ ++ b_t cB cC cI cJ cZ oA rA Γ ++ b_d cB cC cI cJ cZ oA rA Γ)) hP fl_9 fl_8 [1, 2, 3, 4, 5, 6, 7, 8] rfl
    have hDc := bx_D (bs := [b_b cB cC cI cJ cZ oA rA Γ, b_e cB cC cI cJ cZ oA rA Γ, b_k cB cC cI cJ cZ oA rA Γ, b_p cB cC cI cJ cZ oA rA Γ, b_o cB cC cI cJ cZ oA rA Γ, b_s cB cC cI cJ cZ oA rA Γ, b_c cB cC cI cJ cZ oA rA Γ, b_t cB cC cI cJ cZ oA rA Γ, b_d cB cC cI cJ cZ oA rA Γ]) (bs' := [b_e cB cC cI cJ cZ oA rA Γ, b_k cB cC cI cJ cZ oA rA Γ, b_p cB cC cI cJ cZ oA rA Γ, b_o cB cC cI cJ cZ oA rA Γ, b_s cB cC cI cJ cZ oA rA Γ, b_c cB cC cI cJ cZ oA rA Γ, b_t cB cC cI cJ cZ oA rA Γ, b_d cB cC cI cJ cZ oA rA Γ]) (ws' := (b_e cB cC cI cJ cZ oA rA Γ ++ b_k cB cC cI cJ cZ oA rA Γ ++ b_p cB cC cI cJ cZ oA rA Γ ++ b_o cB cC cI cJ cZ oA rA Γ ++ b_s cB cC cI cJ cZ oA rA Γ ++ b_c cB cC cI cJ cZ oA rA Γ ++ b_t cB cC cI cJ cZ oA rA Γ ++ b_d cB cC cI cJ cZ oA rA Γ)) (hDD Γ) fl_9 fl_8 [1, 2, 3, 4, 5, 6, 7, 8] (by decide +kernel) rfl
    have hFc := bx_F (bs := [b_b cB cC cI cJ cZ oA rA Γ, b_e cB cC cI cJ cZ oA rA Γ, b_k cB cC cI cJ cZ oA rA Γ, b_p cB cC cI cJ cZ oA rA Γ, b_o cB cC cI cJ cZ oA rA Γ, b_s cB cC cI cJ cZ oA rA Γ, b_c cB cC cI cJ cZ oA rA Γ, b_t cB cC cI cJ cZ oA rA Γ, b_d cB cC cI cJ cZ oA rA Γ]) (bs' := [b_e cB cC cI cJ cZ oA rA Γ, b_k cB cC cI cJ cZ oA rA Γ, b_p cB cC cI cJ cZ oA rA Γ, b_o cB cC cI cJ cZ oA rA Γ, b_s cB cC cI cJ cZ oA rA Γ, b_c cB cC cI cJ cZ oA rA Γ, b_t cB cC cI cJ cZ oA rA Γ, b_d cB cC cI cJ cZ oA rA Γ]) (wc := (b_e cB cC cI cJ cZ oA rA Γ ++ b_k cB cC cI cJ cZ oA rA Γ ++ b_p cB cC cI cJ cZ oA rA Γ ++ b_o cB cC cI cJ cZ oA rA Γ ++ b_s cB cC cI cJ cZ oA rA Γ ++ b_c cB cC cI cJ cZ oA rA Γ ++ b_t cB cC cI cJ cZ oA rA Γ ++ b_d cB cC cI cJ cZ oA rA Γ)) (hDD Γ) hS hA fl_9 fl_8 [1, 2, 3, 4, 5, 6, 7, 8] rfl
    refine g_ofi (wc := (b_e cB cC cI cJ cZ oA rA Γ ++ b_k cB cC cI cJ cZ oA rA Γ ++ b_p cB cC cI cJ cZ oA rA Γ ++ b_o cB cC cI cJ cZ oA rA Γ ++ b_s cB cC cI cJ cZ oA rA Γ ++ b_c cB cC cI cJ cZ oA rA Γ ++ b_t cB cC cI cJ cZ oA rA Γ ++ b_d cB cC cI cJ cZ oA rA Γ)) (wr := (b_b cB cC cI cJ cZ oA rA Γ)) hP (hDD Γ) hS hFc (bx_ix [b_b cB cC cI cJ cZ oA rA Γ, b_e cB cC cI cJ cZ oA rA Γ, b_k cB cC cI cJ cZ oA rA Γ, b_p cB cC cI cJ cZ oA rA Γ, b_o cB cC cI cJ cZ oA rA Γ, b_s cB cC cI cJ cZ oA rA Γ, b_c cB cC cI cJ cZ oA rA Γ, b_t cB cC cI cJ cZ oA rA Γ, b_d cB cC cI cJ cZ oA rA Γ] [1, 2, 3, 4, 5, 6, 7, 8]) (bx_ix [b_b cB cC cI cJ cZ oA rA Γ, b_e cB cC cI cJ cZ oA rA Γ, b_k cB cC cI cJ cZ oA rA Γ, b_p cB cC cI cJ cZ oA rA Γ, b_o cB cC cI cJ cZ oA rA Γ, b_s cB cC cI cJ cZ oA rA Γ, b_c cB cC cI cJ cZ oA rA Γ, b_t cB cC cI cJ cZ oA rA Γ, b_d cB cC cI cJ cZ oA rA Γ] [0]) (bx_C (bs := [b_b cB cC cI cJ cZ oA rA Γ, b_e cB cC cI cJ cZ oA rA Γ, b_k cB cC cI cJ cZ oA rA Γ, b_p cB cC cI cJ cZ oA rA Γ, b_o cB cC cI cJ cZ oA rA Γ, b_s cB cC cI cJ cZ oA rA Γ, b_c cB cC cI cJ cZ oA rA Γ, b_t cB cC cI cJ cZ oA rA Γ, b_d cB cC cI cJ cZ oA rA Γ]) (bs' := [b_e cB cC cI cJ cZ oA rA Γ, b_k cB cC cI cJ cZ oA rA Γ, b_p cB cC cI cJ cZ oA rA Γ, b_o cB cC cI cJ cZ oA rA Γ, b_s cB cC cI cJ cZ oA rA Γ, b_c cB cC cI cJ cZ oA rA Γ, b_t cB cC cI cJ cZ oA rA Γ, b_d cB cC cI cJ cZ oA rA Γ]) (is := [1, 2, 3, 4, 5, 6, 7, 8]) fl_9 fl_8 rfl) (bx_C (bs := [b_b cB cC cI cJ cZ oA rA Γ, b_e cB cC cI cJ cZ oA rA Γ, b_k cB cC cI cJ cZ oA rA Γ, b_p cB cC cI cJ cZ oA rA Γ, b_o cB cC cI cJ cZ oA rA Γ, b_s cB cC cI cJ cZ oA rA Γ, b_c cB cC cI cJ cZ oA rA Γ, b_t cB cC cI cJ cZ oA rA Γ, b_d cB cC cI cJ cZ oA rA Γ]) (bs' := [b_b cB cC cI cJ cZ oA rA Γ]) (is := [0]) fl_9 fl_1 rfl) (bx_n (by decide +kernel)) (bx_d (by decide +kernel)) (va_runV (As := [.ref q_51]) (rest := []) ⟨hx, hb, hml, hown, hts⟩ (k_X8_refuse l dC dI cB cC cI cJ cZ cP oA rA s.heap.size q_51 _ ([84, 104, 101, 32, 115, 116, 111, 114, 121, 32, 105, 115, 32, 111, 118, 101, 114, 46] : List Int32) Γ _ hu_52) (cwV 1 hts (g_gV wq_1050 wq_1051 wq_2071 wq_12 wq_1052) rfl rfl rfl (by decide +kernel) ⟨Nat.le_of_ble_eq_true rfl, Nat.le_of_ble_eq_true rfl⟩) (g_preV g_blS hK hPc hDc hS hE hFc (g_toS hSq_51 hS hFc) (q0 := 0) (ci := 8) rfl rfl) rfl rfl hl.1 rfl (lv_room (Nat.le_of_ble_eq_true rfl)) dX8_listen_13 ⟨Nat.le_of_ble_eq_true rfl, Nat.le_of_ble_eq_true rfl⟩) (fun r9 u9 H locs hw9 hP' hD' hS => ?_)
    clear hPc hDc hFc
    subst hw9
    obtain ⟨σ_54, eσ_54, hF_55⟩ := bnd_e hF_53
    clear hF_53
    have hP : va_P (dC, dI) vwCl (b_b cB cC cI cJ cZ oA rA σ_54 ++ b_e cB cC cI cJ cZ oA rA σ_54 ++ b_k cB cC cI cJ cZ oA rA σ_54 ++ b_p cB cC cI cJ cZ oA rA σ_54 ++ b_o cB cC cI cJ cZ oA rA σ_54 ++ b_s cB cC cI cJ cZ oA rA σ_54 ++ b_c cB cC cI cJ cZ oA rA σ_54 ++ b_t cB cC cI cJ cZ oA rA σ_54 ++ b_d cB cC cI cJ cZ oA rA σ_54) H := by rw [eσ_54]; exact bx_P (bs := [b_b cB cC cI cJ cZ oA rA Γ] ++ [b_e cB cC cI cJ cZ oA rA u_52.2, b_k cB cC cI cJ cZ oA rA u_52.2, b_p cB cC cI cJ cZ oA rA u_52.2, b_o cB cC cI cJ cZ oA rA u_52.2, b_s cB cC cI cJ cZ oA rA u_52.2, b_c cB cC cI cJ cZ oA rA u_52.2, b_t cB cC cI cJ cZ oA rA u_52.2, b_d cB cC cI cJ cZ oA rA u_52.2]) (bs' := [b_b cB cC cI cJ cZ oA rA (mrg (fun j => j == 11 || j == 10 || j == 9 || j == 8 || j == 4 || j == 5 || j == 6 || j == 7) Γ u_52.2), b_e cB cC cI cJ cZ oA rA (mrg (fun j => j == 11 || j == 10 || j == 9 || j == 8 || j == 4 || j == 5 || j == 6 || j == 7) Γ u_52.2), b_k cB cC cI cJ cZ oA rA (mrg (fun j => j == 11 || j == 10 || j == 9 || j == 8 || j == 4 || j == 5 || j == 6 || j == 7) Γ u_52.2), b_p cB cC cI cJ cZ oA rA (mrg (fun j => j == 11 || j == 10 || j == 9 || j == 8 || j == 4 || j == 5 || j == 6 || j == 7) Γ u_52.2), b_o cB cC cI cJ cZ oA rA (mrg (fun j => j == 11 || j == 10 || j == 9 || j == 8 || j == 4 || j == 5 || j == 6 || j == 7) Γ u_52.2), b_s cB cC cI cJ cZ oA rA (mrg (fun j => j == 11 || j == 10 || j == 9 || j == 8 || j == 4 || j == 5 || j == 6 || j == 7) Γ u_52.2), b_c cB cC cI cJ cZ oA rA (mrg (fun j => j == 11 || j == 10 || j == 9 || j == 8 || j == 4 || j == 5 || j == 6 || j == 7) Γ u_52.2), b_t cB cC cI cJ cZ oA rA (mrg (fun j => j == 11 || j == 10 || j == 9 || j == 8 || j == 4 || j == 5 || j == 6 || j == 7) Γ u_52.2), b_d cB cC cI cJ cZ oA rA (mrg (fun j => j == 11 || j == 10 || j == 9 || j == 8 || j == 4 || j == 5 || j == 6 || j == 7) Γ u_52.2)]) hP' (fl_a fl_1 fl_8) fl_9 [0, 1, 2, 3, 4, 5, 6, 7, 8] rfl
    clear hP' hD'
    obtain ⟨g_56, hF_57⟩ := nif_e hF_55
    clear hF_55
    have h9 := Option.some.inj hF_57
    subst h9
    exact W.zret (v := u_52.1) hx hb hr (m_bool (Classical.not_not.mp g_56)).1 (fun t ht hW => ⟨⟨u_52.1, (), rfl, rfl, m_end ht hP, hDD _⟩, hS.F ht⟩) hS.2.2 dX8_listen_16
theorem dX8_directionOf_0 : decode cX8_directionOf 0 = .ok (.iload_n 0, 1) := by decide +kernel
theorem dX8_directionOf_1 : decode cX8_directionOf 1 = .ok (.bipush 9, 2) := by decide +kernel
theorem dX8_directionOf_3 : decode cX8_directionOf 3 = .ok (.isub, 1) := by decide +kernel
theorem dX8_directionOf_4 : decode cX8_directionOf 4 = .ok (.istore_n 1, 1) := by decide +kernel
theorem dX8_directionOf_5 : decode cX8_directionOf 5 = .ok (.iload_n 1, 1) := by decide +kernel
theorem dX8_directionOf_6 : decode cX8_directionOf 6 = .ok (.ifCond .lt 18, 3) := by decide +kernel
theorem dX8_directionOf_9 : decode cX8_directionOf 9 = .ok (.iload_n 1, 1) := by decide +kernel
theorem dX8_directionOf_10 : decode cX8_directionOf 10 = .ok (.bipush 12, 2) := by decide +kernel
theorem dX8_directionOf_12 : decode cX8_directionOf 12 = .ok (.if_icmp .ge 12, 3) := by decide +kernel
theorem dX8_directionOf_15 : decode cX8_directionOf 15 = .ok (.iload_n 1, 1) := by decide +kernel
theorem dX8_directionOf_16 : decode cX8_directionOf 16 = .ok (.bipush 6, 2) := by decide +kernel
theorem dX8_directionOf_18 : decode cX8_directionOf 18 = .ok (.irem, 1) := by decide +kernel
theorem dX8_directionOf_19 : decode cX8_directionOf 19 = .ok (.iconst 1, 1) := by decide +kernel
theorem dX8_directionOf_20 : decode cX8_directionOf 20 = .ok (.iadd, 1) := by decide +kernel
theorem dX8_directionOf_21 : decode cX8_directionOf 21 = .ok (.goto 4, 3) := by decide +kernel
theorem dX8_directionOf_24 : decode cX8_directionOf 24 = .ok (.iconst 0, 1) := by decide +kernel
theorem dX8_directionOf_25 : decode cX8_directionOf 25 = .ok (.ireturn, 1) := by decide +kernel
def F_X8_directionOf (p0 : Int32) (Γ : HS) : HR :=
  if (p0 - 9) < 0 then (
    some (0, Γ)
  ) else (
    if 12 ≤ (p0 - 9) then (
      some (0, Γ)
    ) else (
      bnd (((p0 - 9) - (p0 - 9) / 6 * 6)) fun (x_7 : Int32) =>
      some ((x_7 + 1), Γ)
    )
  )
set_option maxHeartbeats 4000000 in
set_option maxRecDepth 100000 in
theorem k_X8_directionOf (l : Launch) (dC : Nat → ClassId) (dI : Nat → Nat → Nat) (cB cC cI cJ cZ cP : ClassId) (oA : Nat → Nat) (rA : Nat → Nat → Nat) (sz : Nat)  (p0 : Int32) (Γ : HS) (res : Int32 × HS) (hF : F_X8_directionOf p0 Γ = some res) : Met l yX8_directionOf (g_ws yX8_directionOf cX8_directionOf 2 (some .int)) ({ frames := 1, cells := 0, slots := 0, locals := 40 }) (va_Pc [.int p0] (g_B (dC, dI) [(cB, .byte), (cC, .char), (cI, .int), (cJ, .long), (cZ, .boolean), (cP, .object "StoryHouse$Play")] sz ([] : va_W) g_0)) (va_Qi (fun r (_ : Unit) => r = res.1) (g_Bo (dC, dI) (va_A ([] : va_W) sz) (fun (_ : Unit) => ([] : va_W))) (va_A ([] : va_W) sz)) 0 0 (va_A ([] : va_W) sz) := by
  refine Met.ofW (cc := cX8_directionOf) (maxL := 2) (ret := (some .int)) (by decide) rfl ?_
  intro p e s m args below meth c s₁ B hml hv
  obtain ⟨rfl, hsz, hP, hK, hD0, hE, hX⟩ := hv
  have hx := B.exec
  have hb := B.bytes
  have hr := B.returns
  have hts0 := atoms_spec (ws := g_ws yX8_directionOf cX8_directionOf 2 (some .int)) B.pre
  have hts : ∀ w ∈ lw_good, w.before ([.int p0] : List Value).toArray s = true := fun w z => hts0 w (List.mem_cons_of_mem _ z)
  have hown : s.vm.findClass RX8 = some m.cls := findClass_of_methodNamed B.named
  have hlocks := B.notSynchronized
  subst hsz
  have hD1 := hD0.self (sz := s.heap.size)
  generalize hAe : va_A ([] : va_W) s.heap.size = A at hD1 hE hX ⊢
  have hA : ∀ q : Nat, s.heap.size ≤ q → A q := fun q z => by rw [← hAe]; exact Or.inr z
  have hDD : ∀ Γ : HS, va_D A ([] : va_W) := fun Γ9 => va_D_fst (ws := ([] : va_W)) (ws' := ([] : va_W)) rfl hD1
  have hN := hE.1
  have hS : va_S A s.heap s.heap [] := va_S.rf
  have hl := lv_entry ([.int p0]) (n := 2) (Nat.le_of_ble_eq_true rfl)
  rw [lg_entry_eq]
  generalize (lg_sl ([.int p0]) ++ List.replicate (2 - (lg_sl ([.int p0])).length) Slot.unset).toArray = ls at hl ⊢
  have hl : lv_has ls 2 [(0, .int p0)] := hl
  unfold F_X8_directionOf at hF
  refine lv_iload_n hx hb dX8_directionOf_0 rfl (lv_at hl 0 rfl) ?_
  refine lv_bipush (v := 9) hx hb dX8_directionOf_1 (by decide +kernel) ?_
  refine lv_isub hx hb dX8_directionOf_3 ?_
  refine lv_istore_n (lv' := [(1, .int (p0 - 9)), (0, .int p0)]) hx hb dX8_directionOf_4 rfl hl (by decide) rfl (fun ls hl => ?_)
  refine lv_iload_n hx hb dX8_directionOf_5 rfl (lv_at hl 0 rfl) ?_
  refine lv_if_lt (tgt := 24) hx hb dX8_directionOf_6 (by decide) (fun c_1 => ?_) (fun c_1 => ?_)
  · have hF_2 := ipos c_1 hF
    clear hF
    refine lv_iconst (v := 0) hx hb dX8_directionOf_24 (by decide +kernel) ?_
    have h9 := Option.some.inj hF_2
    subst h9
    exact W.iret (v := 0) hx hb hr (fun t ht hW => ⟨⟨0, (), rfl, rfl, m_end ht hP, hDD Γ⟩, hS.F ht⟩) hS.2.2 dX8_directionOf_25
  · have hF_3 := ineg c_1 hF
    clear hF
    refine lv_iload_n hx hb dX8_directionOf_9 rfl (lv_at hl 0 rfl) ?_
    refine lv_bipush (v := 12) hx hb dX8_directionOf_10 (by decide +kernel) ?_
    refine lv_icmp_ge (tgt := 24) hx hb dX8_directionOf_12 (by decide) (fun c_4 => ?_) (fun c_4 => ?_)
    · have hF_5 := ipos c_4 hF_3
      clear hF_3
      refine lv_iconst (v := 0) hx hb dX8_directionOf_24 (by decide +kernel) ?_
      have h9 := Option.some.inj hF_5
      subst h9
      exact W.iret (v := 0) hx hb hr (fun t ht hW => ⟨⟨0, (), rfl, rfl, m_end ht hP, hDD Γ⟩, hS.F ht⟩) hS.2.2 dX8_directionOf_25
    · have hF_6 := ineg c_4 hF_3
      clear hF_3
      refine lv_iload_n hx hb dX8_directionOf_15 rfl (lv_at hl 0 rfl) ?_
      refine lv_bipush (v := 6) hx hb dX8_directionOf_16 (by decide +kernel) ?_
      refine lv_irem hx hb dX8_directionOf_18 (by decide +kernel) ?_
      obtain ⟨x_7, ex_7, hF_8⟩ := bnd_e hF_6
      clear hF_6
      refine m_top ex_7 ?_
      refine lv_iconst (v := 1) hx hb dX8_directionOf_19 (by decide +kernel) ?_
      refine lv_iadd hx hb dX8_directionOf_20 ?_
      refine lv_goto (tgt := 25) hx hb dX8_directionOf_21 (by decide) ?_
      have h9 := Option.some.inj hF_8
      subst h9
      exact W.iret (v := (x_7 + 1)) hx hb hr (fun t ht hW => ⟨⟨(x_7 + 1), (), rfl, rfl, m_end ht hP, hDD Γ⟩, hS.F ht⟩) hS.2.2 dX8_directionOf_25
theorem dX8_behindArticle_0 : decode cX8_behindArticle 0 = .ok (.aload_n 0, 1) := by decide +kernel
theorem dX8_behindArticle_1 : decode cX8_behindArticle 1 = .ok (.iload_n 1, 1) := by decide +kernel
theorem dX8_behindArticle_2 : decode cX8_behindArticle 2 = .ok (.invokevirtual 55, 3) := by decide +kernel
theorem dX8_behindArticle_5 : decode cX8_behindArticle 5 = .ok (.iconst 4, 1) := by decide +kernel
theorem dX8_behindArticle_6 : decode cX8_behindArticle 6 = .ok (.if_icmp .lt 17, 3) := by decide +kernel
theorem dX8_behindArticle_9 : decode cX8_behindArticle 9 = .ok (.aload_n 0, 1) := by decide +kernel
theorem dX8_behindArticle_10 : decode cX8_behindArticle 10 = .ok (.iload_n 1, 1) := by decide +kernel
theorem dX8_behindArticle_11 : decode cX8_behindArticle 11 = .ok (.invokevirtual 55, 3) := by decide +kernel
theorem dX8_behindArticle_14 : decode cX8_behindArticle 14 = .ok (.bipush 6, 2) := by decide +kernel
theorem dX8_behindArticle_16 : decode cX8_behindArticle 16 = .ok (.if_icmp .gt 7, 3) := by decide +kernel
theorem dX8_behindArticle_19 : decode cX8_behindArticle 19 = .ok (.iconst 1, 1) := by decide +kernel
theorem dX8_behindArticle_20 : decode cX8_behindArticle 20 = .ok (.goto 4, 3) := by decide +kernel
theorem dX8_behindArticle_23 : decode cX8_behindArticle 23 = .ok (.iconst 0, 1) := by decide +kernel
theorem dX8_behindArticle_24 : decode cX8_behindArticle 24 = .ok (.istore_n 3, 1) := by decide +kernel
theorem dX8_behindArticle_25 : decode cX8_behindArticle 25 = .ok (.iload_n 3, 1) := by decide +kernel
theorem dX8_behindArticle_26 : decode cX8_behindArticle 26 = .ok (.ifCond .eq 16, 3) := by decide +kernel
theorem dX8_behindArticle_29 : decode cX8_behindArticle 29 = .ok (.iload_n 2, 1) := by decide +kernel
theorem dX8_behindArticle_30 : decode cX8_behindArticle 30 = .ok (.iload_n 1, 1) := by decide +kernel
theorem dX8_behindArticle_31 : decode cX8_behindArticle 31 = .ok (.isub, 1) := by decide +kernel
theorem dX8_behindArticle_32 : decode cX8_behindArticle 32 = .ok (.iconst 1, 1) := by decide +kernel
theorem dX8_behindArticle_33 : decode cX8_behindArticle 33 = .ok (.if_icmp .le 9, 3) := by decide +kernel
theorem dX8_behindArticle_36 : decode cX8_behindArticle 36 = .ok (.iload_n 1, 1) := by decide +kernel
theorem dX8_behindArticle_37 : decode cX8_behindArticle 37 = .ok (.iconst 1, 1) := by decide +kernel
theorem dX8_behindArticle_38 : decode cX8_behindArticle 38 = .ok (.iadd, 1) := by decide +kernel
theorem dX8_behindArticle_39 : decode cX8_behindArticle 39 = .ok (.goto 4, 3) := by decide +kernel
theorem dX8_behindArticle_42 : decode cX8_behindArticle 42 = .ok (.iload_n 1, 1) := by decide +kernel
theorem dX8_behindArticle_43 : decode cX8_behindArticle 43 = .ok (.ireturn, 1) := by decide +kernel
def F_X8_behindArticle (p0 : Int32) (p1 : Int32) (Γ : HS) : HR :=
  (F_X8_term p0 Γ).bind fun u_1 =>
  bnd (fun (t_3 : Int32) (σ_4 : HS) => (
    if t_3 = 0 then (
      some (p0, σ_4)
    ) else (
      if (p1 - p0) ≤ 1 then (
        some (p0, σ_4)
      ) else (
        some ((p0 + 1), σ_4)
      )
    )
  ) : Int32 → HS → HR) fun j_5 =>
  bnd (fun  (σ_14 : HS) => (
    j_5 0 σ_14
  ) : HS → HR) fun j_15 =>
  if u_1.1 < 4 then (
    j_15  u_1.2
  ) else (
    (F_X8_term p0 u_1.2).bind fun u_21 =>
    if 6 < u_21.1 then (
      j_15  u_21.2
    ) else (
      j_5 1 u_21.2
    )
  )
set_option maxHeartbeats 4000000 in
set_option maxRecDepth 100000 in
theorem k_X8_behindArticle (l : Launch) (dC : Nat → ClassId) (dI : Nat → Nat → Nat) (cB cC cI cJ cZ cP : ClassId) (oA : Nat → Nat) (rA : Nat → Nat → Nat) (sz : Nat)  (p0 : Int32) (p1 : Int32) (Γ : HS) (res : Int32 × HS) (hF : F_X8_behindArticle p0 p1 Γ = some res) : Met l yX8_behindArticle (g_ws yX8_behindArticle cX8_behindArticle 4 (some .int)) ({ frames := 4, cells := 0, slots := 0, locals := 102 }) (va_Pc [.ref (oA 11), .int p0, .int p1] (g_B (dC, dI) [(cB, .byte), (cC, .char), (cI, .int), (cJ, .long), (cZ, .boolean), (cP, .object "StoryHouse$Play")] sz (b_e cB cC cI cJ cZ oA rA Γ ++ b_k cB cC cI cJ cZ oA rA Γ ++ b_p cB cC cI cJ cZ oA rA Γ ++ b_o cB cC cI cJ cZ oA rA Γ ++ b_s cB cC cI cJ cZ oA rA Γ ++ b_c cB cC cI cJ cZ oA rA Γ ++ b_t cB cC cI cJ cZ oA rA Γ ++ b_d cB cC cI cJ cZ oA rA Γ) g_0)) (va_Qi (fun r (_ : Unit) => r = res.1) (g_Bo (dC, dI) (va_A (b_e cB cC cI cJ cZ oA rA Γ ++ b_k cB cC cI cJ cZ oA rA Γ ++ b_p cB cC cI cJ cZ oA rA Γ ++ b_o cB cC cI cJ cZ oA rA Γ ++ b_s cB cC cI cJ cZ oA rA Γ ++ b_c cB cC cI cJ cZ oA rA Γ ++ b_t cB cC cI cJ cZ oA rA Γ ++ b_d cB cC cI cJ cZ oA rA Γ) sz) (fun (_ : Unit) => (b_e cB cC cI cJ cZ oA rA res.2 ++ b_k cB cC cI cJ cZ oA rA res.2 ++ b_p cB cC cI cJ cZ oA rA res.2 ++ b_o cB cC cI cJ cZ oA rA res.2 ++ b_s cB cC cI cJ cZ oA rA res.2 ++ b_c cB cC cI cJ cZ oA rA res.2 ++ b_t cB cC cI cJ cZ oA rA res.2 ++ b_d cB cC cI cJ cZ oA rA res.2))) (va_A (b_e cB cC cI cJ cZ oA rA Γ ++ b_k cB cC cI cJ cZ oA rA Γ ++ b_p cB cC cI cJ cZ oA rA Γ ++ b_o cB cC cI cJ cZ oA rA Γ ++ b_s cB cC cI cJ cZ oA rA Γ ++ b_c cB cC cI cJ cZ oA rA Γ ++ b_t cB cC cI cJ cZ oA rA Γ ++ b_d cB cC cI cJ cZ oA rA Γ) sz)) 0 0 (va_A (b_e cB cC cI cJ cZ oA rA Γ ++ b_k cB cC cI cJ cZ oA rA Γ ++ b_p cB cC cI cJ cZ oA rA Γ ++ b_o cB cC cI cJ cZ oA rA Γ ++ b_s cB cC cI cJ cZ oA rA Γ ++ b_c cB cC cI cJ cZ oA rA Γ ++ b_t cB cC cI cJ cZ oA rA Γ ++ b_d cB cC cI cJ cZ oA rA Γ) sz) := by
  refine Met.ofW (cc := cX8_behindArticle) (maxL := 4) (ret := (some .int)) (by decide) rfl ?_
  intro p e s m args below meth c s₁ B hml hv
  obtain ⟨rfl, hsz, hP, hK, hD0, hE, hX⟩ := hv
  have hx := B.exec
  have hb := B.bytes
  have hr := B.returns
  have hts0 := atoms_spec (ws := g_ws yX8_behindArticle cX8_behindArticle 4 (some .int)) B.pre
  have hts : ∀ w ∈ lw_good, w.before ([.ref (oA 11), .int p0, .int p1] : List Value).toArray s = true := fun w z => hts0 w (List.mem_cons_of_mem _ z)
  have hown : s.vm.findClass RX8 = some m.cls := findClass_of_methodNamed B.named
  have hlocks := B.notSynchronized
  subst hsz
  have hD1 := hD0.self (sz := s.heap.size)
  generalize hAe : va_A (b_e cB cC cI cJ cZ oA rA Γ ++ b_k cB cC cI cJ cZ oA rA Γ ++ b_p cB cC cI cJ cZ oA rA Γ ++ b_o cB cC cI cJ cZ oA rA Γ ++ b_s cB cC cI cJ cZ oA rA Γ ++ b_c cB cC cI cJ cZ oA rA Γ ++ b_t cB cC cI cJ cZ oA rA Γ ++ b_d cB cC cI cJ cZ oA rA Γ) s.heap.size = A at hD1 hE hX ⊢
  have hA : ∀ q : Nat, s.heap.size ≤ q → A q := fun q z => by rw [← hAe]; exact Or.inr z
  have hDD : ∀ Γ : HS, va_D A (b_e cB cC cI cJ cZ oA rA Γ ++ b_k cB cC cI cJ cZ oA rA Γ ++ b_p cB cC cI cJ cZ oA rA Γ ++ b_o cB cC cI cJ cZ oA rA Γ ++ b_s cB cC cI cJ cZ oA rA Γ ++ b_c cB cC cI cJ cZ oA rA Γ ++ b_t cB cC cI cJ cZ oA rA Γ ++ b_d cB cC cI cJ cZ oA rA Γ) := fun Γ9 => va_D_fst (ws := (b_e cB cC cI cJ cZ oA rA Γ ++ b_k cB cC cI cJ cZ oA rA Γ ++ b_p cB cC cI cJ cZ oA rA Γ ++ b_o cB cC cI cJ cZ oA rA Γ ++ b_s cB cC cI cJ cZ oA rA Γ ++ b_c cB cC cI cJ cZ oA rA Γ ++ b_t cB cC cI cJ cZ oA rA Γ ++ b_d cB cC cI cJ cZ oA rA Γ)) (ws' := (b_e cB cC cI cJ cZ oA rA Γ9 ++ b_k cB cC cI cJ cZ oA rA Γ9 ++ b_p cB cC cI cJ cZ oA rA Γ9 ++ b_o cB cC cI cJ cZ oA rA Γ9 ++ b_s cB cC cI cJ cZ oA rA Γ9 ++ b_c cB cC cI cJ cZ oA rA Γ9 ++ b_t cB cC cI cJ cZ oA rA Γ9 ++ b_d cB cC cI cJ cZ oA rA Γ9)) rfl hD1
  have hN := hE.1
  have hS : va_S A s.heap s.heap [] := va_S.rf
  have hl := lv_entry ([.ref (oA 11), .int p0, .int p1]) (n := 4) (Nat.le_of_ble_eq_true rfl)
  rw [lg_entry_eq]
  generalize (lg_sl ([.ref (oA 11), .int p0, .int p1]) ++ List.replicate (4 - (lg_sl ([.ref (oA 11), .int p0, .int p1])).length) Slot.unset).toArray = ls at hl ⊢
  have hl : lv_has ls 4 [(0, .ref (oA 11)), (1, .int p0), (2, .int p1)] := hl
  unfold F_X8_behindArticle at hF
  refine lv_aload_n hx hb dX8_behindArticle_0 rfl (lv_at hl 0 rfl) ?_
  refine lv_iload_n hx hb dX8_behindArticle_1 rfl (lv_at hl 1 rfl) ?_
  obtain ⟨u_1, hu_1, hF_2⟩ := Option.bind_eq_some_iff.mp hF
  clear hF
  have hPc := bx_P (bs := [b_e cB cC cI cJ cZ oA rA Γ, b_k cB cC cI cJ cZ oA rA Γ, b_p cB cC cI cJ cZ oA rA Γ, b_o cB cC cI cJ cZ oA rA Γ, b_s cB cC cI cJ cZ oA rA Γ, b_c cB cC cI cJ cZ oA rA Γ, b_t cB cC cI cJ cZ oA rA Γ, b_d cB cC cI cJ cZ oA rA Γ]) (bs' := [b_e cB cC cI cJ cZ oA rA Γ, b_k cB cC cI cJ cZ oA rA Γ, b_p cB cC cI cJ cZ oA rA Γ, b_o cB cC cI cJ cZ oA rA Γ, b_s cB cC cI cJ cZ oA rA Γ, b_c cB cC cI cJ cZ oA rA Γ, b_t cB cC cI cJ cZ oA rA Γ, b_d cB cC cI cJ cZ oA rA Γ]) (ws' := (b_e cB cC cI cJ cZ oA rA Γ ++ b_k cB cC cI cJ cZ oA rA Γ ++ b_p cB cC cI cJ cZ oA rA Γ ++ b_o cB cC cI cJ cZ oA rA Γ ++ b_s cB cC cI cJ cZ oA rA Γ ++ b_c cB cC cI cJ cZ oA rA Γ ++ b_t cB cC cI cJ cZ oA rA Γ ++ b_d cB cC cI cJ cZ oA rA Γ)) hP fl_8 fl_8 [0, 1, 2, 3, 4, 5, 6, 7] rfl
  have hDc := bx_D (bs := [b_e cB cC cI cJ cZ oA rA Γ, b_k cB cC cI cJ cZ oA rA Γ, b_p cB cC cI cJ cZ oA rA Γ, b_o cB cC cI cJ cZ oA rA Γ, b_s cB cC cI cJ cZ oA rA Γ, b_c cB cC cI cJ cZ oA rA Γ, b_t cB cC cI cJ cZ oA rA Γ, b_d cB cC cI cJ cZ oA rA Γ]) (bs' := [b_e cB cC cI cJ cZ oA rA Γ, b_k cB cC cI cJ cZ oA rA Γ, b_p cB cC cI cJ cZ oA rA Γ, b_o cB cC cI cJ cZ oA rA Γ, b_s cB cC cI cJ cZ oA rA Γ, b_c cB cC cI cJ cZ oA rA Γ, b_t cB cC cI cJ cZ oA rA Γ, b_d cB cC cI cJ cZ oA rA Γ]) (ws' := (b_e cB cC cI cJ cZ oA rA Γ ++ b_k cB cC cI cJ cZ oA rA Γ ++ b_p cB cC cI cJ cZ oA rA Γ ++ b_o cB cC cI cJ cZ oA rA Γ ++ b_s cB cC cI cJ cZ oA rA Γ ++ b_c cB cC cI cJ cZ oA rA Γ ++ b_t cB cC cI cJ cZ oA rA Γ ++ b_d cB cC cI cJ cZ oA rA Γ)) (hDD Γ) fl_8 fl_8 [0, 1, 2, 3, 4, 5, 6, 7] (by decide +kernel) rfl
  have hFc := bx_F (bs := [b_e cB cC cI cJ cZ oA rA Γ, b_k cB cC cI cJ cZ oA rA Γ, b_p cB cC cI cJ cZ oA rA Γ, b_o cB cC cI cJ cZ oA rA Γ, b_s cB cC cI cJ cZ oA rA Γ, b_c cB cC cI cJ cZ oA rA Γ, b_t cB cC cI cJ cZ oA rA Γ, b_d cB cC cI cJ cZ oA rA Γ]) (bs' := [b_e cB cC cI cJ cZ oA rA Γ, b_k cB cC cI cJ cZ oA rA Γ, b_p cB cC cI cJ cZ oA rA Γ, b_o cB cC cI cJ cZ oA rA Γ, b_s cB cC cI cJ cZ oA rA Γ, b_c cB cC cI cJ cZ oA rA Γ, b_t cB cC cI cJ cZ oA rA Γ, b_d cB cC cI cJ cZ oA rA Γ]) (wc := (b_e cB cC cI cJ cZ oA rA Γ ++ b_k cB cC cI cJ cZ oA rA Γ ++ b_p cB cC cI cJ cZ oA rA Γ ++ b_o cB cC cI cJ cZ oA rA Γ ++ b_s cB cC cI cJ cZ oA rA Γ ++ b_c cB cC cI cJ cZ oA rA Γ ++ b_t cB cC cI cJ cZ oA rA Γ ++ b_d cB cC cI cJ cZ oA rA Γ)) (hDD Γ) hS hA fl_8 fl_8 [0, 1, 2, 3, 4, 5, 6, 7] rfl
  refine g_ofi (wc := (b_e cB cC cI cJ cZ oA rA Γ ++ b_k cB cC cI cJ cZ oA rA Γ ++ b_p cB cC cI cJ cZ oA rA Γ ++ b_o cB cC cI cJ cZ oA rA Γ ++ b_s cB cC cI cJ cZ oA rA Γ ++ b_c cB cC cI cJ cZ oA rA Γ ++ b_t cB cC cI cJ cZ oA rA Γ ++ b_d cB cC cI cJ cZ oA rA Γ)) (wr := ([] : va_W)) hP (hDD Γ) hS hFc (bx_ix [b_e cB cC cI cJ cZ oA rA Γ, b_k cB cC cI cJ cZ oA rA Γ, b_p cB cC cI cJ cZ oA rA Γ, b_o cB cC cI cJ cZ oA rA Γ, b_s cB cC cI cJ cZ oA rA Γ, b_c cB cC cI cJ cZ oA rA Γ, b_t cB cC cI cJ cZ oA rA Γ, b_d cB cC cI cJ cZ oA rA Γ] [0, 1, 2, 3, 4, 5, 6, 7]) (bx_ix [b_e cB cC cI cJ cZ oA rA Γ, b_k cB cC cI cJ cZ oA rA Γ, b_p cB cC cI cJ cZ oA rA Γ, b_o cB cC cI cJ cZ oA rA Γ, b_s cB cC cI cJ cZ oA rA Γ, b_c cB cC cI cJ cZ oA rA Γ, b_t cB cC cI cJ cZ oA rA Γ, b_d cB cC cI cJ cZ oA rA Γ] []) (bx_C (bs := [b_e cB cC cI cJ cZ oA rA Γ, b_k cB cC cI cJ cZ oA rA Γ, b_p cB cC cI cJ cZ oA rA Γ, b_o cB cC cI cJ cZ oA rA Γ, b_s cB cC cI cJ cZ oA rA Γ, b_c cB cC cI cJ cZ oA rA Γ, b_t cB cC cI cJ cZ oA rA Γ, b_d cB cC cI cJ cZ oA rA Γ]) (bs' := [b_e cB cC cI cJ cZ oA rA Γ, b_k cB cC cI cJ cZ oA rA Γ, b_p cB cC cI cJ cZ oA rA Γ, b_o cB cC cI cJ cZ oA rA Γ, b_s cB cC cI cJ cZ oA rA Γ, b_c cB cC cI cJ cZ oA rA Γ, b_t cB cC cI cJ cZ oA rA Γ, b_d cB cC cI cJ cZ oA rA Γ]) (is := [0, 1, 2, 3, 4, 5, 6, 7]) fl_8 fl_8 rfl) (bx_C (bs := [b_e cB cC cI cJ cZ oA rA Γ, b_k cB cC cI cJ cZ oA rA Γ, b_p cB cC cI cJ cZ oA rA Γ, b_o cB cC cI cJ cZ oA rA Γ, b_s cB cC cI cJ cZ oA rA Γ, b_c cB cC cI cJ cZ oA rA Γ, b_t cB cC cI cJ cZ oA rA Γ, b_d cB cC cI cJ cZ oA rA Γ]) (bs' := []) (is := []) fl_8 fl_0 rfl) (bx_n (by decide +kernel)) (bx_d (by decide +kernel)) (va_runV (As := [.int p0]) (rest := []) ⟨hx, hb, hml, hown, hts⟩ (k_X8_term l dC dI cB cC cI cJ cZ cP oA rA s.heap.size  p0 Γ _ hu_1) (cwV 1 hts (g_gV wq_1065 wq_1066 wq_2074 wq_12 wq_1067) rfl rfl rfl (by decide +kernel) ⟨Nat.le_of_ble_eq_true rfl, Nat.le_of_ble_eq_true rfl⟩) (g_preV g_bl0 hK hPc hDc hS hE hFc g_to0 (q0 := 0) (ci := 8) rfl rfl) rfl rfl hl.1 rfl (lv_room (Nat.le_of_ble_eq_true rfl)) dX8_behindArticle_2 ⟨Nat.le_of_ble_eq_true rfl, Nat.le_of_ble_eq_true rfl⟩) (fun r9 u9 H locs hw9 hP' hD' hS => ?_)
  clear hPc hDc hFc
  subst hw9
  have hP : va_P (dC, dI) vwCl (b_e cB cC cI cJ cZ oA rA u_1.2 ++ b_k cB cC cI cJ cZ oA rA u_1.2 ++ b_p cB cC cI cJ cZ oA rA u_1.2 ++ b_o cB cC cI cJ cZ oA rA u_1.2 ++ b_s cB cC cI cJ cZ oA rA u_1.2 ++ b_c cB cC cI cJ cZ oA rA u_1.2 ++ b_t cB cC cI cJ cZ oA rA u_1.2 ++ b_d cB cC cI cJ cZ oA rA u_1.2) H := hP'
  clear hP' hD'
  refine lv_iconst (v := 4) hx hb dX8_behindArticle_5 (by decide +kernel) ?_
  obtain ⟨j_5, ej_5, hF_6⟩ := bnd_e hF_2
  clear hF_2
  have Jj_5 : ∀ (t_3 : Int32) (σ_4 : HS), j_5 t_3 σ_4 = some res → ∀ (H : Heap) (locs : List Loc), va_P (dC, dI) vwCl (b_e cB cC cI cJ cZ oA rA σ_4 ++ b_k cB cC cI cJ cZ oA rA σ_4 ++ b_p cB cC cI cJ cZ oA rA σ_4 ++ b_o cB cC cI cJ cZ oA rA σ_4 ++ b_s cB cC cI cJ cZ oA rA σ_4 ++ b_c cB cC cI cJ cZ oA rA σ_4 ++ b_t cB cC cI cJ cZ oA rA σ_4 ++ b_d cB cC cI cJ cZ oA rA σ_4) H → va_S A s.heap H locs → ∀ ls : Array Slot, lv_has ls 4 [(1, .int p0), (2, .int p1)] → W p l e (headSpec (g_ws yX8_behindArticle cX8_behindArticle 4 (some .int)) { frames := 4, cells := 0, slots := 0, locals := 102 }).room s m ([.ref (oA 11), .int p0, .int p1] : List Value).toArray below meth c H locs 0 0 (MQ below (va_Qi (fun r (_ : Unit) => r = res.1) (g_Bo (dC, dI) A (fun (_ : Unit) => (b_e cB cC cI cJ cZ oA rA res.2 ++ b_k cB cC cI cJ cZ oA rA res.2 ++ b_p cB cC cI cJ cZ oA rA res.2 ++ b_o cB cC cI cJ cZ oA rA res.2 ++ b_s cB cC cI cJ cZ oA rA res.2 ++ b_c cB cC cI cJ cZ oA rA res.2 ++ b_t cB cC cI cJ cZ oA rA res.2 ++ b_d cB cC cI cJ cZ oA rA res.2))) A) ([.ref (oA 11), .int p0, .int p1] : List Value).toArray s 0 0 A) (F0 m 24 ls [.int t_3]) := by
    intro t_3 σ_4 hF0 H locs hP hS ls hl
    subst ej_5
    have hF_7 := hF0
    clear hF0
    refine lv_istore_n (lv' := [(3, .int t_3), (1, .int p0), (2, .int p1)]) hx hb dX8_behindArticle_24 rfl hl (by decide) rfl (fun ls hl => ?_)
    refine lv_iload_n hx hb dX8_behindArticle_25 rfl (lv_at hl 0 rfl) ?_
    refine lv_if_eq (tgt := 42) hx hb dX8_behindArticle_26 (by decide) (fun c_8 => ?_) (fun c_8 => ?_)
    · have hF_9 := ipos c_8 hF_7
      clear hF_7
      refine lv_iload_n hx hb dX8_behindArticle_42 rfl (lv_at hl 1 rfl) ?_
      have h9 := Option.some.inj hF_9
      subst h9
      exact W.iret (v := p0) hx hb hr (fun t ht hW => ⟨⟨p0, (), rfl, rfl, m_end ht hP, hDD _⟩, hS.F ht⟩) hS.2.2 dX8_behindArticle_43
    · have hF_10 := ineg c_8 hF_7
      clear hF_7
      refine lv_iload_n hx hb dX8_behindArticle_29 rfl (lv_at hl 2 rfl) ?_
      refine lv_iload_n hx hb dX8_behindArticle_30 rfl (lv_at hl 1 rfl) ?_
      refine lv_isub hx hb dX8_behindArticle_31 ?_
      refine lv_iconst (v := 1) hx hb dX8_behindArticle_32 (by decide +kernel) ?_
      refine lv_icmp_le (tgt := 42) hx hb dX8_behindArticle_33 (by decide) (fun c_11 => ?_) (fun c_11 => ?_)
      · have hF_12 := ipos c_11 hF_10
        clear hF_10
        refine lv_iload_n hx hb dX8_behindArticle_42 rfl (lv_at hl 1 rfl) ?_
        have h9 := Option.some.inj hF_12
        subst h9
        exact W.iret (v := p0) hx hb hr (fun t ht hW => ⟨⟨p0, (), rfl, rfl, m_end ht hP, hDD _⟩, hS.F ht⟩) hS.2.2 dX8_behindArticle_43
      · have hF_13 := ineg c_11 hF_10
        clear hF_10
        refine lv_iload_n hx hb dX8_behindArticle_36 rfl (lv_at hl 1 rfl) ?_
        refine lv_iconst (v := 1) hx hb dX8_behindArticle_37 (by decide +kernel) ?_
        refine lv_iadd hx hb dX8_behindArticle_38 ?_
        refine lv_goto (tgt := 43) hx hb dX8_behindArticle_39 (by decide) ?_
        have h9 := Option.some.inj hF_13
        subst h9
        exact W.iret (v := (p0 + 1)) hx hb hr (fun t ht hW => ⟨⟨(p0 + 1), (), rfl, rfl, m_end ht hP, hDD _⟩, hS.F ht⟩) hS.2.2 dX8_behindArticle_43
  obtain ⟨j_15, ej_15, hF_16⟩ := bnd_e hF_6
  clear hF_6
  have Jj_15 : ∀  (σ_14 : HS), j_15  σ_14 = some res → ∀ (H : Heap) (locs : List Loc), va_P (dC, dI) vwCl (b_e cB cC cI cJ cZ oA rA σ_14 ++ b_k cB cC cI cJ cZ oA rA σ_14 ++ b_p cB cC cI cJ cZ oA rA σ_14 ++ b_o cB cC cI cJ cZ oA rA σ_14 ++ b_s cB cC cI cJ cZ oA rA σ_14 ++ b_c cB cC cI cJ cZ oA rA σ_14 ++ b_t cB cC cI cJ cZ oA rA σ_14 ++ b_d cB cC cI cJ cZ oA rA σ_14) H → va_S A s.heap H locs → ∀ ls : Array Slot, lv_has ls 4 [(1, .int p0), (2, .int p1)] → W p l e (headSpec (g_ws yX8_behindArticle cX8_behindArticle 4 (some .int)) { frames := 4, cells := 0, slots := 0, locals := 102 }).room s m ([.ref (oA 11), .int p0, .int p1] : List Value).toArray below meth c H locs 0 0 (MQ below (va_Qi (fun r (_ : Unit) => r = res.1) (g_Bo (dC, dI) A (fun (_ : Unit) => (b_e cB cC cI cJ cZ oA rA res.2 ++ b_k cB cC cI cJ cZ oA rA res.2 ++ b_p cB cC cI cJ cZ oA rA res.2 ++ b_o cB cC cI cJ cZ oA rA res.2 ++ b_s cB cC cI cJ cZ oA rA res.2 ++ b_c cB cC cI cJ cZ oA rA res.2 ++ b_t cB cC cI cJ cZ oA rA res.2 ++ b_d cB cC cI cJ cZ oA rA res.2))) A) ([.ref (oA 11), .int p0, .int p1] : List Value).toArray s 0 0 A) (F0 m 23 ls []) := by
    intro  σ_14 hF0 H locs hP hS ls hl
    subst ej_15
    have hF_17 := hF0
    clear hF0
    refine lv_iconst (v := 0) hx hb dX8_behindArticle_23 (by decide +kernel) ?_
    exact Jj_5 0 σ_14 hF_17 _ _ hP hS ls (lv_sub hl [0, 1] rfl)
  refine lv_icmp_lt (tgt := 23) hx hb dX8_behindArticle_6 (by decide) (fun c_18 => ?_) (fun c_18 => ?_)
  · have hF_19 := ipos c_18 hF_16
    clear hF_16
    exact Jj_15  u_1.2 hF_19 _ _ hP hS ls (lv_sub hl [1, 2] rfl)
  · have hF_20 := ineg c_18 hF_16
    clear hF_16
    refine lv_aload_n hx hb dX8_behindArticle_9 rfl (lv_at hl 0 rfl) ?_
    refine lv_iload_n hx hb dX8_behindArticle_10 rfl (lv_at hl 1 rfl) ?_
    obtain ⟨u_21, hu_21, hF_22⟩ := Option.bind_eq_some_iff.mp hF_20
    clear hF_20
    have hPc := bx_P (bs := [b_e cB cC cI cJ cZ oA rA u_1.2, b_k cB cC cI cJ cZ oA rA u_1.2, b_p cB cC cI cJ cZ oA rA u_1.2, b_o cB cC cI cJ cZ oA rA u_1.2, b_s cB cC cI cJ cZ oA rA u_1.2, b_c cB cC cI cJ cZ oA rA u_1.2, b_t cB cC cI cJ cZ oA rA u_1.2, b_d cB cC cI cJ cZ oA rA u_1.2]) (bs' := [b_e cB cC cI cJ cZ oA rA u_1.2, b_k cB cC cI cJ cZ oA rA u_1.2, b_p cB cC cI cJ cZ oA rA u_1.2, b_o cB cC cI cJ cZ oA rA u_1.2, b_s cB cC cI cJ cZ oA rA u_1.2, b_c cB cC cI cJ cZ oA rA u_1.2, b_t cB cC cI cJ cZ oA rA u_1.2, b_d cB cC cI cJ cZ oA rA u_1.2]) (ws' := (b_e cB cC cI cJ cZ oA rA u_1.2 ++ b_k cB cC cI cJ cZ oA rA u_1.2 ++ b_p cB cC cI cJ cZ oA rA u_1.2 ++ b_o cB cC cI cJ cZ oA rA u_1.2 ++ b_s cB cC cI cJ cZ oA rA u_1.2 ++ b_c cB cC cI cJ cZ oA rA u_1.2 ++ b_t cB cC cI cJ cZ oA rA u_1.2 ++ b_d cB cC cI cJ cZ oA rA u_1.2)) hP fl_8 fl_8 [0, 1, 2, 3, 4, 5, 6, 7] rfl
    have hDc := bx_D (bs := [b_e cB cC cI cJ cZ oA rA u_1.2, b_k cB cC cI cJ cZ oA rA u_1.2, b_p cB cC cI cJ cZ oA rA u_1.2, b_o cB cC cI cJ cZ oA rA u_1.2, b_s cB cC cI cJ cZ oA rA u_1.2, b_c cB cC cI cJ cZ oA rA u_1.2, b_t cB cC cI cJ cZ oA rA u_1.2, b_d cB cC cI cJ cZ oA rA u_1.2]) (bs' := [b_e cB cC cI cJ cZ oA rA u_1.2, b_k cB cC cI cJ cZ oA rA u_1.2, b_p cB cC cI cJ cZ oA rA u_1.2, b_o cB cC cI cJ cZ oA rA u_1.2, b_s cB cC cI cJ cZ oA rA u_1.2, b_c cB cC cI cJ cZ oA rA u_1.2, b_t cB cC cI cJ cZ oA rA u_1.2, b_d cB cC cI cJ cZ oA rA u_1.2]) (ws' := (b_e cB cC cI cJ cZ oA rA u_1.2 ++ b_k cB cC cI cJ cZ oA rA u_1.2 ++ b_p cB cC cI cJ cZ oA rA u_1.2 ++ b_o cB cC cI cJ cZ oA rA u_1.2 ++ b_s cB cC cI cJ cZ oA rA u_1.2 ++ b_c cB cC cI cJ cZ oA rA u_1.2 ++ b_t cB cC cI cJ cZ oA rA u_1.2 ++ b_d cB cC cI cJ cZ oA rA u_1.2)) (hDD u_1.2) fl_8 fl_8 [0, 1, 2, 3, 4, 5, 6, 7] (by decide +kernel) rfl
    have hFc := bx_F (bs := [b_e cB cC cI cJ cZ oA rA u_1.2, b_k cB cC cI cJ cZ oA rA u_1.2, b_p cB cC cI cJ cZ oA rA u_1.2, b_o cB cC cI cJ cZ oA rA u_1.2, b_s cB cC cI cJ cZ oA rA u_1.2, b_c cB cC cI cJ cZ oA rA u_1.2, b_t cB cC cI cJ cZ oA rA u_1.2, b_d cB cC cI cJ cZ oA rA u_1.2]) (bs' := [b_e cB cC cI cJ cZ oA rA u_1.2, b_k cB cC cI cJ cZ oA rA u_1.2, b_p cB cC cI cJ cZ oA rA u_1.2, b_o cB cC cI cJ cZ oA rA u_1.2, b_s cB cC cI cJ cZ oA rA u_1.2, b_c cB cC cI cJ cZ oA rA u_1.2, b_t cB cC cI cJ cZ oA rA u_1.2, b_d cB cC cI cJ cZ oA rA u_1.2]) (wc := (b_e cB cC cI cJ cZ oA rA u_1.2 ++ b_k cB cC cI cJ cZ oA rA u_1.2 ++ b_p cB cC cI cJ cZ oA rA u_1.2 ++ b_o cB cC cI cJ cZ oA rA u_1.2 ++ b_s cB cC cI cJ cZ oA rA u_1.2 ++ b_c cB cC cI cJ cZ oA rA u_1.2 ++ b_t cB cC cI cJ cZ oA rA u_1.2 ++ b_d cB cC cI cJ cZ oA rA u_1.2)) (hDD u_1.2) hS hA fl_8 fl_8 [0, 1, 2, 3, 4, 5, 6, 7] rfl
    refine g_ofi (wc := (b_e cB cC cI cJ cZ oA rA u_1.2 ++ b_k cB cC cI cJ cZ oA rA u_1.2 ++ b_p cB cC cI cJ cZ oA rA u_1.2 ++ b_o cB cC cI cJ cZ oA rA u_1.2 ++ b_s cB cC cI cJ cZ oA rA u_1.2 ++ b_c cB cC cI cJ cZ oA rA u_1.2 ++ b_t cB cC cI cJ cZ oA rA u_1.2 ++ b_d cB cC cI cJ cZ oA rA u_1.2)) (wr := ([] : va_W)) hP (hDD u_1.2) hS hFc (bx_ix [b_e cB cC cI cJ cZ oA rA u_1.2, b_k cB cC cI cJ cZ oA rA u_1.2, b_p cB cC cI cJ cZ oA rA u_1.2, b_o cB cC cI cJ cZ oA rA u_1.2, b_s cB cC cI cJ cZ oA rA u_1.2, b_c cB cC cI cJ cZ oA rA u_1.2, b_t cB cC cI cJ cZ oA rA u_1.2, b_d cB cC cI cJ cZ oA rA u_1.2] [0, 1, 2, 3, 4, 5, 6, 7]) (bx_ix [b_e cB cC cI cJ cZ oA rA u_1.2, b_k cB cC cI cJ cZ oA rA u_1.2, b_p cB cC cI cJ cZ oA rA u_1.2, b_o cB cC cI cJ cZ oA rA u_1.2, b_s cB cC cI cJ cZ oA rA u_1.2, b_c cB cC cI cJ cZ oA rA u_1.2, b_t cB cC cI cJ cZ oA rA u_1.2, b_d cB cC cI cJ cZ oA rA u_1.2] []) (bx_C (bs := [b_e cB cC cI cJ cZ oA rA u_1.2, b_k cB cC cI cJ cZ oA rA u_1.2, b_p cB cC cI cJ cZ oA rA u_1.2, b_o cB cC cI cJ cZ oA rA u_1.2, b_s cB cC cI cJ cZ oA rA u_1.2, b_c cB cC cI cJ cZ oA rA u_1.2, b_t cB cC cI cJ cZ oA rA u_1.2, b_d cB cC cI cJ cZ oA rA u_1.2]) (bs' := [b_e cB cC cI cJ cZ oA rA u_1.2, b_k cB cC cI cJ cZ oA rA u_1.2, b_p cB cC cI cJ cZ oA rA u_1.2, b_o cB cC cI cJ cZ oA rA u_1.2, b_s cB cC cI cJ cZ oA rA u_1.2, b_c cB cC cI cJ cZ oA rA u_1.2, b_t cB cC cI cJ cZ oA rA u_1.2, b_d cB cC cI cJ cZ oA rA u_1.2]) (is := [0, 1, 2, 3, 4, 5, 6, 7]) fl_8 fl_8 rfl) (bx_C (bs := [b_e cB cC cI cJ cZ oA rA u_1.2, b_k cB cC cI cJ cZ oA rA u_1.2, b_p cB cC cI cJ cZ oA rA u_1.2, b_o cB cC cI cJ cZ oA rA u_1.2, b_s cB cC cI cJ cZ oA rA u_1.2, b_c cB cC cI cJ cZ oA rA u_1.2, b_t cB cC cI cJ cZ oA rA u_1.2, b_d cB cC cI cJ cZ oA rA u_1.2]) (bs' := []) (is := []) fl_8 fl_0 rfl) (bx_n (by decide +kernel)) (bx_d (by decide +kernel)) (va_runV (As := [.int p0]) (rest := []) ⟨hx, hb, hml, hown, hts⟩ (k_X8_term l dC dI cB cC cI cJ cZ cP oA rA H.size  p0 u_1.2 _ hu_21) (cwV 1 hts (g_gV wq_1065 wq_1066 wq_2074 wq_12 wq_1067) rfl rfl rfl (by decide +kernel) ⟨Nat.le_of_ble_eq_true rfl, Nat.le_of_ble_eq_true rfl⟩) (g_preV g_bl0 hK hPc hDc hS hE hFc g_to0 (q0 := 0) (ci := 8) rfl rfl) rfl rfl hl.1 rfl (lv_room (Nat.le_of_ble_eq_true rfl)) dX8_behindArticle_11 ⟨Nat.le_of_ble_eq_true rfl, Nat.le_of_ble_eq_true rfl⟩) (fun r9 u9 H locs hw9 hP' hD' hS => ?_)
    clear hPc hDc hFc
    subst hw9
    have hP : va_P (dC, dI) vwCl (b_e cB cC cI cJ cZ oA rA u_21.2 ++ b_k cB cC cI cJ cZ oA rA u_21.2 ++ b_p cB cC cI cJ cZ oA rA u_21.2 ++ b_o cB cC cI cJ cZ oA rA u_21.2 ++ b_s cB cC cI cJ cZ oA rA u_21.2 ++ b_c cB cC cI cJ cZ oA rA u_21.2 ++ b_t cB cC cI cJ cZ oA rA u_21.2 ++ b_d cB cC cI cJ cZ oA rA u_21.2) H := hP'
    clear hP' hD'
    refine lv_bipush (v := 6) hx hb dX8_behindArticle_14 (by decide +kernel) ?_
    refine lv_icmp_gt (tgt := 23) hx hb dX8_behindArticle_16 (by decide) (fun c_23 => ?_) (fun c_23 => ?_)
    · have hF_24 := ipos c_23 hF_22
      clear hF_22
      exact Jj_15  u_21.2 hF_24 _ _ hP hS ls (lv_sub hl [1, 2] rfl)
    · have hF_25 := ineg c_23 hF_22
      clear hF_22
      refine lv_iconst (v := 1) hx hb dX8_behindArticle_19 (by decide +kernel) ?_
      refine lv_goto (tgt := 24) hx hb dX8_behindArticle_20 (by decide) ?_
      exact Jj_5 1 u_21.2 hF_25 _ _ hP hS ls (lv_sub hl [1, 2] rfl)
