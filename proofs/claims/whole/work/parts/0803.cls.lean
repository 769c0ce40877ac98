/-! methods of the class: what each does is its function -/
theorem dX0_isWhole_0 : decode cX0_isWhole 0 = .ok (.aload_n 0, 1) := by decide +kernel
theorem dX0_isWhole_1 : decode cX0_isWhole 1 = .ok (.iconst 0, 1) := by decide +kernel
theorem dX0_isWhole_2 : decode cX0_isWhole 2 = .ok (.aload_n 1, 1) := by decide +kernel
theorem dX0_isWhole_3 : decode cX0_isWhole 3 = .ok (.iconst 4, 1) := by decide +kernel
theorem dX0_isWhole_4 : decode cX0_isWhole 4 = .ok (.invokestatic 50, 3) := by decide +kernel
theorem dX0_isWhole_7 : decode cX0_isWhole 7 = .ok (.invokevirtual 80, 3) := by decide +kernel
theorem dX0_isWhole_10 : decode cX0_isWhole 10 = .ok (.ifCond .eq 37, 3) := by decide +kernel
theorem dX0_isWhole_13 : decode cX0_isWhole 13 = .ok (.aload_n 0, 1) := by decide +kernel
theorem dX0_isWhole_14 : decode cX0_isWhole 14 = .ok (.bipush 100, 2) := by decide +kernel
theorem dX0_isWhole_16 : decode cX0_isWhole 16 = .ok (.aload_n 1, 1) := by decide +kernel
theorem dX0_isWhole_17 : decode cX0_isWhole 17 = .ok (.iconst 5, 1) := by decide +kernel
theorem dX0_isWhole_18 : decode cX0_isWhole 18 = .ok (.invokestatic 50, 3) := by decide +kernel
theorem dX0_isWhole_21 : decode cX0_isWhole 21 = .ok (.invokevirtual 80, 3) := by decide +kernel
theorem dX0_isWhole_24 : decode cX0_isWhole 24 = .ok (.ifCond .eq 23, 3) := by decide +kernel
theorem dX0_isWhole_27 : decode cX0_isWhole 27 = .ok (.aload_n 0, 1) := by decide +kernel
theorem dX0_isWhole_28 : decode cX0_isWhole 28 = .ok (.sipush 300, 3) := by decide +kernel
theorem dX0_isWhole_31 : decode cX0_isWhole 31 = .ok (.aload_n 1, 1) := by decide +kernel
theorem dX0_isWhole_32 : decode cX0_isWhole 32 = .ok (.bipush 6, 2) := by decide +kernel
theorem dX0_isWhole_34 : decode cX0_isWhole 34 = .ok (.invokestatic 50, 3) := by decide +kernel
theorem dX0_isWhole_37 : decode cX0_isWhole 37 = .ok (.invokevirtual 80, 3) := by decide +kernel
theorem dX0_isWhole_40 : decode cX0_isWhole 40 = .ok (.ifCond .eq 7, 3) := by decide +kernel
theorem dX0_isWhole_43 : decode cX0_isWhole 43 = .ok (.iconst 1, 1) := by decide +kernel
theorem dX0_isWhole_44 : decode cX0_isWhole 44 = .ok (.goto 4, 3) := by decide +kernel
theorem dX0_isWhole_47 : decode cX0_isWhole 47 = .ok (.iconst 0, 1) := by decide +kernel
theorem dX0_isWhole_48 : decode cX0_isWhole 48 = .ok (.ireturn, 1) := by decide +kernel
def F_X0_isWhole  (Γ : HS) : HR :=
  bnd ((g_at 7 ((Γ 4).2.1 0) 4)) fun (x_1 : Int32) =>
  (F_X0_areRead 0 x_1 Γ).bind fun u_3 =>
  bnd (mrg (fun j => j == 5) Γ u_3.2) fun σ_5 =>
  if u_3.1 = 0 then (
    some (0, σ_5)
  ) else (
    bnd ((g_at 7 ((σ_5 4).2.1 0) 5)) fun (x_10 : Int32) =>
    (F_X0_areRead 100 x_10 σ_5).bind fun u_12 =>
    bnd (mrg (fun j => j == 5) σ_5 u_12.2) fun σ_14 =>
    if u_12.1 = 0 then (
      some (0, σ_14)
    ) else (
      bnd ((g_at 7 ((σ_14 4).2.1 0) 6)) fun (x_19 : Int32) =>
      (F_X0_areRead 300 x_19 σ_14).bind fun u_21 =>
      bnd (mrg (fun j => j == 5) σ_14 u_21.2) fun σ_23 =>
      if u_21.1 = 0 then (
        some (0, σ_23)
      ) else (
        some (1, σ_23)
      )
    )
  )
set_option maxHeartbeats 4000000 in
set_option maxRecDepth 100000 in
theorem k_X0_isWhole (l : Launch) (dC : Nat → ClassId) (dI : Nat → Nat → Nat) (cB cC cI cJ cZ cP : ClassId) (oA : Nat → Nat) (rA : Nat → Nat → Nat) (sz : Nat)   (Γ : HS) (res : Int32 × HS) (hF : F_X0_isWhole  Γ = some res) : Met l yX0_isWhole (g_ws yX0_isWhole cX0_isWhole 2 (some .boolean)) ({ frames := 4, cells := 0, slots := 0, locals := 110 }) (va_Pc [.ref (oA 5), .ref (rA 4 0)] (g_B (dC, dI) [(cB, .byte), (cC, .char), (cI, .int), (cJ, .long), (cZ, .boolean), (cP, .object "StoryHouse$Play")] sz (b_s cB cC cI cJ cZ oA rA Γ ++ b_c cB cC cI cJ cZ oA rA Γ) g_0)) (va_Qi (fun r (_ : Unit) => r = res.1) (g_Bo (dC, dI) (va_A (b_s cB cC cI cJ cZ oA rA Γ ++ b_c cB cC cI cJ cZ oA rA Γ) sz) (fun (_ : Unit) => (b_s cB cC cI cJ cZ oA rA res.2 ++ b_c cB cC cI cJ cZ oA rA res.2))) (va_A (b_s cB cC cI cJ cZ oA rA Γ ++ b_c cB cC cI cJ cZ oA rA Γ) sz)) 0 0 (va_A (b_s cB cC cI cJ cZ oA rA Γ ++ b_c cB cC cI cJ cZ oA rA Γ) sz) := by
  refine Met.ofW (cc := cX0_isWhole) (maxL := 2) (ret := (some .boolean)) (by decide) rfl ?_
  intro p e s m args below meth c s₁ B hml hv
  obtain ⟨rfl, hsz, hP, hK, hD0, hE, hX⟩ := hv
  have hx := B.exec
  have hb := B.bytes
  have hr := B.returns
  have hts0 := atoms_spec (ws := g_ws yX0_isWhole cX0_isWhole 2 (some .boolean)) B.pre
  have hts : ∀ w ∈ lw_good, w.before ([.ref (oA 5), .ref (rA 4 0)] : List Value).toArray s = true := fun w z => hts0 w (List.mem_cons_of_mem _ z)
  have hown : s.vm.findClass RX0 = some m.cls := findClass_of_methodNamed B.named
  have hlocks := B.notSynchronized
  subst hsz
  have hD1 := hD0.self (sz := s.heap.size)
  generalize hAe : va_A (b_s cB cC cI cJ cZ oA rA Γ ++ b_c cB cC cI cJ cZ oA rA Γ) s.heap.size = A at hD1 hE hX ⊢
  have hA : ∀ q : Nat, s.heap.size ≤ q → A q := fun q z => by rw [← hAe]; exact Or.inr z
  have hDD : ∀ Γ : HS, va_D A (b_s cB cC cI cJ cZ oA rA Γ ++ b_c cB cC cI cJ cZ oA rA Γ) := fun Γ9 => va_D_fst (ws := (b_s cB cC cI cJ cZ oA rA Γ ++ b_c cB cC cI cJ cZ oA rA Γ)) (ws' := (b_s cB cC cI cJ cZ oA rA Γ9 ++ b_c cB cC cI cJ cZ oA rA Γ9)) rfl hD1
  have hN := hE.1
  have hS : va_S A s.heap s.heap [] := va_S.rf
  have hl := lv_entry ([.ref (oA 5), .ref (rA 4 0)]) (n := 2) (Nat.le_of_ble_eq_true rfl)
  rw [lg_entry_eq]
  generalize (lg_sl ([.ref (oA 5), .ref (rA 4 0)]) ++ List.replicate (2 - (lg_sl ([.ref (oA 5), .ref (rA 4 0)])).length) Slot.unset).toArray = ls at hl ⊢
  have hl : lv_has ls 2 [(0, .ref (oA 5)), (1, .ref (rA 4 0))] := hl
  unfold F_X0_isWhole at hF
  refine lv_aload_n hx hb dX0_isWhole_0 rfl (lv_at hl 0 rfl) ?_
  refine lv_iconst (v := 0) hx hb dX0_isWhole_1 (by decide +kernel) ?_
  refine lv_aload_n hx hb dX0_isWhole_2 rfl (lv_at hl 1 rfl) ?_
  refine lv_iconst (v := 4) hx hb dX0_isWhole_3 (by decide +kernel) ?_
  have hq9 : ((b_s cB cC cI cJ cZ oA rA Γ ++ b_c cB cC cI cJ cZ oA rA Γ))[1]? = some (rA 4 0, .inl (cI, 7, .inl ((Γ 4).2.1 0))) := rfl
  have hPc := hP.sub (ws' := [(rA 4 0, .inl (cI, 7, .inl ((Γ 4).2.1 0)))]) [1] (pk_fm (er_C hq9))
  have hDc := (hDD Γ).sub (ws' := [(rA 4 0, .inl (cI, 7, .inl ((Γ 4).2.1 0)))]) [1] (by decide +kernel) (er_C hq9)
  have hFc := va_free (wc := [(rA 4 0, .inl (cI, 7, .inl ((Γ 4).2.1 0)))]) (hDD Γ) hS hA [1] (er_C hq9)
  refine g_ofi (wc := [(rA 4 0, .inl (cI, 7, .inl ((Γ 4).2.1 0)))]) (wr := (((b_s cB cC cI cJ cZ oA rA Γ ++ b_c cB cC cI cJ cZ oA rA Γ)).eraseIdx 1)) hP (hDD Γ) hS hFc [1] ((List.range ((b_s cB cC cI cJ cZ oA rA Γ ++ b_c cB cC cI cJ cZ oA rA Γ)).length).eraseIdx 1) (er_C hq9) er_R er_n er_d (va_runSN (As := [.ref (rA 4 0), .int 4]) (rest := [.int 0, .ref (oA 5)]) ⟨hx, hb, hml, hown, hts⟩ (c_X11_at l dC dI cB cC cI cJ cZ cP s.heap.size (rA 4 0) 4 7 ((Γ 4).2.1 0) (by decide)) ⟨va_cnB 2 hts (g_gA wq_407) rfl rfl rfl (nw_25 hN) (hts (.initialized RX11) wq_1) (by decide +kernel) ⟨Nat.le_of_ble_eq_true rfl, Nat.le_of_ble_eq_true rfl⟩, (hts (.static yX11_at) wq_406), trivial⟩ (g_preS g_bl0 hK hPc hDc hS hE hFc g_to0) rfl rfl hl.1 rfl (lv_room (Nat.le_of_ble_eq_true rfl)) dX0_isWhole_4 ⟨Nat.le_of_ble_eq_true rfl, Nat.le_of_ble_eq_true rfl⟩) (fun r9 u9 H locs hw9 hP' hD' hS => ?_)
  clear hPc hDc hFc hD'
  have hP : va_P (dC, dI) vwCl (b_s cB cC cI cJ cZ oA rA Γ ++ b_c cB cC cI cJ cZ oA rA Γ) H := er_I hP' hq9
  clear hP' hq9
  subst hw9
  obtain ⟨x_1, ex_1, hF_2⟩ := bnd_e hF
  clear hF
  refine m_top ex_1 ?_
  obtain ⟨u_3, hu_3, hF_4⟩ := Option.bind_eq_some_iff.mp hF_2
  clear hF_2
  have hPc := bx_P (bs := [b_s cB cC cI cJ cZ oA rA Γ, b_c cB cC cI cJ cZ oA rA Γ]) (bs' := [b_c cB cC cI cJ cZ oA rA Γ]) (ws' := (b_c cB cC cI cJ cZ oA rA Γ)) hP fl_2 fl_1 [1] rfl
  have hDc := bx_D (bs := [b_s cB cC cI cJ cZ oA rA Γ, b_c cB cC cI cJ cZ oA rA Γ]) (bs' := [b_c cB cC cI cJ cZ oA rA Γ]) (ws' := (b_c cB cC cI cJ cZ oA rA Γ)) (hDD Γ) fl_2 fl_1 [1] (by decide +kernel) rfl
  have hFc := bx_F (bs := [b_s cB cC cI cJ cZ oA rA Γ, b_c cB cC cI cJ cZ oA rA Γ]) (bs' := [b_c cB cC cI cJ cZ oA rA Γ]) (wc := (b_c cB cC cI cJ cZ oA rA Γ)) (hDD Γ) hS hA fl_2 fl_1 [1] rfl
  refine g_ofi (wc := (b_c cB cC cI cJ cZ oA rA Γ)) (wr := (b_s cB cC cI cJ cZ oA rA Γ)) hP (hDD Γ) hS hFc (bx_ix [b_s cB cC cI cJ cZ oA rA Γ, b_c cB cC cI cJ cZ oA rA Γ] [1]) (bx_ix [b_s cB cC cI cJ cZ oA rA Γ, b_c cB cC cI cJ cZ oA rA Γ] [0]) (bx_C (bs := [b_s cB cC cI cJ cZ oA rA Γ, b_c cB cC cI cJ cZ oA rA Γ]) (bs' := [b_c cB cC cI cJ cZ oA rA Γ]) (is := [1]) fl_2 fl_1 rfl) (bx_C (bs := [b_s cB cC cI cJ cZ oA rA Γ, b_c cB cC cI cJ cZ oA rA Γ]) (bs' := [b_s cB cC cI cJ cZ oA rA Γ]) (is := [0]) fl_2 fl_1 rfl) (bx_n (by decide +kernel)) (bx_d (by decide +kernel)) (va_runV (As := [.int 0, .int x_1]) (rest := []) ⟨hx, hb, hml, hown, hts⟩ (k_X0_areRead l dC dI cB cC cI cJ cZ cP oA rA H.size  0 x_1 Γ _ hu_3) (cwV 2 hts (g_gV wq_892 wq_893 wq_2067 wq_6 wq_894) rfl rfl rfl (by decide +kernel) ⟨Nat.le_of_ble_eq_true rfl, Nat.le_of_ble_eq_true rfl⟩) (g_preV g_bl0 hK hPc hDc hS hE hFc g_to0 (q0 := 0) (ci := 0) rfl rfl) rfl rfl hl.1 rfl (lv_room (Nat.le_of_ble_eq_true rfl)) dX0_isWhole_7 ⟨Nat.le_of_ble_eq_true rfl, Nat.le_of_ble_eq_true rfl⟩) (fun r9 u9 H locs hw9 hP' hD' hS => ?_)
  clear hPc hDc hFc
  subst hw9
  obtain ⟨σ_5, eσ_5, hF_6⟩ := bnd_e hF_4
  clear hF_4
  have hP : va_P (dC, dI) vwCl (b_s cB cC cI cJ cZ oA rA σ_5 ++ b_c cB cC cI cJ cZ oA rA σ_5) H := by rw [eσ_5]; exact bx_P (bs := [b_s cB cC cI cJ cZ oA rA Γ] ++ [b_c cB cC cI cJ cZ oA rA u_3.2]) (bs' := [b_s cB cC cI cJ cZ oA rA (mrg (fun j => j == 5) Γ u_3.2), b_c cB cC cI cJ cZ oA rA (mrg (fun j => j == 5) Γ u_3.2)]) hP' (fl_a fl_1 fl_1) fl_2 [0, 1] rfl
  clear hP' hD'
  refine lv_if_eq (tgt := 47) hx hb dX0_isWhole_10 (by decide) (fun c_7 => ?_) (fun c_7 => ?_)
  · have hF_8 := ipos c_7 hF_6
    clear hF_6
    refine lv_iconst (v := 0) hx hb dX0_isWhole_47 (by decide +kernel) ?_
    have h9 := Option.some.inj hF_8
    subst h9
    exact W.zret (v := 0) hx hb hr (by decide +kernel) (fun t ht hW => ⟨⟨0, (), rfl, rfl, m_end ht hP, hDD _⟩, hS.F ht⟩) hS.2.2 dX0_isWhole_48
  · have hF_9 := ineg c_7 hF_6
    clear hF_6
    refine lv_aload_n hx hb dX0_isWhole_13 rfl (lv_at hl 0 rfl) ?_
    refine lv_bipush (v := 100) hx hb dX0_isWhole_14 (by decide +kernel) ?_
    refine lv_aload_n hx hb dX0_isWhole_16 rfl (lv_at hl 1 rfl) ?_
    refine lv_iconst (v := 5) hx hb dX0_isWhole_17 (by decide +kernel) ?_
    have hq9 : ((b_s cB cC cI cJ cZ oA rA σ_5 ++ b_c cB cC cI cJ cZ oA rA σ_5))[1]? = some (rA 4 0, .inl (cI, 7, .inl ((σ_5 4).2.1 0))) := rfl
    have hPc := hP.sub (ws' := [(rA 4 0, .inl (cI, 7, .inl ((σ_5 4).2.1 0)))]) [1] (pk_fm (er_C hq9))
    have hDc := (hDD σ_5).sub (ws' := [(rA 4 0, .inl (cI, 7, .inl ((σ_5 4).2.1 0)))]) [1] (by decide +kernel) (er_C hq9)
    have hFc := va_free (wc := [(rA 4 0, .inl (cI, 7, .inl ((σ_5 4).2.1 0)))]) (hDD σ_5) hS hA [1] (er_C hq9)
    refine g_ofi (wc := [(rA 4 0, .inl (cI, 7, .inl ((σ_5 4).2.1 0)))]) (wr := (((b_s cB cC cI cJ cZ oA rA σ_5 ++ b_c cB cC cI cJ cZ oA rA σ_5)).eraseIdx 1)) hP (hDD σ_5) hS hFc [1] ((List.range ((b_s cB cC cI cJ cZ oA rA σ_5 ++ b_c cB cC cI cJ cZ oA rA σ_5)).length).eraseIdx 1) (er_C hq9) er_R er_n er_d (va_runSN (As := [.ref (rA 4 0), .int 5]) (rest := [.int 100, .ref (oA 5)]) ⟨hx, hb, hml, hown, hts⟩ (c_X11_at l dC dI cB cC cI cJ cZ cP H.size (rA 4 0) 5 7 ((σ_5 4).2.1 0) (by decide)) ⟨va_cnB 2 hts (g_gA wq_407) rfl rfl rfl (nw_25 hN) (hts (.initialized RX11) wq_1) (by decide +kernel) ⟨Nat.le_of_ble_eq_true rfl, Nat.le_of_ble_eq_true rfl⟩, (hts (.static yX11_at) wq_406), trivial⟩ (g_preS g_bl0 hK hPc hDc hS hE hFc g_to0) rfl rfl hl.1 rfl (lv_room (Nat.le_of_ble_eq_true rfl)) dX0_isWhole_18 ⟨Nat.le_of_ble_eq_true rfl, Nat.le_of_ble_eq_true rfl⟩) (fun r9 u9 H locs hw9 hP' hD' hS => ?_)
    clear hPc hDc hFc hD'
    have hP : va_P (dC, dI) vwCl (b_s cB cC cI cJ cZ oA rA σ_5 ++ b_c cB cC cI cJ cZ oA rA σ_5) H := er_I hP' hq9
    clear hP' hq9
    subst hw9
    obtain ⟨x_10, ex_10, hF_11⟩ := bnd_e hF_9
    clear hF_9
    refine m_top ex_10 ?_
    obtain ⟨u_12, hu_12, hF_13⟩ := Option.bind_eq_some_iff.mp hF_11
    clear hF_11
    have hPc := bx_P (bs := [b_s cB cC cI cJ cZ oA rA σ_5, b_c cB cC cI cJ cZ oA rA σ_5]) (bs' := [b_c cB cC cI cJ cZ oA rA σ_5]) (ws' := (b_c cB cC cI cJ cZ oA rA σ_5)) hP fl_2 fl_1 [1] rfl
    have hDc := bx_D (bs := [b_s cB cC cI cJ cZ oA rA σ_5, b_c cB cC cI cJ cZ oA rA σ_5]) (bs' := [b_c cB cC cI cJ cZ oA rA σ_5]) (ws' := (b_c cB cC cI cJ cZ oA rA σ_5)) (hDD σ_5) fl_2 fl_1 [1] (by decide +kernel) rfl
    have hFc := bx_F (bs := [b_s cB cC cI cJ cZ oA rA σ_5, b_c cB cC cI cJ cZ oA rA σ_5]) (bs' := [b_c cB cC cI cJ cZ oA rA σ_5]) (wc := (b_c cB cC cI cJ cZ oA rA σ_5)) (hDD σ_5) hS hA fl_2 fl_1 [1] rfl
    refine g_ofi (wc := (b_c cB cC cI cJ cZ oA rA σ_5)) (wr := (b_s cB cC cI cJ cZ oA rA σ_5)) hP (hDD σ_5) hS hFc (bx_ix [b_s cB cC cI cJ cZ oA rA σ_5, b_c cB cC cI cJ cZ oA rA σ_5] [1]) (bx_ix [b_s cB cC cI cJ cZ oA rA σ_5, b_c cB cC cI cJ cZ oA rA σ_5] [0]) (bx_C (bs := [b_s cB cC cI cJ cZ oA rA σ_5, b_c cB cC cI cJ cZ oA rA σ_5]) (bs' := [b_c cB cC cI cJ cZ oA rA σ_5]) (is := [1]) fl_2 fl_1 rfl) (bx_C (bs := [b_s cB cC cI cJ cZ oA rA σ_5, b_c cB cC cI cJ cZ oA rA σ_5]) (bs' := [b_s cB cC cI cJ cZ oA rA σ_5]) (is := [0]) fl_2 fl_1 rfl) (bx_n (by decide +kernel)) (bx_d (by decide +kernel)) (va_runV (As := [.int 100, .int x_10]) (rest := []) ⟨hx, hb, hml, hown, hts⟩ (k_X0_areRead l dC dI cB cC cI cJ cZ cP oA rA H.size  100 x_10 σ_5 _ hu_12) (cwV 2 hts (g_gV wq_892 wq_893 wq_2067 wq_6 wq_894) rfl rfl rfl (by decide +kernel) ⟨Nat.le_of_ble_eq_true rfl, Nat.le_of_ble_eq_true rfl⟩) (g_preV g_bl0 hK hPc hDc hS hE hFc g_to0 (q0 := 0) (ci := 0) rfl rfl) rfl rfl hl.1 rfl (lv_room (Nat.le_of_ble_eq_true rfl)) dX0_isWhole_21 ⟨Nat.le_of_ble_eq_true rfl, Nat.le_of_ble_eq_true rfl⟩) (fun r9 u9 H locs hw9 hP' hD' hS => ?_)
    clear hPc hDc hFc
    subst hw9
    obtain ⟨σ_14, eσ_14, hF_15⟩ := bnd_e hF_13
    clear hF_13
    have hP : va_P (dC, dI) vwCl (b_s cB cC cI cJ cZ oA rA σ_14 ++ b_c cB cC cI cJ cZ oA rA σ_14) H := by rw [eσ_14]; exact bx_P (bs := [b_s cB cC cI cJ cZ oA rA σ_5] ++ [b_c cB cC cI cJ cZ oA rA u_12.2]) (bs' := [b_s cB cC cI cJ cZ oA rA (mrg (fun j => j == 5) σ_5 u_12.2), b_c cB cC cI cJ cZ oA rA (mrg (fun j => j == 5) σ_5 u_12.2)]) hP' (fl_a fl_1 fl_1) fl_2 [0, 1] rfl
    clear hP' hD'
    refine lv_if_eq (tgt := 47) hx hb dX0_isWhole_24 (by decide) (fun c_16 => ?_) (fun c_16 => ?_)
    · have hF_17 := ipos c_16 hF_15
      clear hF_15
      refine lv_iconst (v := 0) hx hb dX0_isWhole_47 (by decide +kernel) ?_
      have h9 := Option.some.inj hF_17
      subst h9
      exact W.zret (v := 0) hx hb hr (by decide +kernel) (fun t ht hW => ⟨⟨0, (), rfl, rfl, m_end ht hP, hDD _⟩, hS.F ht⟩) hS.2.2 dX0_isWhole_48
    · have hF_18 := ineg c_16 hF_15
      clear hF_15
      refine lv_aload_n hx hb dX0_isWhole_27 rfl (lv_at hl 0 rfl) ?_
      refine lv_sipush (v := 300) hx hb dX0_isWhole_28 (by decide +kernel) ?_
      refine lv_aload_n hx hb dX0_isWhole_31 rfl (lv_at hl 1 rfl) ?_
      refine lv_bipush (v := 6) hx hb dX0_isWhole_32 (by decide +kernel) ?_
      have hq9 : ((b_s cB cC cI cJ cZ oA rA σ_14 ++ b_c cB cC cI cJ cZ oA rA σ_14))[1]? = some (rA 4 0, .inl (cI, 7, .inl ((σ_14 4).2.1 0))) := rfl
      have hPc := hP.sub (ws' := [(rA 4 0, .inl (cI, 7, .inl ((σ_14 4).2.1 0)))]) [1] (pk_fm (er_C hq9))
      have hDc := (hDD σ_14).sub (ws' := [(rA 4 0, .inl (cI, 7, .inl ((σ_14 4).2.1 0)))]) [1] (by decide +kernel) (er_C hq9)
      have hFc := va_free (wc := [(rA 4 0, .inl (cI, 7, .inl ((σ_14 4).2.1 0)))]) (hDD σ_14) hS hA [1] (er_C hq9)
      refine g_ofi (wc := [(rA 4 0, .inl (cI, 7, .inl ((σ_14 4).2.1 0)))]) (wr := (((b_s cB cC cI cJ cZ oA rA σ_14 ++ b_c cB cC cI cJ cZ oA rA σ_14)).eraseIdx 1)) hP (hDD σ_14) hS hFc [1] ((List.range ((b_s cB cC cI cJ cZ oA rA σ_14 ++ b_c cB cC cI cJ cZ oA rA σ_14)).length).eraseIdx 1) (er_C hq9) er_R er_n er_d (va_runSN (As := [.ref (rA 4 0), .int 6]) (rest := [.int 300, .ref (oA 5)]) ⟨hx, hb, hml, hown, hts⟩ (c_X11_at l dC dI cB cC cI cJ cZ cP H.size (rA 4 0) 6 7 ((σ_14 4).2.1 0) (by decide)) ⟨va_cnB 2 hts (g_gA wq_407) rfl rfl rfl (nw_25 hN) (hts (.initialized RX11) wq_1) (by decide +kernel) ⟨Nat.le_of_ble_eq_true rfl, Nat.le_of_ble_eq_true rfl⟩, (hts (.static yX11_at) wq_406), trivial⟩ (g_preS g_bl0 hK hPc hDc hS hE hFc g_to0) rfl rfl hl.1 rfl (lv_room (Nat.le_of_ble_eq_true rfl)) dX0_isWhole_34 ⟨Nat.le_of_ble_eq_true rfl, Nat.le_of_ble_eq_true rfl⟩) (fun r9 u9 H locs hw9 hP' hD' hS => ?_)
      clear hPc hDc hFc hD'
      have hP : va_P (dC, dI) vwCl (b_s cB cC cI cJ cZ oA rA σ_14 ++ b_c cB cC cI cJ cZ oA rA σ_14) H := er_I hP' hq9
      clear hP' hq9
      subst hw9
      obtain ⟨x_19, ex_19, hF_20⟩ := bnd_e hF_18
      clear hF_18
      refine m_top ex_19 ?_
      obtain ⟨u_21, hu_21, hF_22⟩ := Option.bind_eq_some_iff.mp hF_20
      clear hF_20
      have hPc := bx_P (bs := [b_s cB cC cI cJ cZ oA rA σ_14, b_c cB cC cI cJ cZ oA rA σ_14]) (bs' := [b_c cB cC cI cJ cZ oA rA σ_14]) (ws' := (b_c cB cC cI cJ cZ oA rA σ_14)) hP fl_2 fl_1 [1] rfl
      have hDc := bx_D (bs := [b_s cB cC cI cJ cZ oA rA σ_14, b_c cB cC cI cJ cZ oA rA σ_14]) (bs' := [b_c cB cC cI cJ cZ oA rA σ_14]) (ws' := (b_c cB cC cI cJ cZ oA rA σ_14)) (hDD σ_14) fl_2 fl_1 [1] (by decide +kernel) rfl
      have hFc := bx_F (bs := [b_s cB cC cI cJ cZ oA rA σ_14, b_c cB cC cI cJ cZ oA rA σ_14]) (bs' := [b_c cB cC cI cJ cZ oA rA σ_14]) (wc := (b_c cB cC cI cJ cZ oA rA σ_14)) (hDD σ_14) hS hA fl_2 fl_1 [1] rfl
      refine g_ofi (wc := (b_c cB cC cI cJ cZ oA rA σ_14)) (wr := (b_s cB cC cI cJ cZ oA rA σ_14)) hP (hDD σ_14) hS hFc (bx_ix [b_s cB cC cI cJ cZ oA rA σ_14, b_c cB cC cI cJ cZ oA rA σ_14] [1]) (bx_ix [b_s cB cC cI cJ cZ oA rA σ_14, b_c cB cC cI cJ cZ oA rA σ_14] [0]) (bx_C (bs := [b_s cB cC cI cJ cZ oA rA σ_14, b_c cB cC cI cJ cZ oA rA σ_14]) (bs' := [b_c cB cC cI cJ cZ oA rA σ_14]) (is := [1]) fl_2 fl_1 rfl) (bx_C (bs := [b_s cB cC cI cJ cZ oA rA σ_14, b_c cB cC cI cJ cZ oA rA σ_14]) (bs' := [b_s cB cC cI cJ cZ oA rA σ_14]) (is := [0]) fl_2 fl_1 rfl) (bx_n (by decide +kernel)) (bx_d (by decide +kernel)) (va_runV (As := [.int 300, .int x_19]) (rest := []) ⟨hx, hb, hml, hown, hts⟩ (k_X0_areRead l dC dI cB cC cI cJ cZ cP oA rA H.size  300 x_19 σ_14 _ hu_21) (cwV 2 hts (g_gV wq_892 wq_893 wq_2067 wq_6 wq_894) rfl rfl rfl (by decide +kernel) ⟨Nat.le_of_ble_eq_true rfl, Nat.le_of_ble_eq_true rfl⟩) (g_preV g_bl0 hK hPc hDc hS hE hFc g_to0 (q0 := 0) (ci := 0) rfl rfl) rfl rfl hl.1 rfl (lv_room (Nat.le_of_ble_eq_true rfl)) dX0_isWhole_37 ⟨Nat.le_of_ble_eq_true rfl, Nat.le_of_ble_eq_true rfl⟩) (fun r9 u9 H locs hw9 hP' hD' hS => ?_)
      clear hPc hDc hFc
      subst hw9
      obtain ⟨σ_23, eσ_23, hF_24⟩ := bnd_e hF_22
      clear hF_22
      have hP : va_P (dC, dI) vwCl (b_s cB cC cI cJ cZ oA rA σ_23 ++ b_c cB cC cI cJ cZ oA rA σ_23) H := by rw [eσ_23]; exact bx_P (bs := [b_s cB cC cI cJ cZ oA rA σ_14] ++ [b_c cB cC cI cJ cZ oA rA u_21.2]) (bs' := [b_s cB cC cI cJ cZ oA rA (mrg (fun j => j == 5) σ_14 u_21.2), b_c cB cC cI cJ cZ oA rA (mrg (fun j => j == 5) σ_14 u_21.2)]) hP' (fl_a fl_1 fl_1) fl_2 [0, 1] rfl
      clear hP' hD'
      refine lv_if_eq (tgt := 47) hx hb dX0_isWhole_40 (by decide) (fun c_25 => ?_) (fun c_25 => ?_)
      · have hF_26 := ipos c_25 hF_24
        clear hF_24
        refine lv_iconst (v := 0) hx hb dX0_isWhole_47 (by decide +kernel) ?_
        have h9 := Option.some.inj hF_26
        subst h9
        exact W.zret (v := 0) hx hb hr (by decide +kernel) (fun t ht hW => ⟨⟨0, (), rfl, rfl, m_end ht hP, hDD _⟩, hS.F ht⟩) hS.2.2 dX0_isWhole_48
      · have hF_27 := ineg c_25 hF_24
        clear hF_24
        refine lv_iconst (v := 1) hx hb dX0_isWhole_43 (by decide +kernel) ?_
        refine lv_goto (tgt := 48) hx hb dX0_isWhole_44 (by decide) ?_
        have h9 := Option.some.inj hF_27
        subst h9
        exact W.zret (v := 1) hx hb hr (by decide +kernel) (fun t ht hW => ⟨⟨1, (), rfl, rfl, m_end ht hP, hDD _⟩, hS.F ht⟩) hS.2.2 dX0_isWhole_48
theorem dX1_wipe_0 : decode cX1_wipe 0 = .ok (.aload_n 0, 1) := by decide +kernel
theorem dX1_wipe_1 : decode cX1_wipe 1 = .ok (.iconst 0, 1) := by decide +kernel
theorem dX1_wipe_2 : decode cX1_wipe 2 = .ok (.putfield 19, 3) := by decide +kernel
theorem dX1_wipe_5 : decode cX1_wipe 5 = .ok (.return_, 1) := by decide +kernel
def F_X1_wipe  (Γ : HS) : HR :=
  bnd (cI' Γ 7 2 0) fun σ_1 =>
  some (0, σ_1)
set_option maxHeartbeats 4000000 in
set_option maxRecDepth 100000 in
theorem k_X1_wipe (l : Launch) (dC : Nat → ClassId) (dI : Nat → Nat → Nat) (cB cC cI cJ cZ cP : ClassId) (oA : Nat → Nat) (rA : Nat → Nat → Nat) (sz : Nat)   (Γ : HS) (res : Int32 × HS) (hF : F_X1_wipe  Γ = some res) : Met l yX1_wipe (g_ws yX1_wipe cX1_wipe 1 none) ({ frames := 1, cells := 0, slots := 0, locals := 40 }) (va_Pc [.ref (oA 7)] (g_B (dC, dI) [(cB, .byte), (cC, .char), (cI, .int), (cJ, .long), (cZ, .boolean), (cP, .object "StoryHouse$Play")] sz (b_d cB cC cI cJ cZ oA rA Γ) g_0)) (va_Qv (fun (_ : Unit) => True) (g_Bo (dC, dI) (va_A (b_d cB cC cI cJ cZ oA rA Γ) sz) (fun (_ : Unit) => (b_d cB cC cI cJ cZ oA rA res.2))) (va_A (b_d cB cC cI cJ cZ oA rA Γ) sz)) 0 0 (va_A (b_d cB cC cI cJ cZ oA rA Γ) sz) := by
  refine Met.ofW (cc := cX1_wipe) (maxL := 1) (ret := none) (by decide) rfl ?_
  intro p e s m args below meth c s₁ B hml hv
  obtain ⟨rfl, hsz, hP, hK, hD0, hE, hX⟩ := hv
  have hx := B.exec
  have hb := B.bytes
  have hr := B.returns
  have hts0 := atoms_spec (ws := g_ws yX1_wipe cX1_wipe 1 none) B.pre
  have hts : ∀ w ∈ lw_good, w.before ([.ref (oA 7)] : List Value).toArray s = true := fun w z => hts0 w (List.mem_cons_of_mem _ z)
  have hown : s.vm.findClass RX1 = some m.cls := findClass_of_methodNamed B.named
  have hlocks := B.notSynchronized
  subst hsz
  have hD1 := hD0.self (sz := s.heap.size)
  generalize hAe : va_A (b_d cB cC cI cJ cZ oA rA Γ) s.heap.size = A at hD1 hE hX ⊢
  have hA : ∀ q : Nat, s.heap.size ≤ q → A q := fun q z => by rw [← hAe]; exact Or.inr z
  have hDD : ∀ Γ : HS, va_D A (b_d cB cC cI cJ cZ oA rA Γ) := fun Γ9 => va_D_fst (ws := (b_d cB cC cI cJ cZ oA rA Γ)) (ws' := (b_d cB cC cI cJ cZ oA rA Γ9)) rfl hD1
  have hN := hE.1
  have hS : va_S A s.heap s.heap [] := va_S.rf
  have hl := lv_entry ([.ref (oA 7)]) (n := 1) (Nat.le_of_ble_eq_true rfl)
  rw [lg_entry_eq]
  generalize (lg_sl ([.ref (oA 7)]) ++ List.replicate (1 - (lg_sl ([.ref (oA 7)])).length) Slot.unset).toArray = ls at hl ⊢
  have hl : lv_has ls 1 [(0, .ref (oA 7))] := hl
  unfold F_X1_wipe at hF
  refine lv_aload_n hx hb dX1_wipe_0 rfl (lv_at hl 0 rfl) ?_
  refine lv_iconst (v := 0) hx hb dX1_wipe_1 (by decide +kernel) ?_
  obtain ⟨σ_1, eσ_1, hF_2⟩ := bnd_e hF
  clear hF
  refine va_put (D := (dC, dI)) (ci := 1) (v := .int 0) (ty := .int) (C := RX1) (T := TX1) (N := 3) hx hb hts ii_X1 tyX1 tyX1_ok nmX1 hown hK hP (hDD _) hS 0 rfl rfl 2 (by decide) (hts (.fieldLink RX1 19 "StoryHouse$Dictionary" "count" "I") wq_151) (fun _ h9 => h9) rfl (by decide +kernel) rfl rfl (Nat.le_of_ble_eq_true rfl) dX1_wipe_2 (fun H locs hP' _ hS => ?_)
  have hP : va_P (dC, dI) vwCl (b_d cB cC cI cJ cZ oA rA σ_1) H := by rw [eσ_1]; exact cs_d_d_2 ▸ hP'
  clear hP'
  have h9 := Option.some.inj hF_2
  subst h9
  exact W.vret hx hb hr (fun t ht hW => ⟨⟨(), rfl, trivial, m_end ht hP, hDD _⟩, hS.F ht⟩) hS.2.2 dX1_wipe_5
theorem dX1_placeOf_0 : decode cX1_placeOf 0 = .ok (.iconst 0, 1) := by decide +kernel
theorem dX1_placeOf_1 : decode cX1_placeOf 1 = .ok (.istore_n 3, 1) := by decide +kernel
theorem dX1_placeOf_2 : decode cX1_placeOf 2 = .ok (.aload_n 0, 1) := by decide +kernel
theorem dX1_placeOf_3 : decode cX1_placeOf 3 = .ok (.getfield 19, 3) := by decide +kernel
theorem dX1_placeOf_6 : decode cX1_placeOf 6 = .ok (.istore 4, 2) := by decide +kernel
theorem dX1_placeOf_8 : decode cX1_placeOf 8 = .ok (.iconst 0, 1) := by decide +kernel
theorem dX1_placeOf_9 : decode cX1_placeOf 9 = .ok (.istore 5, 2) := by decide +kernel
theorem dX1_placeOf_11 : decode cX1_placeOf 11 = .ok (.iload 5, 2) := by decide +kernel
theorem dX1_placeOf_13 : decode cX1_placeOf 13 = .ok (.sipush 2000, 3) := by decide +kernel
theorem dX1_placeOf_16 : decode cX1_placeOf 16 = .ok (.if_icmp .ge 62, 3) := by decide +kernel
theorem dX1_placeOf_19 : decode cX1_placeOf 19 = .ok (.iload_n 3, 1) := by decide +kernel
theorem dX1_placeOf_20 : decode cX1_placeOf 20 = .ok (.iload 4, 2) := by decide +kernel
theorem dX1_placeOf_22 : decode cX1_placeOf 22 = .ok (.if_icmp .ge 56, 3) := by decide +kernel
theorem dX1_placeOf_25 : decode cX1_placeOf 25 = .ok (.iload_n 3, 1) := by decide +kernel
theorem dX1_placeOf_26 : decode cX1_placeOf 26 = .ok (.iload 4, 2) := by decide +kernel
theorem dX1_placeOf_28 : decode cX1_placeOf 28 = .ok (.iadd, 1) := by decide +kernel
theorem dX1_placeOf_29 : decode cX1_placeOf 29 = .ok (.iconst 2, 1) := by decide +kernel
theorem dX1_placeOf_30 : decode cX1_placeOf 30 = .ok (.idiv, 1) := by decide +kernel
theorem dX1_placeOf_31 : decode cX1_placeOf 31 = .ok (.istore 6, 2) := by decide +kernel
theorem dX1_placeOf_33 : decode cX1_placeOf 33 = .ok (.iload 6, 2) := by decide +kernel
theorem dX1_placeOf_35 : decode cX1_placeOf 35 = .ok (.ifCond .lt 33, 3) := by decide +kernel
theorem dX1_placeOf_38 : decode cX1_placeOf 38 = .ok (.iload 6, 2) := by decide +kernel
theorem dX1_placeOf_40 : decode cX1_placeOf 40 = .ok (.aload_n 0, 1) := by decide +kernel
theorem dX1_placeOf_41 : decode cX1_placeOf 41 = .ok (.getfield 11, 3) := by decide +kernel
theorem dX1_placeOf_44 : decode cX1_placeOf 44 = .ok (.arraylength, 1) := by decide +kernel
theorem dX1_placeOf_45 : decode cX1_placeOf 45 = .ok (.if_icmp .ge 23, 3) := by decide +kernel
theorem dX1_placeOf_48 : decode cX1_placeOf 48 = .ok (.aload_n 0, 1) := by decide +kernel
theorem dX1_placeOf_49 : decode cX1_placeOf 49 = .ok (.getfield 11, 3) := by decide +kernel
theorem dX1_placeOf_52 : decode cX1_placeOf 52 = .ok (.iload 6, 2) := by decide +kernel
theorem dX1_placeOf_54 : decode cX1_placeOf 54 = .ok (.laload, 1) := by decide +kernel
theorem dX1_placeOf_55 : decode cX1_placeOf 55 = .ok (.lload_n 1, 1) := by decide +kernel
theorem dX1_placeOf_56 : decode cX1_placeOf 56 = .ok (.lcmp, 1) := by decide +kernel
theorem dX1_placeOf_57 : decode cX1_placeOf 57 = .ok (.ifCond .ge 11, 3) := by decide +kernel
theorem dX1_placeOf_60 : decode cX1_placeOf 60 = .ok (.iload 6, 2) := by decide +kernel
theorem dX1_placeOf_62 : decode cX1_placeOf 62 = .ok (.iconst 1, 1) := by decide +kernel
theorem dX1_placeOf_63 : decode cX1_placeOf 63 = .ok (.iadd, 1) := by decide +kernel
theorem dX1_placeOf_64 : decode cX1_placeOf 64 = .ok (.istore_n 3, 1) := by decide +kernel
theorem dX1_placeOf_65 : decode cX1_placeOf 65 = .ok (.goto 7, 3) := by decide +kernel
theorem dX1_placeOf_68 : decode cX1_placeOf 68 = .ok (.iload 6, 2) := by decide +kernel
theorem dX1_placeOf_70 : decode cX1_placeOf 70 = .ok (.istore 4, 2) := by decide +kernel
theorem dX1_placeOf_72 : decode cX1_placeOf 72 = .ok (.iinc 5 1, 3) := by decide +kernel
theorem dX1_placeOf_75 : decode cX1_placeOf 75 = .ok (.goto (-64), 3) := by decide +kernel
theorem dX1_placeOf_78 : decode cX1_placeOf 78 = .ok (.iload_n 3, 1) := by decide +kernel
theorem dX1_placeOf_79 : decode cX1_placeOf 79 = .ok (.ireturn, 1) := by decide +kernel
def F_X1_placeOf (p0 : Int64) (Γ : HS) : HR :=
  bnd (((Γ 7).1 2)) fun (x_1 : Int32) =>
  loopF (fun (again_4 : (Int32 × Int32 × Int32 × HS) → HR) (s_3 : Int32 × Int32 × Int32 × HS) => (
    if 2000 ≤ s_3.2.2.1 then (
      some (s_3.1, s_3.2.2.2)
    ) else (
      if s_3.2.1 ≤ s_3.1 then (
        some (s_3.1, s_3.2.2.2)
      ) else (
        bnd (((s_3.1 + s_3.2.1) / 2)) fun (x_13 : Int32) =>
        bnd (fun (v3_15 : Int32) (v4_16 : Int32) (σ_17 : HS) => (
          bnd (s_3.2.2.1 + 1) fun (x_21 : Int32) =>
          again_4 (v3_15, v4_16, x_21, σ_17)
        ) : Int32 → Int32 → HS → HR) fun j_18 =>
        bnd (fun  (σ_23 : HS) => (
          j_18 s_3.1 x_13 σ_23
        ) : HS → HR) fun j_24 =>
        if x_13 < 0 then (
          j_24  s_3.2.2.2
        ) else (
          if 2000 ≤ x_13 then (
            j_24  s_3.2.2.2
          ) else (
            if x_13 < 0 ∨ 2000 ≤ x_13.toNatClampNeg then none else
            bnd ((lg_cmp ((s_3.2.2.2 7).2.2 0 x_13.toNatClampNeg) p0)) fun (x_35 : Int32) =>
            if 0 ≤ x_35 then (
              j_24  s_3.2.2.2
            ) else (
              j_18 (x_13 + 1) s_3.2.1 s_3.2.2.2
            )
          )
        )
      )
    )
  )) FU (0, x_1, 0, Γ)
set_option maxHeartbeats 4000000 in
set_option maxRecDepth 100000 in
theorem k_X1_placeOf (l : Launch) (dC : Nat → ClassId) (dI : Nat → Nat → Nat) (cB cC cI cJ cZ cP : ClassId) (oA : Nat → Nat) (rA : Nat → Nat → Nat) (sz : Nat)  (p0 : Int64) (Γ : HS) (res : Int32 × HS) (hF : F_X1_placeOf p0 Γ = some res) : Met l yX1_placeOf (g_ws yX1_placeOf cX1_placeOf 7 (some .int)) ({ frames := 1, cells := 0, slots := 0, locals := 40 }) (va_Pc [.ref (oA 7), .long p0] (g_B (dC, dI) [(cB, .byte), (cC, .char), (cI, .int), (cJ, .long), (cZ, .boolean), (cP, .object "StoryHouse$Play")] sz (b_d cB cC cI cJ cZ oA rA Γ) g_0)) (va_Qi (fun r (_ : Unit) => r = res.1) (g_Bo (dC, dI) (va_A (b_d cB cC cI cJ cZ oA rA Γ) sz) (fun (_ : Unit) => (b_d cB cC cI cJ cZ oA rA res.2))) (va_A (b_d cB cC cI cJ cZ oA rA Γ) sz)) 0 0 (va_A (b_d cB cC cI cJ cZ oA rA Γ) sz) := by
  refine Met.ofW (cc := cX1_placeOf) (maxL := 7) (ret := (some .int)) (by decide) rfl ?_
  intro p e s m args below meth c s₁ B hml hv
  obtain ⟨rfl, hsz, hP, hK, hD0, hE, hX⟩ := hv
  have hx := B.exec
  have hb := B.bytes
  have hr := B.returns
  have hts0 := atoms_spec (ws := g_ws yX1_placeOf cX1_placeOf 7 (some .int)) B.pre
  have hts : ∀ w ∈ lw_good, w.before ([.ref (oA 7), .long p0] : List Value).toArray s = true := fun w z => hts0 w (List.mem_cons_of_mem _ z)
  have hown : s.vm.findClass RX1 = some m.cls := findClass_of_methodNamed B.named
  have hlocks := B.notSynchronized
  subst hsz
  have hD1 := hD0.self (sz := s.heap.size)
  generalize hAe : va_A (b_d cB cC cI cJ cZ oA rA Γ) s.heap.size = A at hD1 hE hX ⊢
  have hA : ∀ q : Nat, s.heap.size ≤ q → A q := fun q z => by rw [← hAe]; exact Or.inr z
  have hDD : ∀ Γ : HS, va_D A (b_d cB cC cI cJ cZ oA rA Γ) := fun Γ9 => va_D_fst (ws := (b_d cB cC cI cJ cZ oA rA Γ)) (ws' := (b_d cB cC cI cJ cZ oA rA Γ9)) rfl hD1
  have hN := hE.1
  have hS : va_S A s.heap s.heap [] := va_S.rf
  have hl := lv_entry ([.ref (oA 7), .long p0]) (n := 7) (Nat.le_of_ble_eq_true rfl)
  rw [lg_entry_eq]
  generalize (lg_sl ([.ref (oA 7), .long p0]) ++ List.replicate (7 - (lg_sl ([.ref (oA 7), .long p0])).length) Slot.unset).toArray = ls at hl ⊢
  have hl : lv_has ls 7 [(0, .ref (oA 7)), (1, .long p0)] := hl
  unfold F_X1_placeOf at hF
  refine lv_iconst (v := 0) hx hb dX1_placeOf_0 (by decide +kernel) ?_
  refine lv_istore_n (lv' := [(3, .int 0), (0, .ref (oA 7)), (1, .long p0)]) hx hb dX1_placeOf_1 rfl hl (by decide) rfl (fun ls hl => ?_)
  refine lv_aload_n hx hb dX1_placeOf_2 rfl (lv_at hl 1 rfl) ?_
  refine va_get (D := (dC, dI)) (ci := 1) (v := .int ((Γ 7).1 2)) (C := RX1) (T := TX1) (N := 3) hx hb hts ii_X1 hown hK hP 0 rfl rfl 2 (by decide) (hts (.fieldLink RX1 19 "StoryHouse$Dictionary" "count" "I") wq_151) (fun _ h9 => h9) rfl dX1_placeOf_3 ?_
  obtain ⟨x_1, ex_1, hF_2⟩ := bnd_e hF
  clear hF
  refine m_top ex_1 ?_
  refine lv_istore (lv' := [(4, .int x_1), (3, .int 0), (0, .ref (oA 7)), (1, .long p0)]) hx hb dX1_placeOf_6 hl (by decide) rfl (fun ls hl => ?_)
  refine lv_iconst (v := 0) hx hb dX1_placeOf_8 (by decide +kernel) ?_
  refine lv_istore (lv' := [(5, .int 0), (4, .int x_1), (3, .int 0), (0, .ref (oA 7)), (1, .long p0)]) hx hb dX1_placeOf_9 hl (by decide) rfl (fun ls hl => ?_)
  refine loopF_ind (P := fun (s_3 : Int32 × Int32 × Int32 × HS) => ∀ (H : Heap) (locs : List Loc), va_P (dC, dI) vwCl (b_d cB cC cI cJ cZ oA rA s_3.2.2.2) H → va_S A s.heap H locs → ∀ ls : Array Slot, lv_has ls 7 [(0, .ref (oA 7)), (1, .long p0), (3, .int s_3.1), (4, .int s_3.2.1), (5, .int s_3.2.2.1)] → W p l e (headSpec (g_ws yX1_placeOf cX1_placeOf 7 (some .int)) { frames := 1, cells := 0, slots := 0, locals := 40 }).room s m ([.ref (oA 7), .long p0] : List Value).toArray below meth c H locs 0 0 (MQ below (va_Qi (fun r (_ : Unit) => r = res.1) (g_Bo (dC, dI) A (fun (_ : Unit) => (b_d cB cC cI cJ cZ oA rA res.2))) A) ([.ref (oA 7), .long p0] : List Value).toArray s 0 0 A) (F0 m 11 ls [])) ?_ _ _ hF_2 _ _ hP hS ls (lv_sub hl [3, 4, 2, 1, 0] rfl)
  intro again_4 s_3 ih_5 hF_6
  intro H locs hP hS ls hl
  refine lv_iload hx hb dX1_placeOf_11 (lv_at hl 4 rfl) ?_
  refine lv_sipush (v := 2000) hx hb dX1_placeOf_13 (by decide +kernel) ?_
  refine lv_icmp_ge (tgt := 78) hx hb dX1_placeOf_16 (by decide) (fun c_7 => ?_) (fun c_7 => ?_)
  · have hF_8 := ipos c_7 hF_6
    clear hF_6
    refine lv_iload_n hx hb dX1_placeOf_78 rfl (lv_at hl 2 rfl) ?_
    have h9 := Option.some.inj hF_8
    subst h9
    exact W.iret (v := s_3.1) hx hb hr (fun t ht hW => ⟨⟨s_3.1, (), rfl, rfl, m_end ht hP, hDD _⟩, hS.F ht⟩) hS.2.2 dX1_placeOf_79
  · have hF_9 := ineg c_7 hF_6
    clear hF_6
    refine lv_iload_n hx hb dX1_placeOf_19 rfl (lv_at hl 2 rfl) ?_
    refine lv_iload hx hb dX1_placeOf_20 (lv_at hl 3 rfl) ?_
    refine lv_icmp_ge (tgt := 78) hx hb dX1_placeOf_22 (by decide) (fun c_10 => ?_) (fun c_10 => ?_)
    · have hF_11 := ipos c_10 hF_9
      clear hF_9
      refine lv_iload_n hx hb dX1_placeOf_78 rfl (lv_at hl 2 rfl) ?_
      have h9 := Option.some.inj hF_11
      subst h9
      exact W.iret (v := s_3.1) hx hb hr (fun t ht hW => ⟨⟨s_3.1, (), rfl, rfl, m_end ht hP, hDD _⟩, hS.F ht⟩) hS.2.2 dX1_placeOf_79
    · have hF_12 := ineg c_10 hF_9
      clear hF_9
      refine lv_iload_n hx hb dX1_placeOf_25 rfl (lv_at hl 2 rfl) ?_
      refine lv_iload hx hb dX1_placeOf_26 (lv_at hl 3 rfl) ?_
      refine lv_iadd hx hb dX1_placeOf_28 ?_
      refine lv_iconst (v := 2) hx hb dX1_placeOf_29 (by decide +kernel) ?_
      refine lv_idiv hx hb dX1_placeOf_30 (by decide +kernel) ?_
      obtain ⟨x_13, ex_13, hF_14⟩ := bnd_e hF_12
      clear hF_12
      refine m_top ex_13 ?_
      refine lv_istore (lv' := [(6, .int x_13), (0, .ref (oA 7)), (1, .long p0), (3, .int s_3.1), (4, .int s_3.2.1), (5, .int s_3.2.2.1)]) hx hb dX1_placeOf_31 hl (by decide) rfl (fun ls hl => ?_)
      refine lv_iload hx hb dX1_placeOf_33 (lv_at hl 0 rfl) ?_
      obtain ⟨j_18, ej_18, hF_19⟩ := bnd_e hF_14
      clear hF_14
      have Jj_18 : ∀ (v3_15 : Int32) (v4_16 : Int32) (σ_17 : HS), j_18 v3_15 v4_16 σ_17 = some res → ∀ (H : Heap) (locs : List Loc), va_P (dC, dI) vwCl (b_d cB cC cI cJ cZ oA rA σ_17) H → va_S A s.heap H locs → ∀ ls : Array Slot, lv_has ls 7 [(0, .ref (oA 7)), (1, .long p0), (3, .int v3_15), (4, .int v4_16), (5, .int s_3.2.2.1)] → W p l e (headSpec (g_ws yX1_placeOf cX1_placeOf 7 (some .int)) { frames := 1, cells := 0, slots := 0, locals := 40 }).room s m ([.ref (oA 7), .long p0] : List Value).toArray below meth c H locs 0 0 (MQ below (va_Qi (fun r (_ : Unit) => r = res.1) (g_Bo (dC, dI) A (fun (_ : Unit) => (b_d cB cC cI cJ cZ oA rA res.2))) A) ([.ref (oA 7), .long p0] : List Value).toArray s 0 0 A) (F0 m 72 ls []) := by
        intro v3_15 v4_16 σ_17 hF0 H locs hP hS ls hl
        subst ej_18
        have hF_20 := hF0
        clear hF0
        obtain ⟨x_21, ex_21, hF_22⟩ := bnd_e hF_20
        clear hF_20
        refine lv_iinc (v := x_21) (lv' := [(5, .int x_21), (0, .ref (oA 7)), (1, .long p0), (3, .int v3_15), (4, .int v4_16)]) hx hb dX1_placeOf_72 hl (k := 4) rfl (by rw [ex_21]; rfl) (by decide) rfl (fun ls hl => ?_)
        refine lv_goto (tgt := 11) hx hb dX1_placeOf_75 (by decide) ?_
        exact ih_5 (v3_15, v4_16, x_21, σ_17) hF_22 _ _ hP hS ls (lv_sub hl [1, 2, 3, 4, 0] rfl)
      obtain ⟨j_24, ej_24, hF_25⟩ := bnd_e hF_19
      clear hF_19
      have Jj_24 : ∀  (σ_23 : HS), j_24  σ_23 = some res → ∀ (H : Heap) (locs : List Loc), va_P (dC, dI) vwCl (b_d cB cC cI cJ cZ oA rA σ_23) H → va_S A s.heap H locs → ∀ ls : Array Slot, lv_has ls 7 [(0, .ref (oA 7)), (1, .long p0), (3, .int s_3.1), (5, .int s_3.2.2.1), (6, .int x_13)] → W p l e (headSpec (g_ws yX1_placeOf cX1_placeOf 7 (some .int)) { frames := 1, cells := 0, slots := 0, locals := 40 }).room s m ([.ref (oA 7), .long p0] : List Value).toArray below meth c H locs 0 0 (MQ below (va_Qi (fun r (_ : Unit) => r = res.1) (g_Bo (dC, dI) A (fun (_ : Unit) => (b_d cB cC cI cJ cZ oA rA res.2))) A) ([.ref (oA 7), .long p0] : List Value).toArray s 0 0 A) (F0 m 68 ls []) := by
        intro  σ_23 hF0 H locs hP hS ls hl
        subst ej_24
        have hF_26 := hF0
        clear hF0
        refine lv_iload hx hb dX1_placeOf_68 (lv_at hl 4 rfl) ?_
        refine lv_istore (lv' := [(4, .int x_13), (0, .ref (oA 7)), (1, .long p0), (3, .int s_3.1), (5, .int s_3.2.2.1), (6, .int x_13)]) hx hb dX1_placeOf_70 hl (by decide) rfl (fun ls hl => ?_)
        exact Jj_18 s_3.1 x_13 σ_23 hF_26 _ _ hP hS ls (lv_sub hl [1, 2, 3, 0, 4] rfl)
      refine lv_if_lt (tgt := 68) hx hb dX1_placeOf_35 (by decide) (fun c_27 => ?_) (fun c_27 => ?_)
      · have hF_28 := ipos c_27 hF_25
        clear hF_25
        exact Jj_24  s_3.2.2.2 hF_28 _ _ hP hS ls (lv_sub hl [1, 2, 3, 5, 0] rfl)
      · have hF_29 := ineg c_27 hF_25
        clear hF_25
        refine lv_iload hx hb dX1_placeOf_38 (lv_at hl 0 rfl) ?_
        refine lv_aload_n hx hb dX1_placeOf_40 rfl (lv_at hl 1 rfl) ?_
        refine va_get (D := (dC, dI)) (ci := 1) (v := .ref (rA 7 0)) (C := RX1) (T := TX1) (N := 3) hx hb hts ii_X1 hown hK hP 0 rfl rfl 0 (by decide) (hts (.fieldLink RX1 11 "StoryHouse$Dictionary" "terms" "[J") wq_149) (fun _ h9 => h9) rfl dX1_placeOf_41 ?_
        refine va_alen (v := 2000) hx hb hK hP 1 3 rfl rfl (by first | rfl | decide +kernel) dX1_placeOf_44 ?_
        refine lv_icmp_ge (tgt := 68) hx hb dX1_placeOf_45 (by decide) (fun c_30 => ?_) (fun c_30 => ?_)
        · have hF_31 := ipos c_30 hF_29
          clear hF_29
          exact Jj_24  s_3.2.2.2 hF_31 _ _ hP hS ls (lv_sub hl [1, 2, 3, 5, 0] rfl)
        · have hF_32 := ineg c_30 hF_29
          clear hF_29
          refine lv_aload_n hx hb dX1_placeOf_48 rfl (lv_at hl 1 rfl) ?_
          refine va_get (D := (dC, dI)) (ci := 1) (v := .ref (rA 7 0)) (C := RX1) (T := TX1) (N := 3) hx hb hts ii_X1 hown hK hP 0 rfl rfl 0 (by decide) (hts (.fieldLink RX1 11 "StoryHouse$Dictionary" "terms" "[J") wq_149) (fun _ h9 => h9) rfl dX1_placeOf_49 ?_
          refine lv_iload hx hb dX1_placeOf_52 (lv_at hl 0 rfl) ?_
          obtain ⟨g_33, hF_34⟩ := nif_e hF_32
          clear hF_32
          refine va_lald (f := (s_3.2.2.2 7).2.2 0) hx hb hK hP 1 3 rfl rfl g_33 dX1_placeOf_54 ?_
          refine lv_lload_n hx hb dX1_placeOf_55 rfl (lv_at hl 2 rfl) ?_
          refine W.lcmp hx hb dX1_placeOf_56 ?_
          obtain ⟨x_35, ex_35, hF_36⟩ := bnd_e hF_34
          clear hF_34
          refine m_top ex_35 ?_
          refine lv_if_ge (tgt := 68) hx hb dX1_placeOf_57 (by decide) (fun c_37 => ?_) (fun c_37 => ?_)
          · have hF_38 := ipos c_37 hF_36
            clear hF_36
            exact Jj_24  s_3.2.2.2 hF_38 _ _ hP hS ls (lv_sub hl [1, 2, 3, 5, 0] rfl)
          · have hF_39 := ineg c_37 hF_36
            clear hF_36
            refine lv_iload hx hb dX1_placeOf_60 (lv_at hl 0 rfl) ?_
            refine lv_iconst (v := 1) hx hb dX1_placeOf_62 (by decide +kernel) ?_
            refine lv_iadd hx hb dX1_placeOf_63 ?_
            refine lv_istore_n (lv' := [(3, .int (x_13 + 1)), (6, .int x_13), (0, .ref (oA 7)), (1, .long p0), (4, .int s_3.2.1), (5, .int s_3.2.2.1)]) hx hb dX1_placeOf_64 rfl hl (by decide) rfl (fun ls hl => ?_)
            refine lv_goto (tgt := 72) hx hb dX1_placeOf_65 (by decide) ?_
            exact Jj_18 (x_13 + 1) s_3.2.1 s_3.2.2.2 hF_39 _ _ hP hS ls (lv_sub hl [2, 3, 0, 4, 5] rfl)
theorem dX1_termAt_0 : decode cX1_termAt 0 = .ok (.iload_n 1, 1) := by decide +kernel
theorem dX1_termAt_1 : decode cX1_termAt 1 = .ok (.ifCond .lt 29, 3) := by decide +kernel
theorem dX1_termAt_4 : decode cX1_termAt 4 = .ok (.iload_n 1, 1) := by decide +kernel
theorem dX1_termAt_5 : decode cX1_termAt 5 = .ok (.aload_n 0, 1) := by decide +kernel
theorem dX1_termAt_6 : decode cX1_termAt 6 = .ok (.getfield 19, 3) := by decide +kernel
theorem dX1_termAt_9 : decode cX1_termAt 9 = .ok (.if_icmp .ge 21, 3) := by decide +kernel
theorem dX1_termAt_12 : decode cX1_termAt 12 = .ok (.iload_n 1, 1) := by decide +kernel
theorem dX1_termAt_13 : decode cX1_termAt 13 = .ok (.aload_n 0, 1) := by decide +kernel
theorem dX1_termAt_14 : decode cX1_termAt 14 = .ok (.getfield 11, 3) := by decide +kernel
theorem dX1_termAt_17 : decode cX1_termAt 17 = .ok (.arraylength, 1) := by decide +kernel
theorem dX1_termAt_18 : decode cX1_termAt 18 = .ok (.if_icmp .ge 12, 3) := by decide +kernel
theorem dX1_termAt_21 : decode cX1_termAt 21 = .ok (.aload_n 0, 1) := by decide +kernel
theorem dX1_termAt_22 : decode cX1_termAt 22 = .ok (.getfield 11, 3) := by decide +kernel
theorem dX1_termAt_25 : decode cX1_termAt 25 = .ok (.iload_n 1, 1) := by decide +kernel
theorem dX1_termAt_26 : decode cX1_termAt 26 = .ok (.laload, 1) := by decide +kernel
theorem dX1_termAt_27 : decode cX1_termAt 27 = .ok (.goto 4, 3) := by decide +kernel
theorem dX1_termAt_30 : decode cX1_termAt 30 = .ok (.lconst 0, 1) := by decide +kernel
theorem dX1_termAt_31 : decode cX1_termAt 31 = .ok (.lreturn, 1) := by decide +kernel
def F_X1_termAt (p0 : Int32) (Γ : HS) : HJ :=
  bnd (fun (t_1 : Int64) (σ_2 : HS) => (
    some (t_1, σ_2)
  ) : Int64 → HS → HJ) fun j_3 =>
  bnd (fun  (σ_6 : HS) => (
    j_3 0 σ_6
  ) : HS → HJ) fun j_7 =>
  if p0 < 0 then (
    j_7  Γ
  ) else (
    if ((Γ 7).1 2) ≤ p0 then (
      j_7  Γ
    ) else (
      if 2000 ≤ p0 then (
        j_7  Γ
      ) else (
        if p0 < 0 ∨ 2000 ≤ p0.toNatClampNeg then none else
        j_3 ((Γ 7).2.2 0 p0.toNatClampNeg) Γ
      )
    )
  )
set_option maxHeartbeats 4000000 in
set_option maxRecDepth 100000 in
theorem k_X1_termAt (l : Launch) (dC : Nat → ClassId) (dI : Nat → Nat → Nat) (cB cC cI cJ cZ cP : ClassId) (oA : Nat → Nat) (rA : Nat → Nat → Nat) (sz : Nat)  (p0 : Int32) (Γ : HS) (res : Int64 × HS) (hF : F_X1_termAt p0 Γ = some res) : Met l yX1_termAt (g_ws yX1_termAt cX1_termAt 2 (some .long)) ({ frames := 1, cells := 0, slots := 0, locals := 40 }) (va_Pc [.ref (oA 7), .int p0] (g_B (dC, dI) [(cB, .byte), (cC, .char), (cI, .int), (cJ, .long), (cZ, .boolean), (cP, .object "StoryHouse$Play")] sz (b_d cB cC cI cJ cZ oA rA Γ) g_0)) (va_Ql (fun r (_ : Unit) => r = res.1) (g_Bo (dC, dI) (va_A (b_d cB cC cI cJ cZ oA rA Γ) sz) (fun (_ : Unit) => (b_d cB cC cI cJ cZ oA rA res.2))) (va_A (b_d cB cC cI cJ cZ oA rA Γ) sz)) 0 0 (va_A (b_d cB cC cI cJ cZ oA rA Γ) sz) := by
  refine Met.ofW (cc := cX1_termAt) (maxL := 2) (ret := (some .long)) (by decide) rfl ?_
  intro p e s m args below meth c s₁ B hml hv
  obtain ⟨rfl, hsz, hP, hK, hD0, hE, hX⟩ := hv
  have hx := B.exec
  have hb := B.bytes
  have hr := B.returns
  have hts0 := atoms_spec (ws := g_ws yX1_termAt cX1_termAt 2 (some .long)) B.pre
  have hts : ∀ w ∈ lw_good, w.before ([.ref (oA 7), .int p0] : List Value).toArray s = true := fun w z => hts0 w (List.mem_cons_of_mem _ z)
  have hown : s.vm.findClass RX1 = some m.cls := findClass_of_methodNamed B.named
  have hlocks := B.notSynchronized
  subst hsz
  have hD1 := hD0.self (sz := s.heap.size)
  generalize hAe : va_A (b_d cB cC cI cJ cZ oA rA Γ) s.heap.size = A at hD1 hE hX ⊢
  have hA : ∀ q : Nat, s.heap.size ≤ q → A q := fun q z => by rw [← hAe]; exact Or.inr z
  have hDD : ∀ Γ : HS, va_D A (b_d cB cC cI cJ cZ oA rA Γ) := fun Γ9 => va_D_fst (ws := (b_d cB cC cI cJ cZ oA rA Γ)) (ws' := (b_d cB cC cI cJ cZ oA rA Γ9)) rfl hD1
  have hN := hE.1
  have hS : va_S A s.heap s.heap [] := va_S.rf
  have hl := lv_entry ([.ref (oA 7), .int p0]) (n := 2) (Nat.le_of_ble_eq_true rfl)
  rw [lg_entry_eq]
  generalize (lg_sl ([.ref (oA 7), .int p0]) ++ List.replicate (2 - (lg_sl ([.ref (oA 7), .int p0])).length) Slot.unset).toArray = ls at hl ⊢
  have hl : lv_has ls 2 [(0, .ref (oA 7)), (1, .int p0)] := hl
  unfold F_X1_termAt at hF
  refine lv_iload_n hx hb dX1_termAt_0 rfl (lv_at hl 1 rfl) ?_
  obtain ⟨j_3, ej_3, hF_4⟩ := bnd_e hF
  clear hF
  have Jj_3 : ∀ (t_1 : Int64) (σ_2 : HS), j_3 t_1 σ_2 = some res → ∀ (H : Heap) (locs : List Loc), va_P (dC, dI) vwCl (b_d cB cC cI cJ cZ oA rA σ_2) H → va_S A s.heap H locs → ∀ ls : Array Slot, lv_has ls 2 [] → W p l e (headSpec (g_ws yX1_termAt cX1_termAt 2 (some .long)) { frames := 1, cells := 0, slots := 0, locals := 40 }).room s m ([.ref (oA 7), .int p0] : List Value).toArray below meth c H locs 0 0 (MQ below (va_Ql (fun r (_ : Unit) => r = res.1) (g_Bo (dC, dI) A (fun (_ : Unit) => (b_d cB cC cI cJ cZ oA rA res.2))) A) ([.ref (oA 7), .int p0] : List Value).toArray s 0 0 A) (F0 m 31 ls [.long t_1]) := by
    intro t_1 σ_2 hF0 H locs hP hS ls hl
    subst ej_3
    have hF_5 := hF0
    clear hF0
    have h9 := Option.some.inj hF_5
    subst h9
    exact W.lret (v := t_1) hx hb hr (fun t ht hW => ⟨⟨t_1, (), rfl, rfl, m_end ht hP, hDD _⟩, hS.F ht⟩) hS.2.2 dX1_termAt_31
  obtain ⟨j_7, ej_7, hF_8⟩ := bnd_e hF_4
  clear hF_4
  have Jj_7 : ∀  (σ_6 : HS), j_7  σ_6 = some res → ∀ (H : Heap) (locs : List Loc), va_P (dC, dI) vwCl (b_d cB cC cI cJ cZ oA rA σ_6) H → va_S A s.heap H locs → ∀ ls : Array Slot, lv_has ls 2 [] → W p l e (headSpec (g_ws yX1_termAt cX1_termAt 2 (some .long)) { frames := 1, cells := 0, slots := 0, locals := 40 }).room s m ([.ref (oA 7), .int p0] : List Value).toArray below meth c H locs 0 0 (MQ below (va_Ql (fun r (_ : Unit) => r = res.1) (g_Bo (dC, dI) A (fun (_ : Unit) => (b_d cB cC cI cJ cZ oA rA res.2))) A) ([.ref (oA 7), .int p0] : List Value).toArray s 0 0 A) (F0 m 30 ls []) := by
    intro  σ_6 hF0 H locs hP hS ls hl
    subst ej_7
    have hF_9 := hF0
    clear hF0
    refine lv_lconst (v := 0) hx hb dX1_termAt_30 (by decide +kernel) ?_
    exact Jj_3 0 σ_6 hF_9 _ _ hP hS ls (lv_sub hl [] rfl)
  refine lv_if_lt (tgt := 30) hx hb dX1_termAt_1 (by decide) (fun c_10 => ?_) (fun c_10 => ?_)
  · have hF_11 := ipos c_10 hF_8
    clear hF_8
    exact Jj_7  Γ hF_11 _ _ hP hS ls (lv_sub hl [] rfl)
  · have hF_12 := ineg c_10 hF_8
    clear hF_8
    refine lv_iload_n hx hb dX1_termAt_4 rfl (lv_at hl 1 rfl) ?_
    refine lv_aload_n hx hb dX1_termAt_5 rfl (lv_at hl 0 rfl) ?_
    refine va_get (D := (dC, dI)) (ci := 1) (v := .int ((Γ 7).1 2)) (C := RX1) (T := TX1) (N := 3) hx hb hts ii_X1 hown hK hP 0 rfl rfl 2 (by decide) (hts (.fieldLink RX1 19 "StoryHouse$Dictionary" "count" "I") wq_151) (fun _ h9 => h9) rfl dX1_termAt_6 ?_
    refine lv_icmp_ge (tgt := 30) hx hb dX1_termAt_9 (by decide) (fun c_13 => ?_) (fun c_13 => ?_)
    · have hF_14 := ipos c_13 hF_12
      clear hF_12
      exact Jj_7  Γ hF_14 _ _ hP hS ls (lv_sub hl [] rfl)
    · have hF_15 := ineg c_13 hF_12
      clear hF_12
      refine lv_iload_n hx hb dX1_termAt_12 rfl (lv_at hl 1 rfl) ?_
      refine lv_aload_n hx hb dX1_termAt_13 rfl (lv_at hl 0 rfl) ?_
      refine va_get (D := (dC, dI)) (ci := 1) (v := .ref (rA 7 0)) (C := RX1) (T := TX1) (N := 3) hx hb hts ii_X1 hown hK hP 0 rfl rfl 0 (by decide) (hts (.fieldLink RX1 11 "StoryHouse$Dictionary" "terms" "[J") wq_149) (fun _ h9 => h9) rfl dX1_termAt_14 ?_
      refine va_alen (v := 2000) hx hb hK hP 1 3 rfl rfl (by first | rfl | decide +kernel) dX1_termAt_17 ?_
      refine lv_icmp_ge (tgt := 30) hx hb dX1_termAt_18 (by decide) (fun c_16 => ?_) (fun c_16 => ?_)
      · have hF_17 := ipos c_16 hF_15
        clear hF_15
        exact Jj_7  Γ hF_17 _ _ hP hS ls (lv_sub hl [] rfl)
      · have hF_18 := ineg c_16 hF_15
        clear hF_15
        refine lv_aload_n hx hb dX1_termAt_21 rfl (lv_at hl 0 rfl) ?_
        refine va_get (D := (dC, dI)) (ci := 1) (v := .ref (rA 7 0)) (C := RX1) (T := TX1) (N := 3) hx hb hts ii_X1 hown hK hP 0 rfl rfl 0 (by decide) (hts (.fieldLink RX1 11 "StoryHouse$Dictionary" "terms" "[J") wq_149) (fun _ h9 => h9) rfl dX1_termAt_22 ?_
        refine lv_iload_n hx hb dX1_termAt_25 rfl (lv_at hl 1 rfl) ?_
        obtain ⟨g_19, hF_20⟩ := nif_e hF_18
        clear hF_18
        refine va_lald (f := (Γ 7).2.2 0) hx hb hK hP 1 3 rfl rfl g_19 dX1_termAt_26 ?_
        refine lv_goto (tgt := 31) hx hb dX1_termAt_27 (by decide) ?_
        exact Jj_3 ((Γ 7).2.2 0 p0.toNatClampNeg) Γ hF_20 _ _ hP hS ls (lv_sub hl [] rfl)
theorem dX1_find_0 : decode cX1_find 0 = .ok (.aload_n 0, 1) := by decide +kernel
theorem dX1_find_1 : decode cX1_find 1 = .ok (.lload_n 1, 1) := by decide +kernel
theorem dX1_find_2 : decode cX1_find 2 = .ok (.invokevirtual 23, 3) := by decide +kernel
theorem dX1_find_5 : decode cX1_find 5 = .ok (.istore_n 3, 1) := by decide +kernel
theorem dX1_find_6 : decode cX1_find 6 = .ok (.iload_n 3, 1) := by decide +kernel
theorem dX1_find_7 : decode cX1_find 7 = .ok (.aload_n 0, 1) := by decide +kernel
theorem dX1_find_8 : decode cX1_find 8 = .ok (.getfield 19, 3) := by decide +kernel
theorem dX1_find_11 : decode cX1_find 11 = .ok (.if_icmp .ge 24, 3) := by decide +kernel
theorem dX1_find_14 : decode cX1_find 14 = .ok (.aload_n 0, 1) := by decide +kernel
theorem dX1_find_15 : decode cX1_find 15 = .ok (.iload_n 3, 1) := by decide +kernel
theorem dX1_find_16 : decode cX1_find 16 = .ok (.invokevirtual 27, 3) := by decide +kernel
theorem dX1_find_19 : decode cX1_find 19 = .ok (.lload_n 1, 1) := by decide +kernel
theorem dX1_find_20 : decode cX1_find 20 = .ok (.lcmp, 1) := by decide +kernel
theorem dX1_find_21 : decode cX1_find 21 = .ok (.ifCond .ne 14, 3) := by decide +kernel
theorem dX1_find_24 : decode cX1_find 24 = .ok (.aload_n 0, 1) := by decide +kernel
theorem dX1_find_25 : decode cX1_find 25 = .ok (.getfield 15, 3) := by decide +kernel
theorem dX1_find_28 : decode cX1_find 28 = .ok (.iload_n 3, 1) := by decide +kernel
theorem dX1_find_29 : decode cX1_find 29 = .ok (.invokestatic 31, 3) := by decide +kernel
theorem dX1_find_32 : decode cX1_find 32 = .ok (.goto 4, 3) := by decide +kernel
theorem dX1_find_35 : decode cX1_find 35 = .ok (.iconst (-1), 1) := by decide +kernel
theorem dX1_find_36 : decode cX1_find 36 = .ok (.ireturn, 1) := by decide +kernel
def F_X1_find (p0 : Int64) (Γ : HS) : HR :=
  (F_X1_placeOf p0 Γ).bind fun u_1 =>
  if ((u_1.2 7).1 2) ≤ u_1.1 then (
    some ((-1), u_1.2)
  ) else (
    (F_X1_termAt u_1.1 u_1.2).bind fun u_6 =>
    bnd ((lg_cmp u_6.1 p0)) fun (x_8 : Int32) =>
    if x_8 = 0 then (
      bnd ((g_at 2000 ((u_6.2 7).2.1 1) u_1.1)) fun (x_12 : Int32) =>
      some (x_12, u_6.2)
    ) else (
      some ((-1), u_6.2)
    )
  )
set_option maxHeartbeats 4000000 in
set_option maxRecDepth 100000 in
theorem k_X1_find (l : Launch) (dC : Nat → ClassId) (dI : Nat → Nat → Nat) (cB cC cI cJ cZ cP : ClassId) (oA : Nat → Nat) (rA : Nat → Nat → Nat) (sz : Nat)  (p0 : Int64) (Γ : HS) (res : Int32 × HS) (hF : F_X1_find p0 Γ = some res) : Met l yX1_find (g_ws yX1_find cX1_find 4 (some .int)) ({ frames := 3, cells := 0, slots := 0, locals := 81 }) (va_Pc [.ref (oA 7), .long p0] (g_B (dC, dI) [(cB, .byte), (cC, .char), (cI, .int), (cJ, .long), (cZ, .boolean), (cP, .object "StoryHouse$Play")] sz (b_d cB cC cI cJ cZ oA rA Γ) g_0)) (va_Qi (fun r (_ : Unit) => r = res.1) (g_Bo (dC, dI) (va_A (b_d cB cC cI cJ cZ oA rA Γ) sz) (fun (_ : Unit) => (b_d cB cC cI cJ cZ oA rA res.2))) (va_A (b_d cB cC cI cJ cZ oA rA Γ) sz)) 0 0 (va_A (b_d cB cC cI cJ cZ oA rA Γ) sz) := by
  refine Met.ofW (cc := cX1_find) (maxL := 4) (ret := (some .int)) (by decide) rfl ?_
  intro p e s m args below meth c s₁ B hml hv
  obtain ⟨rfl, hsz, hP, hK, hD0, hE, hX⟩ := hv
  have hx := B.exec
  have hb := B.bytes
  have hr := B.returns
  have hts0 := atoms_spec (ws := g_ws yX1_find cX1_find 4 (some .int)) B.pre
  have hts : ∀ w ∈ lw_good, w.before ([.ref (oA 7), .long p0] : List Value).toArray s = true := fun w z => hts0 w (List.mem_cons_of_mem _ z)
  have hown : s.vm.findClass RX1 = some m.cls := findClass_of_methodNamed B.named
  have hlocks := B.notSynchronized
  subst hsz
  have hD1 := hD0.self (sz := s.heap.size)
  generalize hAe : va_A (b_d cB cC cI cJ cZ oA rA Γ) s.heap.size = A at hD1 hE hX ⊢
  have hA : ∀ q : Nat, s.heap.size ≤ q → A q := fun q z => by rw [← hAe]; exact Or.inr z
  have hDD : ∀ Γ : HS, va_D A (b_d cB cC cI cJ cZ oA rA Γ) := fun Γ9 => va_D_fst (ws := (b_d cB cC cI cJ cZ oA rA Γ)) (ws' := (b_d cB cC cI cJ cZ oA rA Γ9)) rfl hD1
  have hN := hE.1
  have hS : va_S A s.heap s.heap [] := va_S.rf
  have hl := lv_entry ([.ref (oA 7), .long p0]) (n := 4) (Nat.le_of_ble_eq_true rfl)
  rw [lg_entry_eq]
  generalize (lg_sl ([.ref (oA 7), .long p0]) ++ List.replicate (4 - (lg_sl ([.ref (oA 7), .long p0])).length) Slot.unset).toArray = ls at hl ⊢
  have hl : lv_has ls 4 [(0, .ref (oA 7)), (1, .long p0)] := hl
  unfold F_X1_find at hF
  refine lv_aload_n hx hb dX1_find_0 rfl (lv_at hl 0 rfl) ?_
  refine lv_lload_n hx hb dX1_find_1 rfl (lv_at hl 1 rfl) ?_
  obtain ⟨u_1, hu_1, hF_2⟩ := Option.bind_eq_some_iff.mp hF
  clear hF
  have hPc := bx_P (bs := [b_d cB cC cI cJ cZ oA rA Γ]) (bs' := [b_d cB cC cI cJ cZ oA rA Γ]) (ws' := (b_d cB cC cI cJ cZ oA rA Γ)) hP fl_1 fl_1 [0] rfl
  have hDc := bx_D (bs := [b_d cB cC cI cJ cZ oA rA Γ]) (bs' := [b_d cB cC cI cJ cZ oA rA Γ]) (ws' := (b_d cB cC cI cJ cZ oA rA Γ)) (hDD Γ) fl_1 fl_1 [0] (by decide +kernel) rfl
  have hFc := bx_F (bs := [b_d cB cC cI cJ cZ oA rA Γ]) (bs' := [b_d cB cC cI cJ cZ oA rA Γ]) (wc := (b_d cB cC cI cJ cZ oA rA Γ)) (hDD Γ) hS hA fl_1 fl_1 [0] rfl
  refine g_ofi (wc := (b_d cB cC cI cJ cZ oA rA Γ)) (wr := ([] : va_W)) hP (hDD Γ) hS hFc (bx_ix [b_d cB cC cI cJ cZ oA rA Γ] [0]) (bx_ix [b_d cB cC cI cJ cZ oA rA Γ] []) (bx_C (bs := [b_d cB cC cI cJ cZ oA rA Γ]) (bs' := [b_d cB cC cI cJ cZ oA rA Γ]) (is := [0]) fl_1 fl_1 rfl) (bx_C (bs := [b_d cB cC cI cJ cZ oA rA Γ]) (bs' := []) (is := []) fl_1 fl_0 rfl) (bx_n (by decide +kernel)) (bx_d (by decide +kernel)) (va_runV (As := [.long p0]) (rest := []) ⟨hx, hb, hml, hown, hts⟩ (k_X1_placeOf l dC dI cB cC cI cJ cZ cP oA rA s.heap.size  p0 Γ _ hu_1) (cwV 1 hts (g_gV wq_528 wq_529 wq_1991 wq_8 wq_530) rfl rfl rfl (by decide +kernel) ⟨Nat.le_of_ble_eq_true rfl, Nat.le_of_ble_eq_true rfl⟩) (g_preV g_bl0 hK hPc hDc hS hE hFc g_to0 (q0 := 0) (ci := 1) rfl rfl) rfl rfl hl.1 rfl (lv_room (Nat.le_of_ble_eq_true rfl)) dX1_find_2 ⟨Nat.le_of_ble_eq_true rfl, Nat.le_of_ble_eq_true rfl⟩) (fun r9 u9 H locs hw9 hP' hD' hS => ?_)
  clear hPc hDc hFc
  subst hw9
  have hP : va_P (dC, dI) vwCl (b_d cB cC cI cJ cZ oA rA u_1.2) H := hP'
  clear hP' hD'
  refine lv_istore_n (lv' := [(3, .int u_1.1), (0, .ref (oA 7)), (1, .long p0)]) hx hb dX1_find_5 rfl hl (by decide) rfl (fun ls hl => ?_)
  refine lv_iload_n hx hb dX1_find_6 rfl (lv_at hl 0 rfl) ?_
  refine lv_aload_n hx hb dX1_find_7 rfl (lv_at hl 1 rfl) ?_
  refine va_get (D := (dC, dI)) (ci := 1) (v := .int ((u_1.2 7).1 2)) (C := RX1) (T := TX1) (N := 3) hx hb hts ii_X1 hown hK hP 0 rfl rfl 2 (by decide) (hts (.fieldLink RX1 19 "StoryHouse$Dictionary" "count" "I") wq_151) (fun _ h9 => h9) rfl dX1_find_8 ?_
  refine lv_icmp_ge (tgt := 35) hx hb dX1_find_11 (by decide) (fun c_3 => ?_) (fun c_3 => ?_)
  · have hF_4 := ipos c_3 hF_2
    clear hF_2
    refine lv_iconst (v := (-1)) hx hb dX1_find_35 (by decide +kernel) ?_
    have h9 := Option.some.inj hF_4
    subst h9
    exact W.iret (v := (-1)) hx hb hr (fun t ht hW => ⟨⟨(-1), (), rfl, rfl, m_end ht hP, hDD _⟩, hS.F ht⟩) hS.2.2 dX1_find_36
  · have hF_5 := ineg c_3 hF_2
    clear hF_2
    refine lv_aload_n hx hb dX1_find_14 rfl (lv_at hl 1 rfl) ?_
    refine lv_iload_n hx hb dX1_find_15 rfl (lv_at hl 0 rfl) ?_
    obtain ⟨u_6, hu_6, hF_7⟩ := Option.bind_eq_some_iff.mp hF_5
    clear hF_5
    have hPc := bx_P (bs := [b_d cB cC cI cJ cZ oA rA u_1.2]) (bs' := [b_d cB cC cI cJ cZ oA rA u_1.2]) (ws' := (b_d cB cC cI cJ cZ oA rA u_1.2)) hP fl_1 fl_1 [0] rfl
    have hDc := bx_D (bs := [b_d cB cC cI cJ cZ oA rA u_1.2]) (bs' := [b_d cB cC cI cJ cZ oA rA u_1.2]) (ws' := (b_d cB cC cI cJ cZ oA rA u_1.2)) (hDD u_1.2) fl_1 fl_1 [0] (by decide +kernel) rfl
    have hFc := bx_F (bs := [b_d cB cC cI cJ cZ oA rA u_1.2]) (bs' := [b_d cB cC cI cJ cZ oA rA u_1.2]) (wc := (b_d cB cC cI cJ cZ oA rA u_1.2)) (hDD u_1.2) hS hA fl_1 fl_1 [0] rfl
    refine g_ofl (wc := (b_d cB cC cI cJ cZ oA rA u_1.2)) (wr := ([] : va_W)) hP (hDD u_1.2) hS hFc (bx_ix [b_d cB cC cI cJ cZ oA rA u_1.2] [0]) (bx_ix [b_d cB cC cI cJ cZ oA rA u_1.2] []) (bx_C (bs := [b_d cB cC cI cJ cZ oA rA u_1.2]) (bs' := [b_d cB cC cI cJ cZ oA rA u_1.2]) (is := [0]) fl_1 fl_1 rfl) (bx_C (bs := [b_d cB cC cI cJ cZ oA rA u_1.2]) (bs' := []) (is := []) fl_1 fl_0 rfl) (bx_n (by decide +kernel)) (bx_d (by decide +kernel)) (va_runV (As := [.int u_1.1]) (rest := []) ⟨hx, hb, hml, hown, hts⟩ (k_X1_termAt l dC dI cB cC cI cJ cZ cP oA rA H.size  u_1.1 u_1.2 _ hu_6) (cwV 1 hts (g_gV wq_531 wq_532 wq_1992 wq_8 wq_533) rfl rfl rfl (by decide +kernel) ⟨Nat.le_of_ble_eq_true rfl, Nat.le_of_ble_eq_true rfl⟩) (g_preV g_bl0 hK hPc hDc hS hE hFc g_to0 (q0 := 0) (ci := 1) rfl rfl) rfl rfl hl.1 rfl (lv_room (Nat.le_of_ble_eq_true rfl)) dX1_find_16 ⟨Nat.le_of_ble_eq_true rfl, Nat.le_of_ble_eq_true rfl⟩) (fun r9 u9 H locs hw9 hP' hD' hS => ?_)
    clear hPc hDc hFc
    subst hw9
    have hP : va_P (dC, dI) vwCl (b_d cB cC cI cJ cZ oA rA u_6.2) H := hP'
    clear hP' hD'
    refine lv_lload_n hx hb dX1_find_19 rfl (lv_at hl 2 rfl) ?_
    refine W.lcmp hx hb dX1_find_20 ?_
    obtain ⟨x_8, ex_8, hF_9⟩ := bnd_e hF_7
    clear hF_7
    refine m_top ex_8 ?_
    refine lv_if_ne (tgt := 35) hx hb dX1_find_21 (by decide) (fun c_10 => ?_) (fun c_10 => ?_)
    · have hF_14 := ineg c_10 hF_9
      clear hF_9
      refine lv_iconst (v := (-1)) hx hb dX1_find_35 (by decide +kernel) ?_
      have h9 := Option.some.inj hF_14
      subst h9
      exact W.iret (v := (-1)) hx hb hr (fun t ht hW => ⟨⟨(-1), (), rfl, rfl, m_end ht hP, hDD _⟩, hS.F ht⟩) hS.2.2 dX1_find_36
    · have hF_11 := ipos c_10 hF_9
      clear hF_9
      refine lv_aload_n hx hb dX1_find_24 rfl (lv_at hl 1 rfl) ?_
      refine va_get (D := (dC, dI)) (ci := 1) (v := .ref (rA 7 1)) (C := RX1) (T := TX1) (N := 3) hx hb hts ii_X1 hown hK hP 0 rfl rfl 1 (by decide) (hts (.fieldLink RX1 15 "StoryHouse$Dictionary" "numbers" "[I") wq_150) (fun _ h9 => h9) rfl dX1_find_25 ?_
      refine lv_iload_n hx hb dX1_find_28 rfl (lv_at hl 0 rfl) ?_
      have hq9 : ((b_d cB cC cI cJ cZ oA rA u_6.2))[2]? = some (rA 7 1, .inl (cI, 2000, .inl ((u_6.2 7).2.1 1))) := rfl
      have hPc := hP.sub (ws' := [(rA 7 1, .inl (cI, 2000, .inl ((u_6.2 7).2.1 1)))]) [2] (pk_fm (er_C hq9))
      have hDc := (hDD u_6.2).sub (ws' := [(rA 7 1, .inl (cI, 2000, .inl ((u_6.2 7).2.1 1)))]) [2] (by decide +kernel) (er_C hq9)
      have hFc := va_free (wc := [(rA 7 1, .inl (cI, 2000, .inl ((u_6.2 7).2.1 1)))]) (hDD u_6.2) hS hA [2] (er_C hq9)
      refine g_ofi (wc := [(rA 7 1, .inl (cI, 2000, .inl ((u_6.2 7).2.1 1)))]) (wr := (((b_d cB cC cI cJ cZ oA rA u_6.2)).eraseIdx 2)) hP (hDD u_6.2) hS hFc [2] ((List.range ((b_d cB cC cI cJ cZ oA rA u_6.2)).length).eraseIdx 2) (er_C hq9) er_R er_n er_d (va_runSN (As := [.ref (rA 7 1), .int u_1.1]) (rest := []) ⟨hx, hb, hml, hown, hts⟩ (c_X11_at l dC dI cB cC cI cJ cZ cP H.size (rA 7 1) u_1.1 2000 ((u_6.2 7).2.1 1) (by decide)) ⟨va_cnB 2 hts (g_gA wq_407) rfl rfl rfl (nw_16 hN) (hts (.initialized RX11) wq_1) (by decide +kernel) ⟨Nat.le_of_ble_eq_true rfl, Nat.le_of_ble_eq_true rfl⟩, (hts (.static yX11_at) wq_406), trivial⟩ (g_preS g_bl0 hK hPc hDc hS hE hFc g_to0) rfl rfl hl.1 rfl (lv_room (Nat.le_of_ble_eq_true rfl)) dX1_find_29 ⟨Nat.le_of_ble_eq_true rfl, Nat.le_of_ble_eq_true rfl⟩) (fun r9 u9 H locs hw9 hP' hD' hS => ?_)
      clear hPc hDc hFc hD'
      have hP : va_P (dC, dI) vwCl (b_d cB cC cI cJ cZ oA rA u_6.2) H := er_I hP' hq9
      clear hP' hq9
      subst hw9
      obtain ⟨x_12, ex_12, hF_13⟩ := bnd_e hF_11
      clear hF_11
      refine m_top ex_12 ?_
      refine lv_goto (tgt := 36) hx hb dX1_find_32 (by decide) ?_
      have h9 := Option.some.inj hF_13
      subst h9
      exact W.iret (v := x_12) hx hb hr (fun t ht hW => ⟨⟨x_12, (), rfl, rfl, m_end ht hP, hDD _⟩, hS.F ht⟩) hS.2.2 dX1_find_36
theorem dX1_learn_0 : decode cX1_learn 0 = .ok (.aload_n 0, 1) := by decide +kernel
theorem dX1_learn_1 : decode cX1_learn 1 = .ok (.lload_n 1, 1) := by decide +kernel
theorem dX1_learn_2 : decode cX1_learn 2 = .ok (.invokevirtual 23, 3) := by decide +kernel
theorem dX1_learn_5 : decode cX1_learn 5 = .ok (.istore_n 3, 1) := by decide +kernel
theorem dX1_learn_6 : decode cX1_learn 6 = .ok (.iload_n 3, 1) := by decide +kernel
theorem dX1_learn_7 : decode cX1_learn 7 = .ok (.aload_n 0, 1) := by decide +kernel
theorem dX1_learn_8 : decode cX1_learn 8 = .ok (.getfield 19, 3) := by decide +kernel
theorem dX1_learn_11 : decode cX1_learn 11 = .ok (.if_icmp .ge 22, 3) := by decide +kernel
theorem dX1_learn_14 : decode cX1_learn 14 = .ok (.aload_n 0, 1) := by decide +kernel
theorem dX1_learn_15 : decode cX1_learn 15 = .ok (.iload_n 3, 1) := by decide +kernel
theorem dX1_learn_16 : decode cX1_learn 16 = .ok (.invokevirtual 27, 3) := by decide +kernel
theorem dX1_learn_19 : decode cX1_learn 19 = .ok (.lload_n 1, 1) := by decide +kernel
theorem dX1_learn_20 : decode cX1_learn 20 = .ok (.lcmp, 1) := by decide +kernel
theorem dX1_learn_21 : decode cX1_learn 21 = .ok (.ifCond .ne 12, 3) := by decide +kernel
theorem dX1_learn_24 : decode cX1_learn 24 = .ok (.aload_n 0, 1) := by decide +kernel
theorem dX1_learn_25 : decode cX1_learn 25 = .ok (.getfield 15, 3) := by decide +kernel
theorem dX1_learn_28 : decode cX1_learn 28 = .ok (.iload_n 3, 1) := by decide +kernel
theorem dX1_learn_29 : decode cX1_learn 29 = .ok (.invokestatic 31, 3) := by decide +kernel
theorem dX1_learn_32 : decode cX1_learn 32 = .ok (.ireturn, 1) := by decide +kernel
theorem dX1_learn_33 : decode cX1_learn 33 = .ok (.iload_n 3, 1) := by decide +kernel
theorem dX1_learn_34 : decode cX1_learn 34 = .ok (.ifCond .lt 25, 3) := by decide +kernel
theorem dX1_learn_37 : decode cX1_learn 37 = .ok (.aload_n 0, 1) := by decide +kernel
theorem dX1_learn_38 : decode cX1_learn 38 = .ok (.getfield 19, 3) := by decide +kernel
theorem dX1_learn_41 : decode cX1_learn 41 = .ok (.iload_n 3, 1) := by decide +kernel
theorem dX1_learn_42 : decode cX1_learn 42 = .ok (.if_icmp .lt 17, 3) := by decide +kernel
theorem dX1_learn_45 : decode cX1_learn 45 = .ok (.aload_n 0, 1) := by decide +kernel
theorem dX1_learn_46 : decode cX1_learn 46 = .ok (.getfield 19, 3) := by decide +kernel
theorem dX1_learn_49 : decode cX1_learn 49 = .ok (.iconst 1, 1) := by decide +kernel
theorem dX1_learn_50 : decode cX1_learn 50 = .ok (.iadd, 1) := by decide +kernel
theorem dX1_learn_51 : decode cX1_learn 51 = .ok (.aload_n 0, 1) := by decide +kernel
theorem dX1_learn_52 : decode cX1_learn 52 = .ok (.getfield 11, 3) := by decide +kernel
theorem dX1_learn_55 : decode cX1_learn 55 = .ok (.arraylength, 1) := by decide +kernel
theorem dX1_learn_56 : decode cX1_learn 56 = .ok (.if_icmp .lt 5, 3) := by decide +kernel
theorem dX1_learn_59 : decode cX1_learn 59 = .ok (.iconst (-1), 1) := by decide +kernel
theorem dX1_learn_60 : decode cX1_learn 60 = .ok (.ireturn, 1) := by decide +kernel
theorem dX1_learn_61 : decode cX1_learn 61 = .ok (.aload_n 0, 1) := by decide +kernel
theorem dX1_learn_62 : decode cX1_learn 62 = .ok (.getfield 11, 3) := by decide +kernel
theorem dX1_learn_65 : decode cX1_learn 65 = .ok (.iload_n 3, 1) := by decide +kernel
theorem dX1_learn_66 : decode cX1_learn 66 = .ok (.aload_n 0, 1) := by decide +kernel
theorem dX1_learn_67 : decode cX1_learn 67 = .ok (.getfield 11, 3) := by decide +kernel
theorem dX1_learn_70 : decode cX1_learn 70 = .ok (.iload_n 3, 1) := by decide +kernel
theorem dX1_learn_71 : decode cX1_learn 71 = .ok (.iconst 1, 1) := by decide +kernel
theorem dX1_learn_72 : decode cX1_learn 72 = .ok (.iadd, 1) := by decide +kernel
theorem dX1_learn_73 : decode cX1_learn 73 = .ok (.aload_n 0, 1) := by decide +kernel
theorem dX1_learn_74 : decode cX1_learn 74 = .ok (.getfield 19, 3) := by decide +kernel
theorem dX1_learn_77 : decode cX1_learn 77 = .ok (.iload_n 3, 1) := by decide +kernel
theorem dX1_learn_78 : decode cX1_learn 78 = .ok (.isub, 1) := by decide +kernel
theorem dX1_learn_79 : decode cX1_learn 79 = .ok (.invokestatic 35, 3) := by decide +kernel
theorem dX1_learn_82 : decode cX1_learn 82 = .ok (.aload_n 0, 1) := by decide +kernel
theorem dX1_learn_83 : decode cX1_learn 83 = .ok (.getfield 15, 3) := by decide +kernel
theorem dX1_learn_86 : decode cX1_learn 86 = .ok (.iload_n 3, 1) := by decide +kernel
theorem dX1_learn_87 : decode cX1_learn 87 = .ok (.aload_n 0, 1) := by decide +kernel
theorem dX1_learn_88 : decode cX1_learn 88 = .ok (.getfield 15, 3) := by decide +kernel
theorem dX1_learn_91 : decode cX1_learn 91 = .ok (.iload_n 3, 1) := by decide +kernel
theorem dX1_learn_92 : decode cX1_learn 92 = .ok (.iconst 1, 1) := by decide +kernel
theorem dX1_learn_93 : decode cX1_learn 93 = .ok (.iadd, 1) := by decide +kernel
theorem dX1_learn_94 : decode cX1_learn 94 = .ok (.aload_n 0, 1) := by decide +kernel
theorem dX1_learn_95 : decode cX1_learn 95 = .ok (.getfield 19, 3) := by decide +kernel
theorem dX1_learn_98 : decode cX1_learn 98 = .ok (.iload_n 3, 1) := by decide +kernel
theorem dX1_learn_99 : decode cX1_learn 99 = .ok (.isub, 1) := by decide +kernel
theorem dX1_learn_100 : decode cX1_learn 100 = .ok (.invokestatic 35, 3) := by decide +kernel
theorem dX1_learn_103 : decode cX1_learn 103 = .ok (.aload_n 0, 1) := by decide +kernel
theorem dX1_learn_104 : decode cX1_learn 104 = .ok (.getfield 11, 3) := by decide +kernel
theorem dX1_learn_107 : decode cX1_learn 107 = .ok (.iload_n 3, 1) := by decide +kernel
theorem dX1_learn_108 : decode cX1_learn 108 = .ok (.lload_n 1, 1) := by decide +kernel
theorem dX1_learn_109 : decode cX1_learn 109 = .ok (.lastore, 1) := by decide +kernel
theorem dX1_learn_110 : decode cX1_learn 110 = .ok (.aload_n 0, 1) := by decide +kernel
theorem dX1_learn_111 : decode cX1_learn 111 = .ok (.getfield 15, 3) := by decide +kernel
theorem dX1_learn_114 : decode cX1_learn 114 = .ok (.iload_n 3, 1) := by decide +kernel
theorem dX1_learn_115 : decode cX1_learn 115 = .ok (.aload_n 0, 1) := by decide +kernel
theorem dX1_learn_116 : decode cX1_learn 116 = .ok (.getfield 19, 3) := by decide +kernel
theorem dX1_learn_119 : decode cX1_learn 119 = .ok (.iastore, 1) := by decide +kernel
theorem dX1_learn_120 : decode cX1_learn 120 = .ok (.aload_n 0, 1) := by decide +kernel
theorem dX1_learn_121 : decode cX1_learn 121 = .ok (.dup, 1) := by decide +kernel
theorem dX1_learn_122 : decode cX1_learn 122 = .ok (.getfield 19, 3) := by decide +kernel
theorem dX1_learn_125 : decode cX1_learn 125 = .ok (.iconst 1, 1) := by decide +kernel
theorem dX1_learn_126 : decode cX1_learn 126 = .ok (.iadd, 1) := by decide +kernel
theorem dX1_learn_127 : decode cX1_learn 127 = .ok (.putfield 19, 3) := by decide +kernel
theorem dX1_learn_130 : decode cX1_learn 130 = .ok (.aload_n 0, 1) := by decide +kernel
theorem dX1_learn_131 : decode cX1_learn 131 = .ok (.getfield 19, 3) := by decide +kernel
theorem dX1_learn_134 : decode cX1_learn 134 = .ok (.iconst 1, 1) := by decide +kernel
theorem dX1_learn_135 : decode cX1_learn 135 = .ok (.isub, 1) := by decide +kernel
theorem dX1_learn_136 : decode cX1_learn 136 = .ok (.ireturn, 1) := by decide +kernel
def F_X1_learn (p0 : Int64) (Γ : HS) : HR :=
  (F_X1_placeOf p0 Γ).bind fun u_1 =>
  bnd (fun  (σ_3 : HS) => (
    if u_1.1 < 0 then (
      some ((-1), σ_3)
    ) else (
      if ((σ_3 7).1 2) < u_1.1 then (
        some ((-1), σ_3)
      ) else (
        if (((σ_3 7).1 2) + 1) < 2000 then (
          bnd ((((σ_3 7).1 2) - u_1.1)) fun (x_15 : Int32) =>
          if u_1.1 < 0 ∨ (u_1.1 + 1) < 0 ∨ x_15 < 0 ∨ 2000 < u_1.1.toNatClampNeg + x_15.toNatClampNeg ∨ 2000 < (u_1.1 + 1).toNatClampNeg + x_15.toNatClampNeg then none else
          bnd (cL' σ_3 7 0 (va_cpy ((σ_3 7).2.2 0) ((σ_3 7).2.2 0) u_1.1.toNatClampNeg (u_1.1 + 1).toNatClampNeg x_15.toNatClampNeg)) fun σ_19 =>
          bnd ((((σ_19 7).1 2) - u_1.1)) fun (x_21 : Int32) =>
          if u_1.1 < 0 ∨ (u_1.1 + 1) < 0 ∨ x_21 < 0 ∨ 2000 < u_1.1.toNatClampNeg + x_21.toNatClampNeg ∨ 2000 < (u_1.1 + 1).toNatClampNeg + x_21.toNatClampNeg then none else
          bnd (cA' σ_19 7 1 (va_cpy ((σ_19 7).2.1 1) ((σ_19 7).2.1 1) u_1.1.toNatClampNeg (u_1.1 + 1).toNatClampNeg x_21.toNatClampNeg)) fun σ_25 =>
          if u_1.1 < 0 ∨ 2000 ≤ u_1.1.toNatClampNeg then none else
          bnd (cL' σ_25 7 0 (vp_updL ((σ_25 7).2.2 0) u_1.1.toNatClampNeg p0)) fun σ_29 =>
          if u_1.1 < 0 ∨ 2000 ≤ u_1.1.toNatClampNeg then none else
          bnd (cA' σ_29 7 1 (upd ((σ_29 7).2.1 1) u_1.1.toNatClampNeg ((σ_29 7).1 2))) fun σ_33 =>
          bnd (cI' σ_33 7 2 (((σ_33 7).1 2) + 1)) fun σ_35 =>
          some ((((σ_35 7).1 2) - 1), σ_35)
        ) else (
          some ((-1), σ_3)
        )
      )
    )
  ) : HS → HR) fun j_4 =>
  if ((u_1.2 7).1 2) ≤ u_1.1 then (
    j_4  u_1.2
  ) else (
    (F_X1_termAt u_1.1 u_1.2).bind fun u_41 =>
    bnd ((lg_cmp u_41.1 p0)) fun (x_43 : Int32) =>
    if x_43 = 0 then (
      bnd ((g_at 2000 ((u_41.2 7).2.1 1) u_1.1)) fun (x_47 : Int32) =>
      some (x_47, u_41.2)
    ) else (
      j_4  u_41.2
    )
  )
set_option maxHeartbeats 4000000 in
set_option maxRecDepth 100000 in
theorem k_X1_learn (l : Launch) (dC : Nat → ClassId) (dI : Nat → Nat → Nat) (cB cC cI cJ cZ cP : ClassId) (oA : Nat → Nat) (rA : Nat → Nat → Nat) (sz : Nat)  (p0 : Int64) (Γ : HS) (res : Int32 × HS) (hF : F_X1_learn p0 Γ = some res) : Met l yX1_learn (g_ws yX1_learn cX1_learn 4 (some .int)) ({ frames := 3, cells := 0, slots := 0, locals := 81 }) (va_Pc [.ref (oA 7), .long p0] (g_B (dC, dI) [(cB, .byte), (cC, .char), (cI, .int), (cJ, .long), (cZ, .boolean), (cP, .object "StoryHouse$Play")] sz (b_d cB cC cI cJ cZ oA rA Γ) g_0)) (va_Qi (fun r (_ : Unit) => r = res.1) (g_Bo (dC, dI) (va_A (b_d cB cC cI cJ cZ oA rA Γ) sz) (fun (_ : Unit) => (b_d cB cC cI cJ cZ oA rA res.2))) (va_A (b_d cB cC cI cJ cZ oA rA Γ) sz)) 0 0 (va_A (b_d cB cC cI cJ cZ oA rA Γ) sz) := by
  refine Met.ofW (cc := cX1_learn) (maxL := 4) (ret := (some .int)) (by decide) rfl ?_
  intro p e s m args below meth c s₁ B hml hv
  obtain ⟨rfl, hsz, hP, hK, hD0, hE, hX⟩ := hv
  have hx := B.exec
  have hb := B.bytes
  have hr := B.returns
  have hts0 := atoms_spec (ws := g_ws yX1_learn cX1_learn 4 (some .int)) B.pre
  have hts : ∀ w ∈ lw_good, w.before ([.ref (oA 7), .long p0] : List Value).toArray s = true := fun w z => hts0 w (List.mem_cons_of_mem _ z)
  have hown : s.vm.findClass RX1 = some m.cls := findClass_of_methodNamed B.named
  have hlocks := B.notSynchronized
  subst hsz
  have hD1 := hD0.self (sz := s.heap.size)
  generalize hAe : va_A (b_d cB cC cI cJ cZ oA rA Γ) s.heap.size = A at hD1 hE hX ⊢
  have hA : ∀ q : Nat, s.heap.size ≤ q → A q := fun q z => by rw [← hAe]; exact Or.inr z
  have hDD : ∀ Γ : HS, va_D A (b_d cB cC cI cJ cZ oA rA Γ) := fun Γ9 => va_D_fst (ws := (b_d cB cC cI cJ cZ oA rA Γ)) (ws' := (b_d cB cC cI cJ cZ oA rA Γ9)) rfl hD1
  have hN := hE.1
  have hS : va_S A s.heap s.heap [] := va_S.rf
  have hl := lv_entry ([.ref (oA 7), .long p0]) (n := 4) (Nat.le_of_ble_eq_true rfl)
  rw [lg_entry_eq]
  generalize (lg_sl ([.ref (oA 7), .long p0]) ++ List.replicate (4 - (lg_sl ([.ref (oA 7), .long p0])).length) Slot.unset).toArray = ls at hl ⊢
  have hl : lv_has ls 4 [(0, .ref (oA 7)), (1, .long p0)] := hl
  unfold F_X1_learn at hF
  refine lv_aload_n hx hb dX1_learn_0 rfl (lv_at hl 0 rfl) ?_
  refine lv_lload_n hx hb dX1_learn_1 rfl (lv_at hl 1 rfl) ?_
  obtain ⟨u_1, hu_1, hF_2⟩ := Option.bind_eq_some_iff.mp hF
  clear hF
  have hPc := bx_P (bs := [b_d cB cC cI cJ cZ oA rA Γ]) (bs' := [b_d cB cC cI cJ cZ oA rA Γ]) (ws' := (b_d cB cC cI cJ cZ oA rA Γ)) hP fl_1 fl_1 [0] rfl
  have hDc := bx_D (bs := [b_d cB cC cI cJ cZ oA rA Γ]) (bs' := [b_d cB cC cI cJ cZ oA rA Γ]) (ws' := (b_d cB cC cI cJ cZ oA rA Γ)) (hDD Γ) fl_1 fl_1 [0] (by decide +kernel) rfl
  have hFc := bx_F (bs := [b_d cB cC cI cJ cZ oA rA Γ]) (bs' := [b_d cB cC cI cJ cZ oA rA Γ]) (wc := (b_d cB cC cI cJ cZ oA rA Γ)) (hDD Γ) hS hA fl_1 fl_1 [0] rfl
  refine g_ofi (wc := (b_d cB cC cI cJ cZ oA rA Γ)) (wr := ([] : va_W)) hP (hDD Γ) hS hFc (bx_ix [b_d cB cC cI cJ cZ oA rA Γ] [0]) (bx_ix [b_d cB cC cI cJ cZ oA rA Γ] []) (bx_C (bs := [b_d cB cC cI cJ cZ oA rA Γ]) (bs' := [b_d cB cC cI cJ cZ oA rA Γ]) (is := [0]) fl_1 fl_1 rfl) (bx_C (bs := [b_d cB cC cI cJ cZ oA rA Γ]) (bs' := []) (is := []) fl_1 fl_0 rfl) (bx_n (by decide +kernel)) (bx_d (by decide +kernel)) (va_runV (As := [.long p0]) (rest := []) ⟨hx, hb, hml, hown, hts⟩ (k_X1_placeOf l dC dI cB cC cI cJ cZ cP oA rA s.heap.size  p0 Γ _ hu_1) (cwV 1 hts (g_gV wq_528 wq_529 wq_1991 wq_8 wq_530) rfl rfl rfl (by decide +kernel) ⟨Nat.le_of_ble_eq_true rfl, Nat.le_of_ble_eq_true rfl⟩) (g_preV g_bl0 hK hPc hDc hS hE hFc g_to0 (q0 := 0) (ci := 1) rfl rfl) rfl rfl hl.1 rfl (lv_room (Nat.le_of_ble_eq_true rfl)) dX1_learn_2 ⟨Nat.le_of_ble_eq_true rfl, Nat.le_of_ble_eq_true rfl⟩) (fun r9 u9 H locs hw9 hP' hD' hS => ?_)
  clear hPc hDc hFc
  subst hw9
  have hP : va_P (dC, dI) vwCl (b_d cB cC cI cJ cZ oA rA u_1.2) H := hP'
  clear hP' hD'
  refine lv_istore_n (lv' := [(3, .int u_1.1), (0, .ref (oA 7)), (1, .long p0)]) hx hb dX1_learn_5 rfl hl (by decide) rfl (fun ls hl => ?_)
  refine lv_iload_n hx hb dX1_learn_6 rfl (lv_at hl 0 rfl) ?_
  refine lv_aload_n hx hb dX1_learn_7 rfl (lv_at hl 1 rfl) ?_
  refine va_get (D := (dC, dI)) (ci := 1) (v := .int ((u_1.2 7).1 2)) (C := RX1) (T := TX1) (N := 3) hx hb hts ii_X1 hown hK hP 0 rfl rfl 2 (by decide) (hts (.fieldLink RX1 19 "StoryHouse$Dictionary" "count" "I") wq_151) (fun _ h9 => h9) rfl dX1_learn_8 ?_
  obtain ⟨j_4, ej_4, hF_5⟩ := bnd_e hF_2
  clear hF_2
  have Jj_4 : ∀  (σ_3 : HS), j_4  σ_3 = some res → ∀ (H : Heap) (locs : List Loc), va_P (dC, dI) vwCl (b_d cB cC cI cJ cZ oA rA σ_3) H → va_S A s.heap H locs → ∀ ls : Array Slot, lv_has ls 4 [(0, .ref (oA 7)), (1, .long p0), (3, .int u_1.1)] → W p l e (headSpec (g_ws yX1_learn cX1_learn 4 (some .int)) { frames := 3, cells := 0, slots := 0, locals := 81 }).room s m ([.ref (oA 7), .long p0] : List Value).toArray below meth c H locs 0 0 (MQ below (va_Qi (fun r (_ : Unit) => r = res.1) (g_Bo (dC, dI) A (fun (_ : Unit) => (b_d cB cC cI cJ cZ oA rA res.2))) A) ([.ref (oA 7), .long p0] : List Value).toArray s 0 0 A) (F0 m 33 ls []) := by
    intro  σ_3 hF0 H locs hP hS ls hl
    subst ej_4
    have hF_6 := hF0
    clear hF0
    refine lv_iload_n hx hb dX1_learn_33 rfl (lv_at hl 2 rfl) ?_
    refine lv_if_lt (tgt := 59) hx hb dX1_learn_34 (by decide) (fun c_7 => ?_) (fun c_7 => ?_)
    · have hF_8 := ipos c_7 hF_6
      clear hF_6
      refine lv_iconst (v := (-1)) hx hb dX1_learn_59 (by decide +kernel) ?_
      have h9 := Option.some.inj hF_8
      subst h9
      exact W.iret (v := (-1)) hx hb hr (fun t ht hW => ⟨⟨(-1), (), rfl, rfl, m_end ht hP, hDD _⟩, hS.F ht⟩) hS.2.2 dX1_learn_60
    · have hF_9 := ineg c_7 hF_6
      clear hF_6
      refine lv_aload_n hx hb dX1_learn_37 rfl (lv_at hl 0 rfl) ?_
      refine va_get (D := (dC, dI)) (ci := 1) (v := .int ((σ_3 7).1 2)) (C := RX1) (T := TX1) (N := 3) hx hb hts ii_X1 hown hK hP 0 rfl rfl 2 (by decide) (hts (.fieldLink RX1 19 "StoryHouse$Dictionary" "count" "I") wq_151) (fun _ h9 => h9) rfl dX1_learn_38 ?_
      refine lv_iload_n hx hb dX1_learn_41 rfl (lv_at hl 2 rfl) ?_
      refine lv_icmp_lt (tgt := 59) hx hb dX1_learn_42 (by decide) (fun c_10 => ?_) (fun c_10 => ?_)
      · have hF_11 := ipos c_10 hF_9
        clear hF_9
        refine lv_iconst (v := (-1)) hx hb dX1_learn_59 (by decide +kernel) ?_
        have h9 := Option.some.inj hF_11
        subst h9
        exact W.iret (v := (-1)) hx hb hr (fun t ht hW => ⟨⟨(-1), (), rfl, rfl, m_end ht hP, hDD _⟩, hS.F ht⟩) hS.2.2 dX1_learn_60
      · have hF_12 := ineg c_10 hF_9
        clear hF_9
        refine lv_aload_n hx hb dX1_learn_45 rfl (lv_at hl 0 rfl) ?_
        refine va_get (D := (dC, dI)) (ci := 1) (v := .int ((σ_3 7).1 2)) (C := RX1) (T := TX1) (N := 3) hx hb hts ii_X1 hown hK hP 0 rfl rfl 2 (by decide) (hts (.fieldLink RX1 19 "StoryHouse$Dictionary" "count" "I") wq_151) (fun _ h9 => h9) rfl dX1_learn_46 ?_
        refine lv_iconst (v := 1) hx hb dX1_learn_49 (by decide +kernel) ?_
        refine lv_iadd hx hb dX1_learn_50 ?_
        refine lv_aload_n hx hb dX1_learn_51 rfl (lv_at hl 0 rfl) ?_
        refine va_get (D := (dC, dI)) (ci := 1) (v := .ref (rA 7 0)) (C := RX1) (T := TX1) (N := 3) hx hb hts ii_X1 hown hK hP 0 rfl rfl 0 (by decide) (hts (.fieldLink RX1 11 "StoryHouse$Dictionary" "terms" "[J") wq_149) (fun _ h9 => h9) rfl dX1_learn_52 ?_
        refine va_alen (v := 2000) hx hb hK hP 1 3 rfl rfl (by first | rfl | decide +kernel) dX1_learn_55 ?_
        refine lv_icmp_lt (tgt := 61) hx hb dX1_learn_56 (by decide) (fun c_13 => ?_) (fun c_13 => ?_)
        · have hF_14 := ipos c_13 hF_12
          clear hF_12
          refine lv_aload_n hx hb dX1_learn_61 rfl (lv_at hl 0 rfl) ?_
          refine va_get (D := (dC, dI)) (ci := 1) (v := .ref (rA 7 0)) (C := RX1) (T := TX1) (N := 3) hx hb hts ii_X1 hown hK hP 0 rfl rfl 0 (by decide) (hts (.fieldLink RX1 11 "StoryHouse$Dictionary" "terms" "[J") wq_149) (fun _ h9 => h9) rfl dX1_learn_62 ?_
          refine lv_iload_n hx hb dX1_learn_65 rfl (lv_at hl 2 rfl) ?_
          refine lv_aload_n hx hb dX1_learn_66 rfl (lv_at hl 0 rfl) ?_
          refine va_get (D := (dC, dI)) (ci := 1) (v := .ref (rA 7 0)) (C := RX1) (T := TX1) (N := 3) hx hb hts ii_X1 hown hK hP 0 rfl rfl 0 (by decide) (hts (.fieldLink RX1 11 "StoryHouse$Dictionary" "terms" "[J") wq_149) (fun _ h9 => h9) rfl dX1_learn_67 ?_
          refine lv_iload_n hx hb dX1_learn_70 rfl (lv_at hl 2 rfl) ?_
          refine lv_iconst (v := 1) hx hb dX1_learn_71 (by decide +kernel) ?_
          refine lv_iadd hx hb dX1_learn_72 ?_
          refine lv_aload_n hx hb dX1_learn_73 rfl (lv_at hl 0 rfl) ?_
          refine va_get (D := (dC, dI)) (ci := 1) (v := .int ((σ_3 7).1 2)) (C := RX1) (T := TX1) (N := 3) hx hb hts ii_X1 hown hK hP 0 rfl rfl 2 (by decide) (hts (.fieldLink RX1 19 "StoryHouse$Dictionary" "count" "I") wq_151) (fun _ h9 => h9) rfl dX1_learn_74 ?_
          refine lv_iload_n hx hb dX1_learn_77 rfl (lv_at hl 2 rfl) ?_
          refine lv_isub hx hb dX1_learn_78 ?_
          obtain ⟨x_15, ex_15, hF_16⟩ := bnd_e hF_14
          clear hF_14
          refine m_top ex_15 ?_
          obtain ⟨g_17, hF_18⟩ := nif_e hF_16
          clear hF_16
          obtain ⟨σ_19, eσ_19, hF_20⟩ := bnd_e hF_18
          clear hF_18
          refine va_copyl (f := (σ_3 7).2.2 0) (g := (σ_3 7).2.2 0) hx hb (hml.trans hl.1.symm) hown (hts (.methodLink RX1 35 arraycopyName) wq_534) (hts (.native arraycopyName) wq_338) (hts (.static arraycopyName) wq_337) (hts (.initialized RJ10) wq_20) hK hP (hDD _) hS 1 1 3 3 rfl rfl rfl rfl rfl (fun z => g_17 (Or.inl z)) (fun z => g_17 (Or.inr (Or.inl z))) (fun z => g_17 (Or.inr (Or.inr (Or.inl z)))) (Nat.not_lt.mp (fun z => g_17 (Or.inr (Or.inr (Or.inr (Or.inl z)))))) (Nat.not_lt.mp (fun z => g_17 (Or.inr (Or.inr (Or.inr (Or.inr z)))))) (fun _ _ => rfl) (by decide +kernel) (by decide +kernel) dX1_learn_79 (fun H locs hP' _ hS => ?_)
          have hP : va_P (dC, dI) vwCl (b_d cB cC cI cJ cZ oA rA σ_19) H := by rw [eσ_19]; exact cs_d_d_0 ▸ hP'
          clear hP'
          refine lv_aload_n hx hb dX1_learn_82 rfl (lv_at hl 0 rfl) ?_
          refine va_get (D := (dC, dI)) (ci := 1) (v := .ref (rA 7 1)) (C := RX1) (T := TX1) (N := 3) hx hb hts ii_X1 hown hK hP 0 rfl rfl 1 (by decide) (hts (.fieldLink RX1 15 "StoryHouse$Dictionary" "numbers" "[I") wq_150) (fun _ h9 => h9) rfl dX1_learn_83 ?_
          refine lv_iload_n hx hb dX1_learn_86 rfl (lv_at hl 2 rfl) ?_
          refine lv_aload_n hx hb dX1_learn_87 rfl (lv_at hl 0 rfl) ?_
          refine va_get (D := (dC, dI)) (ci := 1) (v := .ref (rA 7 1)) (C := RX1) (T := TX1) (N := 3) hx hb hts ii_X1 hown hK hP 0 rfl rfl 1 (by decide) (hts (.fieldLink RX1 15 "StoryHouse$Dictionary" "numbers" "[I") wq_150) (fun _ h9 => h9) rfl dX1_learn_88 ?_
          refine lv_iload_n hx hb dX1_learn_91 rfl (lv_at hl 2 rfl) ?_
          refine lv_iconst (v := 1) hx hb dX1_learn_92 (by decide +kernel) ?_
          refine lv_iadd hx hb dX1_learn_93 ?_
          refine lv_aload_n hx hb dX1_learn_94 rfl (lv_at hl 0 rfl) ?_
          refine va_get (D := (dC, dI)) (ci := 1) (v := .int ((σ_19 7).1 2)) (C := RX1) (T := TX1) (N := 3) hx hb hts ii_X1 hown hK hP 0 rfl rfl 2 (by decide) (hts (.fieldLink RX1 19 "StoryHouse$Dictionary" "count" "I") wq_151) (fun _ h9 => h9) rfl dX1_learn_95 ?_
          refine lv_iload_n hx hb dX1_learn_98 rfl (lv_at hl 2 rfl) ?_
          refine lv_isub hx hb dX1_learn_99 ?_
          obtain ⟨x_21, ex_21, hF_22⟩ := bnd_e hF_20
          clear hF_20
          refine m_top ex_21 ?_
          obtain ⟨g_23, hF_24⟩ := nif_e hF_22
          clear hF_22
          obtain ⟨σ_25, eσ_25, hF_26⟩ := bnd_e hF_24
          clear hF_24
          refine va_copyi (f := (σ_19 7).2.1 1) (g := (σ_19 7).2.1 1) hx hb (hml.trans hl.1.symm) hown (hts (.methodLink RX1 35 arraycopyName) wq_534) (hts (.native arraycopyName) wq_338) (hts (.static arraycopyName) wq_337) (hts (.initialized RJ10) wq_20) hK hP (hDD _) hS 2 2 2 2 rfl rfl rfl rfl rfl (fun z => g_23 (Or.inl z)) (fun z => g_23 (Or.inr (Or.inl z))) (fun z => g_23 (Or.inr (Or.inr (Or.inl z)))) (Nat.not_lt.mp (fun z => g_23 (Or.inr (Or.inr (Or.inr (Or.inl z)))))) (Nat.not_lt.mp (fun z => g_23 (Or.inr (Or.inr (Or.inr (Or.inr z)))))) (fun _ _ => rfl) (by decide +kernel) (by decide +kernel) dX1_learn_100 (fun H locs hP' _ hS => ?_)
          have hP : va_P (dC, dI) vwCl (b_d cB cC cI cJ cZ oA rA σ_25) H := by rw [eσ_25]; exact cs_d_d_1 ▸ hP'
          clear hP'
          refine lv_aload_n hx hb dX1_learn_103 rfl (lv_at hl 0 rfl) ?_
          refine va_get (D := (dC, dI)) (ci := 1) (v := .ref (rA 7 0)) (C := RX1) (T := TX1) (N := 3) hx hb hts ii_X1 hown hK hP 0 rfl rfl 0 (by decide) (hts (.fieldLink RX1 11 "StoryHouse$Dictionary" "terms" "[J") wq_149) (fun _ h9 => h9) rfl dX1_learn_104 ?_
          refine lv_iload_n hx hb dX1_learn_107 rfl (lv_at hl 2 rfl) ?_
          refine lv_lload_n hx hb dX1_learn_108 rfl (lv_at hl 1 rfl) ?_
          obtain ⟨g_27, hF_28⟩ := nif_e hF_26
          clear hF_26
          obtain ⟨σ_29, eσ_29, hF_30⟩ := bnd_e hF_28
          clear hF_28
          refine va_last (f := (σ_25 7).2.2 0) hx hb hK hP (hDD _) hS 1 3 rfl rfl g_27 dX1_learn_109 (fun H locs hP' _ hS => ?_)
          have hP : va_P (dC, dI) vwCl (b_d cB cC cI cJ cZ oA rA σ_29) H := by rw [eσ_29]; exact cs_d_d_0 ▸ hP'
          clear hP'
          refine lv_aload_n hx hb dX1_learn_110 rfl (lv_at hl 0 rfl) ?_
          refine va_get (D := (dC, dI)) (ci := 1) (v := .ref (rA 7 1)) (C := RX1) (T := TX1) (N := 3) hx hb hts ii_X1 hown hK hP 0 rfl rfl 1 (by decide) (hts (.fieldLink RX1 15 "StoryHouse$Dictionary" "numbers" "[I") wq_150) (fun _ h9 => h9) rfl dX1_learn_111 ?_
          refine lv_iload_n hx hb dX1_learn_114 rfl (lv_at hl 2 rfl) ?_
          refine lv_aload_n hx hb dX1_learn_115 rfl (lv_at hl 0 rfl) ?_
          refine va_get (D := (dC, dI)) (ci := 1) (v := .int ((σ_29 7).1 2)) (C := RX1) (T := TX1) (N := 3) hx hb hts ii_X1 hown hK hP 0 rfl rfl 2 (by decide) (hts (.fieldLink RX1 19 "StoryHouse$Dictionary" "count" "I") wq_151) (fun _ h9 => h9) rfl dX1_learn_116 ?_
          obtain ⟨g_31, hF_32⟩ := nif_e hF_30
          clear hF_30
          obtain ⟨σ_33, eσ_33, hF_34⟩ := bnd_e hF_32
          clear hF_32
          refine va_iast (f := (σ_29 7).2.1 1) hx hb hK hP (hDD _) hS 2 2 rfl rfl g_31 dX1_learn_119 (fun H locs hP' _ hS => ?_)
          have hP : va_P (dC, dI) vwCl (b_d cB cC cI cJ cZ oA rA σ_33) H := by rw [eσ_33]; exact cs_d_d_1 ▸ hP'
          clear hP'
          refine lv_aload_n hx hb dX1_learn_120 rfl (lv_at hl 0 rfl) ?_
          refine lv_dup hx hb dX1_learn_121 rfl ?_
          refine va_get (D := (dC, dI)) (ci := 1) (v := .int ((σ_33 7).1 2)) (C := RX1) (T := TX1) (N := 3) hx hb hts ii_X1 hown hK hP 0 rfl rfl 2 (by decide) (hts (.fieldLink RX1 19 "StoryHouse$Dictionary" "count" "I") wq_151) (fun _ h9 => h9) rfl dX1_learn_122 ?_
          refine lv_iconst (v := 1) hx hb dX1_learn_125 (by decide +kernel) ?_
          refine lv_iadd hx hb dX1_learn_126 ?_
          obtain ⟨σ_35, eσ_35, hF_36⟩ := bnd_e hF_34
          clear hF_34
          refine va_put (D := (dC, dI)) (ci := 1) (v := .int (((σ_33 7).1 2) + 1)) (ty := .int) (C := RX1) (T := TX1) (N := 3) hx hb hts ii_X1 tyX1 tyX1_ok nmX1 hown hK hP (hDD _) hS 0 rfl rfl 2 (by decide) (hts (.fieldLink RX1 19 "StoryHouse$Dictionary" "count" "I") wq_151) (fun _ h9 => h9) rfl (by decide +kernel) rfl rfl (Nat.le_of_ble_eq_true rfl) dX1_learn_127 (fun H locs hP' _ hS => ?_)
          have hP : va_P (dC, dI) vwCl (b_d cB cC cI cJ cZ oA rA σ_35) H := by rw [eσ_35]; exact cs_d_d_2 ▸ hP'
          clear hP'
          refine lv_aload_n hx hb dX1_learn_130 rfl (lv_at hl 0 rfl) ?_
          refine va_get (D := (dC, dI)) (ci := 1) (v := .int ((σ_35 7).1 2)) (C := RX1) (T := TX1) (N := 3) hx hb hts ii_X1 hown hK hP 0 rfl rfl 2 (by decide) (hts (.fieldLink RX1 19 "StoryHouse$Dictionary" "count" "I") wq_151) (fun _ h9 => h9) rfl dX1_learn_131 ?_
          refine lv_iconst (v := 1) hx hb dX1_learn_134 (by decide +kernel) ?_
          refine lv_isub hx hb dX1_learn_135 ?_
          have h9 := Option.some.inj hF_36
          subst h9
          exact W.iret (v := (((σ_35 7).1 2) - 1)) hx hb hr (fun t ht hW => ⟨⟨(((σ_35 7).1 2) - 1), (), rfl, rfl, m_end ht hP, hDD _⟩, hS.F ht⟩) hS.2.2 dX1_learn_136
        · have hF_37 := ineg c_13 hF_12
          clear hF_12
          refine lv_iconst (v := (-1)) hx hb dX1_learn_59 (by decide +kernel) ?_
          have h9 := Option.some.inj hF_37
          subst h9
          exact W.iret (v := (-1)) hx hb hr (fun t ht hW => ⟨⟨(-1), (), rfl, rfl, m_end ht hP, hDD _⟩, hS.F ht⟩) hS.2.2 dX1_learn_60
  refine lv_icmp_ge (tgt := 33) hx hb dX1_learn_11 (by decide) (fun c_38 => ?_) (fun c_38 => ?_)
  · have hF_39 := ipos c_38 hF_5
    clear hF_5
    exact Jj_4  u_1.2 hF_39 _ _ hP hS ls (lv_sub hl [1, 2, 0] rfl)
  · have hF_40 := ineg c_38 hF_5
    clear hF_5
    refine lv_aload_n hx hb dX1_learn_14 rfl (lv_at hl 1 rfl) ?_
    refine lv_iload_n hx hb dX1_learn_15 rfl (lv_at hl 0 rfl) ?_
    obtain ⟨u_41, hu_41, hF_42⟩ := Option.bind_eq_some_iff.mp hF_40
    clear hF_40
    have hPc := bx_P (bs := [b_d cB cC cI cJ cZ oA rA u_1.2]) (bs' := [b_d cB cC cI cJ cZ oA rA u_1.2]) (ws' := (b_d cB cC cI cJ cZ oA rA u_1.2)) hP fl_1 fl_1 [0] rfl
    have hDc := bx_D (bs := [b_d cB cC cI cJ cZ oA rA u_1.2]) (bs' := [b_d cB cC cI cJ cZ oA rA u_1.2]) (ws' := (b_d cB cC cI cJ cZ oA rA u_1.2)) (hDD u_1.2) fl_1 fl_1 [0] (by decide +kernel) rfl
    have hFc := bx_F (bs := [b_d cB cC cI cJ cZ oA rA u_1.2]) (bs' := [b_d cB cC cI cJ cZ oA rA u_1.2]) (wc := (b_d cB cC cI cJ cZ oA rA u_1.2)) (hDD u_1.2) hS hA fl_1 fl_1 [0] rfl
    refine g_ofl (wc := (b_d cB cC cI cJ cZ oA rA u_1.2)) (wr := ([] : va_W)) hP (hDD u_1.2) hS hFc (bx_ix [b_d cB cC cI cJ cZ oA rA u_1.2] [0]) (bx_ix [b_d cB cC cI cJ cZ oA rA u_1.2] []) (bx_C (bs := [b_d cB cC cI cJ cZ oA rA u_1.2]) (bs' := [b_d cB cC cI cJ cZ oA rA u_1.2]) (is := [0]) fl_1 fl_1 rfl) (bx_C (bs := [b_d cB cC cI cJ cZ oA rA u_1.2]) (bs' := []) (is := []) fl_1 fl_0 rfl) (bx_n (by decide +kernel)) (bx_d (by decide +kernel)) (va_runV (As := [.int u_1.1]) (rest := []) ⟨hx, hb, hml, hown, hts⟩ (k_X1_termAt l dC dI cB cC cI cJ cZ cP oA rA H.size  u_1.1 u_1.2 _ hu_41) (cwV 1 hts (g_gV wq_531 wq_532 wq_1992 wq_8 wq_533) rfl rfl rfl (by decide +kernel) ⟨Nat.le_of_ble_eq_true rfl, Nat.le_of_ble_eq_true rfl⟩) (g_preV g_bl0 hK hPc hDc hS hE hFc g_to0 (q0 := 0) (ci := 1) rfl rfl) rfl rfl hl.1 rfl (lv_room (Nat.le_of_ble_eq_true rfl)) dX1_learn_16 ⟨Nat.le_of_ble_eq_true rfl, Nat.le_of_ble_eq_true rfl⟩) (fun r9 u9 H locs hw9 hP' hD' hS => ?_)
    clear hPc hDc hFc
    subst hw9
    have hP : va_P (dC, dI) vwCl (b_d cB cC cI cJ cZ oA rA u_41.2) H := hP'
    clear hP' hD'
    refine lv_lload_n hx hb dX1_learn_19 rfl (lv_at hl 2 rfl) ?_
    refine W.lcmp hx hb dX1_learn_20 ?_
    obtain ⟨x_43, ex_43, hF_44⟩ := bnd_e hF_42
    clear hF_42
    refine m_top ex_43 ?_
    refine lv_if_ne (tgt := 33) hx hb dX1_learn_21 (by decide) (fun c_45 => ?_) (fun c_45 => ?_)
    · have hF_49 := ineg c_45 hF_44
      clear hF_44
      exact Jj_4  u_41.2 hF_49 _ _ hP hS ls (lv_sub hl [1, 2, 0] rfl)
    · have hF_46 := ipos c_45 hF_44
      clear hF_44
      refine lv_aload_n hx hb dX1_learn_24 rfl (lv_at hl 1 rfl) ?_
      refine va_get (D := (dC, dI)) (ci := 1) (v := .ref (rA 7 1)) (C := RX1) (T := TX1) (N := 3) hx hb hts ii_X1 hown hK hP 0 rfl rfl 1 (by decide) (hts (.fieldLink RX1 15 "StoryHouse$Dictionary" "numbers" "[I") wq_150) (fun _ h9 => h9) rfl dX1_learn_25 ?_
      refine lv_iload_n hx hb dX1_learn_28 rfl (lv_at hl 0 rfl) ?_
      have hq9 : ((b_d cB cC cI cJ cZ oA rA u_41.2))[2]? = some (rA 7 1, .inl (cI, 2000, .inl ((u_41.2 7).2.1 1))) := rfl
      have hPc := hP.sub (ws' := [(rA 7 1, .inl (cI, 2000, .inl ((u_41.2 7).2.1 1)))]) [2] (pk_fm (er_C hq9))
      have hDc := (hDD u_41.2).sub (ws' := [(rA 7 1, .inl (cI, 2000, .inl ((u_41.2 7).2.1 1)))]) [2] (by decide +kernel) (er_C hq9)
      have hFc := va_free (wc := [(rA 7 1, .inl (cI, 2000, .inl ((u_41.2 7).2.1 1)))]) (hDD u_41.2) hS hA [2] (er_C hq9)
      refine g_ofi (wc := [(rA 7 1, .inl (cI, 2000, .inl ((u_41.2 7).2.1 1)))]) (wr := (((b_d cB cC cI cJ cZ oA rA u_41.2)).eraseIdx 2)) hP (hDD u_41.2) hS hFc [2] ((List.range ((b_d cB cC cI cJ cZ oA rA u_41.2)).length).eraseIdx 2) (er_C hq9) er_R er_n er_d (va_runSN (As := [.ref (rA 7 1), .int u_1.1]) (rest := []) ⟨hx, hb, hml, hown, hts⟩ (c_X11_at l dC dI cB cC cI cJ cZ cP H.size (rA 7 1) u_1.1 2000 ((u_41.2 7).2.1 1) (by decide)) ⟨va_cnB 2 hts (g_gA wq_407) rfl rfl rfl (nw_16 hN) (hts (.initialized RX11) wq_1) (by decide +kernel) ⟨Nat.le_of_ble_eq_true rfl, Nat.le_of_ble_eq_true rfl⟩, (hts (.static yX11_at) wq_406), trivial⟩ (g_preS g_bl0 hK hPc hDc hS hE hFc g_to0) rfl rfl hl.1 rfl (lv_room (Nat.le_of_ble_eq_true rfl)) dX1_learn_29 ⟨Nat.le_of_ble_eq_true rfl, Nat.le_of_ble_eq_true rfl⟩) (fun r9 u9 H locs hw9 hP' hD' hS => ?_)
      clear hPc hDc hFc hD'
      have hP : va_P (dC, dI) vwCl (b_d cB cC cI cJ cZ oA rA u_41.2) H := er_I hP' hq9
      clear hP' hq9
      subst hw9
      obtain ⟨x_47, ex_47, hF_48⟩ := bnd_e hF_46
      clear hF_46
      refine m_top ex_47 ?_
      have h9 := Option.some.inj hF_48
      subst h9
      exact W.iret (v := x_47) hx hb hr (fun t ht hW => ⟨⟨x_47, (), rfl, rfl, m_end ht hP, hDD _⟩, hS.F ht⟩) hS.2.2 dX1_learn_32
theorem dX1_isInOrder_0 : decode cX1_isInOrder 0 = .ok (.iconst 1, 1) := by decide +kernel
theorem dX1_isInOrder_1 : decode cX1_isInOrder 1 = .ok (.istore_n 1, 1) := by decide +kernel
theorem dX1_isInOrder_2 : decode cX1_isInOrder 2 = .ok (.iload_n 1, 1) := by decide +kernel
theorem dX1_isInOrder_3 : decode cX1_isInOrder 3 = .ok (.aload_n 0, 1) := by decide +kernel
theorem dX1_isInOrder_4 : decode cX1_isInOrder 4 = .ok (.getfield 19, 3) := by decide +kernel
theorem dX1_isInOrder_7 : decode cX1_isInOrder 7 = .ok (.if_icmp .ge 27, 3) := by decide +kernel
theorem dX1_isInOrder_10 : decode cX1_isInOrder 10 = .ok (.aload_n 0, 1) := by decide +kernel
theorem dX1_isInOrder_11 : decode cX1_isInOrder 11 = .ok (.iload_n 1, 1) := by decide +kernel
theorem dX1_isInOrder_12 : decode cX1_isInOrder 12 = .ok (.iconst 1, 1) := by decide +kernel
theorem dX1_isInOrder_13 : decode cX1_isInOrder 13 = .ok (.isub, 1) := by decide +kernel
theorem dX1_isInOrder_14 : decode cX1_isInOrder 14 = .ok (.invokevirtual 27, 3) := by decide +kernel
theorem dX1_isInOrder_17 : decode cX1_isInOrder 17 = .ok (.aload_n 0, 1) := by decide +kernel
theorem dX1_isInOrder_18 : decode cX1_isInOrder 18 = .ok (.iload_n 1, 1) := by decide +kernel
theorem dX1_isInOrder_19 : decode cX1_isInOrder 19 = .ok (.invokevirtual 27, 3) := by decide +kernel
theorem dX1_isInOrder_22 : decode cX1_isInOrder 22 = .ok (.lcmp, 1) := by decide +kernel
theorem dX1_isInOrder_23 : decode cX1_isInOrder 23 = .ok (.ifCond .lt 5, 3) := by decide +kernel
theorem dX1_isInOrder_26 : decode cX1_isInOrder 26 = .ok (.iconst 0, 1) := by decide +kernel
theorem dX1_isInOrder_27 : decode cX1_isInOrder 27 = .ok (.ireturn, 1) := by decide +kernel
theorem dX1_isInOrder_28 : decode cX1_isInOrder 28 = .ok (.iinc 1 1, 3) := by decide +kernel
theorem dX1_isInOrder_31 : decode cX1_isInOrder 31 = .ok (.goto (-29), 3) := by decide +kernel
theorem dX1_isInOrder_34 : decode cX1_isInOrder 34 = .ok (.iconst 1, 1) := by decide +kernel
theorem dX1_isInOrder_35 : decode cX1_isInOrder 35 = .ok (.ireturn, 1) := by decide +kernel
def F_X1_isInOrder  (Γ : HS) : HR :=
  loopF (fun (again_2 : (Int32 × HS) → HR) (s_1 : Int32 × HS) => (
    if ((s_1.2 7).1 2) ≤ s_1.1 then (
      some (1, s_1.2)
    ) else (
      (F_X1_termAt (s_1.1 - 1) s_1.2).bind fun u_8 =>
      (F_X1_termAt s_1.1 u_8.2).bind fun u_10 =>
      bnd ((lg_cmp u_8.1 u_10.1)) fun (x_12 : Int32) =>
      if x_12 < 0 then (
        bnd (s_1.1 + 1) fun (x_16 : Int32) =>
        again_2 (x_16, u_10.2)
      ) else (
        some (0, u_10.2)
      )
    )
  )) FU (1, Γ)
set_option maxHeartbeats 4000000 in
set_option maxRecDepth 100000 in
theorem k_X1_isInOrder (l : Launch) (dC : Nat → ClassId) (dI : Nat → Nat → Nat) (cB cC cI cJ cZ cP : ClassId) (oA : Nat → Nat) (rA : Nat → Nat → Nat) (sz : Nat)   (Γ : HS) (res : Int32 × HS) (hF : F_X1_isInOrder  Γ = some res) : Met l yX1_isInOrder (g_ws yX1_isInOrder cX1_isInOrder 2 (some .boolean)) ({ frames := 2, cells := 0, slots := 0, locals := 61 }) (va_Pc [.ref (oA 7)] (g_B (dC, dI) [(cB, .byte), (cC, .char), (cI, .int), (cJ, .long), (cZ, .boolean), (cP, .object "StoryHouse$Play")] sz (b_d cB cC cI cJ cZ oA rA Γ) g_0)) (va_Qi (fun r (_ : Unit) => r = res.1) (g_Bo (dC, dI) (va_A (b_d cB cC cI cJ cZ oA rA Γ) sz) (fun (_ : Unit) => (b_d cB cC cI cJ cZ oA rA res.2))) (va_A (b_d cB cC cI cJ cZ oA rA Γ) sz)) 0 0 (va_A (b_d cB cC cI cJ cZ oA rA Γ) sz) := by
  refine Met.ofW (cc := cX1_isInOrder) (maxL := 2) (ret := (some .boolean)) (by decide) rfl ?_
  intro p e s m args below meth c s₁ B hml hv
  obtain ⟨rfl, hsz, hP, hK, hD0, hE, hX⟩ := hv
  have hx := B.exec
  have hb := B.bytes
  have hr := B.returns
  have hts0 := atoms_spec (ws := g_ws yX1_isInOrder cX1_isInOrder 2 (some .boolean)) B.pre
  have hts : ∀ w ∈ lw_good, w.before ([.ref (oA 7)] : List Value).toArray s = true := fun w z => hts0 w (List.mem_cons_of_mem _ z)
  have hown : s.vm.findClass RX1 = some m.cls := findClass_of_methodNamed B.named
  have hlocks := B.notSynchronized
  subst hsz
  have hD1 := hD0.self (sz := s.heap.size)
  generalize hAe : va_A (b_d cB cC cI cJ cZ oA rA Γ) s.heap.size = A at hD1 hE hX ⊢
  have hA : ∀ q : Nat, s.heap.size ≤ q → A q := fun q z => by rw [← hAe]; exact Or.inr z
  have hDD : ∀ Γ : HS, va_D A (b_d cB cC cI cJ cZ oA rA Γ) := fun Γ9 => va_D_fst (ws := (b_d cB cC cI cJ cZ oA rA Γ)) (ws' := (b_d cB cC cI cJ cZ oA rA Γ9)) rfl hD1
  have hN := hE.1
  have hS : va_S A s.heap s.heap [] := va_S.rf
  have hl := lv_entry ([.ref (oA 7)]) (n := 2) (Nat.le_of_ble_eq_true rfl)
  rw [lg_entry_eq]
  generalize (lg_sl ([.ref (oA 7)]) ++ List.replicate (2 - (lg_sl ([.ref (oA 7)])).length) Slot.unset).toArray = ls at hl ⊢
  have hl : lv_has ls 2 [(0, .ref (oA 7))] := hl
  unfold F_X1_isInOrder at hF
  refine lv_iconst (v := 1) hx hb dX1_isInOrder_0 (by decide +kernel) ?_
  refine lv_istore_n (lv' := [(1, .int 1), (0, .ref (oA 7))]) hx hb dX1_isInOrder_1 rfl hl (by decide) rfl (fun ls hl => ?_)
  refine loopF_ind (P := fun (s_1 : Int32 × HS) => ∀ (H : Heap) (locs : List Loc), va_P (dC, dI) vwCl (b_d cB cC cI cJ cZ oA rA s_1.2) H → va_S A s.heap H locs → ∀ ls : Array Slot, lv_has ls 2 [(0, .ref (oA 7)), (1, .int s_1.1)] → W p l e (headSpec (g_ws yX1_isInOrder cX1_isInOrder 2 (some .boolean)) { frames := 2, cells := 0, slots := 0, locals := 61 }).room s m ([.ref (oA 7)] : List Value).toArray below meth c H locs 0 0 (MQ below (va_Qi (fun r (_ : Unit) => r = res.1) (g_Bo (dC, dI) A (fun (_ : Unit) => (b_d cB cC cI cJ cZ oA rA res.2))) A) ([.ref (oA 7)] : List Value).toArray s 0 0 A) (F0 m 2 ls [])) ?_ _ _ hF _ _ hP hS ls (lv_sub hl [1, 0] rfl)
  intro again_2 s_1 ih_3 hF_4
  intro H locs hP hS ls hl
  refine lv_iload_n hx hb dX1_isInOrder_2 rfl (lv_at hl 1 rfl) ?_
  refine lv_aload_n hx hb dX1_isInOrder_3 rfl (lv_at hl 0 rfl) ?_
  refine va_get (D := (dC, dI)) (ci := 1) (v := .int ((s_1.2 7).1 2)) (C := RX1) (T := TX1) (N := 3) hx hb hts ii_X1 hown hK hP 0 rfl rfl 2 (by decide) (hts (.fieldLink RX1 19 "StoryHouse$Dictionary" "count" "I") wq_151) (fun _ h9 => h9) rfl dX1_isInOrder_4 ?_
  refine lv_icmp_ge (tgt := 34) hx hb dX1_isInOrder_7 (by decide) (fun c_5 => ?_) (fun c_5 => ?_)
  · have hF_6 := ipos c_5 hF_4
    clear hF_4
    refine lv_iconst (v := 1) hx hb dX1_isInOrder_34 (by decide +kernel) ?_
    have h9 := Option.some.inj hF_6
    subst h9
    exact W.zret (v := 1) hx hb hr (by decide +kernel) (fun t ht hW => ⟨⟨1, (), rfl, rfl, m_end ht hP, hDD _⟩, hS.F ht⟩) hS.2.2 dX1_isInOrder_35
  · have hF_7 := ineg c_5 hF_4
    clear hF_4
    refine lv_aload_n hx hb dX1_isInOrder_10 rfl (lv_at hl 0 rfl) ?_
    refine lv_iload_n hx hb dX1_isInOrder_11 rfl (lv_at hl 1 rfl) ?_
    refine lv_iconst (v := 1) hx hb dX1_isInOrder_12 (by decide +kernel) ?_
    refine lv_isub hx hb dX1_isInOrder_13 ?_
    obtain ⟨u_8, hu_8, hF_9⟩ := Option.bind_eq_some_iff.mp hF_7
    clear hF_7
    have hPc := bx_P (bs := [b_d cB cC cI cJ cZ oA rA s_1.2]) (bs' := [b_d cB cC cI cJ cZ oA rA s_1.2]) (ws' := (b_d cB cC cI cJ cZ oA rA s_1.2)) hP fl_1 fl_1 [0] rfl
    have hDc := bx_D (bs := [b_d cB cC cI cJ cZ oA rA s_1.2]) (bs' := [b_d cB cC cI cJ cZ oA rA s_1.2]) (ws' := (b_d cB cC cI cJ cZ oA rA s_1.2)) (hDD s_1.2) fl_1 fl_1 [0] (by decide +kernel) rfl
    have hFc := bx_F (bs := [b_d cB cC cI cJ cZ oA rA s_1.2]) (bs' := [b_d cB cC cI cJ cZ oA rA s_1.2]) (wc := (b_d cB cC cI cJ cZ oA rA s_1.2)) (hDD s_1.2) hS hA fl_1 fl_1 [0] rfl
    refine g_ofl (wc := (b_d cB cC cI cJ cZ oA rA s_1.2)) (wr := ([] : va_W)) hP (hDD s_1.2) hS hFc (bx_ix [b_d cB cC cI cJ cZ oA rA s_1.2] [0]) (bx_ix [b_d cB cC cI cJ cZ oA rA s_1.2] []) (bx_C (bs := [b_d cB cC cI cJ cZ oA rA s_1.2]) (bs' := [b_d cB cC cI cJ cZ oA rA s_1.2]) (is := [0]) fl_1 fl_1 rfl) (bx_C (bs := [b_d cB cC cI cJ cZ oA rA s_1.2]) (bs' := []) (is := []) fl_1 fl_0 rfl) (bx_n (by decide +kernel)) (bx_d (by decide +kernel)) (va_runV (As := [.int (s_1.1 - 1)]) (rest := []) ⟨hx, hb, hml, hown, hts⟩ (k_X1_termAt l dC dI cB cC cI cJ cZ cP oA rA H.size  (s_1.1 - 1) s_1.2 _ hu_8) (cwV 1 hts (g_gV wq_531 wq_532 wq_1992 wq_8 wq_533) rfl rfl rfl (by decide +kernel) ⟨Nat.le_of_ble_eq_true rfl, Nat.le_of_ble_eq_true rfl⟩) (g_preV g_bl0 hK hPc hDc hS hE hFc g_to0 (q0 := 0) (ci := 1) rfl rfl) rfl rfl hl.1 rfl (lv_room (Nat.le_of_ble_eq_true rfl)) dX1_isInOrder_14 ⟨Nat.le_of_ble_eq_true rfl, Nat.le_of_ble_eq_true rfl⟩) (fun r9 u9 H locs hw9 hP' hD' hS => ?_)
    clear hPc hDc hFc
    subst hw9
    have hP : va_P (dC, dI) vwCl (b_d cB cC cI cJ cZ oA rA u_8.2) H := hP'
    clear hP' hD'
    refine lv_aload_n hx hb dX1_isInOrder_17 rfl (lv_at hl 0 rfl) ?_
    refine lv_iload_n hx hb dX1_isInOrder_18 rfl (lv_at hl 1 rfl) ?_
    obtain ⟨u_10, hu_10, hF_11⟩ := Option.bind_eq_some_iff.mp hF_9
    clear hF_9
    have hPc := bx_P (bs := [b_d cB cC cI cJ cZ oA rA u_8.2]) (bs' := [b_d cB cC cI cJ cZ oA rA u_8.2]) (ws' := (b_d cB cC cI cJ cZ oA rA u_8.2)) hP fl_1 fl_1 [0] rfl
    have hDc := bx_D (bs := [b_d cB cC cI cJ cZ oA rA u_8.2]) (bs' := [b_d cB cC cI cJ cZ oA rA u_8.2]) (ws' := (b_d cB cC cI cJ cZ oA rA u_8.2)) (hDD u_8.2) fl_1 fl_1 [0] (by decide +kernel) rfl
    have hFc := bx_F (bs := [b_d cB cC cI cJ cZ oA rA u_8.2]) (bs' := [b_d cB cC cI cJ cZ oA rA u_8.2]) (wc := (b_d cB cC cI cJ cZ oA rA u_8.2)) (hDD u_8.2) hS hA fl_1 fl_1 [0] rfl
    refine g_ofl (wc := (b_d cB cC cI cJ cZ oA rA u_8.2)) (wr := ([] : va_W)) hP (hDD u_8.2) hS hFc (bx_ix [b_d cB cC cI cJ cZ oA rA u_8.2] [0]) (bx_ix [b_d cB cC cI cJ cZ oA rA u_8.2] []) (bx_C (bs := [b_d cB cC cI cJ cZ oA rA u_8.2]) (bs' := [b_d cB cC cI cJ cZ oA rA u_8.2]) (is := [0]) fl_1 fl_1 rfl) (bx_C (bs := [b_d cB cC cI cJ cZ oA rA u_8.2]) (bs' := []) (is := []) fl_1 fl_0 rfl) (bx_n (by decide +kernel)) (bx_d (by decide +kernel)) (va_runV (As := [.int s_1.1]) (rest := [.long u_8.1]) ⟨hx, hb, hml, hown, hts⟩ (k_X1_termAt l dC dI cB cC cI cJ cZ cP oA rA H.size  s_1.1 u_8.2 _ hu_10) (cwV 1 hts (g_gV wq_531 wq_532 wq_1992 wq_8 wq_533) rfl rfl rfl (by decide +kernel) ⟨Nat.le_of_ble_eq_true rfl, Nat.le_of_ble_eq_true rfl⟩) (g_preV g_bl0 hK hPc hDc hS hE hFc g_to0 (q0 := 0) (ci := 1) rfl rfl) rfl rfl hl.1 rfl (lv_room (Nat.le_of_ble_eq_true rfl)) dX1_isInOrder_19 ⟨Nat.le_of_ble_eq_true rfl, Nat.le_of_ble_eq_true rfl⟩) (fun r9 u9 H locs hw9 hP' hD' hS => ?_)
    clear hPc hDc hFc
    subst hw9
    have hP : va_P (dC, dI) vwCl (b_d cB cC cI cJ cZ oA rA u_10.2) H := hP'
    clear hP' hD'
    refine W.lcmp hx hb dX1_isInOrder_22 ?_
    obtain ⟨x_12, ex_12, hF_13⟩ := bnd_e hF_11
    clear hF_11
    refine m_top ex_12 ?_
    refine lv_if_lt (tgt := 28) hx hb dX1_isInOrder_23 (by decide) (fun c_14 => ?_) (fun c_14 => ?_)
    · have hF_15 := ipos c_14 hF_13
      clear hF_13
      obtain ⟨x_16, ex_16, hF_17⟩ := bnd_e hF_15
      clear hF_15
      refine lv_iinc (v := x_16) (lv' := [(1, .int x_16), (0, .ref (oA 7))]) hx hb dX1_isInOrder_28 hl (k := 1) rfl (by rw [ex_16]; rfl) (by decide) rfl (fun ls hl => ?_)
      refine lv_goto (tgt := 2) hx hb dX1_isInOrder_31 (by decide) ?_
      exact ih_3 (x_16, u_10.2) hF_17 _ _ hP hS ls (lv_sub hl [1, 0] rfl)
    · have hF_18 := ineg c_14 hF_13
      clear hF_13
      refine lv_iconst (v := 0) hx hb dX1_isInOrder_26 (by decide +kernel) ?_
      have h9 := Option.some.inj hF_18
      subst h9
      exact W.zret (v := 0) hx hb hr (by decide +kernel) (fun t ht hW => ⟨⟨0, (), rfl, rfl, m_end ht hP, hDD _⟩, hS.F ht⟩) hS.2.2 dX1_isInOrder_27
theorem dX10_kindOf_0 : decode cX10_kindOf 0 = .ok (.iload_n 1, 1) := by decide +kernel
theorem dX10_kindOf_1 : decode cX10_kindOf 1 = .ok (.ifCond .lt 29, 3) := by decide +kernel
theorem dX10_kindOf_4 : decode cX10_kindOf 4 = .ok (.iload_n 1, 1) := by decide +kernel
theorem dX10_kindOf_5 : decode cX10_kindOf 5 = .ok (.aload_n 0, 1) := by decide +kernel
theorem dX10_kindOf_6 : decode cX10_kindOf 6 = .ok (.getfield 57, 3) := by decide +kernel
theorem dX10_kindOf_9 : decode cX10_kindOf 9 = .ok (.if_icmp .ge 21, 3) := by decide +kernel
theorem dX10_kindOf_12 : decode cX10_kindOf 12 = .ok (.iload_n 1, 1) := by decide +kernel
theorem dX10_kindOf_13 : decode cX10_kindOf 13 = .ok (.aload_n 0, 1) := by decide +kernel
theorem dX10_kindOf_14 : decode cX10_kindOf 14 = .ok (.getfield 15, 3) := by decide +kernel
theorem dX10_kindOf_17 : decode cX10_kindOf 17 = .ok (.arraylength, 1) := by decide +kernel
theorem dX10_kindOf_18 : decode cX10_kindOf 18 = .ok (.if_icmp .ge 12, 3) := by decide +kernel
theorem dX10_kindOf_21 : decode cX10_kindOf 21 = .ok (.aload_n 0, 1) := by decide +kernel
theorem dX10_kindOf_22 : decode cX10_kindOf 22 = .ok (.getfield 15, 3) := by decide +kernel
theorem dX10_kindOf_25 : decode cX10_kindOf 25 = .ok (.iload_n 1, 1) := by decide +kernel
theorem dX10_kindOf_26 : decode cX10_kindOf 26 = .ok (.iaload, 1) := by decide +kernel
theorem dX10_kindOf_27 : decode cX10_kindOf 27 = .ok (.goto 4, 3) := by decide +kernel
theorem dX10_kindOf_30 : decode cX10_kindOf 30 = .ok (.iconst 0, 1) := by decide +kernel
theorem dX10_kindOf_31 : decode cX10_kindOf 31 = .ok (.ireturn, 1) := by decide +kernel
def F_X10_kindOf (p0 : Int32) (Γ : HS) : HR :=
  if p0 < 0 then (
    some (0, Γ)
  ) else (
    if ((Γ 1).1 2) ≤ p0 then (
      some (0, Γ)
    ) else (
      if 16001 ≤ p0 then (
        some (0, Γ)
      ) else (
        if p0 < 0 ∨ 16001 ≤ p0.toNatClampNeg then none else
        some (((Γ 1).2.1 3 p0.toNatClampNeg), Γ)
      )
    )
  )
set_option maxHeartbeats 4000000 in
set_option maxRecDepth 100000 in
theorem k_X10_kindOf (l : Launch) (dC : Nat → ClassId) (dI : Nat → Nat → Nat) (cB cC cI cJ cZ cP : ClassId) (oA : Nat → Nat) (rA : Nat → Nat → Nat) (sz : Nat)  (p0 : Int32) (Γ : HS) (res : Int32 × HS) (hF : F_X10_kindOf p0 Γ = some res) : Met l yX10_kindOf (g_ws yX10_kindOf cX10_kindOf 2 (some .int)) ({ frames := 1, cells := 0, slots := 0, locals := 40 }) (va_Pc [.ref (oA 1), .int p0] (g_B (dC, dI) [(cB, .byte), (cC, .char), (cI, .int), (cJ, .long), (cZ, .boolean), (cP, .object "StoryHouse$Play")] sz (b_w cB cC cI cJ cZ oA rA Γ) g_0)) (va_Qi (fun r (_ : Unit) => r = res.1) (g_Bo (dC, dI) (va_A (b_w cB cC cI cJ cZ oA rA Γ) sz) (fun (_ : Unit) => (b_w cB cC cI cJ cZ oA rA res.2))) (va_A (b_w cB cC cI cJ cZ oA rA Γ) sz)) 0 0 (va_A (b_w cB cC cI cJ cZ oA rA Γ) sz) := by
  refine Met.ofW (cc := cX10_kindOf) (maxL := 2) (ret := (some .int)) (by decide) rfl ?_
  intro p e s m args below meth c s₁ B hml hv
  obtain ⟨rfl, hsz, hP, hK, hD0, hE, hX⟩ := hv
  have hx := B.exec
  have hb := B.bytes
  have hr := B.returns
  have hts0 := atoms_spec (ws := g_ws yX10_kindOf cX10_kindOf 2 (some .int)) B.pre
  have hts : ∀ w ∈ lw_good, w.before ([.ref (oA 1), .int p0] : List Value).toArray s = true := fun w z => hts0 w (List.mem_cons_of_mem _ z)
  have hown : s.vm.findClass RX10 = some m.cls := findClass_of_methodNamed B.named
  have hlocks := B.notSynchronized
  subst hsz
  have hD1 := hD0.self (sz := s.heap.size)
  generalize hAe : va_A (b_w cB cC cI cJ cZ oA rA Γ) s.heap.size = A at hD1 hE hX ⊢
  have hA : ∀ q : Nat, s.heap.size ≤ q → A q := fun q z => by rw [← hAe]; exact Or.inr z
  have hDD : ∀ Γ : HS, va_D A (b_w cB cC cI cJ cZ oA rA Γ) := fun Γ9 => va_D_fst (ws := (b_w cB cC cI cJ cZ oA rA Γ)) (ws' := (b_w cB cC cI cJ cZ oA rA Γ9)) rfl hD1
  have hN := hE.1
  have hS : va_S A s.heap s.heap [] := va_S.rf
  have hl := lv_entry ([.ref (oA 1), .int p0]) (n := 2) (Nat.le_of_ble_eq_true rfl)
  rw [lg_entry_eq]
  generalize (lg_sl ([.ref (oA 1), .int p0]) ++ List.replicate (2 - (lg_sl ([.ref (oA 1), .int p0])).length) Slot.unset).toArray = ls at hl ⊢
  have hl : lv_has ls 2 [(0, .ref (oA 1)), (1, .int p0)] := hl
  unfold F_X10_kindOf at hF
  refine lv_iload_n hx hb dX10_kindOf_0 rfl (lv_at hl 1 rfl) ?_
  refine lv_if_lt (tgt := 30) hx hb dX10_kindOf_1 (by decide) (fun c_1 => ?_) (fun c_1 => ?_)
  · have hF_2 := ipos c_1 hF
    clear hF
    refine lv_iconst (v := 0) hx hb dX10_kindOf_30 (by decide +kernel) ?_
    have h9 := Option.some.inj hF_2
    subst h9
    exact W.iret (v := 0) hx hb hr (fun t ht hW => ⟨⟨0, (), rfl, rfl, m_end ht hP, hDD _⟩, hS.F ht⟩) hS.2.2 dX10_kindOf_31
  · have hF_3 := ineg c_1 hF
    clear hF
    refine lv_iload_n hx hb dX10_kindOf_4 rfl (lv_at hl 1 rfl) ?_
    refine lv_aload_n hx hb dX10_kindOf_5 rfl (lv_at hl 0 rfl) ?_
    refine va_get (D := (dC, dI)) (ci := 10) (v := .int ((Γ 1).1 2)) (C := RX10) (T := TX10) (N := 12) hx hb hts ii_X10 hown hK hP 0 rfl rfl 2 (by decide) (hts (.fieldLink RX10 57 "StoryHouse$Words" "count" "I") wq_46) (fun _ h9 => h9) rfl dX10_kindOf_6 ?_
    refine lv_icmp_ge (tgt := 30) hx hb dX10_kindOf_9 (by decide) (fun c_4 => ?_) (fun c_4 => ?_)
    · have hF_5 := ipos c_4 hF_3
      clear hF_3
      refine lv_iconst (v := 0) hx hb dX10_kindOf_30 (by decide +kernel) ?_
      have h9 := Option.some.inj hF_5
      subst h9
      exact W.iret (v := 0) hx hb hr (fun t ht hW => ⟨⟨0, (), rfl, rfl, m_end ht hP, hDD _⟩, hS.F ht⟩) hS.2.2 dX10_kindOf_31
    · have hF_6 := ineg c_4 hF_3
      clear hF_3
      refine lv_iload_n hx hb dX10_kindOf_12 rfl (lv_at hl 1 rfl) ?_
      refine lv_aload_n hx hb dX10_kindOf_13 rfl (lv_at hl 0 rfl) ?_
      refine va_get (D := (dC, dI)) (ci := 10) (v := .ref (rA 1 3)) (C := RX10) (T := TX10) (N := 12) hx hb hts ii_X10 hown hK hP 0 rfl rfl 3 (by decide) (hts (.fieldLink RX10 15 "StoryHouse$Words" "kinds" "[I") wq_49) (fun _ h9 => h9) rfl dX10_kindOf_14 ?_
      refine va_alen (v := 16001) hx hb hK hP 2 2 rfl rfl (by first | rfl | decide +kernel) dX10_kindOf_17 ?_
      refine lv_icmp_ge (tgt := 30) hx hb dX10_kindOf_18 (by decide) (fun c_7 => ?_) (fun c_7 => ?_)
      · have hF_8 := ipos c_7 hF_6
        clear hF_6
        refine lv_iconst (v := 0) hx hb dX10_kindOf_30 (by decide +kernel) ?_
        have h9 := Option.some.inj hF_8
        subst h9
        exact W.iret (v := 0) hx hb hr (fun t ht hW => ⟨⟨0, (), rfl, rfl, m_end ht hP, hDD _⟩, hS.F ht⟩) hS.2.2 dX10_kindOf_31
      · have hF_9 := ineg c_7 hF_6
        clear hF_6
        refine lv_aload_n hx hb dX10_kindOf_21 rfl (lv_at hl 0 rfl) ?_
        refine va_get (D := (dC, dI)) (ci := 10) (v := .ref (rA 1 3)) (C := RX10) (T := TX10) (N := 12) hx hb hts ii_X10 hown hK hP 0 rfl rfl 3 (by decide) (hts (.fieldLink RX10 15 "StoryHouse$Words" "kinds" "[I") wq_49) (fun _ h9 => h9) rfl dX10_kindOf_22 ?_
        refine lv_iload_n hx hb dX10_kindOf_25 rfl (lv_at hl 1 rfl) ?_
        obtain ⟨g_10, hF_11⟩ := nif_e hF_9
        clear hF_9
        refine va_iald (f := (Γ 1).2.1 3) hx hb hK hP 2 2 rfl rfl g_10 dX10_kindOf_26 ?_
        refine lv_goto (tgt := 31) hx hb dX10_kindOf_27 (by decide) ?_
        have h9 := Option.some.inj hF_11
        subst h9
        exact W.iret (v := ((Γ 1).2.1 3 p0.toNatClampNeg)) hx hb hr (fun t ht hW => ⟨⟨((Γ 1).2.1 3 p0.toNatClampNeg), (), rfl, rfl, m_end ht hP, hDD _⟩, hS.F ht⟩) hS.2.2 dX10_kindOf_31
theorem dX10_placeOf_0 : decode cX10_placeOf 0 = .ok (.iload_n 1, 1) := by decide +kernel
theorem dX10_placeOf_1 : decode cX10_placeOf 1 = .ok (.ifCond .lt 22, 3) := by decide +kernel
theorem dX10_placeOf_4 : decode cX10_placeOf 4 = .ok (.iload_n 1, 1) := by decide +kernel
theorem dX10_placeOf_5 : decode cX10_placeOf 5 = .ok (.aload_n 0, 1) := by decide +kernel
theorem dX10_placeOf_6 : decode cX10_placeOf 6 = .ok (.getfield 57, 3) := by decide +kernel
theorem dX10_placeOf_9 : decode cX10_placeOf 9 = .ok (.if_icmp .ge 14, 3) := by decide +kernel
theorem dX10_placeOf_12 : decode cX10_placeOf 12 = .ok (.aload_n 0, 1) := by decide +kernel
theorem dX10_placeOf_13 : decode cX10_placeOf 13 = .ok (.getfield 19, 3) := by decide +kernel
theorem dX10_placeOf_16 : decode cX10_placeOf 16 = .ok (.iload_n 1, 1) := by decide +kernel
theorem dX10_placeOf_17 : decode cX10_placeOf 17 = .ok (.invokestatic 97, 3) := by decide +kernel
theorem dX10_placeOf_20 : decode cX10_placeOf 20 = .ok (.goto 7, 3) := by decide +kernel
theorem dX10_placeOf_23 : decode cX10_placeOf 23 = .ok (.aload_n 0, 1) := by decide +kernel
theorem dX10_placeOf_24 : decode cX10_placeOf 24 = .ok (.getfield 47, 3) := by decide +kernel
theorem dX10_placeOf_27 : decode cX10_placeOf 27 = .ok (.ireturn, 1) := by decide +kernel
def F_X10_placeOf (p0 : Int32) (Γ : HS) : HR :=
  if p0 < 0 then (
    some (((Γ 1).1 1), Γ)
  ) else (
    if ((Γ 1).1 2) ≤ p0 then (
      some (((Γ 1).1 1), Γ)
    ) else (
      bnd ((g_at 16001 ((Γ 1).2.1 4) p0)) fun (x_7 : Int32) =>
      some (x_7, Γ)
    )
  )
set_option maxHeartbeats 4000000 in
set_option maxRecDepth 100000 in
theorem k_X10_placeOf (l : Launch) (dC : Nat → ClassId) (dI : Nat → Nat → Nat) (cB cC cI cJ cZ cP : ClassId) (oA : Nat → Nat) (rA : Nat → Nat → Nat) (sz : Nat)  (p0 : Int32) (Γ : HS) (res : Int32 × HS) (hF : F_X10_placeOf p0 Γ = some res) : Met l yX10_placeOf (g_ws yX10_placeOf cX10_placeOf 2 (some .int)) ({ frames := 3, cells := 0, slots := 0, locals := 81 }) (va_Pc [.ref (oA 1), .int p0] (g_B (dC, dI) [(cB, .byte), (cC, .char), (cI, .int), (cJ, .long), (cZ, .boolean), (cP, .object "StoryHouse$Play")] sz (b_w cB cC cI cJ cZ oA rA Γ) g_0)) (va_Qi (fun r (_ : Unit) => r = res.1) (g_Bo (dC, dI) (va_A (b_w cB cC cI cJ cZ oA rA Γ) sz) (fun (_ : Unit) => (b_w cB cC cI cJ cZ oA rA res.2))) (va_A (b_w cB cC cI cJ cZ oA rA Γ) sz)) 0 0 (va_A (b_w cB cC cI cJ cZ oA rA Γ) sz) := by
  refine Met.ofW (cc := cX10_placeOf) (maxL := 2) (ret := (some .int)) (by decide) rfl ?_
  intro p e s m args below meth c s₁ B hml hv
  obtain ⟨rfl, hsz, hP, hK, hD0, hE, hX⟩ := hv
  have hx := B.exec
  have hb := B.bytes
  have hr := B.returns
  have hts0 := atoms_spec (ws := g_ws yX10_placeOf cX10_placeOf 2 (some .int)) B.pre
  have hts : ∀ w ∈ lw_good, w.before ([.ref (oA 1), .int p0] : List Value).toArray s = true := fun w z => hts0 w (List.mem_cons_of_mem _ z)
  have hown : s.vm.findClass RX10 = some m.cls := findClass_of_methodNamed B.named
  have hlocks := B.notSynchronized
  subst hsz
  have hD1 := hD0.self (sz := s.heap.size)
  generalize hAe : va_A (b_w cB cC cI cJ cZ oA rA Γ) s.heap.size = A at hD1 hE hX ⊢
  have hA : ∀ q : Nat, s.heap.size ≤ q → A q := fun q z => by rw [← hAe]; exact Or.inr z
  have hDD : ∀ Γ : HS, va_D A (b_w cB cC cI cJ cZ oA rA Γ) := fun Γ9 => va_D_fst (ws := (b_w cB cC cI cJ cZ oA rA Γ)) (ws' := (b_w cB cC cI cJ cZ oA rA Γ9)) rfl hD1
  have hN := hE.1
  have hS : va_S A s.heap s.heap [] := va_S.rf
  have hl := lv_entry ([.ref (oA 1), .int p0]) (n := 2) (Nat.le_of_ble_eq_true rfl)
  rw [lg_entry_eq]
  generalize (lg_sl ([.ref (oA 1), .int p0]) ++ List.replicate (2 - (lg_sl ([.ref (oA 1), .int p0])).length) Slot.unset).toArray = ls at hl ⊢
  have hl : lv_has ls 2 [(0, .ref (oA 1)), (1, .int p0)] := hl
  unfold F_X10_placeOf at hF
  refine lv_iload_n hx hb dX10_placeOf_0 rfl (lv_at hl 1 rfl) ?_
  refine lv_if_lt (tgt := 23) hx hb dX10_placeOf_1 (by decide) (fun c_1 => ?_) (fun c_1 => ?_)
  · have hF_2 := ipos c_1 hF
    clear hF
    refine lv_aload_n hx hb dX10_placeOf_23 rfl (lv_at hl 0 rfl) ?_
    refine va_get (D := (dC, dI)) (ci := 10) (v := .int ((Γ 1).1 1)) (C := RX10) (T := TX10) (N := 12) hx hb hts ii_X10 hown hK hP 0 rfl rfl 1 (by decide) (hts (.fieldLink RX10 47 "StoryHouse$Words" "length" "I") wq_43) (fun _ h9 => h9) rfl dX10_placeOf_24 ?_
    have h9 := Option.some.inj hF_2
    subst h9
    exact W.iret (v := ((Γ 1).1 1)) hx hb hr (fun t ht hW => ⟨⟨((Γ 1).1 1), (), rfl, rfl, m_end ht hP, hDD _⟩, hS.F ht⟩) hS.2.2 dX10_placeOf_27
  · have hF_3 := ineg c_1 hF
    clear hF
    refine lv_iload_n hx hb dX10_placeOf_4 rfl (lv_at hl 1 rfl) ?_
    refine lv_aload_n hx hb dX10_placeOf_5 rfl (lv_at hl 0 rfl) ?_
    refine va_get (D := (dC, dI)) (ci := 10) (v := .int ((Γ 1).1 2)) (C := RX10) (T := TX10) (N := 12) hx hb hts ii_X10 hown hK hP 0 rfl rfl 2 (by decide) (hts (.fieldLink RX10 57 "StoryHouse$Words" "count" "I") wq_46) (fun _ h9 => h9) rfl dX10_placeOf_6 ?_
    refine lv_icmp_ge (tgt := 23) hx hb dX10_placeOf_9 (by decide) (fun c_4 => ?_) (fun c_4 => ?_)
    · have hF_5 := ipos c_4 hF_3
      clear hF_3
      refine lv_aload_n hx hb dX10_placeOf_23 rfl (lv_at hl 0 rfl) ?_
      refine va_get (D := (dC, dI)) (ci := 10) (v := .int ((Γ 1).1 1)) (C := RX10) (T := TX10) (N := 12) hx hb hts ii_X10 hown hK hP 0 rfl rfl 1 (by decide) (hts (.fieldLink RX10 47 "StoryHouse$Words" "length" "I") wq_43) (fun _ h9 => h9) rfl dX10_placeOf_24 ?_
      have h9 := Option.some.inj hF_5
      subst h9
      exact W.iret (v := ((Γ 1).1 1)) hx hb hr (fun t ht hW => ⟨⟨((Γ 1).1 1), (), rfl, rfl, m_end ht hP, hDD _⟩, hS.F ht⟩) hS.2.2 dX10_placeOf_27
    · have hF_6 := ineg c_4 hF_3
      clear hF_3
      refine lv_aload_n hx hb dX10_placeOf_12 rfl (lv_at hl 0 rfl) ?_
      refine va_get (D := (dC, dI)) (ci := 10) (v := .ref (rA 1 4)) (C := RX10) (T := TX10) (N := 12) hx hb hts ii_X10 hown hK hP 0 rfl rfl 4 (by decide) (hts (.fieldLink RX10 19 "StoryHouse$Words" "places" "[I") wq_50) (fun _ h9 => h9) rfl dX10_placeOf_13 ?_
      refine lv_iload_n hx hb dX10_placeOf_16 rfl (lv_at hl 1 rfl) ?_
      have hq9 : ((b_w cB cC cI cJ cZ oA rA Γ))[3]? = some (rA 1 4, .inl (cI, 16001, .inl ((Γ 1).2.1 4))) := rfl
      have hPc := hP.sub (ws' := [(rA 1 4, .inl (cI, 16001, .inl ((Γ 1).2.1 4)))]) [3] (pk_fm (er_C hq9))
      have hDc := (hDD Γ).sub (ws' := [(rA 1 4, .inl (cI, 16001, .inl ((Γ 1).2.1 4)))]) [3] (by decide +kernel) (er_C hq9)
      have hFc := va_free (wc := [(rA 1 4, .inl (cI, 16001, .inl ((Γ 1).2.1 4)))]) (hDD Γ) hS hA [3] (er_C hq9)
      refine g_ofi (wc := [(rA 1 4, .inl (cI, 16001, .inl ((Γ 1).2.1 4)))]) (wr := (((b_w cB cC cI cJ cZ oA rA Γ)).eraseIdx 3)) hP (hDD Γ) hS hFc [3] ((List.range ((b_w cB cC cI cJ cZ oA rA Γ)).length).eraseIdx 3) (er_C hq9) er_R er_n er_d (va_runSN (As := [.ref (rA 1 4), .int p0]) (rest := []) ⟨hx, hb, hml, hown, hts⟩ (c_X11_at l dC dI cB cC cI cJ cZ cP s.heap.size (rA 1 4) p0 16001 ((Γ 1).2.1 4) (by decide)) ⟨va_cnB 2 hts (g_gA wq_407) rfl rfl rfl (nw_9 hN) (hts (.initialized RX11) wq_1) (by decide +kernel) ⟨Nat.le_of_ble_eq_true rfl, Nat.le_of_ble_eq_true rfl⟩, (hts (.static yX11_at) wq_406), trivial⟩ (g_preS g_bl0 hK hPc hDc hS hE hFc g_to0) rfl rfl hl.1 rfl (lv_room (Nat.le_of_ble_eq_true rfl)) dX10_placeOf_17 ⟨Nat.le_of_ble_eq_true rfl, Nat.le_of_ble_eq_true rfl⟩) (fun r9 u9 H locs hw9 hP' hD' hS => ?_)
      clear hPc hDc hFc hD'
      have hP : va_P (dC, dI) vwCl (b_w cB cC cI cJ cZ oA rA Γ) H := er_I hP' hq9
      clear hP' hq9
      subst hw9
      obtain ⟨x_7, ex_7, hF_8⟩ := bnd_e hF_6
      clear hF_6
      refine m_top ex_7 ?_
      refine lv_goto (tgt := 27) hx hb dX10_placeOf_20 (by decide) ?_
      have h9 := Option.some.inj hF_8
      subst h9
      exact W.iret (v := x_7) hx hb hr (fun t ht hW => ⟨⟨x_7, (), rfl, rfl, m_end ht hP, hDD _⟩, hS.F ht⟩) hS.2.2 dX10_placeOf_27
theorem dX2_fail_0 : decode cX2_fail 0 = .ok (.aload_n 0, 1) := by decide +kernel
theorem dX2_fail_1 : decode cX2_fail 1 = .ok (.getfield 35, 3) := by decide +kernel
theorem dX2_fail_4 : decode cX2_fail 4 = .ok (.ifCond .ne 16, 3) := by decide +kernel
theorem dX2_fail_7 : decode cX2_fail 7 = .ok (.aload_n 0, 1) := by decide +kernel
theorem dX2_fail_8 : decode cX2_fail 8 = .ok (.iload_n 1, 1) := by decide +kernel
theorem dX2_fail_9 : decode cX2_fail 9 = .ok (.putfield 35, 3) := by decide +kernel
theorem dX2_fail_12 : decode cX2_fail 12 = .ok (.aload_n 0, 1) := by decide +kernel
theorem dX2_fail_13 : decode cX2_fail 13 = .ok (.aload_n 0, 1) := by decide +kernel
theorem dX2_fail_14 : decode cX2_fail 14 = .ok (.getfield 19, 3) := by decide +kernel
theorem dX2_fail_17 : decode cX2_fail 17 = .ok (.putfield 44, 3) := by decide +kernel
theorem dX2_fail_20 : decode cX2_fail 20 = .ok (.aload_n 0, 1) := by decide +kernel
theorem dX2_fail_21 : decode cX2_fail 21 = .ok (.aload_n 0, 1) := by decide +kernel
theorem dX2_fail_22 : decode cX2_fail 22 = .ok (.getfield 9, 3) := by decide +kernel
theorem dX2_fail_25 : decode cX2_fail 25 = .ok (.getfield 38, 3) := by decide +kernel
theorem dX2_fail_28 : decode cX2_fail 28 = .ok (.iconst 1, 1) := by decide +kernel
theorem dX2_fail_29 : decode cX2_fail 29 = .ok (.isub, 1) := by decide +kernel
theorem dX2_fail_30 : decode cX2_fail 30 = .ok (.putfield 19, 3) := by decide +kernel
theorem dX2_fail_33 : decode cX2_fail 33 = .ok (.aload_n 0, 1) := by decide +kernel
theorem dX2_fail_34 : decode cX2_fail 34 = .ok (.iconst 0, 1) := by decide +kernel
theorem dX2_fail_35 : decode cX2_fail 35 = .ok (.putfield 29, 3) := by decide +kernel
theorem dX2_fail_38 : decode cX2_fail 38 = .ok (.return_, 1) := by decide +kernel
def F_X2_fail (p0 : Int32) (Γ : HS) : HR :=
  bnd (fun  (σ_1 : HS) => (
    bnd (cI' σ_1 2 2 (((σ_1 1).1 2) - 1)) fun σ_5 =>
    bnd (cI' σ_5 2 3 0) fun σ_7 =>
    some (0, σ_7)
  ) : HS → HR) fun j_2 =>
  if ((Γ 2).1 5) = 0 then (
    bnd (cI' Γ 2 5 p0) fun σ_11 =>
    bnd (cI' σ_11 2 6 ((σ_11 2).1 2)) fun σ_13 =>
    j_2  σ_13
  ) else (
    j_2  Γ
  )
set_option maxHeartbeats 4000000 in
set_option maxRecDepth 100000 in
theorem k_X2_fail (l : Launch) (dC : Nat → ClassId) (dI : Nat → Nat → Nat) (cB cC cI cJ cZ cP : ClassId) (oA : Nat → Nat) (rA : Nat → Nat → Nat) (sz : Nat)  (p0 : Int32) (Γ : HS) (res : Int32 × HS) (hF : F_X2_fail p0 Γ = some res) : Met l yX2_fail (g_ws yX2_fail cX2_fail 2 none) ({ frames := 1, cells := 0, slots := 0, locals := 40 }) (va_Pc [.ref (oA 2), .int p0] (g_B (dC, dI) [(cB, .byte), (cC, .char), (cI, .int), (cJ, .long), (cZ, .boolean), (cP, .object "StoryHouse$Play")] sz (b_g cB cC cI cJ cZ oA rA Γ ++ b_w cB cC cI cJ cZ oA rA Γ ++ b_c cB cC cI cJ cZ oA rA Γ) g_0)) (va_Qv (fun (_ : Unit) => True) (g_Bo (dC, dI) (va_A (b_g cB cC cI cJ cZ oA rA Γ ++ b_w cB cC cI cJ cZ oA rA Γ ++ b_c cB cC cI cJ cZ oA rA Γ) sz) (fun (_ : Unit) => (b_g cB cC cI cJ cZ oA rA res.2 ++ b_w cB cC cI cJ cZ oA rA res.2 ++ b_c cB cC cI cJ cZ oA rA res.2))) (va_A (b_g cB cC cI cJ cZ oA rA Γ ++ b_w cB cC cI cJ cZ oA rA Γ ++ b_c cB cC cI cJ cZ oA rA Γ) sz)) 0 0 (va_A (b_g cB cC cI cJ cZ oA rA Γ ++ b_w cB cC cI cJ cZ oA rA Γ ++ b_c cB cC cI cJ cZ oA rA Γ) sz) := by
  refine Met.ofW (cc := cX2_fail) (maxL := 2) (ret := none) (by decide) rfl ?_
  intro p e s m args below meth c s₁ B hml hv
  obtain ⟨rfl, hsz, hP, hK, hD0, hE, hX⟩ := hv
  have hx := B.exec
  have hb := B.bytes
  have hr := B.returns
  have hts0 := atoms_spec (ws := g_ws yX2_fail cX2_fail 2 none) B.pre
  have hts : ∀ w ∈ lw_good, w.before ([.ref (oA 2), .int p0] : List Value).toArray s = true := fun w z => hts0 w (List.mem_cons_of_mem _ z)
  have hown : s.vm.findClass RX2 = some m.cls := findClass_of_methodNamed B.named
  have hlocks := B.notSynchronized
  subst hsz
  have hD1 := hD0.self (sz := s.heap.size)
  generalize hAe : va_A (b_g cB cC cI cJ cZ oA rA Γ ++ b_w cB cC cI cJ cZ oA rA Γ ++ b_c cB cC cI cJ cZ oA rA Γ) s.heap.size = A at hD1 hE hX ⊢
  have hA : ∀ q : Nat, s.heap.size ≤ q → A q := fun q z => by rw [← hAe]; exact Or.inr z
  have hDD : ∀ Γ : HS, va_D A (b_g cB cC cI cJ cZ oA rA Γ ++ b_w cB cC cI cJ cZ oA rA Γ ++ b_c cB cC cI cJ cZ oA rA Γ) := fun Γ9 => va_D_fst (ws := (b_g cB cC cI cJ cZ oA rA Γ ++ b_w cB cC cI cJ cZ oA rA Γ ++ b_c cB cC cI cJ cZ oA rA Γ)) (ws' := (b_g cB cC cI cJ cZ oA rA Γ9 ++ b_w cB cC cI cJ cZ oA rA Γ9 ++ b_c cB cC cI cJ cZ oA rA Γ9)) rfl hD1
  have hN := hE.1
  have hS : va_S A s.heap s.heap [] := va_S.rf
  have hl := lv_entry ([.ref (oA 2), .int p0]) (n := 2) (Nat.le_of_ble_eq_true rfl)
  rw [lg_entry_eq]
  generalize (lg_sl ([.ref (oA 2), .int p0]) ++ List.replicate (2 - (lg_sl ([.ref (oA 2), .int p0])).length) Slot.unset).toArray = ls at hl ⊢
  have hl : lv_has ls 2 [(0, .ref (oA 2)), (1, .int p0)] := hl
  unfold F_X2_fail at hF
  refine lv_aload_n hx hb dX2_fail_0 rfl (lv_at hl 0 rfl) ?_
  refine va_get (D := (dC, dI)) (ci := 2) (v := .int ((Γ 2).1 5)) (C := RX2) (T := TX2) (N := 8) hx hb hts ii_X2 hown hK hP 0 rfl rfl 5 (by decide) (hts (.fieldLink RX2 35 "StoryHouse$Grammar" "fault" "I") wq_76) (fun _ h9 => h9) rfl dX2_fail_1 ?_
  obtain ⟨j_2, ej_2, hF_3⟩ := bnd_e hF
  clear hF
  have Jj_2 : ∀  (σ_1 : HS), j_2  σ_1 = some res → ∀ (H : Heap) (locs : List Loc), va_P (dC, dI) vwCl (b_g cB cC cI cJ cZ oA rA σ_1 ++ b_w cB cC cI cJ cZ oA rA σ_1 ++ b_c cB cC cI cJ cZ oA rA σ_1) H → va_S A s.heap H locs → ∀ ls : Array Slot, lv_has ls 2 [(0, .ref (oA 2))] → W p l e (headSpec (g_ws yX2_fail cX2_fail 2 none) { frames := 1, cells := 0, slots := 0, locals := 40 }).room s m ([.ref (oA 2), .int p0] : List Value).toArray below meth c H locs 0 0 (MQ below (va_Qv (fun (_ : Unit) => True) (g_Bo (dC, dI) A (fun (_ : Unit) => (b_g cB cC cI cJ cZ oA rA res.2 ++ b_w cB cC cI cJ cZ oA rA res.2 ++ b_c cB cC cI cJ cZ oA rA res.2))) A) ([.ref (oA 2), .int p0] : List Value).toArray s 0 0 A) (F0 m 20 ls []) := by
    intro  σ_1 hF0 H locs hP hS ls hl
    subst ej_2
    have hF_4 := hF0
    clear hF0
    refine lv_aload_n hx hb dX2_fail_20 rfl (lv_at hl 0 rfl) ?_
    refine lv_aload_n hx hb dX2_fail_21 rfl (lv_at hl 0 rfl) ?_
    refine va_get (D := (dC, dI)) (ci := 2) (v := .ref (oA 1)) (C := RX2) (T := TX2) (N := 8) hx hb hts ii_X2 hown hK hP 0 rfl rfl 0 (by decide) (hts (.fieldLink RX2 9 "StoryHouse$Grammar" "words" "LStoryHouse$Words;") wq_71) (fun _ h9 => h9) rfl dX2_fail_22 ?_
    refine va_get (D := (dC, dI)) (ci := 10) (v := .int ((σ_1 1).1 2)) (C := RX10) (T := TX10) (N := 12) hx hb hts ii_X10 hown hK hP 1 rfl rfl 2 (by decide) (hts (.fieldLink RX2 38 "StoryHouse$Words" "count" "I") wq_47) (fun _ h9 => h9) rfl dX2_fail_25 ?_
    refine lv_iconst (v := 1) hx hb dX2_fail_28 (by decide +kernel) ?_
    refine lv_isub hx hb dX2_fail_29 ?_
    obtain ⟨σ_5, eσ_5, hF_6⟩ := bnd_e hF_4
    clear hF_4
    refine va_put (D := (dC, dI)) (ci := 2) (v := .int (((σ_1 1).1 2) - 1)) (ty := .int) (C := RX2) (T := TX2) (N := 8) hx hb hts ii_X2 tyX2 tyX2_ok nmX2 hown hK hP (hDD _) hS 0 rfl rfl 2 (by decide) (hts (.fieldLink RX2 19 "StoryHouse$Grammar" "at" "I") wq_73) (fun _ h9 => h9) rfl (by decide +kernel) rfl rfl (Nat.le_of_ble_eq_true rfl) dX2_fail_30 (fun H locs hP' _ hS => ?_)
    have hP : va_P (dC, dI) vwCl (b_g cB cC cI cJ cZ oA rA σ_5 ++ b_w cB cC cI cJ cZ oA rA σ_5 ++ b_c cB cC cI cJ cZ oA rA σ_5) H := by rw [eσ_5]; exact cs_gwc_g_2 ▸ hP'
    clear hP'
    refine lv_aload_n hx hb dX2_fail_33 rfl (lv_at hl 0 rfl) ?_
    refine lv_iconst (v := 0) hx hb dX2_fail_34 (by decide +kernel) ?_
    obtain ⟨σ_7, eσ_7, hF_8⟩ := bnd_e hF_6
    clear hF_6
    refine va_put (D := (dC, dI)) (ci := 2) (v := .int 0) (ty := .int) (C := RX2) (T := TX2) (N := 8) hx hb hts ii_X2 tyX2 tyX2_ok nmX2 hown hK hP (hDD _) hS 0 rfl rfl 3 (by decide) (hts (.fieldLink RX2 29 "StoryHouse$Grammar" "kind" "I") wq_74) (fun _ h9 => h9) rfl (by decide +kernel) rfl rfl (Nat.le_of_ble_eq_true rfl) dX2_fail_35 (fun H locs hP' _ hS => ?_)
    have hP : va_P (dC, dI) vwCl (b_g cB cC cI cJ cZ oA rA σ_7 ++ b_w cB cC cI cJ cZ oA rA σ_7 ++ b_c cB cC cI cJ cZ oA rA σ_7) H := by rw [eσ_7]; exact cs_gwc_g_3 ▸ hP'
    clear hP'
    have h9 := Option.some.inj hF_8
    subst h9
    exact W.vret hx hb hr (fun t ht hW => ⟨⟨(), rfl, trivial, m_end ht hP, hDD _⟩, hS.F ht⟩) hS.2.2 dX2_fail_38
  refine lv_if_ne (tgt := 20) hx hb dX2_fail_4 (by decide) (fun c_9 => ?_) (fun c_9 => ?_)
  · have hF_15 := ineg c_9 hF_3
    clear hF_3
    exact Jj_2  Γ hF_15 _ _ hP hS ls (lv_sub hl [0] rfl)
  · have hF_10 := ipos c_9 hF_3
    clear hF_3
    refine lv_aload_n hx hb dX2_fail_7 rfl (lv_at hl 0 rfl) ?_
    refine lv_iload_n hx hb dX2_fail_8 rfl (lv_at hl 1 rfl) ?_
    obtain ⟨σ_11, eσ_11, hF_12⟩ := bnd_e hF_10
    clear hF_10
    refine va_put (D := (dC, dI)) (ci := 2) (v := .int p0) (ty := .int) (C := RX2) (T := TX2) (N := 8) hx hb hts ii_X2 tyX2 tyX2_ok nmX2 hown hK hP (hDD _) hS 0 rfl rfl 5 (by decide) (hts (.fieldLink RX2 35 "StoryHouse$Grammar" "fault" "I") wq_76) (fun _ h9 => h9) rfl (by decide +kernel) rfl rfl (Nat.le_of_ble_eq_true rfl) dX2_fail_9 (fun H locs hP' _ hS => ?_)
    have hP : va_P (dC, dI) vwCl (b_g cB cC cI cJ cZ oA rA σ_11 ++ b_w cB cC cI cJ cZ oA rA σ_11 ++ b_c cB cC cI cJ cZ oA rA σ_11) H := by rw [eσ_11]; exact cs_gwc_g_5 ▸ hP'
    clear hP'
    refine lv_aload_n hx hb dX2_fail_12 rfl (lv_at hl 0 rfl) ?_
    refine lv_aload_n hx hb dX2_fail_13 rfl (lv_at hl 0 rfl) ?_
    refine va_get (D := (dC, dI)) (ci := 2) (v := .int ((σ_11 2).1 2)) (C := RX2) (T := TX2) (N := 8) hx hb hts ii_X2 hown hK hP 0 rfl rfl 2 (by decide) (hts (.fieldLink RX2 19 "StoryHouse$Grammar" "at" "I") wq_73) (fun _ h9 => h9) rfl dX2_fail_14 ?_
    obtain ⟨σ_13, eσ_13, hF_14⟩ := bnd_e hF_12
    clear hF_12
    refine va_put (D := (dC, dI)) (ci := 2) (v := .int ((σ_11 2).1 2)) (ty := .int) (C := RX2) (T := TX2) (N := 8) hx hb hts ii_X2 tyX2 tyX2_ok nmX2 hown hK hP (hDD _) hS 0 rfl rfl 6 (by decide) (hts (.fieldLink RX2 44 "StoryHouse$Grammar" "faultWord" "I") wq_77) (fun _ h9 => h9) rfl (by decide +kernel) rfl rfl (Nat.le_of_ble_eq_true rfl) dX2_fail_17 (fun H locs hP' _ hS => ?_)
    have hP : va_P (dC, dI) vwCl (b_g cB cC cI cJ cZ oA rA σ_13 ++ b_w cB cC cI cJ cZ oA rA σ_13 ++ b_c cB cC cI cJ cZ oA rA σ_13) H := by rw [eσ_13]; exact cs_gwc_g_6 ▸ hP'
    clear hP'
    exact Jj_2  σ_13 hF_14 _ _ hP hS ls (lv_sub hl [0] rfl)
