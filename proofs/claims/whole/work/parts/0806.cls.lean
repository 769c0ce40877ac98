/-! methods of the class: what each does is its function -/
theorem dX2_let_0 : decode cX2_let 0 = .ok (.aload_n 0, 1) := by decide +kernel
theorem dX2_let_1 : decode cX2_let 1 = .ok (.getfield 19, 3) := by decide +kernel
theorem dX2_let_4 : decode cX2_let 4 = .ok (.istore_n 1, 1) := by decide +kernel
theorem dX2_let_5 : decode cX2_let 5 = .ok (.aload_n 0, 1) := by decide +kernel
theorem dX2_let_6 : decode cX2_let 6 = .ok (.iconst 2, 1) := by decide +kernel
theorem dX2_let_7 : decode cX2_let 7 = .ok (.invokevirtual 120, 3) := by decide +kernel
theorem dX2_let_10 : decode cX2_let 10 = .ok (.aload_n 0, 1) := by decide +kernel
theorem dX2_let_11 : decode cX2_let 11 = .ok (.bipush 61, 2) := by decide +kernel
theorem dX2_let_13 : decode cX2_let 13 = .ok (.invokevirtual 120, 3) := by decide +kernel
theorem dX2_let_16 : decode cX2_let 16 = .ok (.aload_n 0, 1) := by decide +kernel
theorem dX2_let_17 : decode cX2_let 17 = .ok (.invokevirtual 167, 3) := by decide +kernel
theorem dX2_let_20 : decode cX2_let 20 = .ok (.aload_n 0, 1) := by decide +kernel
theorem dX2_let_21 : decode cX2_let 21 = .ok (.getfield 15, 3) := by decide +kernel
theorem dX2_let_24 : decode cX2_let 24 = .ok (.bipush 50, 2) := by decide +kernel
theorem dX2_let_26 : decode cX2_let 26 = .ok (.iload_n 1, 1) := by decide +kernel
theorem dX2_let_27 : decode cX2_let 27 = .ok (.invokevirtual 176, 3) := by decide +kernel
theorem dX2_let_30 : decode cX2_let 30 = .ok (.pop, 1) := by decide +kernel
theorem dX2_let_31 : decode cX2_let 31 = .ok (.return_, 1) := by decide +kernel
def F_X2_let  (Γ : HS) : HR :=
  bnd (((Γ 2).1 2)) fun (x_1 : Int32) =>
  (F_X2_need 2 Γ).bind fun u_3 =>
  (F_X2_need 61 u_3.2).bind fun u_5 =>
  (G_X2_expression u_5.2).bind fun u_7 =>
  (F_X0_add_ 50 x_1 u_7.2).bind fun u_9 =>
  bnd (mrg (fun j => j == 5) u_7.2 u_9.2) fun σ_11 =>
  some (0, σ_11)
set_option maxHeartbeats 4000000 in
set_option maxRecDepth 100000 in
theorem k_X2_let (l : Launch) (dC : Nat → ClassId) (dI : Nat → Nat → Nat) (cB cC cI cJ cZ cP : ClassId) (oA : Nat → Nat) (rA : Nat → Nat → Nat) (sz : Nat)   (Γ : HS) (res : Int32 × HS) (hF : F_X2_let  Γ = some res) : Met l yX2_let (g_ws yX2_let cX2_let 2 none) ({ frames := 305, cells := 0, slots := 0, locals := 6724 }) (va_Pc [.ref (oA 2)] (g_B (dC, dI) [(cB, .byte), (cC, .char), (cI, .int), (cJ, .long), (cZ, .boolean), (cP, .object "StoryHouse$Play")] sz (b_g cB cC cI cJ cZ oA rA Γ ++ b_w cB cC cI cJ cZ oA rA Γ ++ b_c cB cC cI cJ cZ oA rA Γ) g_0)) (va_Qv (fun (_ : Unit) => True) (g_Bo (dC, dI) (va_A (b_g cB cC cI cJ cZ oA rA Γ ++ b_w cB cC cI cJ cZ oA rA Γ ++ b_c cB cC cI cJ cZ oA rA Γ) sz) (fun (_ : Unit) => (b_g cB cC cI cJ cZ oA rA res.2 ++ b_w cB cC cI cJ cZ oA rA res.2 ++ b_c cB cC cI cJ cZ oA rA res.2))) (va_A (b_g cB cC cI cJ cZ oA rA Γ ++ b_w cB cC cI cJ cZ oA rA Γ ++ b_c cB cC cI cJ cZ oA rA Γ) sz)) 0 0 (va_A (b_g cB cC cI cJ cZ oA rA Γ ++ b_w cB cC cI cJ cZ oA rA Γ ++ b_c cB cC cI cJ cZ oA rA Γ) sz) := by
  refine Met.ofW (cc := cX2_let) (maxL := 2) (ret := none) (by decide) rfl ?_
  intro p e s m args below meth c s₁ B hml hv
  obtain ⟨rfl, hsz, hP, hK, hD0, hE, hX⟩ := hv
  have hx := B.exec
  have hb := B.bytes
  have hr := B.returns
  have hts0 := atoms_spec (ws := g_ws yX2_let cX2_let 2 none) B.pre
  have hts : ∀ w ∈ lw_good, w.before ([.ref (oA 2)] : List Value).toArray s = true := fun w z => hts0 w (List.mem_cons_of_mem _ z)
  have hown : s.vm.findClass RX2 = some m.cls := findClass_of_methodNamed B.named
  have hlocks := B.notSynchronized
  subst hsz
  have hD1 := hD0.self (sz := s.heap.size)
  generalize hAe : va_A (b_g cB cC cI cJ cZ oA rA Γ ++ b_w cB cC cI cJ cZ oA rA Γ ++ b_c cB cC cI cJ cZ oA rA Γ) s.heap.size = A at hD1 hE hX ⊢
  have hA : ∀ q : Nat, s.heap.size ≤ q → A q := fun q z => by rw [← hAe]; exact Or.inr z
  have hDD : ∀ Γ : HS, va_D A (b_g cB cC cI cJ cZ oA rA Γ ++ b_w cB cC cI cJ cZ oA rA Γ ++ b_c cB cC cI cJ cZ oA rA Γ) := fun Γ9 => va_D_fst (ws := (b_g cB cC cI cJ cZ oA rA Γ ++ b_w cB cC cI cJ cZ oA rA Γ ++ b_c cB cC cI cJ cZ oA rA Γ)) (ws' := (b_g cB cC cI cJ cZ oA rA Γ9 ++ b_w cB cC cI cJ cZ oA rA Γ9 ++ b_c cB cC cI cJ cZ oA rA Γ9)) rfl hD1
  have hN := hE.1
  have hS : va_S A s.heap s.heap [] := va_S.rf
  have hl := lv_entry ([.ref (oA 2)]) (n := 2) (Nat.le_of_ble_eq_true rfl)
  rw [lg_entry_eq]
  generalize (lg_sl ([.ref (oA 2)]) ++ List.replicate (2 - (lg_sl ([.ref (oA 2)])).length) Slot.unset).toArray = ls at hl ⊢
  have hl : lv_has ls 2 [(0, .ref (oA 2))] := hl
  unfold F_X2_let at hF
  refine lv_aload_n hx hb dX2_let_0 rfl (lv_at hl 0 rfl) ?_
  refine va_get (D := (dC, dI)) (ci := 2) (v := .int ((Γ 2).1 2)) (C := RX2) (T := TX2) (N := 8) hx hb hts ii_X2 hown hK hP 0 rfl rfl 2 (by decide) (hts (.fieldLink RX2 19 "StoryHouse$Grammar" "at" "I") wq_73) (fun _ h9 => h9) rfl dX2_let_1 ?_
  obtain ⟨x_1, ex_1, hF_2⟩ := bnd_e hF
  clear hF
  refine m_top ex_1 ?_
  refine lv_istore_n (lv' := [(1, .int x_1), (0, .ref (oA 2))]) hx hb dX2_let_4 rfl hl (by decide) rfl (fun ls hl => ?_)
  refine lv_aload_n hx hb dX2_let_5 rfl (lv_at hl 1 rfl) ?_
  refine lv_iconst (v := 2) hx hb dX2_let_6 (by decide +kernel) ?_
  obtain ⟨u_3, hu_3, hF_4⟩ := Option.bind_eq_some_iff.mp hF_2
  clear hF_2
  have hPc := bx_P (bs := [b_g cB cC cI cJ cZ oA rA Γ, b_w cB cC cI cJ cZ oA rA Γ, b_c cB cC cI cJ cZ oA rA Γ]) (bs' := [b_g cB cC cI cJ cZ oA rA Γ, b_w cB cC cI cJ cZ oA rA Γ, b_c cB cC cI cJ cZ oA rA Γ]) (ws' := (b_g cB cC cI cJ cZ oA rA Γ ++ b_w cB cC cI cJ cZ oA rA Γ ++ b_c cB cC cI cJ cZ oA rA Γ)) hP fl_3 fl_3 [0, 1, 2] rfl
  have hDc := bx_D (bs := [b_g cB cC cI cJ cZ oA rA Γ, b_w cB cC cI cJ cZ oA rA Γ, b_c cB cC cI cJ cZ oA rA Γ]) (bs' := [b_g cB cC cI cJ cZ oA rA Γ, b_w cB cC cI cJ cZ oA rA Γ, b_c cB cC cI cJ cZ oA rA Γ]) (ws' := (b_g cB cC cI cJ cZ oA rA Γ ++ b_w cB cC cI cJ cZ oA rA Γ ++ b_c cB cC cI cJ cZ oA rA Γ)) (hDD Γ) fl_3 fl_3 [0, 1, 2] (by decide +kernel) rfl
  have hFc := bx_F (bs := [b_g cB cC cI cJ cZ oA rA Γ, b_w cB cC cI cJ cZ oA rA Γ, b_c cB cC cI cJ cZ oA rA Γ]) (bs' := [b_g cB cC cI cJ cZ oA rA Γ, b_w cB cC cI cJ cZ oA rA Γ, b_c cB cC cI cJ cZ oA rA Γ]) (wc := (b_g cB cC cI cJ cZ oA rA Γ ++ b_w cB cC cI cJ cZ oA rA Γ ++ b_c cB cC cI cJ cZ oA rA Γ)) (hDD Γ) hS hA fl_3 fl_3 [0, 1, 2] rfl
  refine g_ofv (wc := (b_g cB cC cI cJ cZ oA rA Γ ++ b_w cB cC cI cJ cZ oA rA Γ ++ b_c cB cC cI cJ cZ oA rA Γ)) (wr := ([] : va_W)) hP (hDD Γ) hS hFc (bx_ix [b_g cB cC cI cJ cZ oA rA Γ, b_w cB cC cI cJ cZ oA rA Γ, b_c cB cC cI cJ cZ oA rA Γ] [0, 1, 2]) (bx_ix [b_g cB cC cI cJ cZ oA rA Γ, b_w cB cC cI cJ cZ oA rA Γ, b_c cB cC cI cJ cZ oA rA Γ] []) (bx_C (bs := [b_g cB cC cI cJ cZ oA rA Γ, b_w cB cC cI cJ cZ oA rA Γ, b_c cB cC cI cJ cZ oA rA Γ]) (bs' := [b_g cB cC cI cJ cZ oA rA Γ, b_w cB cC cI cJ cZ oA rA Γ, b_c cB cC cI cJ cZ oA rA Γ]) (is := [0, 1, 2]) fl_3 fl_3 rfl) (bx_C (bs := [b_g cB cC cI cJ cZ oA rA Γ, b_w cB cC cI cJ cZ oA rA Γ, b_c cB cC cI cJ cZ oA rA Γ]) (bs' := []) (is := []) fl_3 fl_0 rfl) (bx_n (by decide +kernel)) (bx_d (by decide +kernel)) (va_runV (As := [.int 2]) (rest := []) ⟨hx, hb, hml, hown, hts⟩ (k_X2_need l dC dI cB cC cI cJ cZ cP oA rA s.heap.size  2 Γ _ hu_3) (cwV 1 hts (g_gV wq_564 wq_565 wq_2000 wq_3 wq_566) rfl rfl rfl (by decide +kernel) ⟨Nat.le_of_ble_eq_true rfl, Nat.le_of_ble_eq_true rfl⟩) (g_preV g_bl0 hK hPc hDc hS hE hFc g_to0 (q0 := 0) (ci := 2) rfl rfl) rfl rfl hl.1 rfl (lv_room (Nat.le_of_ble_eq_true rfl)) dX2_let_7 ⟨Nat.le_of_ble_eq_true rfl, Nat.le_of_ble_eq_true rfl⟩) (fun u9 H locs hw9 hP' hD' hS => ?_)
  clear hPc hDc hFc
  have hP : va_P (dC, dI) vwCl (b_g cB cC cI cJ cZ oA rA u_3.2 ++ b_w cB cC cI cJ cZ oA rA u_3.2 ++ b_c cB cC cI cJ cZ oA rA u_3.2) H := hP'
  clear hP' hD'
  refine lv_aload_n hx hb dX2_let_10 rfl (lv_at hl 1 rfl) ?_
  refine lv_bipush (v := 61) hx hb dX2_let_11 (by decide +kernel) ?_
  obtain ⟨u_5, hu_5, hF_6⟩ := Option.bind_eq_some_iff.mp hF_4
  clear hF_4
  have hPc := bx_P (bs := [b_g cB cC cI cJ cZ oA rA u_3.2, b_w cB cC cI cJ cZ oA rA u_3.2, b_c cB cC cI cJ cZ oA rA u_3.2]) (bs' := [b_g cB cC cI cJ cZ oA rA u_3.2, b_w cB cC cI cJ cZ oA rA u_3.2, b_c cB cC cI cJ cZ oA rA u_3.2]) (ws' := (b_g cB cC cI cJ cZ oA rA u_3.2 ++ b_w cB cC cI cJ cZ oA rA u_3.2 ++ b_c cB cC cI cJ cZ oA rA u_3.2)) hP fl_3 fl_3 [0, 1, 2] rfl
  have hDc := bx_D (bs := [b_g cB cC cI cJ cZ oA rA u_3.2, b_w cB cC cI cJ cZ oA rA u_3.2, b_c cB cC cI cJ cZ oA rA u_3.2]) (bs' := [b_g cB cC cI cJ cZ oA rA u_3.2, b_w cB cC cI cJ cZ oA rA u_3.2, b_c cB cC cI cJ cZ oA rA u_3.2]) (ws' := (b_g cB cC cI cJ cZ oA rA u_3.2 ++ b_w cB cC cI cJ cZ oA rA u_3.2 ++ b_c cB cC cI cJ cZ oA rA u_3.2)) (hDD u_3.2) fl_3 fl_3 [0, 1, 2] (by decide +kernel) rfl
  have hFc := bx_F (bs := [b_g cB cC cI cJ cZ oA rA u_3.2, b_w cB cC cI cJ cZ oA rA u_3.2, b_c cB cC cI cJ cZ oA rA u_3.2]) (bs' := [b_g cB cC cI cJ cZ oA rA u_3.2, b_w cB cC cI cJ cZ oA rA u_3.2, b_c cB cC cI cJ cZ oA rA u_3.2]) (wc := (b_g cB cC cI cJ cZ oA rA u_3.2 ++ b_w cB cC cI cJ cZ oA rA u_3.2 ++ b_c cB cC cI cJ cZ oA rA u_3.2)) (hDD u_3.2) hS hA fl_3 fl_3 [0, 1, 2] rfl
  refine g_ofv (wc := (b_g cB cC cI cJ cZ oA rA u_3.2 ++ b_w cB cC cI cJ cZ oA rA u_3.2 ++ b_c cB cC cI cJ cZ oA rA u_3.2)) (wr := ([] : va_W)) hP (hDD u_3.2) hS hFc (bx_ix [b_g cB cC cI cJ cZ oA rA u_3.2, b_w cB cC cI cJ cZ oA rA u_3.2, b_c cB cC cI cJ cZ oA rA u_3.2] [0, 1, 2]) (bx_ix [b_g cB cC cI cJ cZ oA rA u_3.2, b_w cB cC cI cJ cZ oA rA u_3.2, b_c cB cC cI cJ cZ oA rA u_3.2] []) (bx_C (bs := [b_g cB cC cI cJ cZ oA rA u_3.2, b_w cB cC cI cJ cZ oA rA u_3.2, b_c cB cC cI cJ cZ oA rA u_3.2]) (bs' := [b_g cB cC cI cJ cZ oA rA u_3.2, b_w cB cC cI cJ cZ oA rA u_3.2, b_c cB cC cI cJ cZ oA rA u_3.2]) (is := [0, 1, 2]) fl_3 fl_3 rfl) (bx_C (bs := [b_g cB cC cI cJ cZ oA rA u_3.2, b_w cB cC cI cJ cZ oA rA u_3.2, b_c cB cC cI cJ cZ oA rA u_3.2]) (bs' := []) (is := []) fl_3 fl_0 rfl) (bx_n (by decide +kernel)) (bx_d (by decide +kernel)) (va_runV (As := [.int 61]) (rest := []) ⟨hx, hb, hml, hown, hts⟩ (k_X2_need l dC dI cB cC cI cJ cZ cP oA rA H.size  61 u_3.2 _ hu_5) (cwV 1 hts (g_gV wq_564 wq_565 wq_2000 wq_3 wq_566) rfl rfl rfl (by decide +kernel) ⟨Nat.le_of_ble_eq_true rfl, Nat.le_of_ble_eq_true rfl⟩) (g_preV g_bl0 hK hPc hDc hS hE hFc g_to0 (q0 := 0) (ci := 2) rfl rfl) rfl rfl hl.1 rfl (lv_room (Nat.le_of_ble_eq_true rfl)) dX2_let_13 ⟨Nat.le_of_ble_eq_true rfl, Nat.le_of_ble_eq_true rfl⟩) (fun u9 H locs hw9 hP' hD' hS => ?_)
  clear hPc hDc hFc
  have hP : va_P (dC, dI) vwCl (b_g cB cC cI cJ cZ oA rA u_5.2 ++ b_w cB cC cI cJ cZ oA rA u_5.2 ++ b_c cB cC cI cJ cZ oA rA u_5.2) H := hP'
  clear hP' hD'
  refine lv_aload_n hx hb dX2_let_16 rfl (lv_at hl 1 rfl) ?_
  obtain ⟨u_7, hu_7, hF_8⟩ := Option.bind_eq_some_iff.mp hF_6
  clear hF_6
  have hPc := bx_P (bs := [b_g cB cC cI cJ cZ oA rA u_5.2, b_w cB cC cI cJ cZ oA rA u_5.2, b_c cB cC cI cJ cZ oA rA u_5.2]) (bs' := [b_g cB cC cI cJ cZ oA rA u_5.2, b_w cB cC cI cJ cZ oA rA u_5.2, b_c cB cC cI cJ cZ oA rA u_5.2]) (ws' := (b_g cB cC cI cJ cZ oA rA u_5.2 ++ b_w cB cC cI cJ cZ oA rA u_5.2 ++ b_c cB cC cI cJ cZ oA rA u_5.2)) hP fl_3 fl_3 [0, 1, 2] rfl
  have hDc := bx_D (bs := [b_g cB cC cI cJ cZ oA rA u_5.2, b_w cB cC cI cJ cZ oA rA u_5.2, b_c cB cC cI cJ cZ oA rA u_5.2]) (bs' := [b_g cB cC cI cJ cZ oA rA u_5.2, b_w cB cC cI cJ cZ oA rA u_5.2, b_c cB cC cI cJ cZ oA rA u_5.2]) (ws' := (b_g cB cC cI cJ cZ oA rA u_5.2 ++ b_w cB cC cI cJ cZ oA rA u_5.2 ++ b_c cB cC cI cJ cZ oA rA u_5.2)) (hDD u_5.2) fl_3 fl_3 [0, 1, 2] (by decide +kernel) rfl
  have hFc := bx_F (bs := [b_g cB cC cI cJ cZ oA rA u_5.2, b_w cB cC cI cJ cZ oA rA u_5.2, b_c cB cC cI cJ cZ oA rA u_5.2]) (bs' := [b_g cB cC cI cJ cZ oA rA u_5.2, b_w cB cC cI cJ cZ oA rA u_5.2, b_c cB cC cI cJ cZ oA rA u_5.2]) (wc := (b_g cB cC cI cJ cZ oA rA u_5.2 ++ b_w cB cC cI cJ cZ oA rA u_5.2 ++ b_c cB cC cI cJ cZ oA rA u_5.2)) (hDD u_5.2) hS hA fl_3 fl_3 [0, 1, 2] rfl
  refine g_ofv (wc := (b_g cB cC cI cJ cZ oA rA u_5.2 ++ b_w cB cC cI cJ cZ oA rA u_5.2 ++ b_c cB cC cI cJ cZ oA rA u_5.2)) (wr := ([] : va_W)) hP (hDD u_5.2) hS hFc (bx_ix [b_g cB cC cI cJ cZ oA rA u_5.2, b_w cB cC cI cJ cZ oA rA u_5.2, b_c cB cC cI cJ cZ oA rA u_5.2] [0, 1, 2]) (bx_ix [b_g cB cC cI cJ cZ oA rA u_5.2, b_w cB cC cI cJ cZ oA rA u_5.2, b_c cB cC cI cJ cZ oA rA u_5.2] []) (bx_C (bs := [b_g cB cC cI cJ cZ oA rA u_5.2, b_w cB cC cI cJ cZ oA rA u_5.2, b_c cB cC cI cJ cZ oA rA u_5.2]) (bs' := [b_g cB cC cI cJ cZ oA rA u_5.2, b_w cB cC cI cJ cZ oA rA u_5.2, b_c cB cC cI cJ cZ oA rA u_5.2]) (is := [0, 1, 2]) fl_3 fl_3 rfl) (bx_C (bs := [b_g cB cC cI cJ cZ oA rA u_5.2, b_w cB cC cI cJ cZ oA rA u_5.2, b_c cB cC cI cJ cZ oA rA u_5.2]) (bs' := []) (is := []) fl_3 fl_0 rfl) (bx_n (by decide +kernel)) (bx_d (by decide +kernel)) (va_runV (As := []) (rest := []) ⟨hx, hb, hml, hown, hts⟩ (k_X2_expression l dC dI cB cC cI cJ cZ cP oA rA H.size  u_5.2 _ hu_7) (cwV 0 hts (g_gV wq_627 wq_628 wq_2016 wq_3 wq_629) rfl rfl rfl (by decide +kernel) ⟨Nat.le_of_ble_eq_true rfl, Nat.le_of_ble_eq_true rfl⟩) (g_preV g_bl0 hK hPc hDc hS hE hFc g_to0 (q0 := 0) (ci := 2) rfl rfl) rfl rfl hl.1 rfl (lv_room (Nat.le_of_ble_eq_true rfl)) dX2_let_17 ⟨Nat.le_of_ble_eq_true rfl, Nat.le_of_ble_eq_true rfl⟩) (fun u9 H locs hw9 hP' hD' hS => ?_)
  clear hPc hDc hFc
  have hP : va_P (dC, dI) vwCl (b_g cB cC cI cJ cZ oA rA u_7.2 ++ b_w cB cC cI cJ cZ oA rA u_7.2 ++ b_c cB cC cI cJ cZ oA rA u_7.2) H := hP'
  clear hP' hD'
  refine lv_aload_n hx hb dX2_let_20 rfl (lv_at hl 1 rfl) ?_
  refine va_get (D := (dC, dI)) (ci := 2) (v := .ref (oA 5)) (C := RX2) (T := TX2) (N := 8) hx hb hts ii_X2 hown hK hP 0 rfl rfl 1 (by decide) (hts (.fieldLink RX2 15 "StoryHouse$Grammar" "code" "LStoryHouse$Code;") wq_72) (fun _ h9 => h9) rfl dX2_let_21 ?_
  refine lv_bipush (v := 50) hx hb dX2_let_24 (by decide +kernel) ?_
  refine lv_iload_n hx hb dX2_let_26 rfl (lv_at hl 0 rfl) ?_
  obtain ⟨u_9, hu_9, hF_10⟩ := Option.bind_eq_some_iff.mp hF_8
  clear hF_8
  have hPc := bx_P (bs := [b_g cB cC cI cJ cZ oA rA u_7.2, b_w cB cC cI cJ cZ oA rA u_7.2, b_c cB cC cI cJ cZ oA rA u_7.2]) (bs' := [b_c cB cC cI cJ cZ oA rA u_7.2]) (ws' := (b_c cB cC cI cJ cZ oA rA u_7.2)) hP fl_3 fl_1 [2] rfl
  have hDc := bx_D (bs := [b_g cB cC cI cJ cZ oA rA u_7.2, b_w cB cC cI cJ cZ oA rA u_7.2, b_c cB cC cI cJ cZ oA rA u_7.2]) (bs' := [b_c cB cC cI cJ cZ oA rA u_7.2]) (ws' := (b_c cB cC cI cJ cZ oA rA u_7.2)) (hDD u_7.2) fl_3 fl_1 [2] (by decide +kernel) rfl
  have hFc := bx_F (bs := [b_g cB cC cI cJ cZ oA rA u_7.2, b_w cB cC cI cJ cZ oA rA u_7.2, b_c cB cC cI cJ cZ oA rA u_7.2]) (bs' := [b_c cB cC cI cJ cZ oA rA u_7.2]) (wc := (b_c cB cC cI cJ cZ oA rA u_7.2)) (hDD u_7.2) hS hA fl_3 fl_1 [2] rfl
  refine g_ofi (wc := (b_c cB cC cI cJ cZ oA rA u_7.2)) (wr := (b_g cB cC cI cJ cZ oA rA u_7.2 ++ b_w cB cC cI cJ cZ oA rA u_7.2)) hP (hDD u_7.2) hS hFc (bx_ix [b_g cB cC cI cJ cZ oA rA u_7.2, b_w cB cC cI cJ cZ oA rA u_7.2, b_c cB cC cI cJ cZ oA rA u_7.2] [2]) (bx_ix [b_g cB cC cI cJ cZ oA rA u_7.2, b_w cB cC cI cJ cZ oA rA u_7.2, b_c cB cC cI cJ cZ oA rA u_7.2] [0, 1]) (bx_C (bs := [b_g cB cC cI cJ cZ oA rA u_7.2, b_w cB cC cI cJ cZ oA rA u_7.2, b_c cB cC cI cJ cZ oA rA u_7.2]) (bs' := [b_c cB cC cI cJ cZ oA rA u_7.2]) (is := [2]) fl_3 fl_1 rfl) (bx_C (bs := [b_g cB cC cI cJ cZ oA rA u_7.2, b_w cB cC cI cJ cZ oA rA u_7.2, b_c cB cC cI cJ cZ oA rA u_7.2]) (bs' := [b_g cB cC cI cJ cZ oA rA u_7.2, b_w cB cC cI cJ cZ oA rA u_7.2]) (is := [0, 1]) fl_3 fl_2 rfl) (bx_n (by decide +kernel)) (bx_d (by decide +kernel)) (va_runV (As := [.int 50, .int x_1]) (rest := []) ⟨hx, hb, hml, hown, hts⟩ (k_X0_add_ l dC dI cB cC cI cJ cZ cP oA rA H.size  50 x_1 u_7.2 _ hu_9) (cwV 2 hts (g_gV wq_656 wq_657 wq_658 wq_6 wq_659) rfl rfl rfl (by decide +kernel) ⟨Nat.le_of_ble_eq_true rfl, Nat.le_of_ble_eq_true rfl⟩) (g_preV g_bl0 hK hPc hDc hS hE hFc g_to0 (q0 := 0) (ci := 0) rfl rfl) rfl rfl hl.1 rfl (lv_room (Nat.le_of_ble_eq_true rfl)) dX2_let_27 ⟨Nat.le_of_ble_eq_true rfl, Nat.le_of_ble_eq_true rfl⟩) (fun r9 u9 H locs hw9 hP' hD' hS => ?_)
  clear hPc hDc hFc
  subst hw9
  obtain ⟨σ_11, eσ_11, hF_12⟩ := bnd_e hF_10
  clear hF_10
  have hP : va_P (dC, dI) vwCl (b_g cB cC cI cJ cZ oA rA σ_11 ++ b_w cB cC cI cJ cZ oA rA σ_11 ++ b_c cB cC cI cJ cZ oA rA σ_11) H := by rw [eσ_11]; exact bx_P (bs := [b_g cB cC cI cJ cZ oA rA u_7.2, b_w cB cC cI cJ cZ oA rA u_7.2] ++ [b_c cB cC cI cJ cZ oA rA u_9.2]) (bs' := [b_g cB cC cI cJ cZ oA rA (mrg (fun j => j == 5) u_7.2 u_9.2), b_w cB cC cI cJ cZ oA rA (mrg (fun j => j == 5) u_7.2 u_9.2), b_c cB cC cI cJ cZ oA rA (mrg (fun j => j == 5) u_7.2 u_9.2)]) hP' (fl_a fl_2 fl_1) fl_3 [0, 1, 2] rfl
  clear hP' hD'
  refine lv_pop hx hb dX2_let_30 rfl ?_
  have h9 := Option.some.inj hF_12
  subst h9
  exact W.vret hx hb hr (fun t ht hW => ⟨⟨(), rfl, trivial, m_end ht hP, hDD _⟩, hS.F ht⟩) hS.2.2 dX2_let_31
theorem dX2_named_0 : decode cX2_named 0 = .ok (.aload_n 0, 1) := by decide +kernel
theorem dX2_named_1 : decode cX2_named 1 = .ok (.getfield 19, 3) := by decide +kernel
theorem dX2_named_4 : decode cX2_named 4 = .ok (.istore_n 1, 1) := by decide +kernel
theorem dX2_named_5 : decode cX2_named 5 = .ok (.aload_n 0, 1) := by decide +kernel
theorem dX2_named_6 : decode cX2_named 6 = .ok (.invokevirtual 107, 3) := by decide +kernel
theorem dX2_named_9 : decode cX2_named 9 = .ok (.aload_n 0, 1) := by decide +kernel
theorem dX2_named_10 : decode cX2_named 10 = .ok (.getfield 29, 3) := by decide +kernel
theorem dX2_named_13 : decode cX2_named 13 = .ok (.bipush 40, 2) := by decide +kernel
theorem dX2_named_15 : decode cX2_named 15 = .ok (.if_icmp .ne 19, 3) := by decide +kernel
theorem dX2_named_18 : decode cX2_named 18 = .ok (.aload_n 0, 1) := by decide +kernel
theorem dX2_named_19 : decode cX2_named 19 = .ok (.iload_n 1, 1) := by decide +kernel
theorem dX2_named_20 : decode cX2_named 20 = .ok (.invokevirtual 182, 3) := by decide +kernel
theorem dX2_named_23 : decode cX2_named 23 = .ok (.aload_n 0, 1) := by decide +kernel
theorem dX2_named_24 : decode cX2_named 24 = .ok (.getfield 15, 3) := by decide +kernel
theorem dX2_named_27 : decode cX2_named 27 = .ok (.iconst 1, 1) := by decide +kernel
theorem dX2_named_28 : decode cX2_named 28 = .ok (.invokevirtual 90, 3) := by decide +kernel
theorem dX2_named_31 : decode cX2_named 31 = .ok (.goto 61, 3) := by decide +kernel
theorem dX2_named_34 : decode cX2_named 34 = .ok (.aload_n 0, 1) := by decide +kernel
theorem dX2_named_35 : decode cX2_named 35 = .ok (.getfield 29, 3) := by decide +kernel
theorem dX2_named_38 : decode cX2_named 38 = .ok (.bipush 91, 2) := by decide +kernel
theorem dX2_named_40 : decode cX2_named 40 = .ok (.if_icmp .ne 31, 3) := by decide +kernel
theorem dX2_named_43 : decode cX2_named 43 = .ok (.aload_n 0, 1) := by decide +kernel
theorem dX2_named_44 : decode cX2_named 44 = .ok (.invokevirtual 185, 3) := by decide +kernel
theorem dX2_named_47 : decode cX2_named 47 = .ok (.aload_n 0, 1) := by decide +kernel
theorem dX2_named_48 : decode cX2_named 48 = .ok (.bipush 61, 2) := by decide +kernel
theorem dX2_named_50 : decode cX2_named 50 = .ok (.invokevirtual 120, 3) := by decide +kernel
theorem dX2_named_53 : decode cX2_named 53 = .ok (.aload_n 0, 1) := by decide +kernel
theorem dX2_named_54 : decode cX2_named 54 = .ok (.invokevirtual 167, 3) := by decide +kernel
theorem dX2_named_57 : decode cX2_named 57 = .ok (.aload_n 0, 1) := by decide +kernel
theorem dX2_named_58 : decode cX2_named 58 = .ok (.getfield 15, 3) := by decide +kernel
theorem dX2_named_61 : decode cX2_named 61 = .ok (.bipush 39, 2) := by decide +kernel
theorem dX2_named_63 : decode cX2_named 63 = .ok (.iload_n 1, 1) := by decide +kernel
theorem dX2_named_64 : decode cX2_named 64 = .ok (.invokevirtual 176, 3) := by decide +kernel
theorem dX2_named_67 : decode cX2_named 67 = .ok (.pop, 1) := by decide +kernel
theorem dX2_named_68 : decode cX2_named 68 = .ok (.goto 24, 3) := by decide +kernel
theorem dX2_named_71 : decode cX2_named 71 = .ok (.aload_n 0, 1) := by decide +kernel
theorem dX2_named_72 : decode cX2_named 72 = .ok (.bipush 61, 2) := by decide +kernel
theorem dX2_named_74 : decode cX2_named 74 = .ok (.invokevirtual 120, 3) := by decide +kernel
theorem dX2_named_77 : decode cX2_named 77 = .ok (.aload_n 0, 1) := by decide +kernel
theorem dX2_named_78 : decode cX2_named 78 = .ok (.invokevirtual 167, 3) := by decide +kernel
theorem dX2_named_81 : decode cX2_named 81 = .ok (.aload_n 0, 1) := by decide +kernel
theorem dX2_named_82 : decode cX2_named 82 = .ok (.getfield 15, 3) := by decide +kernel
theorem dX2_named_85 : decode cX2_named 85 = .ok (.bipush 50, 2) := by decide +kernel
theorem dX2_named_87 : decode cX2_named 87 = .ok (.iload_n 1, 1) := by decide +kernel
theorem dX2_named_88 : decode cX2_named 88 = .ok (.invokevirtual 176, 3) := by decide +kernel
theorem dX2_named_91 : decode cX2_named 91 = .ok (.pop, 1) := by decide +kernel
theorem dX2_named_92 : decode cX2_named 92 = .ok (.return_, 1) := by decide +kernel
def F_X2_named  (Γ : HS) : HR :=
  bnd (((Γ 2).1 2)) fun (x_1 : Int32) =>
  (F_X2_pass Γ).bind fun u_3 =>
  if ((u_3.2 2).1 3) = 40 then (
    (G_X2_arguments x_1 u_3.2).bind fun u_7 =>
    (F_X0_add 1 u_7.2).bind fun u_9 =>
    bnd (mrg (fun j => j == 5) u_7.2 u_9.2) fun σ_11 =>
    some (0, σ_11)
  ) else (
    if ((u_3.2 2).1 3) = 91 then (
      (G_X2_index u_3.2).bind fun u_16 =>
      (F_X2_need 61 u_16.2).bind fun u_18 =>
      (G_X2_expression u_18.2).bind fun u_20 =>
      (F_X0_add_ 39 x_1 u_20.2).bind fun u_22 =>
      bnd (mrg (fun j => j == 5) u_20.2 u_22.2) fun σ_24 =>
      some (0, σ_24)
    ) else (
      (F_X2_need 61 u_3.2).bind fun u_27 =>
      (G_X2_expression u_27.2).bind fun u_29 =>
      (F_X0_add_ 50 x_1 u_29.2).bind fun u_31 =>
      bnd (mrg (fun j => j == 5) u_29.2 u_31.2) fun σ_33 =>
      some (0, σ_33)
    )
  )
set_option maxHeartbeats 4000000 in
set_option maxRecDepth 100000 in
theorem k_X2_named (l : Launch) (dC : Nat → ClassId) (dI : Nat → Nat → Nat) (cB cC cI cJ cZ cP : ClassId) (oA : Nat → Nat) (rA : Nat → Nat → Nat) (sz : Nat)   (Γ : HS) (res : Int32 × HS) (hF : F_X2_named  Γ = some res) : Met l yX2_named (g_ws yX2_named cX2_named 2 none) ({ frames := 305, cells := 0, slots := 0, locals := 6724 }) (va_Pc [.ref (oA 2)] (g_B (dC, dI) [(cB, .byte), (cC, .char), (cI, .int), (cJ, .long), (cZ, .boolean), (cP, .object "StoryHouse$Play")] sz (b_g cB cC cI cJ cZ oA rA Γ ++ b_w cB cC cI cJ cZ oA rA Γ ++ b_c cB cC cI cJ cZ oA rA Γ) g_0)) (va_Qv (fun (_ : Unit) => True) (g_Bo (dC, dI) (va_A (b_g cB cC cI cJ cZ oA rA Γ ++ b_w cB cC cI cJ cZ oA rA Γ ++ b_c cB cC cI cJ cZ oA rA Γ) sz) (fun (_ : Unit) => (b_g cB cC cI cJ cZ oA rA res.2 ++ b_w cB cC cI cJ cZ oA rA res.2 ++ b_c cB cC cI cJ cZ oA rA res.2))) (va_A (b_g cB cC cI cJ cZ oA rA Γ ++ b_w cB cC cI cJ cZ oA rA Γ ++ b_c cB cC cI cJ cZ oA rA Γ) sz)) 0 0 (va_A (b_g cB cC cI cJ cZ oA rA Γ ++ b_w cB cC cI cJ cZ oA rA Γ ++ b_c cB cC cI cJ cZ oA rA Γ) sz) := by
  refine Met.ofW (cc := cX2_named) (maxL := 2) (ret := none) (by decide) rfl ?_
  intro p e s m args below meth c s₁ B hml hv
  obtain ⟨rfl, hsz, hP, hK, hD0, hE, hX⟩ := hv
  have hx := B.exec
  have hb := B.bytes
  have hr := B.returns
  have hts0 := atoms_spec (ws := g_ws yX2_named cX2_named 2 none) B.pre
  have hts : ∀ w ∈ lw_good, w.before ([.ref (oA 2)] : List Value).toArray s = true := fun w z => hts0 w (List.mem_cons_of_mem _ z)
  have hown : s.vm.findClass RX2 = some m.cls := findClass_of_methodNamed B.named
  have hlocks := B.notSynchronized
  subst hsz
  have hD1 := hD0.self (sz := s.heap.size)
  generalize hAe : va_A (b_g cB cC cI cJ cZ oA rA Γ ++ b_w cB cC cI cJ cZ oA rA Γ ++ b_c cB cC cI cJ cZ oA rA Γ) s.heap.size = A at hD1 hE hX ⊢
  have hA : ∀ q : Nat, s.heap.size ≤ q → A q := fun q z => by rw [← hAe]; exact Or.inr z
  have hDD : ∀ Γ : HS, va_D A (b_g cB cC cI cJ cZ oA rA Γ ++ b_w cB cC cI cJ cZ oA rA Γ ++ b_c cB cC cI cJ cZ oA rA Γ) := fun Γ9 => va_D_fst (ws := (b_g cB cC cI cJ cZ oA rA Γ ++ b_w cB cC cI cJ cZ oA rA Γ ++ b_c cB cC cI cJ cZ oA rA Γ)) (ws' := (b_g cB cC cI cJ cZ oA rA Γ9 ++ b_w cB cC cI cJ cZ oA rA Γ9 ++ b_c cB cC cI cJ cZ oA rA Γ9)) rfl hD1
  have hN := hE.1
  have hS : va_S A s.heap s.heap [] := va_S.rf
  have hl := lv_entry ([.ref (oA 2)]) (n := 2) (Nat.le_of_ble_eq_true rfl)
  rw [lg_entry_eq]
  generalize (lg_sl ([.ref (oA 2)]) ++ List.replicate (2 - (lg_sl ([.ref (oA 2)])).length) Slot.unset).toArray = ls at hl ⊢
  have hl : lv_has ls 2 [(0, .ref (oA 2))] := hl
  unfold F_X2_named at hF
  refine lv_aload_n hx hb dX2_named_0 rfl (lv_at hl 0 rfl) ?_
  refine va_get (D := (dC, dI)) (ci := 2) (v := .int ((Γ 2).1 2)) (C := RX2) (T := TX2) (N := 8) hx hb hts ii_X2 hown hK hP 0 rfl rfl 2 (by decide) (hts (.fieldLink RX2 19 "StoryHouse$Grammar" "at" "I") wq_73) (fun _ h9 => h9) rfl dX2_named_1 ?_
  obtain ⟨x_1, ex_1, hF_2⟩ := bnd_e hF
  clear hF
  refine m_top ex_1 ?_
  refine lv_istore_n (lv' := [(1, .int x_1), (0, .ref (oA 2))]) hx hb dX2_named_4 rfl hl (by decide) rfl (fun ls hl => ?_)
  refine lv_aload_n hx hb dX2_named_5 rfl (lv_at hl 1 rfl) ?_
  obtain ⟨u_3, hu_3, hF_4⟩ := Option.bind_eq_some_iff.mp hF_2
  clear hF_2
  have hPc := bx_P (bs := [b_g cB cC cI cJ cZ oA rA Γ, b_w cB cC cI cJ cZ oA rA Γ, b_c cB cC cI cJ cZ oA rA Γ]) (bs' := [b_g cB cC cI cJ cZ oA rA Γ, b_w cB cC cI cJ cZ oA rA Γ, b_c cB cC cI cJ cZ oA rA Γ]) (ws' := (b_g cB cC cI cJ cZ oA rA Γ ++ b_w cB cC cI cJ cZ oA rA Γ ++ b_c cB cC cI cJ cZ oA rA Γ)) hP fl_3 fl_3 [0, 1, 2] rfl
  have hDc := bx_D (bs := [b_g cB cC cI cJ cZ oA rA Γ, b_w cB cC cI cJ cZ oA rA Γ, b_c cB cC cI cJ cZ oA rA Γ]) (bs' := [b_g cB cC cI cJ cZ oA rA Γ, b_w cB cC cI cJ cZ oA rA Γ, b_c cB cC cI cJ cZ oA rA Γ]) (ws' := (b_g cB cC cI cJ cZ oA rA Γ ++ b_w cB cC cI cJ cZ oA rA Γ ++ b_c cB cC cI cJ cZ oA rA Γ)) (hDD Γ) fl_3 fl_3 [0, 1, 2] (by decide +kernel) rfl
  have hFc := bx_F (bs := [b_g cB cC cI cJ cZ oA rA Γ, b_w cB cC cI cJ cZ oA rA Γ, b_c cB cC cI cJ cZ oA rA Γ]) (bs' := [b_g cB cC cI cJ cZ oA rA Γ, b_w cB cC cI cJ cZ oA rA Γ, b_c cB cC cI cJ cZ oA rA Γ]) (wc := (b_g cB cC cI cJ cZ oA rA Γ ++ b_w cB cC cI cJ cZ oA rA Γ ++ b_c cB cC cI cJ cZ oA rA Γ)) (hDD Γ) hS hA fl_3 fl_3 [0, 1, 2] rfl
  refine g_ofv (wc := (b_g cB cC cI cJ cZ oA rA Γ ++ b_w cB cC cI cJ cZ oA rA Γ ++ b_c cB cC cI cJ cZ oA rA Γ)) (wr := ([] : va_W)) hP (hDD Γ) hS hFc (bx_ix [b_g cB cC cI cJ cZ oA rA Γ, b_w cB cC cI cJ cZ oA rA Γ, b_c cB cC cI cJ cZ oA rA Γ] [0, 1, 2]) (bx_ix [b_g cB cC cI cJ cZ oA rA Γ, b_w cB cC cI cJ cZ oA rA Γ, b_c cB cC cI cJ cZ oA rA Γ] []) (bx_C (bs := [b_g cB cC cI cJ cZ oA rA Γ, b_w cB cC cI cJ cZ oA rA Γ, b_c cB cC cI cJ cZ oA rA Γ]) (bs' := [b_g cB cC cI cJ cZ oA rA Γ, b_w cB cC cI cJ cZ oA rA Γ, b_c cB cC cI cJ cZ oA rA Γ]) (is := [0, 1, 2]) fl_3 fl_3 rfl) (bx_C (bs := [b_g cB cC cI cJ cZ oA rA Γ, b_w cB cC cI cJ cZ oA rA Γ, b_c cB cC cI cJ cZ oA rA Γ]) (bs' := []) (is := []) fl_3 fl_0 rfl) (bx_n (by decide +kernel)) (bx_d (by decide +kernel)) (va_runV (As := []) (rest := []) ⟨hx, hb, hml, hown, hts⟩ (k_X2_pass l dC dI cB cC cI cJ cZ cP oA rA s.heap.size  Γ _ hu_3) (cwV 0 hts (g_gV wq_555 wq_556 wq_1997 wq_3 wq_557) rfl rfl rfl (by decide +kernel) ⟨Nat.le_of_ble_eq_true rfl, Nat.le_of_ble_eq_true rfl⟩) (g_preV g_bl0 hK hPc hDc hS hE hFc g_to0 (q0 := 0) (ci := 2) rfl rfl) rfl rfl hl.1 rfl (lv_room (Nat.le_of_ble_eq_true rfl)) dX2_named_6 ⟨Nat.le_of_ble_eq_true rfl, Nat.le_of_ble_eq_true rfl⟩) (fun u9 H locs hw9 hP' hD' hS => ?_)
  clear hPc hDc hFc
  have hP : va_P (dC, dI) vwCl (b_g cB cC cI cJ cZ oA rA u_3.2 ++ b_w cB cC cI cJ cZ oA rA u_3.2 ++ b_c cB cC cI cJ cZ oA rA u_3.2) H := hP'
  clear hP' hD'
  refine lv_aload_n hx hb dX2_named_9 rfl (lv_at hl 1 rfl) ?_
  refine va_get (D := (dC, dI)) (ci := 2) (v := .int ((u_3.2 2).1 3)) (C := RX2) (T := TX2) (N := 8) hx hb hts ii_X2 hown hK hP 0 rfl rfl 3 (by decide) (hts (.fieldLink RX2 29 "StoryHouse$Grammar" "kind" "I") wq_74) (fun _ h9 => h9) rfl dX2_named_10 ?_
  refine lv_bipush (v := 40) hx hb dX2_named_13 (by decide +kernel) ?_
  refine lv_icmp_ne (tgt := 34) hx hb dX2_named_15 (by decide) (fun c_5 => ?_) (fun c_5 => ?_)
  · have hF_13 := ineg c_5 hF_4
    clear hF_4
    refine lv_aload_n hx hb dX2_named_34 rfl (lv_at hl 1 rfl) ?_
    refine va_get (D := (dC, dI)) (ci := 2) (v := .int ((u_3.2 2).1 3)) (C := RX2) (T := TX2) (N := 8) hx hb hts ii_X2 hown hK hP 0 rfl rfl 3 (by decide) (hts (.fieldLink RX2 29 "StoryHouse$Grammar" "kind" "I") wq_74) (fun _ h9 => h9) rfl dX2_named_35 ?_
    refine lv_bipush (v := 91) hx hb dX2_named_38 (by decide +kernel) ?_
    refine lv_icmp_ne (tgt := 71) hx hb dX2_named_40 (by decide) (fun c_14 => ?_) (fun c_14 => ?_)
    · have hF_26 := ineg c_14 hF_13
      clear hF_13
      refine lv_aload_n hx hb dX2_named_71 rfl (lv_at hl 1 rfl) ?_
      refine lv_bipush (v := 61) hx hb dX2_named_72 (by decide +kernel) ?_
      obtain ⟨u_27, hu_27, hF_28⟩ := Option.bind_eq_some_iff.mp hF_26
      clear hF_26
      have hPc := bx_P (bs := [b_g cB cC cI cJ cZ oA rA u_3.2, b_w cB cC cI cJ cZ oA rA u_3.2, b_c cB cC cI cJ cZ oA rA u_3.2]) (bs' := [b_g cB cC cI cJ cZ oA rA u_3.2, b_w cB cC cI cJ cZ oA rA u_3.2, b_c cB cC cI cJ cZ oA rA u_3.2]) (ws' := (b_g cB cC cI cJ cZ oA rA u_3.2 ++ b_w cB cC cI cJ cZ oA rA u_3.2 ++ b_c cB cC cI cJ cZ oA rA u_3.2)) hP fl_3 fl_3 [0, 1, 2] rfl
      have hDc := bx_D (bs := [b_g cB cC cI cJ cZ oA rA u_3.2, b_w cB cC cI cJ cZ oA rA u_3.2, b_c cB cC cI cJ cZ oA rA u_3.2]) (bs' := [b_g cB cC cI cJ cZ oA rA u_3.2, b_w cB cC cI cJ cZ oA rA u_3.2, b_c cB cC cI cJ cZ oA rA u_3.2]) (ws' := (b_g cB cC cI cJ cZ oA rA u_3.2 ++ b_w cB cC cI cJ cZ oA rA u_3.2 ++ b_c cB cC cI cJ cZ oA rA u_3.2)) (hDD u_3.2) fl_3 fl_3 [0, 1, 2] (by decide +kernel) rfl
      have hFc := bx_F (bs := [b_g cB cC cI cJ cZ oA rA u_3.2, b_w cB cC cI cJ cZ oA rA u_3.2, b_c cB cC cI cJ cZ oA rA u_3.2]) (bs' := [b_g cB cC cI cJ cZ oA rA u_3.2, b_w cB cC cI cJ cZ oA rA u_3.2, b_c cB cC cI cJ cZ oA rA u_3.2]) (wc := (b_g cB cC cI cJ cZ oA rA u_3.2 ++ b_w cB cC cI cJ cZ oA rA u_3.2 ++ b_c cB cC cI cJ cZ oA rA u_3.2)) (hDD u_3.2) hS hA fl_3 fl_3 [0, 1, 2] rfl
      refine g_ofv (wc := (b_g cB cC cI cJ cZ oA rA u_3.2 ++ b_w cB cC cI cJ cZ oA rA u_3.2 ++ b_c cB cC cI cJ cZ oA rA u_3.2)) (wr := ([] : va_W)) hP (hDD u_3.2) hS hFc (bx_ix [b_g cB cC cI cJ cZ oA rA u_3.2, b_w cB cC cI cJ cZ oA rA u_3.2, b_c cB cC cI cJ cZ oA rA u_3.2] [0, 1, 2]) (bx_ix [b_g cB cC cI cJ cZ oA rA u_3.2, b_w cB cC cI cJ cZ oA rA u_3.2, b_c cB cC cI cJ cZ oA rA u_3.2] []) (bx_C (bs := [b_g cB cC cI cJ cZ oA rA u_3.2, b_w cB cC cI cJ cZ oA rA u_3.2, b_c cB cC cI cJ cZ oA rA u_3.2]) (bs' := [b_g cB cC cI cJ cZ oA rA u_3.2, b_w cB cC cI cJ cZ oA rA u_3.2, b_c cB cC cI cJ cZ oA rA u_3.2]) (is := [0, 1, 2]) fl_3 fl_3 rfl) (bx_C (bs := [b_g cB cC cI cJ cZ oA rA u_3.2, b_w cB cC cI cJ cZ oA rA u_3.2, b_c cB cC cI cJ cZ oA rA u_3.2]) (bs' := []) (is := []) fl_3 fl_0 rfl) (bx_n (by decide +kernel)) (bx_d (by decide +kernel)) (va_runV (As := [.int 61]) (rest := []) ⟨hx, hb, hml, hown, hts⟩ (k_X2_need l dC dI cB cC cI cJ cZ cP oA rA H.size  61 u_3.2 _ hu_27) (cwV 1 hts (g_gV wq_564 wq_565 wq_2000 wq_3 wq_566) rfl rfl rfl (by decide +kernel) ⟨Nat.le_of_ble_eq_true rfl, Nat.le_of_ble_eq_true rfl⟩) (g_preV g_bl0 hK hPc hDc hS hE hFc g_to0 (q0 := 0) (ci := 2) rfl rfl) rfl rfl hl.1 rfl (lv_room (Nat.le_of_ble_eq_true rfl)) dX2_named_74 ⟨Nat.le_of_ble_eq_true rfl, Nat.le_of_ble_eq_true rfl⟩) (fun u9 H locs hw9 hP' hD' hS => ?_)
      clear hPc hDc hFc
      have hP : va_P (dC, dI) vwCl (b_g cB cC cI cJ cZ oA rA u_27.2 ++ b_w cB cC cI cJ cZ oA rA u_27.2 ++ b_c cB cC cI cJ cZ oA rA u_27.2) H := hP'
      clear hP' hD'
      refine lv_aload_n hx hb dX2_named_77 rfl (lv_at hl 1 rfl) ?_
      obtain ⟨u_29, hu_29, hF_30⟩ := Option.bind_eq_some_iff.mp hF_28
      clear hF_28
      have hPc := bx_P (bs := [b_g cB cC cI cJ cZ oA rA u_27.2, b_w cB cC cI cJ cZ oA rA u_27.2, b_c cB cC cI cJ cZ oA rA u_27.2]) (bs' := [b_g cB cC cI cJ cZ oA rA u_27.2, b_w cB cC cI cJ cZ oA rA u_27.2, b_c cB cC cI cJ cZ oA rA u_27.2]) (ws' := (b_g cB cC cI cJ cZ oA rA u_27.2 ++ b_w cB cC cI cJ cZ oA rA u_27.2 ++ b_c cB cC cI cJ cZ oA rA u_27.2)) hP fl_3 fl_3 [0, 1, 2] rfl
      have hDc := bx_D (bs := [b_g cB cC cI cJ cZ oA rA u_27.2, b_w cB cC cI cJ cZ oA rA u_27.2, b_c cB cC cI cJ cZ oA rA u_27.2]) (bs' := [b_g cB cC cI cJ cZ oA rA u_27.2, b_w cB cC cI cJ cZ oA rA u_27.2, b_c cB cC cI cJ cZ oA rA u_27.2]) (ws' := (b_g cB cC cI cJ cZ oA rA u_27.2 ++ b_w cB cC cI cJ cZ oA rA u_27.2 ++ b_c cB cC cI cJ cZ oA rA u_27.2)) (hDD u_27.2) fl_3 fl_3 [0, 1, 2] (by decide +kernel) rfl
      have hFc := bx_F (bs := [b_g cB cC cI cJ cZ oA rA u_27.2, b_w cB cC cI cJ cZ oA rA u_27.2, b_c cB cC cI cJ cZ oA rA u_27.2]) (bs' := [b_g cB cC cI cJ cZ oA rA u_27.2, b_w cB cC cI cJ cZ oA rA u_27.2, b_c cB cC cI cJ cZ oA rA u_27.2]) (wc := (b_g cB cC cI cJ cZ oA rA u_27.2 ++ b_w cB cC cI cJ cZ oA rA u_27.2 ++ b_c cB cC cI cJ cZ oA rA u_27.2)) (hDD u_27.2) hS hA fl_3 fl_3 [0, 1, 2] rfl
      refine g_ofv (wc := (b_g cB cC cI cJ cZ oA rA u_27.2 ++ b_w cB cC cI cJ cZ oA rA u_27.2 ++ b_c cB cC cI cJ cZ oA rA u_27.2)) (wr := ([] : va_W)) hP (hDD u_27.2) hS hFc (bx_ix [b_g cB cC cI cJ cZ oA rA u_27.2, b_w cB cC cI cJ cZ oA rA u_27.2, b_c cB cC cI cJ cZ oA rA u_27.2] [0, 1, 2]) (bx_ix [b_g cB cC cI cJ cZ oA rA u_27.2, b_w cB cC cI cJ cZ oA rA u_27.2, b_c cB cC cI cJ cZ oA rA u_27.2] []) (bx_C (bs := [b_g cB cC cI cJ cZ oA rA u_27.2, b_w cB cC cI cJ cZ oA rA u_27.2, b_c cB cC cI cJ cZ oA rA u_27.2]) (bs' := [b_g cB cC cI cJ cZ oA rA u_27.2, b_w cB cC cI cJ cZ oA rA u_27.2, b_c cB cC cI cJ cZ oA rA u_27.2]) (is := [0, 1, 2]) fl_3 fl_3 rfl) (bx_C (bs := [b_g cB cC cI cJ cZ oA rA u_27.2, b_w cB cC cI cJ cZ oA rA u_27.2, b_c cB cC cI cJ cZ oA rA u_27.2]) (bs' := []) (is := []) fl_3 fl_0 rfl) (bx_n (by decide +kernel)) (bx_d (by decide +kernel)) (va_runV (As := []) (rest := []) ⟨hx, hb, hml, hown, hts⟩ (k_X2_expression l dC dI cB cC cI cJ cZ cP oA rA H.size  u_27.2 _ hu_29) (cwV 0 hts (g_gV wq_627 wq_628 wq_2016 wq_3 wq_629) rfl rfl rfl (by decide +kernel) ⟨Nat.le_of_ble_eq_true rfl, Nat.le_of_ble_eq_true rfl⟩) (g_preV g_bl0 hK hPc hDc hS hE hFc g_to0 (q0 := 0) (ci := 2) rfl rfl) rfl rfl hl.1 rfl (lv_room (Nat.le_of_ble_eq_true rfl)) dX2_named_78 ⟨Nat.le_of_ble_eq_true rfl, Nat.le_of_ble_eq_true rfl⟩) (fun u9 H locs hw9 hP' hD' hS => ?_)
      clear hPc hDc hFc
      have hP : va_P (dC, dI) vwCl (b_g cB cC cI cJ cZ oA rA u_29.2 ++ b_w cB cC cI cJ cZ oA rA u_29.2 ++ b_c cB cC cI cJ cZ oA rA u_29.2) H := hP'
      clear hP' hD'
      refine lv_aload_n hx hb dX2_named_81 rfl (lv_at hl 1 rfl) ?_
      refine va_get (D := (dC, dI)) (ci := 2) (v := .ref (oA 5)) (C := RX2) (T := TX2) (N := 8) hx hb hts ii_X2 hown hK hP 0 rfl rfl 1 (by decide) (hts (.fieldLink RX2 15 "StoryHouse$Grammar" "code" "LStoryHouse$Code;") wq_72) (fun _ h9 => h9) rfl dX2_named_82 ?_
      refine lv_bipush (v := 50) hx hb dX2_named_85 (by decide +kernel) ?_
      refine lv_iload_n hx hb dX2_named_87 rfl (lv_at hl 0 rfl) ?_
      obtain ⟨u_31, hu_31, hF_32⟩ := Option.bind_eq_some_iff.mp hF_30
      clear hF_30
      have hPc := bx_P (bs := [b_g cB cC cI cJ cZ oA rA u_29.2, b_w cB cC cI cJ cZ oA rA u_29.2, b_c cB cC cI cJ cZ oA rA u_29.2]) (bs' := [b_c cB cC cI cJ cZ oA rA u_29.2]) (ws' := (b_c cB cC cI cJ cZ oA rA u_29.2)) hP fl_3 fl_1 [2] rfl
      have hDc := bx_D (bs := [b_g cB cC cI cJ cZ oA rA u_29.2, b_w cB cC cI cJ cZ oA rA u_29.2, b_c cB cC cI cJ cZ oA rA u_29.2]) (bs' := [b_c cB cC cI cJ cZ oA rA u_29.2]) (ws' := (b_c cB cC cI cJ cZ oA rA u_29.2)) (hDD u_29.2) fl_3 fl_1 [2] (by decide +kernel) rfl
      have hFc := bx_F (bs := [b_g cB cC cI cJ cZ oA rA u_29.2, b_w cB cC cI cJ cZ oA rA u_29.2, b_c cB cC cI cJ cZ oA rA u_29.2]) (bs' := [b_c cB cC cI cJ cZ oA rA u_29.2]) (wc := (b_c cB cC cI cJ cZ oA rA u_29.2)) (hDD u_29.2) hS hA fl_3 fl_1 [2] rfl
      refine g_ofi (wc := (b_c cB cC cI cJ cZ oA rA u_29.2)) (wr := (b_g cB cC cI cJ cZ oA rA u_29.2 ++ b_w cB cC cI cJ cZ oA rA u_29.2)) hP (hDD u_29.2) hS hFc (bx_ix [b_g cB cC cI cJ cZ oA rA u_29.2, b_w cB cC cI cJ cZ oA rA u_29.2, b_c cB cC cI cJ cZ oA rA u_29.2] [2]) (bx_ix [b_g cB cC cI cJ cZ oA rA u_29.2, b_w cB cC cI cJ cZ oA rA u_29.2, b_c cB cC cI cJ cZ oA rA u_29.2] [0, 1]) (bx_C (bs := [b_g cB cC cI cJ cZ oA rA u_29.2, b_w cB cC cI cJ cZ oA rA u_29.2, b_c cB cC cI cJ cZ oA rA u_29.2]) (bs' := [b_c cB cC cI cJ cZ oA rA u_29.2]) (is := [2]) fl_3 fl_1 rfl) (bx_C (bs := [b_g cB cC cI cJ cZ oA rA u_29.2, b_w cB cC cI cJ cZ oA rA u_29.2, b_c cB cC cI cJ cZ oA rA u_29.2]) (bs' := [b_g cB cC cI cJ cZ oA rA u_29.2, b_w cB cC cI cJ cZ oA rA u_29.2]) (is := [0, 1]) fl_3 fl_2 rfl) (bx_n (by decide +kernel)) (bx_d (by decide +kernel)) (va_runV (As := [.int 50, .int x_1]) (rest := []) ⟨hx, hb, hml, hown, hts⟩ (k_X0_add_ l dC dI cB cC cI cJ cZ cP oA rA H.size  50 x_1 u_29.2 _ hu_31) (cwV 2 hts (g_gV wq_656 wq_657 wq_658 wq_6 wq_659) rfl rfl rfl (by decide +kernel) ⟨Nat.le_of_ble_eq_true rfl, Nat.le_of_ble_eq_true rfl⟩) (g_preV g_bl0 hK hPc hDc hS hE hFc g_to0 (q0 := 0) (ci := 0) rfl rfl) rfl rfl hl.1 rfl (lv_room (Nat.le_of_ble_eq_true rfl)) dX2_named_88 ⟨Nat.le_of_ble_eq_true rfl, Nat.le_of_ble_eq_true rfl⟩) (fun r9 u9 H locs hw9 hP' hD' hS => ?_)
      clear hPc hDc hFc
      subst hw9
      obtain ⟨σ_33, eσ_33, hF_34⟩ := bnd_e hF_32
      clear hF_32
      have hP : va_P (dC, dI) vwCl (b_g cB cC cI cJ cZ oA rA σ_33 ++ b_w cB cC cI cJ cZ oA rA σ_33 ++ b_c cB cC cI cJ cZ oA rA σ_33) H := by rw [eσ_33]; exact bx_P (bs := [b_g cB cC cI cJ cZ oA rA u_29.2, b_w cB cC cI cJ cZ oA rA u_29.2] ++ [b_c cB cC cI cJ cZ oA rA u_31.2]) (bs' := [b_g cB cC cI cJ cZ oA rA (mrg (fun j => j == 5) u_29.2 u_31.2), b_w cB cC cI cJ cZ oA rA (mrg (fun j => j == 5) u_29.2 u_31.2), b_c cB cC cI cJ cZ oA rA (mrg (fun j => j == 5) u_29.2 u_31.2)]) hP' (fl_a fl_2 fl_1) fl_3 [0, 1, 2] rfl
      clear hP' hD'
      refine lv_pop hx hb dX2_named_91 rfl ?_
      have h9 := Option.some.inj hF_34
      subst h9
      exact W.vret hx hb hr (fun t ht hW => ⟨⟨(), rfl, trivial, m_end ht hP, hDD _⟩, hS.F ht⟩) hS.2.2 dX2_named_92
    · have hF_15 := ipos c_14 hF_13
      clear hF_13
      refine lv_aload_n hx hb dX2_named_43 rfl (lv_at hl 1 rfl) ?_
      obtain ⟨u_16, hu_16, hF_17⟩ := Option.bind_eq_some_iff.mp hF_15
      clear hF_15
      have hPc := bx_P (bs := [b_g cB cC cI cJ cZ oA rA u_3.2, b_w cB cC cI cJ cZ oA rA u_3.2, b_c cB cC cI cJ cZ oA rA u_3.2]) (bs' := [b_g cB cC cI cJ cZ oA rA u_3.2, b_w cB cC cI cJ cZ oA rA u_3.2, b_c cB cC cI cJ cZ oA rA u_3.2]) (ws' := (b_g cB cC cI cJ cZ oA rA u_3.2 ++ b_w cB cC cI cJ cZ oA rA u_3.2 ++ b_c cB cC cI cJ cZ oA rA u_3.2)) hP fl_3 fl_3 [0, 1, 2] rfl
      have hDc := bx_D (bs := [b_g cB cC cI cJ cZ oA rA u_3.2, b_w cB cC cI cJ cZ oA rA u_3.2, b_c cB cC cI cJ cZ oA rA u_3.2]) (bs' := [b_g cB cC cI cJ cZ oA rA u_3.2, b_w cB cC cI cJ cZ oA rA u_3.2, b_c cB cC cI cJ cZ oA rA u_3.2]) (ws' := (b_g cB cC cI cJ cZ oA rA u_3.2 ++ b_w cB cC cI cJ cZ oA rA u_3.2 ++ b_c cB cC cI cJ cZ oA rA u_3.2)) (hDD u_3.2) fl_3 fl_3 [0, 1, 2] (by decide +kernel) rfl
      have hFc := bx_F (bs := [b_g cB cC cI cJ cZ oA rA u_3.2, b_w cB cC cI cJ cZ oA rA u_3.2, b_c cB cC cI cJ cZ oA rA u_3.2]) (bs' := [b_g cB cC cI cJ cZ oA rA u_3.2, b_w cB cC cI cJ cZ oA rA u_3.2, b_c cB cC cI cJ cZ oA rA u_3.2]) (wc := (b_g cB cC cI cJ cZ oA rA u_3.2 ++ b_w cB cC cI cJ cZ oA rA u_3.2 ++ b_c cB cC cI cJ cZ oA rA u_3.2)) (hDD u_3.2) hS hA fl_3 fl_3 [0, 1, 2] rfl
      refine g_ofv (wc := (b_g cB cC cI cJ cZ oA rA u_3.2 ++ b_w cB cC cI cJ cZ oA rA u_3.2 ++ b_c cB cC cI cJ cZ oA rA u_3.2)) (wr := ([] : va_W)) hP (hDD u_3.2) hS hFc (bx_ix [b_g cB cC cI cJ cZ oA rA u_3.2, b_w cB cC cI cJ cZ oA rA u_3.2, b_c cB cC cI cJ cZ oA rA u_3.2] [0, 1, 2]) (bx_ix [b_g cB cC cI cJ cZ oA rA u_3.2, b_w cB cC cI cJ cZ oA rA u_3.2, b_c cB cC cI cJ cZ oA rA u_3.2] []) (bx_C (bs := [b_g cB cC cI cJ cZ oA rA u_3.2, b_w cB cC cI cJ cZ oA rA u_3.2, b_c cB cC cI cJ cZ oA rA u_3.2]) (bs' := [b_g cB cC cI cJ cZ oA rA u_3.2, b_w cB cC cI cJ cZ oA rA u_3.2, b_c cB cC cI cJ cZ oA rA u_3.2]) (is := [0, 1, 2]) fl_3 fl_3 rfl) (bx_C (bs := [b_g cB cC cI cJ cZ oA rA u_3.2, b_w cB cC cI cJ cZ oA rA u_3.2, b_c cB cC cI cJ cZ oA rA u_3.2]) (bs' := []) (is := []) fl_3 fl_0 rfl) (bx_n (by decide +kernel)) (bx_d (by decide +kernel)) (va_runV (As := []) (rest := []) ⟨hx, hb, hml, hown, hts⟩ (k_X2_index l dC dI cB cC cI cJ cZ cP oA rA H.size  u_3.2 _ hu_16) (cwV 0 hts (g_gV wq_663 wq_664 wq_2024 wq_3 wq_665) rfl rfl rfl (by decide +kernel) ⟨Nat.le_of_ble_eq_true rfl, Nat.le_of_ble_eq_true rfl⟩) (g_preV g_bl0 hK hPc hDc hS hE hFc g_to0 (q0 := 0) (ci := 2) rfl rfl) rfl rfl hl.1 rfl (lv_room (Nat.le_of_ble_eq_true rfl)) dX2_named_44 ⟨Nat.le_of_ble_eq_true rfl, Nat.le_of_ble_eq_true rfl⟩) (fun u9 H locs hw9 hP' hD' hS => ?_)
      clear hPc hDc hFc
      have hP : va_P (dC, dI) vwCl (b_g cB cC cI cJ cZ oA rA u_16.2 ++ b_w cB cC cI cJ cZ oA rA u_16.2 ++ b_c cB cC cI cJ cZ oA rA u_16.2) H := hP'
      clear hP' hD'
      refine lv_aload_n hx hb dX2_named_47 rfl (lv_at hl 1 rfl) ?_
      refine lv_bipush (v := 61) hx hb dX2_named_48 (by decide +kernel) ?_
      obtain ⟨u_18, hu_18, hF_19⟩ := Option.bind_eq_some_iff.mp hF_17
      clear hF_17
      have hPc := bx_P (bs := [b_g cB cC cI cJ cZ oA rA u_16.2, b_w cB cC cI cJ cZ oA rA u_16.2, b_c cB cC cI cJ cZ oA rA u_16.2]) (bs' := [b_g cB cC cI cJ cZ oA rA u_16.2, b_w cB cC cI cJ cZ oA rA u_16.2, b_c cB cC cI cJ cZ oA rA u_16.2]) (ws' := (b_g cB cC cI cJ cZ oA rA u_16.2 ++ b_w cB cC cI cJ cZ oA rA u_16.2 ++ b_c cB cC cI cJ cZ oA rA u_16.2)) hP fl_3 fl_3 [0, 1, 2] rfl
      have hDc := bx_D (bs := [b_g cB cC cI cJ cZ oA rA u_16.2, b_w cB cC cI cJ cZ oA rA u_16.2, b_c cB cC cI cJ cZ oA rA u_16.2]) (bs' := [b_g cB cC cI cJ cZ oA rA u_16.2, b_w cB cC cI cJ cZ oA rA u_16.2, b_c cB cC cI cJ cZ oA rA u_16.2]) (ws' := (b_g cB cC cI cJ cZ oA rA u_16.2 ++ b_w cB cC cI cJ cZ oA rA u_16.2 ++ b_c cB cC cI cJ cZ oA rA u_16.2)) (hDD u_16.2) fl_3 fl_3 [0, 1, 2] (by decide +kernel) rfl
      have hFc := bx_F (bs := [b_g cB cC cI cJ cZ oA rA u_16.2, b_w cB cC cI cJ cZ oA rA u_16.2, b_c cB cC cI cJ cZ oA rA u_16.2]) (bs' := [b_g cB cC cI cJ cZ oA rA u_16.2, b_w cB cC cI cJ cZ oA rA u_16.2, b_c cB cC cI cJ cZ oA rA u_16.2]) (wc := (b_g cB cC cI cJ cZ oA rA u_16.2 ++ b_w cB cC cI cJ cZ oA rA u_16.2 ++ b_c cB cC cI cJ cZ oA rA u_16.2)) (hDD u_16.2) hS hA fl_3 fl_3 [0, 1, 2] rfl
      refine g_ofv (wc := (b_g cB cC cI cJ cZ oA rA u_16.2 ++ b_w cB cC cI cJ cZ oA rA u_16.2 ++ b_c cB cC cI cJ cZ oA rA u_16.2)) (wr := ([] : va_W)) hP (hDD u_16.2) hS hFc (bx_ix [b_g cB cC cI cJ cZ oA rA u_16.2, b_w cB cC cI cJ cZ oA rA u_16.2, b_c cB cC cI cJ cZ oA rA u_16.2] [0, 1, 2]) (bx_ix [b_g cB cC cI cJ cZ oA rA u_16.2, b_w cB cC cI cJ cZ oA rA u_16.2, b_c cB cC cI cJ cZ oA rA u_16.2] []) (bx_C (bs := [b_g cB cC cI cJ cZ oA rA u_16.2, b_w cB cC cI cJ cZ oA rA u_16.2, b_c cB cC cI cJ cZ oA rA u_16.2]) (bs' := [b_g cB cC cI cJ cZ oA rA u_16.2, b_w cB cC cI cJ cZ oA rA u_16.2, b_c cB cC cI cJ cZ oA rA u_16.2]) (is := [0, 1, 2]) fl_3 fl_3 rfl) (bx_C (bs := [b_g cB cC cI cJ cZ oA rA u_16.2, b_w cB cC cI cJ cZ oA rA u_16.2, b_c cB cC cI cJ cZ oA rA u_16.2]) (bs' := []) (is := []) fl_3 fl_0 rfl) (bx_n (by decide +kernel)) (bx_d (by decide +kernel)) (va_runV (As := [.int 61]) (rest := []) ⟨hx, hb, hml, hown, hts⟩ (k_X2_need l dC dI cB cC cI cJ cZ cP oA rA H.size  61 u_16.2 _ hu_18) (cwV 1 hts (g_gV wq_564 wq_565 wq_2000 wq_3 wq_566) rfl rfl rfl (by decide +kernel) ⟨Nat.le_of_ble_eq_true rfl, Nat.le_of_ble_eq_true rfl⟩) (g_preV g_bl0 hK hPc hDc hS hE hFc g_to0 (q0 := 0) (ci := 2) rfl rfl) rfl rfl hl.1 rfl (lv_room (Nat.le_of_ble_eq_true rfl)) dX2_named_50 ⟨Nat.le_of_ble_eq_true rfl, Nat.le_of_ble_eq_true rfl⟩) (fun u9 H locs hw9 hP' hD' hS => ?_)
      clear hPc hDc hFc
      have hP : va_P (dC, dI) vwCl (b_g cB cC cI cJ cZ oA rA u_18.2 ++ b_w cB cC cI cJ cZ oA rA u_18.2 ++ b_c cB cC cI cJ cZ oA rA u_18.2) H := hP'
      clear hP' hD'
      refine lv_aload_n hx hb dX2_named_53 rfl (lv_at hl 1 rfl) ?_
      obtain ⟨u_20, hu_20, hF_21⟩ := Option.bind_eq_some_iff.mp hF_19
      clear hF_19
      have hPc := bx_P (bs := [b_g cB cC cI cJ cZ oA rA u_18.2, b_w cB cC cI cJ cZ oA rA u_18.2, b_c cB cC cI cJ cZ oA rA u_18.2]) (bs' := [b_g cB cC cI cJ cZ oA rA u_18.2, b_w cB cC cI cJ cZ oA rA u_18.2, b_c cB cC cI cJ cZ oA rA u_18.2]) (ws' := (b_g cB cC cI cJ cZ oA rA u_18.2 ++ b_w cB cC cI cJ cZ oA rA u_18.2 ++ b_c cB cC cI cJ cZ oA rA u_18.2)) hP fl_3 fl_3 [0, 1, 2] rfl
      have hDc := bx_D (bs := [b_g cB cC cI cJ cZ oA rA u_18.2, b_w cB cC cI cJ cZ oA rA u_18.2, b_c cB cC cI cJ cZ oA rA u_18.2]) (bs' := [b_g cB cC cI cJ cZ oA rA u_18.2, b_w cB cC cI cJ cZ oA rA u_18.2, b_c cB cC cI cJ cZ oA rA u_18.2]) (ws' := (b_g cB cC cI cJ cZ oA rA u_18.2 ++ b_w cB cC cI cJ cZ oA rA u_18.2 ++ b_c cB cC cI cJ cZ oA rA u_18.2)) (hDD u_18.2) fl_3 fl_3 [0, 1, 2] (by decide +kernel) rfl
      have hFc := bx_F (bs := [b_g cB cC cI cJ cZ oA rA u_18.2, b_w cB cC cI cJ cZ oA rA u_18.2, b_c cB cC cI cJ cZ oA rA u_18.2]) (bs' := [b_g cB cC cI cJ cZ oA rA u_18.2, b_w cB cC cI cJ cZ oA rA u_18.2, b_c cB cC cI cJ cZ oA rA u_18.2]) (wc := (b_g cB cC cI cJ cZ oA rA u_18.2 ++ b_w cB cC cI cJ cZ oA rA u_18.2 ++ b_c cB cC cI cJ cZ oA rA u_18.2)) (hDD u_18.2) hS hA fl_3 fl_3 [0, 1, 2] rfl
      refine g_ofv (wc := (b_g cB cC cI cJ cZ oA rA u_18.2 ++ b_w cB cC cI cJ cZ oA rA u_18.2 ++ b_c cB cC cI cJ cZ oA rA u_18.2)) (wr := ([] : va_W)) hP (hDD u_18.2) hS hFc (bx_ix [b_g cB cC cI cJ cZ oA rA u_18.2, b_w cB cC cI cJ cZ oA rA u_18.2, b_c cB cC cI cJ cZ oA rA u_18.2] [0, 1, 2]) (bx_ix [b_g cB cC cI cJ cZ oA rA u_18.2, b_w cB cC cI cJ cZ oA rA u_18.2, b_c cB cC cI cJ cZ oA rA u_18.2] []) (bx_C (bs := [b_g cB cC cI cJ cZ oA rA u_18.2, b_w cB cC cI cJ cZ oA rA u_18.2, b_c cB cC cI cJ cZ oA rA u_18.2]) (bs' := [b_g cB cC cI cJ cZ oA rA u_18.2, b_w cB cC cI cJ cZ oA rA u_18.2, b_c cB cC cI cJ cZ oA rA u_18.2]) (is := [0, 1, 2]) fl_3 fl_3 rfl) (bx_C (bs := [b_g cB cC cI cJ cZ oA rA u_18.2, b_w cB cC cI cJ cZ oA rA u_18.2, b_c cB cC cI cJ cZ oA rA u_18.2]) (bs' := []) (is := []) fl_3 fl_0 rfl) (bx_n (by decide +kernel)) (bx_d (by decide +kernel)) (va_runV (As := []) (rest := []) ⟨hx, hb, hml, hown, hts⟩ (k_X2_expression l dC dI cB cC cI cJ cZ cP oA rA H.size  u_18.2 _ hu_20) (cwV 0 hts (g_gV wq_627 wq_628 wq_2016 wq_3 wq_629) rfl rfl rfl (by decide +kernel) ⟨Nat.le_of_ble_eq_true rfl, Nat.le_of_ble_eq_true rfl⟩) (g_preV g_bl0 hK hPc hDc hS hE hFc g_to0 (q0 := 0) (ci := 2) rfl rfl) rfl rfl hl.1 rfl (lv_room (Nat.le_of_ble_eq_true rfl)) dX2_named_54 ⟨Nat.le_of_ble_eq_true rfl, Nat.le_of_ble_eq_true rfl⟩) (fun u9 H locs hw9 hP' hD' hS => ?_)
      clear hPc hDc hFc
      have hP : va_P (dC, dI) vwCl (b_g cB cC cI cJ cZ oA rA u_20.2 ++ b_w cB cC cI cJ cZ oA rA u_20.2 ++ b_c cB cC cI cJ cZ oA rA u_20.2) H := hP'
      clear hP' hD'
      refine lv_aload_n hx hb dX2_named_57 rfl (lv_at hl 1 rfl) ?_
      refine va_get (D := (dC, dI)) (ci := 2) (v := .ref (oA 5)) (C := RX2) (T := TX2) (N := 8) hx hb hts ii_X2 hown hK hP 0 rfl rfl 1 (by decide) (hts (.fieldLink RX2 15 "StoryHouse$Grammar" "code" "LStoryHouse$Code;") wq_72) (fun _ h9 => h9) rfl dX2_named_58 ?_
      refine lv_bipush (v := 39) hx hb dX2_named_61 (by decide +kernel) ?_
      refine lv_iload_n hx hb dX2_named_63 rfl (lv_at hl 0 rfl) ?_
      obtain ⟨u_22, hu_22, hF_23⟩ := Option.bind_eq_some_iff.mp hF_21
      clear hF_21
      have hPc := bx_P (bs := [b_g cB cC cI cJ cZ oA rA u_20.2, b_w cB cC cI cJ cZ oA rA u_20.2, b_c cB cC cI cJ cZ oA rA u_20.2]) (bs' := [b_c cB cC cI cJ cZ oA rA u_20.2]) (ws' := (b_c cB cC cI cJ cZ oA rA u_20.2)) hP fl_3 fl_1 [2] rfl
      have hDc := bx_D (bs := [b_g cB cC cI cJ cZ oA rA u_20.2, b_w cB cC cI cJ cZ oA rA u_20.2, b_c cB cC cI cJ cZ oA rA u_20.2]) (bs' := [b_c cB cC cI cJ cZ oA rA u_20.2]) (ws' := (b_c cB cC cI cJ cZ oA rA u_20.2)) (hDD u_20.2) fl_3 fl_1 [2] (by decide +kernel) rfl
      have hFc := bx_F (bs := [b_g cB cC cI cJ cZ oA rA u_20.2, b_w cB cC cI cJ cZ oA rA u_20.2, b_c cB cC cI cJ cZ oA rA u_20.2]) (bs' := [b_c cB cC cI cJ cZ oA rA u_20.2]) (wc := (b_c cB cC cI cJ cZ oA rA u_20.2)) (hDD u_20.2) hS hA fl_3 fl_1 [2] rfl
      refine g_ofi (wc := (b_c cB cC cI cJ cZ oA rA u_20.2)) (wr := (b_g cB cC cI cJ cZ oA rA u_20.2 ++ b_w cB cC cI cJ cZ oA rA u_20.2)) hP (hDD u_20.2) hS hFc (bx_ix [b_g cB cC cI cJ cZ oA rA u_20.2, b_w cB cC cI cJ cZ oA rA u_20.2, b_c cB cC cI cJ cZ oA rA u_20.2] [2]) (bx_ix [b_g cB cC cI cJ cZ oA rA u_20.2, b_w cB cC cI cJ cZ oA rA u_20.2, b_c cB cC cI cJ cZ oA rA u_20.2] [0, 1]) (bx_C (bs := [b_g cB cC cI cJ cZ oA rA u_20.2, b_w cB cC cI cJ cZ oA rA u_20.2, b_c cB cC cI cJ cZ oA rA u_20.2]) (bs' := [b_c cB cC cI cJ cZ oA rA u_20.2]) (is := [2]) fl_3 fl_1 rfl) (bx_C (bs := [b_g cB cC cI cJ cZ oA rA u_20.2, b_w cB cC cI cJ cZ oA rA u_20.2, b_c cB cC cI cJ cZ oA rA u_20.2]) (bs' := [b_g cB cC cI cJ cZ oA rA u_20.2, b_w cB cC cI cJ cZ oA rA u_20.2]) (is := [0, 1]) fl_3 fl_2 rfl) (bx_n (by decide +kernel)) (bx_d (by decide +kernel)) (va_runV (As := [.int 39, .int x_1]) (rest := []) ⟨hx, hb, hml, hown, hts⟩ (k_X0_add_ l dC dI cB cC cI cJ cZ cP oA rA H.size  39 x_1 u_20.2 _ hu_22) (cwV 2 hts (g_gV wq_656 wq_657 wq_658 wq_6 wq_659) rfl rfl rfl (by decide +kernel) ⟨Nat.le_of_ble_eq_true rfl, Nat.le_of_ble_eq_true rfl⟩) (g_preV g_bl0 hK hPc hDc hS hE hFc g_to0 (q0 := 0) (ci := 0) rfl rfl) rfl rfl hl.1 rfl (lv_room (Nat.le_of_ble_eq_true rfl)) dX2_named_64 ⟨Nat.le_of_ble_eq_true rfl, Nat.le_of_ble_eq_true rfl⟩) (fun r9 u9 H locs hw9 hP' hD' hS => ?_)
      clear hPc hDc hFc
      subst hw9
      obtain ⟨σ_24, eσ_24, hF_25⟩ := bnd_e hF_23
      clear hF_23
      have hP : va_P (dC, dI) vwCl (b_g cB cC cI cJ cZ oA rA σ_24 ++ b_w cB cC cI cJ cZ oA rA σ_24 ++ b_c cB cC cI cJ cZ oA rA σ_24) H := by rw [eσ_24]; exact bx_P (bs := [b_g cB cC cI cJ cZ oA rA u_20.2, b_w cB cC cI cJ cZ oA rA u_20.2] ++ [b_c cB cC cI cJ cZ oA rA u_22.2]) (bs' := [b_g cB cC cI cJ cZ oA rA (mrg (fun j => j == 5) u_20.2 u_22.2), b_w cB cC cI cJ cZ oA rA (mrg (fun j => j == 5) u_20.2 u_22.2), b_c cB cC cI cJ cZ oA rA (mrg (fun j => j == 5) u_20.2 u_22.2)]) hP' (fl_a fl_2 fl_1) fl_3 [0, 1, 2] rfl
      clear hP' hD'
      refine lv_pop hx hb dX2_named_67 rfl ?_
      refine lv_goto (tgt := 92) hx hb dX2_named_68 (by decide) ?_
      have h9 := Option.some.inj hF_25
      subst h9
      exact W.vret hx hb hr (fun t ht hW => ⟨⟨(), rfl, trivial, m_end ht hP, hDD _⟩, hS.F ht⟩) hS.2.2 dX2_named_92
  · have hF_6 := ipos c_5 hF_4
    clear hF_4
    refine lv_aload_n hx hb dX2_named_18 rfl (lv_at hl 1 rfl) ?_
    refine lv_iload_n hx hb dX2_named_19 rfl (lv_at hl 0 rfl) ?_
    obtain ⟨u_7, hu_7, hF_8⟩ := Option.bind_eq_some_iff.mp hF_6
    clear hF_6
    have hPc := bx_P (bs := [b_g cB cC cI cJ cZ oA rA u_3.2, b_w cB cC cI cJ cZ oA rA u_3.2, b_c cB cC cI cJ cZ oA rA u_3.2]) (bs' := [b_g cB cC cI cJ cZ oA rA u_3.2, b_w cB cC cI cJ cZ oA rA u_3.2, b_c cB cC cI cJ cZ oA rA u_3.2]) (ws' := (b_g cB cC cI cJ cZ oA rA u_3.2 ++ b_w cB cC cI cJ cZ oA rA u_3.2 ++ b_c cB cC cI cJ cZ oA rA u_3.2)) hP fl_3 fl_3 [0, 1, 2] rfl
    have hDc := bx_D (bs := [b_g cB cC cI cJ cZ oA rA u_3.2, b_w cB cC cI cJ cZ oA rA u_3.2, b_c cB cC cI cJ cZ oA rA u_3.2]) (bs' := [b_g cB cC cI cJ cZ oA rA u_3.2, b_w cB cC cI cJ cZ oA rA u_3.2, b_c cB cC cI cJ cZ oA rA u_3.2]) (ws' := (b_g cB cC cI cJ cZ oA rA u_3.2 ++ b_w cB cC cI cJ cZ oA rA u_3.2 ++ b_c cB cC cI cJ cZ oA rA u_3.2)) (hDD u_3.2) fl_3 fl_3 [0, 1, 2] (by decide +kernel) rfl
    have hFc := bx_F (bs := [b_g cB cC cI cJ cZ oA rA u_3.2, b_w cB cC cI cJ cZ oA rA u_3.2, b_c cB cC cI cJ cZ oA rA u_3.2]) (bs' := [b_g cB cC cI cJ cZ oA rA u_3.2, b_w cB cC cI cJ cZ oA rA u_3.2, b_c cB cC cI cJ cZ oA rA u_3.2]) (wc := (b_g cB cC cI cJ cZ oA rA u_3.2 ++ b_w cB cC cI cJ cZ oA rA u_3.2 ++ b_c cB cC cI cJ cZ oA rA u_3.2)) (hDD u_3.2) hS hA fl_3 fl_3 [0, 1, 2] rfl
    refine g_ofv (wc := (b_g cB cC cI cJ cZ oA rA u_3.2 ++ b_w cB cC cI cJ cZ oA rA u_3.2 ++ b_c cB cC cI cJ cZ oA rA u_3.2)) (wr := ([] : va_W)) hP (hDD u_3.2) hS hFc (bx_ix [b_g cB cC cI cJ cZ oA rA u_3.2, b_w cB cC cI cJ cZ oA rA u_3.2, b_c cB cC cI cJ cZ oA rA u_3.2] [0, 1, 2]) (bx_ix [b_g cB cC cI cJ cZ oA rA u_3.2, b_w cB cC cI cJ cZ oA rA u_3.2, b_c cB cC cI cJ cZ oA rA u_3.2] []) (bx_C (bs := [b_g cB cC cI cJ cZ oA rA u_3.2, b_w cB cC cI cJ cZ oA rA u_3.2, b_c cB cC cI cJ cZ oA rA u_3.2]) (bs' := [b_g cB cC cI cJ cZ oA rA u_3.2, b_w cB cC cI cJ cZ oA rA u_3.2, b_c cB cC cI cJ cZ oA rA u_3.2]) (is := [0, 1, 2]) fl_3 fl_3 rfl) (bx_C (bs := [b_g cB cC cI cJ cZ oA rA u_3.2, b_w cB cC cI cJ cZ oA rA u_3.2, b_c cB cC cI cJ cZ oA rA u_3.2]) (bs' := []) (is := []) fl_3 fl_0 rfl) (bx_n (by decide +kernel)) (bx_d (by decide +kernel)) (va_runV (As := [.int x_1]) (rest := []) ⟨hx, hb, hml, hown, hts⟩ (k_X2_arguments l dC dI cB cC cI cJ cZ cP oA rA H.size  x_1 u_3.2 _ hu_7) (cwV 1 hts (g_gV wq_660 wq_661 wq_2023 wq_3 wq_662) rfl rfl rfl (by decide +kernel) ⟨Nat.le_of_ble_eq_true rfl, Nat.le_of_ble_eq_true rfl⟩) (g_preV g_bl0 hK hPc hDc hS hE hFc g_to0 (q0 := 0) (ci := 2) rfl rfl) rfl rfl hl.1 rfl (lv_room (Nat.le_of_ble_eq_true rfl)) dX2_named_20 ⟨Nat.le_of_ble_eq_true rfl, Nat.le_of_ble_eq_true rfl⟩) (fun u9 H locs hw9 hP' hD' hS => ?_)
    clear hPc hDc hFc
    have hP : va_P (dC, dI) vwCl (b_g cB cC cI cJ cZ oA rA u_7.2 ++ b_w cB cC cI cJ cZ oA rA u_7.2 ++ b_c cB cC cI cJ cZ oA rA u_7.2) H := hP'
    clear hP' hD'
    refine lv_aload_n hx hb dX2_named_23 rfl (lv_at hl 1 rfl) ?_
    refine va_get (D := (dC, dI)) (ci := 2) (v := .ref (oA 5)) (C := RX2) (T := TX2) (N := 8) hx hb hts ii_X2 hown hK hP 0 rfl rfl 1 (by decide) (hts (.fieldLink RX2 15 "StoryHouse$Grammar" "code" "LStoryHouse$Code;") wq_72) (fun _ h9 => h9) rfl dX2_named_24 ?_
    refine lv_iconst (v := 1) hx hb dX2_named_27 (by decide +kernel) ?_
    obtain ⟨u_9, hu_9, hF_10⟩ := Option.bind_eq_some_iff.mp hF_8
    clear hF_8
    have hPc := bx_P (bs := [b_g cB cC cI cJ cZ oA rA u_7.2, b_w cB cC cI cJ cZ oA rA u_7.2, b_c cB cC cI cJ cZ oA rA u_7.2]) (bs' := [b_c cB cC cI cJ cZ oA rA u_7.2]) (ws' := (b_c cB cC cI cJ cZ oA rA u_7.2)) hP fl_3 fl_1 [2] rfl
    have hDc := bx_D (bs := [b_g cB cC cI cJ cZ oA rA u_7.2, b_w cB cC cI cJ cZ oA rA u_7.2, b_c cB cC cI cJ cZ oA rA u_7.2]) (bs' := [b_c cB cC cI cJ cZ oA rA u_7.2]) (ws' := (b_c cB cC cI cJ cZ oA rA u_7.2)) (hDD u_7.2) fl_3 fl_1 [2] (by decide +kernel) rfl
    have hFc := bx_F (bs := [b_g cB cC cI cJ cZ oA rA u_7.2, b_w cB cC cI cJ cZ oA rA u_7.2, b_c cB cC cI cJ cZ oA rA u_7.2]) (bs' := [b_c cB cC cI cJ cZ oA rA u_7.2]) (wc := (b_c cB cC cI cJ cZ oA rA u_7.2)) (hDD u_7.2) hS hA fl_3 fl_1 [2] rfl
    refine g_ofv (wc := (b_c cB cC cI cJ cZ oA rA u_7.2)) (wr := (b_g cB cC cI cJ cZ oA rA u_7.2 ++ b_w cB cC cI cJ cZ oA rA u_7.2)) hP (hDD u_7.2) hS hFc (bx_ix [b_g cB cC cI cJ cZ oA rA u_7.2, b_w cB cC cI cJ cZ oA rA u_7.2, b_c cB cC cI cJ cZ oA rA u_7.2] [2]) (bx_ix [b_g cB cC cI cJ cZ oA rA u_7.2, b_w cB cC cI cJ cZ oA rA u_7.2, b_c cB cC cI cJ cZ oA rA u_7.2] [0, 1]) (bx_C (bs := [b_g cB cC cI cJ cZ oA rA u_7.2, b_w cB cC cI cJ cZ oA rA u_7.2, b_c cB cC cI cJ cZ oA rA u_7.2]) (bs' := [b_c cB cC cI cJ cZ oA rA u_7.2]) (is := [2]) fl_3 fl_1 rfl) (bx_C (bs := [b_g cB cC cI cJ cZ oA rA u_7.2, b_w cB cC cI cJ cZ oA rA u_7.2, b_c cB cC cI cJ cZ oA rA u_7.2]) (bs' := [b_g cB cC cI cJ cZ oA rA u_7.2, b_w cB cC cI cJ cZ oA rA u_7.2]) (is := [0, 1]) fl_3 fl_2 rfl) (bx_n (by decide +kernel)) (bx_d (by decide +kernel)) (va_runV (As := [.int 1]) (rest := []) ⟨hx, hb, hml, hown, hts⟩ (k_X0_add l dC dI cB cC cI cJ cZ cP oA rA H.size  1 u_7.2 _ hu_9) (cwV 1 hts (g_gV wq_636 wq_637 wq_638 wq_6 wq_639) rfl rfl rfl (by decide +kernel) ⟨Nat.le_of_ble_eq_true rfl, Nat.le_of_ble_eq_true rfl⟩) (g_preV g_bl0 hK hPc hDc hS hE hFc g_to0 (q0 := 0) (ci := 0) rfl rfl) rfl rfl hl.1 rfl (lv_room (Nat.le_of_ble_eq_true rfl)) dX2_named_28 ⟨Nat.le_of_ble_eq_true rfl, Nat.le_of_ble_eq_true rfl⟩) (fun u9 H locs hw9 hP' hD' hS => ?_)
    clear hPc hDc hFc
    obtain ⟨σ_11, eσ_11, hF_12⟩ := bnd_e hF_10
    clear hF_10
    have hP : va_P (dC, dI) vwCl (b_g cB cC cI cJ cZ oA rA σ_11 ++ b_w cB cC cI cJ cZ oA rA σ_11 ++ b_c cB cC cI cJ cZ oA rA σ_11) H := by rw [eσ_11]; exact bx_P (bs := [b_g cB cC cI cJ cZ oA rA u_7.2, b_w cB cC cI cJ cZ oA rA u_7.2] ++ [b_c cB cC cI cJ cZ oA rA u_9.2]) (bs' := [b_g cB cC cI cJ cZ oA rA (mrg (fun j => j == 5) u_7.2 u_9.2), b_w cB cC cI cJ cZ oA rA (mrg (fun j => j == 5) u_7.2 u_9.2), b_c cB cC cI cJ cZ oA rA (mrg (fun j => j == 5) u_7.2 u_9.2)]) hP' (fl_a fl_2 fl_1) fl_3 [0, 1, 2] rfl
    clear hP' hD'
    refine lv_goto (tgt := 92) hx hb dX2_named_31 (by decide) ?_
    have h9 := Option.some.inj hF_12
    subst h9
    exact W.vret hx hb hr (fun t ht hW => ⟨⟨(), rfl, trivial, m_end ht hP, hDD _⟩, hS.F ht⟩) hS.2.2 dX2_named_92
theorem dX2_plainOp_0 : decode cX2_plainOp 0 = .ok (.iload_n 0, 1) := by decide +kernel
theorem dX2_plainOp_1 : decode cX2_plainOp 1 = .ok (.tableswitch 84 243 254 #[63, 84, 66, 69, 72, 84, 84, 84, 75, 77, 79, 81], 63) := by decide +kernel
theorem dX2_plainOp_64 : decode cX2_plainOp 64 = .ok (.bipush 32, 2) := by decide +kernel
theorem dX2_plainOp_66 : decode cX2_plainOp 66 = .ok (.ireturn, 1) := by decide +kernel
theorem dX2_plainOp_67 : decode cX2_plainOp 67 = .ok (.bipush 22, 2) := by decide +kernel
theorem dX2_plainOp_69 : decode cX2_plainOp 69 = .ok (.ireturn, 1) := by decide +kernel
theorem dX2_plainOp_70 : decode cX2_plainOp 70 = .ok (.bipush 47, 2) := by decide +kernel
theorem dX2_plainOp_72 : decode cX2_plainOp 72 = .ok (.ireturn, 1) := by decide +kernel
theorem dX2_plainOp_73 : decode cX2_plainOp 73 = .ok (.bipush 48, 2) := by decide +kernel
theorem dX2_plainOp_75 : decode cX2_plainOp 75 = .ok (.ireturn, 1) := by decide +kernel
theorem dX2_plainOp_76 : decode cX2_plainOp 76 = .ok (.iconst 2, 1) := by decide +kernel
theorem dX2_plainOp_77 : decode cX2_plainOp 77 = .ok (.ireturn, 1) := by decide +kernel
theorem dX2_plainOp_78 : decode cX2_plainOp 78 = .ok (.iconst 4, 1) := by decide +kernel
theorem dX2_plainOp_79 : decode cX2_plainOp 79 = .ok (.ireturn, 1) := by decide +kernel
theorem dX2_plainOp_80 : decode cX2_plainOp 80 = .ok (.iconst 5, 1) := by decide +kernel
theorem dX2_plainOp_81 : decode cX2_plainOp 81 = .ok (.ireturn, 1) := by decide +kernel
theorem dX2_plainOp_82 : decode cX2_plainOp 82 = .ok (.bipush 6, 2) := by decide +kernel
theorem dX2_plainOp_84 : decode cX2_plainOp 84 = .ok (.ireturn, 1) := by decide +kernel
theorem dX2_plainOp_85 : decode cX2_plainOp 85 = .ok (.iconst (-1), 1) := by decide +kernel
theorem dX2_plainOp_86 : decode cX2_plainOp 86 = .ok (.ireturn, 1) := by decide +kernel
def F_X2_plainOp (p0 : Int32) (Γ : HS) : HR :=
  if p0 = 243 then (
    some (32, Γ)
  ) else
  if p0 = 245 then (
    some (22, Γ)
  ) else
  if p0 = 246 then (
    some (47, Γ)
  ) else
  if p0 = 247 then (
    some (48, Γ)
  ) else
  if p0 = 251 then (
    some (2, Γ)
  ) else
  if p0 = 252 then (
    some (4, Γ)
  ) else
  if p0 = 253 then (
    some (5, Γ)
  ) else
  if p0 = 254 then (
    some (6, Γ)
  ) else
  (
    some ((-1), Γ)
  )
set_option maxHeartbeats 4000000 in
set_option maxRecDepth 100000 in
theorem k_X2_plainOp (l : Launch) (dC : Nat → ClassId) (dI : Nat → Nat → Nat) (cB cC cI cJ cZ cP : ClassId) (oA : Nat → Nat) (rA : Nat → Nat → Nat) (sz : Nat)  (p0 : Int32) (Γ : HS) (res : Int32 × HS) (hF : F_X2_plainOp p0 Γ = some res) : Met l yX2_plainOp (g_ws yX2_plainOp cX2_plainOp 1 (some .int)) ({ frames := 1, cells := 0, slots := 0, locals := 40 }) (va_Pc [.int p0] (g_B (dC, dI) [(cB, .byte), (cC, .char), (cI, .int), (cJ, .long), (cZ, .boolean), (cP, .object "StoryHouse$Play")] sz ([] : va_W) g_0)) (va_Qi (fun r (_ : Unit) => r = res.1) (g_Bo (dC, dI) (va_A ([] : va_W) sz) (fun (_ : Unit) => ([] : va_W))) (va_A ([] : va_W) sz)) 0 0 (va_A ([] : va_W) sz) := by
  refine Met.ofW (cc := cX2_plainOp) (maxL := 1) (ret := (some .int)) (by decide) rfl ?_
  intro p e s m args below meth c s₁ B hml hv
  obtain ⟨rfl, hsz, hP, hK, hD0, hE, hX⟩ := hv
  have hx := B.exec
  have hb := B.bytes
  have hr := B.returns
  have hts0 := atoms_spec (ws := g_ws yX2_plainOp cX2_plainOp 1 (some .int)) B.pre
  have hts : ∀ w ∈ lw_good, w.before ([.int p0] : List Value).toArray s = true := fun w z => hts0 w (List.mem_cons_of_mem _ z)
  have hown : s.vm.findClass RX2 = some m.cls := findClass_of_methodNamed B.named
  have hlocks := B.notSynchronized
  subst hsz
  have hD1 := hD0.self (sz := s.heap.size)
  generalize hAe : va_A ([] : va_W) s.heap.size = A at hD1 hE hX ⊢
  have hA : ∀ q : Nat, s.heap.size ≤ q → A q := fun q z => by rw [← hAe]; exact Or.inr z
  have hDD : ∀ Γ : HS, va_D A ([] : va_W) := fun Γ9 => va_D_fst (ws := ([] : va_W)) (ws' := ([] : va_W)) rfl hD1
  have hN := hE.1
  have hS : va_S A s.heap s.heap [] := va_S.rf
  have hl := lv_entry ([.int p0]) (n := 1) (Nat.le_of_ble_eq_true rfl)
  rw [lg_entry_eq]
  generalize (lg_sl ([.int p0]) ++ List.replicate (1 - (lg_sl ([.int p0])).length) Slot.unset).toArray = ls at hl ⊢
  have hl : lv_has ls 1 [(0, .int p0)] := hl
  unfold F_X2_plainOp at hF
  refine lv_iload_n hx hb dX2_plainOp_0 rfl (lv_at hl 0 rfl) ?_
  by_cases c_1 : p0 = 243
  · have hF_2 := ipos c_1 hF
    clear hF
    refine lv_tableIn (off := 63) (tgt := 64) hx hb dX2_plainOp_1 (by rw [c_1]; decide +kernel) (by rw [c_1]; decide +kernel) (by rw [c_1]; decide +kernel) (by decide) ?_
    refine lv_bipush (v := 32) hx hb dX2_plainOp_64 (by decide +kernel) ?_
    have h9 := Option.some.inj hF_2
    subst h9
    exact W.iret (v := 32) hx hb hr (fun t ht hW => ⟨⟨32, (), rfl, rfl, m_end ht hP, hDD Γ⟩, hS.F ht⟩) hS.2.2 dX2_plainOp_66
  have hF_3 := ineg c_1 hF
  clear hF
  by_cases c_4 : p0 = 245
  · have hF_5 := ipos c_4 hF_3
    clear hF_3
    refine lv_tableIn (off := 66) (tgt := 67) hx hb dX2_plainOp_1 (by rw [c_4]; decide +kernel) (by rw [c_4]; decide +kernel) (by rw [c_4]; decide +kernel) (by decide) ?_
    refine lv_bipush (v := 22) hx hb dX2_plainOp_67 (by decide +kernel) ?_
    have h9 := Option.some.inj hF_5
    subst h9
    exact W.iret (v := 22) hx hb hr (fun t ht hW => ⟨⟨22, (), rfl, rfl, m_end ht hP, hDD Γ⟩, hS.F ht⟩) hS.2.2 dX2_plainOp_69
  have hF_6 := ineg c_4 hF_3
  clear hF_3
  by_cases c_7 : p0 = 246
  · have hF_8 := ipos c_7 hF_6
    clear hF_6
    refine lv_tableIn (off := 69) (tgt := 70) hx hb dX2_plainOp_1 (by rw [c_7]; decide +kernel) (by rw [c_7]; decide +kernel) (by rw [c_7]; decide +kernel) (by decide) ?_
    refine lv_bipush (v := 47) hx hb dX2_plainOp_70 (by decide +kernel) ?_
    have h9 := Option.some.inj hF_8
    subst h9
    exact W.iret (v := 47) hx hb hr (fun t ht hW => ⟨⟨47, (), rfl, rfl, m_end ht hP, hDD Γ⟩, hS.F ht⟩) hS.2.2 dX2_plainOp_72
  have hF_9 := ineg c_7 hF_6
  clear hF_6
  by_cases c_10 : p0 = 247
  · have hF_11 := ipos c_10 hF_9
    clear hF_9
    refine lv_tableIn (off := 72) (tgt := 73) hx hb dX2_plainOp_1 (by rw [c_10]; decide +kernel) (by rw [c_10]; decide +kernel) (by rw [c_10]; decide +kernel) (by decide) ?_
    refine lv_bipush (v := 48) hx hb dX2_plainOp_73 (by decide +kernel) ?_
    have h9 := Option.some.inj hF_11
    subst h9
    exact W.iret (v := 48) hx hb hr (fun t ht hW => ⟨⟨48, (), rfl, rfl, m_end ht hP, hDD Γ⟩, hS.F ht⟩) hS.2.2 dX2_plainOp_75
  have hF_12 := ineg c_10 hF_9
  clear hF_9
  by_cases c_13 : p0 = 251
  · have hF_14 := ipos c_13 hF_12
    clear hF_12
    refine lv_tableIn (off := 75) (tgt := 76) hx hb dX2_plainOp_1 (by rw [c_13]; decide +kernel) (by rw [c_13]; decide +kernel) (by rw [c_13]; decide +kernel) (by decide) ?_
    refine lv_iconst (v := 2) hx hb dX2_plainOp_76 (by decide +kernel) ?_
    have h9 := Option.some.inj hF_14
    subst h9
    exact W.iret (v := 2) hx hb hr (fun t ht hW => ⟨⟨2, (), rfl, rfl, m_end ht hP, hDD Γ⟩, hS.F ht⟩) hS.2.2 dX2_plainOp_77
  have hF_15 := ineg c_13 hF_12
  clear hF_12
  by_cases c_16 : p0 = 252
  · have hF_17 := ipos c_16 hF_15
    clear hF_15
    refine lv_tableIn (off := 77) (tgt := 78) hx hb dX2_plainOp_1 (by rw [c_16]; decide +kernel) (by rw [c_16]; decide +kernel) (by rw [c_16]; decide +kernel) (by decide) ?_
    refine lv_iconst (v := 4) hx hb dX2_plainOp_78 (by decide +kernel) ?_
    have h9 := Option.some.inj hF_17
    subst h9
    exact W.iret (v := 4) hx hb hr (fun t ht hW => ⟨⟨4, (), rfl, rfl, m_end ht hP, hDD Γ⟩, hS.F ht⟩) hS.2.2 dX2_plainOp_79
  have hF_18 := ineg c_16 hF_15
  clear hF_15
  by_cases c_19 : p0 = 253
  · have hF_20 := ipos c_19 hF_18
    clear hF_18
    refine lv_tableIn (off := 79) (tgt := 80) hx hb dX2_plainOp_1 (by rw [c_19]; decide +kernel) (by rw [c_19]; decide +kernel) (by rw [c_19]; decide +kernel) (by decide) ?_
    refine lv_iconst (v := 5) hx hb dX2_plainOp_80 (by decide +kernel) ?_
    have h9 := Option.some.inj hF_20
    subst h9
    exact W.iret (v := 5) hx hb hr (fun t ht hW => ⟨⟨5, (), rfl, rfl, m_end ht hP, hDD Γ⟩, hS.F ht⟩) hS.2.2 dX2_plainOp_81
  have hF_21 := ineg c_19 hF_18
  clear hF_18
  by_cases c_22 : p0 = 254
  · have hF_23 := ipos c_22 hF_21
    clear hF_21
    refine lv_tableIn (off := 81) (tgt := 82) hx hb dX2_plainOp_1 (by rw [c_22]; decide +kernel) (by rw [c_22]; decide +kernel) (by rw [c_22]; decide +kernel) (by decide) ?_
    refine lv_bipush (v := 6) hx hb dX2_plainOp_82 (by decide +kernel) ?_
    have h9 := Option.some.inj hF_23
    subst h9
    exact W.iret (v := 6) hx hb hr (fun t ht hW => ⟨⟨6, (), rfl, rfl, m_end ht hP, hDD Γ⟩, hS.F ht⟩) hS.2.2 dX2_plainOp_84
  have hF_24 := ineg c_22 hF_21
  clear hF_21
  refine m_tabD (lo := 243) (n := 12) (tgt := 85) hx hb dX2_plainOp_1 (by decide +kernel) (by decide) (fun j9 h9 e9 => by
      match j9, h9 with
      | 0, _ => exact absurd ((by rw [e9]; decide +kernel)) c_1
      | 1, _ => rfl
      | 2, _ => exact absurd ((by rw [e9]; decide +kernel)) c_4
      | 3, _ => exact absurd ((by rw [e9]; decide +kernel)) c_7
      | 4, _ => exact absurd ((by rw [e9]; decide +kernel)) c_10
      | 5, _ => rfl
      | 6, _ => rfl
      | 7, _ => rfl
      | 8, _ => exact absurd ((by rw [e9]; decide +kernel)) c_13
      | 9, _ => exact absurd ((by rw [e9]; decide +kernel)) c_16
      | 10, _ => exact absurd ((by rw [e9]; decide +kernel)) c_19
      | 11, _ => exact absurd ((by rw [e9]; decide +kernel)) c_22
      | n9 + 12, h9 => exact absurd h9 (by omega)) ?_
  refine lv_iconst (v := (-1)) hx hb dX2_plainOp_85 (by decide +kernel) ?_
  have h9 := Option.some.inj hF_24
  subst h9
  exact W.iret (v := (-1)) hx hb hr (fun t ht hW => ⟨⟨(-1), (), rfl, rfl, m_end ht hP, hDD Γ⟩, hS.F ht⟩) hS.2.2 dX2_plainOp_86
theorem dX2_plainStatement_0 : decode cX2_plainStatement 0 = .ok (.iload_n 1, 1) := by decide +kernel
theorem dX2_plainStatement_1 : decode cX2_plainStatement 1 = .ok (.iconst 4, 1) := by decide +kernel
theorem dX2_plainStatement_2 : decode cX2_plainStatement 2 = .ok (.if_icmp .eq 18, 3) := by decide +kernel
theorem dX2_plainStatement_5 : decode cX2_plainStatement 5 = .ok (.iload_n 1, 1) := by decide +kernel
theorem dX2_plainStatement_6 : decode cX2_plainStatement 6 = .ok (.iconst 5, 1) := by decide +kernel
theorem dX2_plainStatement_7 : decode cX2_plainStatement 7 = .ok (.if_icmp .eq 13, 3) := by decide +kernel
theorem dX2_plainStatement_10 : decode cX2_plainStatement 10 = .ok (.iload_n 1, 1) := by decide +kernel
theorem dX2_plainStatement_11 : decode cX2_plainStatement 11 = .ok (.bipush 6, 2) := by decide +kernel
theorem dX2_plainStatement_13 : decode cX2_plainStatement 13 = .ok (.if_icmp .eq 7, 3) := by decide +kernel
theorem dX2_plainStatement_16 : decode cX2_plainStatement 16 = .ok (.aload_n 0, 1) := by decide +kernel
theorem dX2_plainStatement_17 : decode cX2_plainStatement 17 = .ok (.invokevirtual 167, 3) := by decide +kernel
theorem dX2_plainStatement_20 : decode cX2_plainStatement 20 = .ok (.iload_n 1, 1) := by decide +kernel
theorem dX2_plainStatement_21 : decode cX2_plainStatement 21 = .ok (.bipush 32, 2) := by decide +kernel
theorem dX2_plainStatement_23 : decode cX2_plainStatement 23 = .ok (.if_icmp .ne 14, 3) := by decide +kernel
theorem dX2_plainStatement_26 : decode cX2_plainStatement 26 = .ok (.aload_n 0, 1) := by decide +kernel
theorem dX2_plainStatement_27 : decode cX2_plainStatement 27 = .ok (.sipush 244, 3) := by decide +kernel
theorem dX2_plainStatement_30 : decode cX2_plainStatement 30 = .ok (.invokevirtual 120, 3) := by decide +kernel
theorem dX2_plainStatement_33 : decode cX2_plainStatement 33 = .ok (.aload_n 0, 1) := by decide +kernel
theorem dX2_plainStatement_34 : decode cX2_plainStatement 34 = .ok (.invokevirtual 167, 3) := by decide +kernel
theorem dX2_plainStatement_37 : decode cX2_plainStatement 37 = .ok (.iload_n 1, 1) := by decide +kernel
theorem dX2_plainStatement_38 : decode cX2_plainStatement 38 = .ok (.bipush 47, 2) := by decide +kernel
theorem dX2_plainStatement_40 : decode cX2_plainStatement 40 = .ok (.if_icmp .eq 9, 3) := by decide +kernel
theorem dX2_plainStatement_43 : decode cX2_plainStatement 43 = .ok (.iload_n 1, 1) := by decide +kernel
theorem dX2_plainStatement_44 : decode cX2_plainStatement 44 = .ok (.bipush 48, 2) := by decide +kernel
theorem dX2_plainStatement_46 : decode cX2_plainStatement 46 = .ok (.if_icmp .ne 11, 3) := by decide +kernel
theorem dX2_plainStatement_49 : decode cX2_plainStatement 49 = .ok (.aload_n 0, 1) := by decide +kernel
theorem dX2_plainStatement_50 : decode cX2_plainStatement 50 = .ok (.iload_n 1, 1) := by decide +kernel
theorem dX2_plainStatement_51 : decode cX2_plainStatement 51 = .ok (.invokevirtual 170, 3) := by decide +kernel
theorem dX2_plainStatement_54 : decode cX2_plainStatement 54 = .ok (.goto 11, 3) := by decide +kernel
theorem dX2_plainStatement_57 : decode cX2_plainStatement 57 = .ok (.aload_n 0, 1) := by decide +kernel
theorem dX2_plainStatement_58 : decode cX2_plainStatement 58 = .ok (.getfield 15, 3) := by decide +kernel
theorem dX2_plainStatement_61 : decode cX2_plainStatement 61 = .ok (.iload_n 1, 1) := by decide +kernel
theorem dX2_plainStatement_62 : decode cX2_plainStatement 62 = .ok (.invokevirtual 90, 3) := by decide +kernel
theorem dX2_plainStatement_65 : decode cX2_plainStatement 65 = .ok (.return_, 1) := by decide +kernel
def F_X2_plainStatement (p0 : Int32) (Γ : HS) : HR :=
  bnd (fun  (σ_1 : HS) => (
    bnd (fun  (σ_5 : HS) => (
      bnd (fun  (σ_9 : HS) => (
        (F_X2_attribute p0 σ_9).bind fun u_13 =>
        some (0, u_13.2)
      ) : HS → HR) fun j_10 =>
      if p0 = 47 then (
        j_10  σ_5
      ) else (
        if p0 = 48 then (
          j_10  σ_5
        ) else (
          (F_X0_add p0 σ_5).bind fun u_21 =>
          bnd (mrg (fun j => j == 5) σ_5 u_21.2) fun σ_23 =>
          some (0, σ_23)
        )
      )
    ) : HS → HR) fun j_6 =>
    if p0 = 32 then (
      (F_X2_need 244 σ_1).bind fun u_27 =>
      (G_X2_expression u_27.2).bind fun u_29 =>
      j_6  u_29.2
    ) else (
      j_6  σ_1
    )
  ) : HS → HR) fun j_2 =>
  if p0 = 4 then (
    j_2  Γ
  ) else (
    if p0 = 5 then (
      j_2  Γ
    ) else (
      if p0 = 6 then (
        j_2  Γ
      ) else (
        (G_X2_expression Γ).bind fun u_41 =>
        j_2  u_41.2
      )
    )
  )
set_option maxHeartbeats 4000000 in
set_option maxRecDepth 100000 in
theorem k_X2_plainStatement (l : Launch) (dC : Nat → ClassId) (dI : Nat → Nat → Nat) (cB cC cI cJ cZ cP : ClassId) (oA : Nat → Nat) (rA : Nat → Nat → Nat) (sz : Nat)  (p0 : Int32) (Γ : HS) (res : Int32 × HS) (hF : F_X2_plainStatement p0 Γ = some res) : Met l yX2_plainStatement (g_ws yX2_plainStatement cX2_plainStatement 2 none) ({ frames := 305, cells := 0, slots := 0, locals := 6724 }) (va_Pc [.ref (oA 2), .int p0] (g_B (dC, dI) [(cB, .byte), (cC, .char), (cI, .int), (cJ, .long), (cZ, .boolean), (cP, .object "StoryHouse$Play")] sz (b_g cB cC cI cJ cZ oA rA Γ ++ b_w cB cC cI cJ cZ oA rA Γ ++ b_c cB cC cI cJ cZ oA rA Γ) g_0)) (va_Qv (fun (_ : Unit) => True) (g_Bo (dC, dI) (va_A (b_g cB cC cI cJ cZ oA rA Γ ++ b_w cB cC cI cJ cZ oA rA Γ ++ b_c cB cC cI cJ cZ oA rA Γ) sz) (fun (_ : Unit) => (b_g cB cC cI cJ cZ oA rA res.2 ++ b_w cB cC cI cJ cZ oA rA res.2 ++ b_c cB cC cI cJ cZ oA rA res.2))) (va_A (b_g cB cC cI cJ cZ oA rA Γ ++ b_w cB cC cI cJ cZ oA rA Γ ++ b_c cB cC cI cJ cZ oA rA Γ) sz)) 0 0 (va_A (b_g cB cC cI cJ cZ oA rA Γ ++ b_w cB cC cI cJ cZ oA rA Γ ++ b_c cB cC cI cJ cZ oA rA Γ) sz) := by
  refine Met.ofW (cc := cX2_plainStatement) (maxL := 2) (ret := none) (by decide) rfl ?_
  intro p e s m args below meth c s₁ B hml hv
  obtain ⟨rfl, hsz, hP, hK, hD0, hE, hX⟩ := hv
  have hx := B.exec
  have hb := B.bytes
  have hr := B.returns
  have hts0 := atoms_spec (ws := g_ws yX2_plainStatement cX2_plainStatement 2 none) B.pre
  have hts : ∀ w ∈ lw_good, w.before ([.ref (oA 2), .int p0] : List Value).toArray s = true := fun w z => hts0 w (List.mem_cons_of_mem _ z)
  have hown : s.vm.findClass RX2 = some m.cls := findClass_of_methodNamed B.named
  have hlocks := B.notSynchronized
  subst hsz
  have hD1 := hD0.self (sz := s.heap.size)
  generalize hAe : va_A (b_g cB cC cI cJ cZ oA rA Γ ++ b_w cB cC cI cJ cZ oA rA Γ ++ b_c cB cC cI cJ cZ oA rA Γ) s.heap.size = A at hD1 hE hX ⊢
  have hA : ∀ q : Nat, s.heap.size ≤ q → A q := fun q z => by rw [← hAe]; exact Or.inr z
  have hDD : ∀ Γ : HS, va_D A (b_g cB cC cI cJ cZ oA rA Γ ++ b_w cB cC cI cJ cZ oA rA Γ ++ b_c cB cC cI cJ cZ oA rA Γ) := fun Γ9 => va_D_fst (ws := (b_g cB cC cI cJ cZ oA rA Γ ++ b_w cB cC cI cJ cZ oA rA Γ ++ b_c cB cC cI cJ cZ oA rA Γ)) (ws' := (b_g cB cC cI cJ cZ oA rA Γ9 ++ b_w cB cC cI cJ cZ oA rA Γ9 ++ b_c cB cC cI cJ cZ oA rA Γ9)) rfl hD1
  have hN := hE.1
  have hS : va_S A s.heap s.heap [] := va_S.rf
  have hl := lv_entry ([.ref (oA 2), .int p0]) (n := 2) (Nat.le_of_ble_eq_true rfl)
  rw [lg_entry_eq]
  generalize (lg_sl ([.ref (oA 2), .int p0]) ++ List.replicate (2 - (lg_sl ([.ref (oA 2), .int p0])).length) Slot.unset).toArray = ls at hl ⊢
  have hl : lv_has ls 2 [(0, .ref (oA 2)), (1, .int p0)] := hl
  unfold F_X2_plainStatement at hF
  refine lv_iload_n hx hb dX2_plainStatement_0 rfl (lv_at hl 1 rfl) ?_
  refine lv_iconst (v := 4) hx hb dX2_plainStatement_1 (by decide +kernel) ?_
  obtain ⟨j_2, ej_2, hF_3⟩ := bnd_e hF
  clear hF
  have Jj_2 : ∀  (σ_1 : HS), j_2  σ_1 = some res → ∀ (H : Heap) (locs : List Loc), va_P (dC, dI) vwCl (b_g cB cC cI cJ cZ oA rA σ_1 ++ b_w cB cC cI cJ cZ oA rA σ_1 ++ b_c cB cC cI cJ cZ oA rA σ_1) H → va_S A s.heap H locs → ∀ ls : Array Slot, lv_has ls 2 [(0, .ref (oA 2)), (1, .int p0)] → W p l e (headSpec (g_ws yX2_plainStatement cX2_plainStatement 2 none) { frames := 305, cells := 0, slots := 0, locals := 6724 }).room s m ([.ref (oA 2), .int p0] : List Value).toArray below meth c H locs 0 0 (MQ below (va_Qv (fun (_ : Unit) => True) (g_Bo (dC, dI) A (fun (_ : Unit) => (b_g cB cC cI cJ cZ oA rA res.2 ++ b_w cB cC cI cJ cZ oA rA res.2 ++ b_c cB cC cI cJ cZ oA rA res.2))) A) ([.ref (oA 2), .int p0] : List Value).toArray s 0 0 A) (F0 m 20 ls []) := by
    intro  σ_1 hF0 H locs hP hS ls hl
    subst ej_2
    have hF_4 := hF0
    clear hF0
    refine lv_iload_n hx hb dX2_plainStatement_20 rfl (lv_at hl 1 rfl) ?_
    refine lv_bipush (v := 32) hx hb dX2_plainStatement_21 (by decide +kernel) ?_
    obtain ⟨j_6, ej_6, hF_7⟩ := bnd_e hF_4
    clear hF_4
    have Jj_6 : ∀  (σ_5 : HS), j_6  σ_5 = some res → ∀ (H : Heap) (locs : List Loc), va_P (dC, dI) vwCl (b_g cB cC cI cJ cZ oA rA σ_5 ++ b_w cB cC cI cJ cZ oA rA σ_5 ++ b_c cB cC cI cJ cZ oA rA σ_5) H → va_S A s.heap H locs → ∀ ls : Array Slot, lv_has ls 2 [(0, .ref (oA 2)), (1, .int p0)] → W p l e (headSpec (g_ws yX2_plainStatement cX2_plainStatement 2 none) { frames := 305, cells := 0, slots := 0, locals := 6724 }).room s m ([.ref (oA 2), .int p0] : List Value).toArray below meth c H locs 0 0 (MQ below (va_Qv (fun (_ : Unit) => True) (g_Bo (dC, dI) A (fun (_ : Unit) => (b_g cB cC cI cJ cZ oA rA res.2 ++ b_w cB cC cI cJ cZ oA rA res.2 ++ b_c cB cC cI cJ cZ oA rA res.2))) A) ([.ref (oA 2), .int p0] : List Value).toArray s 0 0 A) (F0 m 37 ls []) := by
      intro  σ_5 hF0 H locs hP hS ls hl
      subst ej_6
      have hF_8 := hF0
      clear hF0
      refine lv_iload_n hx hb dX2_plainStatement_37 rfl (lv_at hl 1 rfl) ?_
      refine lv_bipush (v := 47) hx hb dX2_plainStatement_38 (by decide +kernel) ?_
      obtain ⟨j_10, ej_10, hF_11⟩ := bnd_e hF_8
      clear hF_8
      have Jj_10 : ∀  (σ_9 : HS), j_10  σ_9 = some res → ∀ (H : Heap) (locs : List Loc), va_P (dC, dI) vwCl (b_g cB cC cI cJ cZ oA rA σ_9 ++ b_w cB cC cI cJ cZ oA rA σ_9 ++ b_c cB cC cI cJ cZ oA rA σ_9) H → va_S A s.heap H locs → ∀ ls : Array Slot, lv_has ls 2 [(0, .ref (oA 2)), (1, .int p0)] → W p l e (headSpec (g_ws yX2_plainStatement cX2_plainStatement 2 none) { frames := 305, cells := 0, slots := 0, locals := 6724 }).room s m ([.ref (oA 2), .int p0] : List Value).toArray below meth c H locs 0 0 (MQ below (va_Qv (fun (_ : Unit) => True) (g_Bo (dC, dI) A (fun (_ : Unit) => (b_g cB cC cI cJ cZ oA rA res.2 ++ b_w cB cC cI cJ cZ oA rA res.2 ++ b_c cB cC cI cJ cZ oA rA res.2))) A) ([.ref (oA 2), .int p0] : List Value).toArray s 0 0 A) (F0 m 49 ls []) := by
        intro  σ_9 hF0 H locs hP hS ls hl
        subst ej_10
        have hF_12 := hF0
        clear hF0
        refine lv_aload_n hx hb dX2_plainStatement_49 rfl (lv_at hl 0 rfl) ?_
        refine lv_iload_n hx hb dX2_plainStatement_50 rfl (lv_at hl 1 rfl) ?_
        obtain ⟨u_13, hu_13, hF_14⟩ := Option.bind_eq_some_iff.mp hF_12
        clear hF_12
        have hPc := bx_P (bs := [b_g cB cC cI cJ cZ oA rA σ_9, b_w cB cC cI cJ cZ oA rA σ_9, b_c cB cC cI cJ cZ oA rA σ_9]) (bs' := [b_g cB cC cI cJ cZ oA rA σ_9, b_w cB cC cI cJ cZ oA rA σ_9, b_c cB cC cI cJ cZ oA rA σ_9]) (ws' := (b_g cB cC cI cJ cZ oA rA σ_9 ++ b_w cB cC cI cJ cZ oA rA σ_9 ++ b_c cB cC cI cJ cZ oA rA σ_9)) hP fl_3 fl_3 [0, 1, 2] rfl
        have hDc := bx_D (bs := [b_g cB cC cI cJ cZ oA rA σ_9, b_w cB cC cI cJ cZ oA rA σ_9, b_c cB cC cI cJ cZ oA rA σ_9]) (bs' := [b_g cB cC cI cJ cZ oA rA σ_9, b_w cB cC cI cJ cZ oA rA σ_9, b_c cB cC cI cJ cZ oA rA σ_9]) (ws' := (b_g cB cC cI cJ cZ oA rA σ_9 ++ b_w cB cC cI cJ cZ oA rA σ_9 ++ b_c cB cC cI cJ cZ oA rA σ_9)) (hDD σ_9) fl_3 fl_3 [0, 1, 2] (by decide +kernel) rfl
        have hFc := bx_F (bs := [b_g cB cC cI cJ cZ oA rA σ_9, b_w cB cC cI cJ cZ oA rA σ_9, b_c cB cC cI cJ cZ oA rA σ_9]) (bs' := [b_g cB cC cI cJ cZ oA rA σ_9, b_w cB cC cI cJ cZ oA rA σ_9, b_c cB cC cI cJ cZ oA rA σ_9]) (wc := (b_g cB cC cI cJ cZ oA rA σ_9 ++ b_w cB cC cI cJ cZ oA rA σ_9 ++ b_c cB cC cI cJ cZ oA rA σ_9)) (hDD σ_9) hS hA fl_3 fl_3 [0, 1, 2] rfl
        refine g_ofv (wc := (b_g cB cC cI cJ cZ oA rA σ_9 ++ b_w cB cC cI cJ cZ oA rA σ_9 ++ b_c cB cC cI cJ cZ oA rA σ_9)) (wr := ([] : va_W)) hP (hDD σ_9) hS hFc (bx_ix [b_g cB cC cI cJ cZ oA rA σ_9, b_w cB cC cI cJ cZ oA rA σ_9, b_c cB cC cI cJ cZ oA rA σ_9] [0, 1, 2]) (bx_ix [b_g cB cC cI cJ cZ oA rA σ_9, b_w cB cC cI cJ cZ oA rA σ_9, b_c cB cC cI cJ cZ oA rA σ_9] []) (bx_C (bs := [b_g cB cC cI cJ cZ oA rA σ_9, b_w cB cC cI cJ cZ oA rA σ_9, b_c cB cC cI cJ cZ oA rA σ_9]) (bs' := [b_g cB cC cI cJ cZ oA rA σ_9, b_w cB cC cI cJ cZ oA rA σ_9, b_c cB cC cI cJ cZ oA rA σ_9]) (is := [0, 1, 2]) fl_3 fl_3 rfl) (bx_C (bs := [b_g cB cC cI cJ cZ oA rA σ_9, b_w cB cC cI cJ cZ oA rA σ_9, b_c cB cC cI cJ cZ oA rA σ_9]) (bs' := []) (is := []) fl_3 fl_0 rfl) (bx_n (by decide +kernel)) (bx_d (by decide +kernel)) (va_runV (As := [.int p0]) (rest := []) ⟨hx, hb, hml, hown, hts⟩ (k_X2_attribute l dC dI cB cC cI cJ cZ cP oA rA H.size  p0 σ_9 _ hu_13) (cwV 1 hts (g_gV wq_669 wq_670 wq_2025 wq_3 wq_671) rfl rfl rfl (by decide +kernel) ⟨Nat.le_of_ble_eq_true rfl, Nat.le_of_ble_eq_true rfl⟩) (g_preV g_bl0 hK hPc hDc hS hE hFc g_to0 (q0 := 0) (ci := 2) rfl rfl) rfl rfl hl.1 rfl (lv_room (Nat.le_of_ble_eq_true rfl)) dX2_plainStatement_51 ⟨Nat.le_of_ble_eq_true rfl, Nat.le_of_ble_eq_true rfl⟩) (fun u9 H locs hw9 hP' hD' hS => ?_)
        clear hPc hDc hFc
        have hP : va_P (dC, dI) vwCl (b_g cB cC cI cJ cZ oA rA u_13.2 ++ b_w cB cC cI cJ cZ oA rA u_13.2 ++ b_c cB cC cI cJ cZ oA rA u_13.2) H := hP'
        clear hP' hD'
        refine lv_goto (tgt := 65) hx hb dX2_plainStatement_54 (by decide) ?_
        have h9 := Option.some.inj hF_14
        subst h9
        exact W.vret hx hb hr (fun t ht hW => ⟨⟨(), rfl, trivial, m_end ht hP, hDD _⟩, hS.F ht⟩) hS.2.2 dX2_plainStatement_65
      refine lv_icmp_eq (tgt := 49) hx hb dX2_plainStatement_40 (by decide) (fun c_15 => ?_) (fun c_15 => ?_)
      · have hF_16 := ipos c_15 hF_11
        clear hF_11
        exact Jj_10  σ_5 hF_16 _ _ hP hS ls (lv_sub hl [0, 1] rfl)
      · have hF_17 := ineg c_15 hF_11
        clear hF_11
        refine lv_iload_n hx hb dX2_plainStatement_43 rfl (lv_at hl 1 rfl) ?_
        refine lv_bipush (v := 48) hx hb dX2_plainStatement_44 (by decide +kernel) ?_
        refine lv_icmp_ne (tgt := 57) hx hb dX2_plainStatement_46 (by decide) (fun c_18 => ?_) (fun c_18 => ?_)
        · have hF_20 := ineg c_18 hF_17
          clear hF_17
          refine lv_aload_n hx hb dX2_plainStatement_57 rfl (lv_at hl 0 rfl) ?_
          refine va_get (D := (dC, dI)) (ci := 2) (v := .ref (oA 5)) (C := RX2) (T := TX2) (N := 8) hx hb hts ii_X2 hown hK hP 0 rfl rfl 1 (by decide) (hts (.fieldLink RX2 15 "StoryHouse$Grammar" "code" "LStoryHouse$Code;") wq_72) (fun _ h9 => h9) rfl dX2_plainStatement_58 ?_
          refine lv_iload_n hx hb dX2_plainStatement_61 rfl (lv_at hl 1 rfl) ?_
          obtain ⟨u_21, hu_21, hF_22⟩ := Option.bind_eq_some_iff.mp hF_20
          clear hF_20
          have hPc := bx_P (bs := [b_g cB cC cI cJ cZ oA rA σ_5, b_w cB cC cI cJ cZ oA rA σ_5, b_c cB cC cI cJ cZ oA rA σ_5]) (bs' := [b_c cB cC cI cJ cZ oA rA σ_5]) (ws' := (b_c cB cC cI cJ cZ oA rA σ_5)) hP fl_3 fl_1 [2] rfl
          have hDc := bx_D (bs := [b_g cB cC cI cJ cZ oA rA σ_5, b_w cB cC cI cJ cZ oA rA σ_5, b_c cB cC cI cJ cZ oA rA σ_5]) (bs' := [b_c cB cC cI cJ cZ oA rA σ_5]) (ws' := (b_c cB cC cI cJ cZ oA rA σ_5)) (hDD σ_5) fl_3 fl_1 [2] (by decide +kernel) rfl
          have hFc := bx_F (bs := [b_g cB cC cI cJ cZ oA rA σ_5, b_w cB cC cI cJ cZ oA rA σ_5, b_c cB cC cI cJ cZ oA rA σ_5]) (bs' := [b_c cB cC cI cJ cZ oA rA σ_5]) (wc := (b_c cB cC cI cJ cZ oA rA σ_5)) (hDD σ_5) hS hA fl_3 fl_1 [2] rfl
          refine g_ofv (wc := (b_c cB cC cI cJ cZ oA rA σ_5)) (wr := (b_g cB cC cI cJ cZ oA rA σ_5 ++ b_w cB cC cI cJ cZ oA rA σ_5)) hP (hDD σ_5) hS hFc (bx_ix [b_g cB cC cI cJ cZ oA rA σ_5, b_w cB cC cI cJ cZ oA rA σ_5, b_c cB cC cI cJ cZ oA rA σ_5] [2]) (bx_ix [b_g cB cC cI cJ cZ oA rA σ_5, b_w cB cC cI cJ cZ oA rA σ_5, b_c cB cC cI cJ cZ oA rA σ_5] [0, 1]) (bx_C (bs := [b_g cB cC cI cJ cZ oA rA σ_5, b_w cB cC cI cJ cZ oA rA σ_5, b_c cB cC cI cJ cZ oA rA σ_5]) (bs' := [b_c cB cC cI cJ cZ oA rA σ_5]) (is := [2]) fl_3 fl_1 rfl) (bx_C (bs := [b_g cB cC cI cJ cZ oA rA σ_5, b_w cB cC cI cJ cZ oA rA σ_5, b_c cB cC cI cJ cZ oA rA σ_5]) (bs' := [b_g cB cC cI cJ cZ oA rA σ_5, b_w cB cC cI cJ cZ oA rA σ_5]) (is := [0, 1]) fl_3 fl_2 rfl) (bx_n (by decide +kernel)) (bx_d (by decide +kernel)) (va_runV (As := [.int p0]) (rest := []) ⟨hx, hb, hml, hown, hts⟩ (k_X0_add l dC dI cB cC cI cJ cZ cP oA rA H.size  p0 σ_5 _ hu_21) (cwV 1 hts (g_gV wq_636 wq_637 wq_638 wq_6 wq_639) rfl rfl rfl (by decide +kernel) ⟨Nat.le_of_ble_eq_true rfl, Nat.le_of_ble_eq_true rfl⟩) (g_preV g_bl0 hK hPc hDc hS hE hFc g_to0 (q0 := 0) (ci := 0) rfl rfl) rfl rfl hl.1 rfl (lv_room (Nat.le_of_ble_eq_true rfl)) dX2_plainStatement_62 ⟨Nat.le_of_ble_eq_true rfl, Nat.le_of_ble_eq_true rfl⟩) (fun u9 H locs hw9 hP' hD' hS => ?_)
          clear hPc hDc hFc
          obtain ⟨σ_23, eσ_23, hF_24⟩ := bnd_e hF_22
          clear hF_22
          have hP : va_P (dC, dI) vwCl (b_g cB cC cI cJ cZ oA rA σ_23 ++ b_w cB cC cI cJ cZ oA rA σ_23 ++ b_c cB cC cI cJ cZ oA rA σ_23) H := by rw [eσ_23]; exact bx_P (bs := [b_g cB cC cI cJ cZ oA rA σ_5, b_w cB cC cI cJ cZ oA rA σ_5] ++ [b_c cB cC cI cJ cZ oA rA u_21.2]) (bs' := [b_g cB cC cI cJ cZ oA rA (mrg (fun j => j == 5) σ_5 u_21.2), b_w cB cC cI cJ cZ oA rA (mrg (fun j => j == 5) σ_5 u_21.2), b_c cB cC cI cJ cZ oA rA (mrg (fun j => j == 5) σ_5 u_21.2)]) hP' (fl_a fl_2 fl_1) fl_3 [0, 1, 2] rfl
          clear hP' hD'
          have h9 := Option.some.inj hF_24
          subst h9
          exact W.vret hx hb hr (fun t ht hW => ⟨⟨(), rfl, trivial, m_end ht hP, hDD _⟩, hS.F ht⟩) hS.2.2 dX2_plainStatement_65
        · have hF_19 := ipos c_18 hF_17
          clear hF_17
          exact Jj_10  σ_5 hF_19 _ _ hP hS ls (lv_sub hl [0, 1] rfl)
    refine lv_icmp_ne (tgt := 37) hx hb dX2_plainStatement_23 (by decide) (fun c_25 => ?_) (fun c_25 => ?_)
    · have hF_31 := ineg c_25 hF_7
      clear hF_7
      exact Jj_6  σ_1 hF_31 _ _ hP hS ls (lv_sub hl [0, 1] rfl)
    · have hF_26 := ipos c_25 hF_7
      clear hF_7
      refine lv_aload_n hx hb dX2_plainStatement_26 rfl (lv_at hl 0 rfl) ?_
      refine lv_sipush (v := 244) hx hb dX2_plainStatement_27 (by decide +kernel) ?_
      obtain ⟨u_27, hu_27, hF_28⟩ := Option.bind_eq_some_iff.mp hF_26
      clear hF_26
      have hPc := bx_P (bs := [b_g cB cC cI cJ cZ oA rA σ_1, b_w cB cC cI cJ cZ oA rA σ_1, b_c cB cC cI cJ cZ oA rA σ_1]) (bs' := [b_g cB cC cI cJ cZ oA rA σ_1, b_w cB cC cI cJ cZ oA rA σ_1, b_c cB cC cI cJ cZ oA rA σ_1]) (ws' := (b_g cB cC cI cJ cZ oA rA σ_1 ++ b_w cB cC cI cJ cZ oA rA σ_1 ++ b_c cB cC cI cJ cZ oA rA σ_1)) hP fl_3 fl_3 [0, 1, 2] rfl
      have hDc := bx_D (bs := [b_g cB cC cI cJ cZ oA rA σ_1, b_w cB cC cI cJ cZ oA rA σ_1, b_c cB cC cI cJ cZ oA rA σ_1]) (bs' := [b_g cB cC cI cJ cZ oA rA σ_1, b_w cB cC cI cJ cZ oA rA σ_1, b_c cB cC cI cJ cZ oA rA σ_1]) (ws' := (b_g cB cC cI cJ cZ oA rA σ_1 ++ b_w cB cC cI cJ cZ oA rA σ_1 ++ b_c cB cC cI cJ cZ oA rA σ_1)) (hDD σ_1) fl_3 fl_3 [0, 1, 2] (by decide +kernel) rfl
      have hFc := bx_F (bs := [b_g cB cC cI cJ cZ oA rA σ_1, b_w cB cC cI cJ cZ oA rA σ_1, b_c cB cC cI cJ cZ oA rA σ_1]) (bs' := [b_g cB cC cI cJ cZ oA rA σ_1, b_w cB cC cI cJ cZ oA rA σ_1, b_c cB cC cI cJ cZ oA rA σ_1]) (wc := (b_g cB cC cI cJ cZ oA rA σ_1 ++ b_w cB cC cI cJ cZ oA rA σ_1 ++ b_c cB cC cI cJ cZ oA rA σ_1)) (hDD σ_1) hS hA fl_3 fl_3 [0, 1, 2] rfl
      refine g_ofv (wc := (b_g cB cC cI cJ cZ oA rA σ_1 ++ b_w cB cC cI cJ cZ oA rA σ_1 ++ b_c cB cC cI cJ cZ oA rA σ_1)) (wr := ([] : va_W)) hP (hDD σ_1) hS hFc (bx_ix [b_g cB cC cI cJ cZ oA rA σ_1, b_w cB cC cI cJ cZ oA rA σ_1, b_c cB cC cI cJ cZ oA rA σ_1] [0, 1, 2]) (bx_ix [b_g cB cC cI cJ cZ oA rA σ_1, b_w cB cC cI cJ cZ oA rA σ_1, b_c cB cC cI cJ cZ oA rA σ_1] []) (bx_C (bs := [b_g cB cC cI cJ cZ oA rA σ_1, b_w cB cC cI cJ cZ oA rA σ_1, b_c cB cC cI cJ cZ oA rA σ_1]) (bs' := [b_g cB cC cI cJ cZ oA rA σ_1, b_w cB cC cI cJ cZ oA rA σ_1, b_c cB cC cI cJ cZ oA rA σ_1]) (is := [0, 1, 2]) fl_3 fl_3 rfl) (bx_C (bs := [b_g cB cC cI cJ cZ oA rA σ_1, b_w cB cC cI cJ cZ oA rA σ_1, b_c cB cC cI cJ cZ oA rA σ_1]) (bs' := []) (is := []) fl_3 fl_0 rfl) (bx_n (by decide +kernel)) (bx_d (by decide +kernel)) (va_runV (As := [.int 244]) (rest := []) ⟨hx, hb, hml, hown, hts⟩ (k_X2_need l dC dI cB cC cI cJ cZ cP oA rA H.size  244 σ_1 _ hu_27) (cwV 1 hts (g_gV wq_564 wq_565 wq_2000 wq_3 wq_566) rfl rfl rfl (by decide +kernel) ⟨Nat.le_of_ble_eq_true rfl, Nat.le_of_ble_eq_true rfl⟩) (g_preV g_bl0 hK hPc hDc hS hE hFc g_to0 (q0 := 0) (ci := 2) rfl rfl) rfl rfl hl.1 rfl (lv_room (Nat.le_of_ble_eq_true rfl)) dX2_plainStatement_30 ⟨Nat.le_of_ble_eq_true rfl, Nat.le_of_ble_eq_true rfl⟩) (fun u9 H locs hw9 hP' hD' hS => ?_)
      clear hPc hDc hFc
      have hP : va_P (dC, dI) vwCl (b_g cB cC cI cJ cZ oA rA u_27.2 ++ b_w cB cC cI cJ cZ oA rA u_27.2 ++ b_c cB cC cI cJ cZ oA rA u_27.2) H := hP'
      clear hP' hD'
      refine lv_aload_n hx hb dX2_plainStatement_33 rfl (lv_at hl 0 rfl) ?_
      obtain ⟨u_29, hu_29, hF_30⟩ := Option.bind_eq_some_iff.mp hF_28
      clear hF_28
      have hPc := bx_P (bs := [b_g cB cC cI cJ cZ oA rA u_27.2, b_w cB cC cI cJ cZ oA rA u_27.2, b_c cB cC cI cJ cZ oA rA u_27.2]) (bs' := [b_g cB cC cI cJ cZ oA rA u_27.2, b_w cB cC cI cJ cZ oA rA u_27.2, b_c cB cC cI cJ cZ oA rA u_27.2]) (ws' := (b_g cB cC cI cJ cZ oA rA u_27.2 ++ b_w cB cC cI cJ cZ oA rA u_27.2 ++ b_c cB cC cI cJ cZ oA rA u_27.2)) hP fl_3 fl_3 [0, 1, 2] rfl
      have hDc := bx_D (bs := [b_g cB cC cI cJ cZ oA rA u_27.2, b_w cB cC cI cJ cZ oA rA u_27.2, b_c cB cC cI cJ cZ oA rA u_27.2]) (bs' := [b_g cB cC cI cJ cZ oA rA u_27.2, b_w cB cC cI cJ cZ oA rA u_27.2, b_c cB cC cI cJ cZ oA rA u_27.2]) (ws' := (b_g cB cC cI cJ cZ oA rA u_27.2 ++ b_w cB cC cI cJ cZ oA rA u_27.2 ++ b_c cB cC cI cJ cZ oA rA u_27.2)) (hDD u_27.2) fl_3 fl_3 [0, 1, 2] (by decide +kernel) rfl
      have hFc := bx_F (bs := [b_g cB cC cI cJ cZ oA rA u_27.2, b_w cB cC cI cJ cZ oA rA u_27.2, b_c cB cC cI cJ cZ oA rA u_27.2]) (bs' := [b_g cB cC cI cJ cZ oA rA u_27.2, b_w cB cC cI cJ cZ oA rA u_27.2, b_c cB cC cI cJ cZ oA rA u_27.2]) (wc := (b_g cB cC cI cJ cZ oA rA u_27.2 ++ b_w cB cC cI cJ cZ oA rA u_27.2 ++ b_c cB cC cI cJ cZ oA rA u_27.2)) (hDD u_27.2) hS hA fl_3 fl_3 [0, 1, 2] rfl
      refine g_ofv (wc := (b_g cB cC cI cJ cZ oA rA u_27.2 ++ b_w cB cC cI cJ cZ oA rA u_27.2 ++ b_c cB cC cI cJ cZ oA rA u_27.2)) (wr := ([] : va_W)) hP (hDD u_27.2) hS hFc (bx_ix [b_g cB cC cI cJ cZ oA rA u_27.2, b_w cB cC cI cJ cZ oA rA u_27.2, b_c cB cC cI cJ cZ oA rA u_27.2] [0, 1, 2]) (bx_ix [b_g cB cC cI cJ cZ oA rA u_27.2, b_w cB cC cI cJ cZ oA rA u_27.2, b_c cB cC cI cJ cZ oA rA u_27.2] []) (bx_C (bs := [b_g cB cC cI cJ cZ oA rA u_27.2, b_w cB cC cI cJ cZ oA rA u_27.2, b_c cB cC cI cJ cZ oA rA u_27.2]) (bs' := [b_g cB cC cI cJ cZ oA rA u_27.2, b_w cB cC cI cJ cZ oA rA u_27.2, b_c cB cC cI cJ cZ oA rA u_27.2]) (is := [0, 1, 2]) fl_3 fl_3 rfl) (bx_C (bs := [b_g cB cC cI cJ cZ oA rA u_27.2, b_w cB cC cI cJ cZ oA rA u_27.2, b_c cB cC cI cJ cZ oA rA u_27.2]) (bs' := []) (is := []) fl_3 fl_0 rfl) (bx_n (by decide +kernel)) (bx_d (by decide +kernel)) (va_runV (As := []) (rest := []) ⟨hx, hb, hml, hown, hts⟩ (k_X2_expression l dC dI cB cC cI cJ cZ cP oA rA H.size  u_27.2 _ hu_29) (cwV 0 hts (g_gV wq_627 wq_628 wq_2016 wq_3 wq_629) rfl rfl rfl (by decide +kernel) ⟨Nat.le_of_ble_eq_true rfl, Nat.le_of_ble_eq_true rfl⟩) (g_preV g_bl0 hK hPc hDc hS hE hFc g_to0 (q0 := 0) (ci := 2) rfl rfl) rfl rfl hl.1 rfl (lv_room (Nat.le_of_ble_eq_true rfl)) dX2_plainStatement_34 ⟨Nat.le_of_ble_eq_true rfl, Nat.le_of_ble_eq_true rfl⟩) (fun u9 H locs hw9 hP' hD' hS => ?_)
      clear hPc hDc hFc
      have hP : va_P (dC, dI) vwCl (b_g cB cC cI cJ cZ oA rA u_29.2 ++ b_w cB cC cI cJ cZ oA rA u_29.2 ++ b_c cB cC cI cJ cZ oA rA u_29.2) H := hP'
      clear hP' hD'
      exact Jj_6  u_29.2 hF_30 _ _ hP hS ls (lv_sub hl [0, 1] rfl)
  refine lv_icmp_eq (tgt := 20) hx hb dX2_plainStatement_2 (by decide) (fun c_32 => ?_) (fun c_32 => ?_)
  · have hF_33 := ipos c_32 hF_3
    clear hF_3
    exact Jj_2  Γ hF_33 _ _ hP hS ls (lv_sub hl [0, 1] rfl)
  · have hF_34 := ineg c_32 hF_3
    clear hF_3
    refine lv_iload_n hx hb dX2_plainStatement_5 rfl (lv_at hl 1 rfl) ?_
    refine lv_iconst (v := 5) hx hb dX2_plainStatement_6 (by decide +kernel) ?_
    refine lv_icmp_eq (tgt := 20) hx hb dX2_plainStatement_7 (by decide) (fun c_35 => ?_) (fun c_35 => ?_)
    · have hF_36 := ipos c_35 hF_34
      clear hF_34
      exact Jj_2  Γ hF_36 _ _ hP hS ls (lv_sub hl [0, 1] rfl)
    · have hF_37 := ineg c_35 hF_34
      clear hF_34
      refine lv_iload_n hx hb dX2_plainStatement_10 rfl (lv_at hl 1 rfl) ?_
      refine lv_bipush (v := 6) hx hb dX2_plainStatement_11 (by decide +kernel) ?_
      refine lv_icmp_eq (tgt := 20) hx hb dX2_plainStatement_13 (by decide) (fun c_38 => ?_) (fun c_38 => ?_)
      · have hF_39 := ipos c_38 hF_37
        clear hF_37
        exact Jj_2  Γ hF_39 _ _ hP hS ls (lv_sub hl [0, 1] rfl)
      · have hF_40 := ineg c_38 hF_37
        clear hF_37
        refine lv_aload_n hx hb dX2_plainStatement_16 rfl (lv_at hl 0 rfl) ?_
        obtain ⟨u_41, hu_41, hF_42⟩ := Option.bind_eq_some_iff.mp hF_40
        clear hF_40
        have hPc := bx_P (bs := [b_g cB cC cI cJ cZ oA rA Γ, b_w cB cC cI cJ cZ oA rA Γ, b_c cB cC cI cJ cZ oA rA Γ]) (bs' := [b_g cB cC cI cJ cZ oA rA Γ, b_w cB cC cI cJ cZ oA rA Γ, b_c cB cC cI cJ cZ oA rA Γ]) (ws' := (b_g cB cC cI cJ cZ oA rA Γ ++ b_w cB cC cI cJ cZ oA rA Γ ++ b_c cB cC cI cJ cZ oA rA Γ)) hP fl_3 fl_3 [0, 1, 2] rfl
        have hDc := bx_D (bs := [b_g cB cC cI cJ cZ oA rA Γ, b_w cB cC cI cJ cZ oA rA Γ, b_c cB cC cI cJ cZ oA rA Γ]) (bs' := [b_g cB cC cI cJ cZ oA rA Γ, b_w cB cC cI cJ cZ oA rA Γ, b_c cB cC cI cJ cZ oA rA Γ]) (ws' := (b_g cB cC cI cJ cZ oA rA Γ ++ b_w cB cC cI cJ cZ oA rA Γ ++ b_c cB cC cI cJ cZ oA rA Γ)) (hDD Γ) fl_3 fl_3 [0, 1, 2] (by decide +kernel) rfl
        have hFc := bx_F (bs := [b_g cB cC cI cJ cZ oA rA Γ, b_w cB cC cI cJ cZ oA rA Γ, b_c cB cC cI cJ cZ oA rA Γ]) (bs' := [b_g cB cC cI cJ cZ oA rA Γ, b_w cB cC cI cJ cZ oA rA Γ, b_c cB cC cI cJ cZ oA rA Γ]) (wc := (b_g cB cC cI cJ cZ oA rA Γ ++ b_w cB cC cI cJ cZ oA rA Γ ++ b_c cB cC cI cJ cZ oA rA Γ)) (hDD Γ) hS hA fl_3 fl_3 [0, 1, 2] rfl
        refine g_ofv (wc := (b_g cB cC cI cJ cZ oA rA Γ ++ b_w cB cC cI cJ cZ oA rA Γ ++ b_c cB cC cI cJ cZ oA rA Γ)) (wr := ([] : va_W)) hP (hDD Γ) hS hFc (bx_ix [b_g cB cC cI cJ cZ oA rA Γ, b_w cB cC cI cJ cZ oA rA Γ, b_c cB cC cI cJ cZ oA rA Γ] [0, 1, 2]) (bx_ix [b_g cB cC cI cJ cZ oA rA Γ, b_w cB cC cI cJ cZ oA rA Γ, b_c cB cC cI cJ cZ oA rA Γ] []) (bx_C (bs := [b_g cB cC cI cJ cZ oA rA Γ, b_w cB cC cI cJ cZ oA rA Γ, b_c cB cC cI cJ cZ oA rA Γ]) (bs' := [b_g cB cC cI cJ cZ oA rA Γ, b_w cB cC cI cJ cZ oA rA Γ, b_c cB cC cI cJ cZ oA rA Γ]) (is := [0, 1, 2]) fl_3 fl_3 rfl) (bx_C (bs := [b_g cB cC cI cJ cZ oA rA Γ, b_w cB cC cI cJ cZ oA rA Γ, b_c cB cC cI cJ cZ oA rA Γ]) (bs' := []) (is := []) fl_3 fl_0 rfl) (bx_n (by decide +kernel)) (bx_d (by decide +kernel)) (va_runV (As := []) (rest := []) ⟨hx, hb, hml, hown, hts⟩ (k_X2_expression l dC dI cB cC cI cJ cZ cP oA rA s.heap.size  Γ _ hu_41) (cwV 0 hts (g_gV wq_627 wq_628 wq_2016 wq_3 wq_629) rfl rfl rfl (by decide +kernel) ⟨Nat.le_of_ble_eq_true rfl, Nat.le_of_ble_eq_true rfl⟩) (g_preV g_bl0 hK hPc hDc hS hE hFc g_to0 (q0 := 0) (ci := 2) rfl rfl) rfl rfl hl.1 rfl (lv_room (Nat.le_of_ble_eq_true rfl)) dX2_plainStatement_17 ⟨Nat.le_of_ble_eq_true rfl, Nat.le_of_ble_eq_true rfl⟩) (fun u9 H locs hw9 hP' hD' hS => ?_)
        clear hPc hDc hFc
        have hP : va_P (dC, dI) vwCl (b_g cB cC cI cJ cZ oA rA u_41.2 ++ b_w cB cC cI cJ cZ oA rA u_41.2 ++ b_c cB cC cI cJ cZ oA rA u_41.2) H := hP'
        clear hP' hD'
        exact Jj_2  u_41.2 hF_42 _ _ hP hS ls (lv_sub hl [0, 1] rfl)
