/-! methods of the class: what each does is its function -/
theorem dX2_verbItem_0 : decode cX2_verbItem 0 = .ok (.aload_n 0, 1) := by decide +kernel
theorem dX2_verbItem_1 : decode cX2_verbItem 1 = .ok (.iconst 2, 1) := by decide +kernel
theorem dX2_verbItem_2 : decode cX2_verbItem 2 = .ok (.invokevirtual 120, 3) := by decide +kernel
theorem dX2_verbItem_5 : decode cX2_verbItem 5 = .ok (.aload_n 0, 1) := by decide +kernel
theorem dX2_verbItem_6 : decode cX2_verbItem 6 = .ok (.invokevirtual 133, 3) := by decide +kernel
theorem dX2_verbItem_9 : decode cX2_verbItem 9 = .ok (.pop, 1) := by decide +kernel
theorem dX2_verbItem_10 : decode cX2_verbItem 10 = .ok (.aload_n 0, 1) := by decide +kernel
theorem dX2_verbItem_11 : decode cX2_verbItem 11 = .ok (.sipush 215, 3) := by decide +kernel
theorem dX2_verbItem_14 : decode cX2_verbItem 14 = .ok (.invokevirtual 126, 3) := by decide +kernel
theorem dX2_verbItem_17 : decode cX2_verbItem 17 = .ok (.ifCond .eq 11, 3) := by decide +kernel
theorem dX2_verbItem_20 : decode cX2_verbItem 20 = .ok (.aload_n 0, 1) := by decide +kernel
theorem dX2_verbItem_21 : decode cX2_verbItem 21 = .ok (.iconst 2, 1) := by decide +kernel
theorem dX2_verbItem_22 : decode cX2_verbItem 22 = .ok (.invokevirtual 120, 3) := by decide +kernel
theorem dX2_verbItem_25 : decode cX2_verbItem 25 = .ok (.goto 13, 3) := by decide +kernel
theorem dX2_verbItem_28 : decode cX2_verbItem 28 = .ok (.aload_n 0, 1) := by decide +kernel
theorem dX2_verbItem_29 : decode cX2_verbItem 29 = .ok (.sipush 213, 3) := by decide +kernel
theorem dX2_verbItem_32 : decode cX2_verbItem 32 = .ok (.sipush 214, 3) := by decide +kernel
theorem dX2_verbItem_35 : decode cX2_verbItem 35 = .ok (.invokevirtual 53, 3) := by decide +kernel
theorem dX2_verbItem_38 : decode cX2_verbItem 38 = .ok (.aload_n 0, 1) := by decide +kernel
theorem dX2_verbItem_39 : decode cX2_verbItem 39 = .ok (.bipush 59, 2) := by decide +kernel
theorem dX2_verbItem_41 : decode cX2_verbItem 41 = .ok (.invokevirtual 120, 3) := by decide +kernel
theorem dX2_verbItem_44 : decode cX2_verbItem 44 = .ok (.return_, 1) := by decide +kernel
def F_X2_verbItem  (Γ : HS) : HR :=
  (F_X2_need 2 Γ).bind fun u_1 =>
  (F_X2_names u_1.2).bind fun u_3 =>
  (F_X2_accept 215 u_3.2).bind fun u_5 =>
  bnd (fun  (σ_7 : HS) => (
    (F_X2_need 59 σ_7).bind fun u_11 =>
    some (0, u_11.2)
  ) : HS → HR) fun j_8 =>
  if u_5.1 = 0 then (
    (F_X2_needFrom 213 214 u_5.2).bind fun u_15 =>
    j_8  u_15.2
  ) else (
    (F_X2_need 2 u_5.2).bind fun u_18 =>
    j_8  u_18.2
  )
set_option maxHeartbeats 4000000 in
set_option maxRecDepth 100000 in
theorem k_X2_verbItem (l : Launch) (dC : Nat → ClassId) (dI : Nat → Nat → Nat) (cB cC cI cJ cZ cP : ClassId) (oA : Nat → Nat) (rA : Nat → Nat → Nat) (sz : Nat)   (Γ : HS) (res : Int32 × HS) (hF : F_X2_verbItem  Γ = some res) : Met l yX2_verbItem (g_ws yX2_verbItem cX2_verbItem 1 none) ({ frames := 4, cells := 0, slots := 0, locals := 103 }) (va_Pc [.ref (oA 2)] (g_B (dC, dI) [(cB, .byte), (cC, .char), (cI, .int), (cJ, .long), (cZ, .boolean), (cP, .object "StoryHouse$Play")] sz (b_g cB cC cI cJ cZ oA rA Γ ++ b_w cB cC cI cJ cZ oA rA Γ ++ b_c cB cC cI cJ cZ oA rA Γ) g_0)) (va_Qv (fun (_ : Unit) => True) (g_Bo (dC, dI) (va_A (b_g cB cC cI cJ cZ oA rA Γ ++ b_w cB cC cI cJ cZ oA rA Γ ++ b_c cB cC cI cJ cZ oA rA Γ) sz) (fun (_ : Unit) => (b_g cB cC cI cJ cZ oA rA res.2 ++ b_w cB cC cI cJ cZ oA rA res.2 ++ b_c cB cC cI cJ cZ oA rA res.2))) (va_A (b_g cB cC cI cJ cZ oA rA Γ ++ b_w cB cC cI cJ cZ oA rA Γ ++ b_c cB cC cI cJ cZ oA rA Γ) sz)) 0 0 (va_A (b_g cB cC cI cJ cZ oA rA Γ ++ b_w cB cC cI cJ cZ oA rA Γ ++ b_c cB cC cI cJ cZ oA rA Γ) sz) := by
  refine Met.ofW (cc := cX2_verbItem) (maxL := 1) (ret := none) (by decide) rfl ?_
  intro p e s m args below meth c s₁ B hml hv
  obtain ⟨rfl, hsz, hP, hK, hD0, hE, hX⟩ := hv
  have hx := B.exec
  have hb := B.bytes
  have hr := B.returns
  have hts0 := atoms_spec (ws := g_ws yX2_verbItem cX2_verbItem 1 none) B.pre
  have hts : ∀ w ∈ lw_good, w.before ([.ref (oA 2)] : List Value).toArray s = true := fun w z => hts0 w (List.mem_cons_of_mem _ z)
  have hown : s.vm.findClass RX2 = some m.cls := findClass_of_methodNamed B.named
  have hlocks := B.notSynchronized
  subst hsz
  have hD1 := hD0.self (sz := s.heap.size)
  generalize hAe : va_A (b_g cB cC cI cJ cZ oA rA Γ ++ b_w cB cC cI cJ cZ oA rA Γ ++ b_c cB cC cI cJ cZ oA rA Γ) s.heap.size = A at hD1 hE hX ⊢
  have hA : ∀ q : Nat, s.heap.size ≤ q → A q := fun q z => by rw [← hAe]; exact Or.inr z
  have hDD : ∀ Γ : HS, va_D A (b_g cB cC cI cJ cZ oA rA Γ ++ b_w cB cC cI cJ cZ oA rA Γ ++ b_c cB cC cI cJ cZ oA rA Γ) := fun Γ9 => va_D_fst (ws := (b_g cB cC cI cJ cZ oA rA Γ ++ b_w cB cC cI cJ cZ oA rA Γ ++ b_c cB cC cI cJ cZ oA rA Γ)) (ws' := (b_g cB cC cI cJ cZ oA rA Γ9 ++ b_w cB cC cI cJ cZ oA rA Γ9 ++ b_c cB cC cI cJ cZ oA rA Γ9)) rfl hD1
  have hN := hE.1
  have hS : va_S A s.heap s.heap [] := va_S.rf
  have hl := lv_entry ([.ref (oA 2)]) (n := 1) (Nat.le_of_ble_eq_true rfl)
  rw [lg_entry_eq]
  generalize (lg_sl ([.ref (oA 2)]) ++ List.replicate (1 - (lg_sl ([.ref (oA 2)])).length) Slot.unset).toArray = ls at hl ⊢
  have hl : lv_has ls 1 [(0, .ref (oA 2))] := hl
  unfold F_X2_verbItem at hF
  refine lv_aload_n hx hb dX2_verbItem_0 rfl (lv_at hl 0 rfl) ?_
  refine lv_iconst (v := 2) hx hb dX2_verbItem_1 (by decide +kernel) ?_
  obtain ⟨u_1, hu_1, hF_2⟩ := Option.bind_eq_some_iff.mp hF
  clear hF
  have hPc := bx_P (bs := [b_g cB cC cI cJ cZ oA rA Γ, b_w cB cC cI cJ cZ oA rA Γ, b_c cB cC cI cJ cZ oA rA Γ]) (bs' := [b_g cB cC cI cJ cZ oA rA Γ, b_w cB cC cI cJ cZ oA rA Γ, b_c cB cC cI cJ cZ oA rA Γ]) (ws' := (b_g cB cC cI cJ cZ oA rA Γ ++ b_w cB cC cI cJ cZ oA rA Γ ++ b_c cB cC cI cJ cZ oA rA Γ)) hP fl_3 fl_3 [0, 1, 2] rfl
  have hDc := bx_D (bs := [b_g cB cC cI cJ cZ oA rA Γ, b_w cB cC cI cJ cZ oA rA Γ, b_c cB cC cI cJ cZ oA rA Γ]) (bs' := [b_g cB cC cI cJ cZ oA rA Γ, b_w cB cC cI cJ cZ oA rA Γ, b_c cB cC cI cJ cZ oA rA Γ]) (ws' := (b_g cB cC cI cJ cZ oA rA Γ ++ b_w cB cC cI cJ cZ oA rA Γ ++ b_c cB cC cI cJ cZ oA rA Γ)) (hDD Γ) fl_3 fl_3 [0, 1, 2] (by decide +kernel) rfl
  have hFc := bx_F (bs := [b_g cB cC cI cJ cZ oA rA Γ, b_w cB cC cI cJ cZ oA rA Γ, b_c cB cC cI cJ cZ oA rA Γ]) (bs' := [b_g cB cC cI cJ cZ oA rA Γ, b_w cB cC cI cJ cZ oA rA Γ, b_c cB cC cI cJ cZ oA rA Γ]) (wc := (b_g cB cC cI cJ cZ oA rA Γ ++ b_w cB cC cI cJ cZ oA rA Γ ++ b_c cB cC cI cJ cZ oA rA Γ)) (hDD Γ) hS hA fl_3 fl_3 [0, 1, 2] rfl
  refine g_ofv (wc := (b_g cB cC cI cJ cZ oA rA Γ ++ b_w cB cC cI cJ cZ oA rA Γ ++ b_c cB cC cI cJ cZ oA rA Γ)) (wr := ([] : va_W)) hP (hDD Γ) hS hFc (bx_ix [b_g cB cC cI cJ cZ oA rA Γ, b_w cB cC cI cJ cZ oA rA Γ, b_c cB cC cI cJ cZ oA rA Γ] [0, 1, 2]) (bx_ix [b_g cB cC cI cJ cZ oA rA Γ, b_w cB cC cI cJ cZ oA rA Γ, b_c cB cC cI cJ cZ oA rA Γ] []) (bx_C (bs := [b_g cB cC cI cJ cZ oA rA Γ, b_w cB cC cI cJ cZ oA rA Γ, b_c cB cC cI cJ cZ oA rA Γ]) (bs' := [b_g cB cC cI cJ cZ oA rA Γ, b_w cB cC cI cJ cZ oA rA Γ, b_c cB cC cI cJ cZ oA rA Γ]) (is := [0, 1, 2]) fl_3 fl_3 rfl) (bx_C (bs := [b_g cB cC cI cJ cZ oA rA Γ, b_w cB cC cI cJ cZ oA rA Γ, b_c cB cC cI cJ cZ oA rA Γ]) (bs' := []) (is := []) fl_3 fl_0 rfl) (bx_n (by decide +kernel)) (bx_d (by decide +kernel)) (va_runV (As := [.int 2]) (rest := []) ⟨hx, hb, hml, hown, hts⟩ (k_X2_need l dC dI cB cC cI cJ cZ cP oA rA s.heap.size  2 Γ _ hu_1) (cwV 1 hts (g_gV wq_564 wq_565 wq_2000 wq_3 wq_566) rfl rfl rfl (by decide +kernel) ⟨Nat.le_of_ble_eq_true rfl, Nat.le_of_ble_eq_true rfl⟩) (g_preV g_bl0 hK hPc hDc hS hE hFc g_to0 (q0 := 0) (ci := 2) rfl rfl) rfl rfl hl.1 rfl (lv_room (Nat.le_of_ble_eq_true rfl)) dX2_verbItem_2 ⟨Nat.le_of_ble_eq_true rfl, Nat.le_of_ble_eq_true rfl⟩) (fun u9 H locs hw9 hP' hD' hS => ?_)
  clear hPc hDc hFc
  have hP : va_P (dC, dI) vwCl (b_g cB cC cI cJ cZ oA rA u_1.2 ++ b_w cB cC cI cJ cZ oA rA u_1.2 ++ b_c cB cC cI cJ cZ oA rA u_1.2) H := hP'
  clear hP' hD'
  refine lv_aload_n hx hb dX2_verbItem_5 rfl (lv_at hl 0 rfl) ?_
  obtain ⟨u_3, hu_3, hF_4⟩ := Option.bind_eq_some_iff.mp hF_2
  clear hF_2
  have hPc := bx_P (bs := [b_g cB cC cI cJ cZ oA rA u_1.2, b_w cB cC cI cJ cZ oA rA u_1.2, b_c cB cC cI cJ cZ oA rA u_1.2]) (bs' := [b_g cB cC cI cJ cZ oA rA u_1.2, b_w cB cC cI cJ cZ oA rA u_1.2, b_c cB cC cI cJ cZ oA rA u_1.2]) (ws' := (b_g cB cC cI cJ cZ oA rA u_1.2 ++ b_w cB cC cI cJ cZ oA rA u_1.2 ++ b_c cB cC cI cJ cZ oA rA u_1.2)) hP fl_3 fl_3 [0, 1, 2] rfl
  have hDc := bx_D (bs := [b_g cB cC cI cJ cZ oA rA u_1.2, b_w cB cC cI cJ cZ oA rA u_1.2, b_c cB cC cI cJ cZ oA rA u_1.2]) (bs' := [b_g cB cC cI cJ cZ oA rA u_1.2, b_w cB cC cI cJ cZ oA rA u_1.2, b_c cB cC cI cJ cZ oA rA u_1.2]) (ws' := (b_g cB cC cI cJ cZ oA rA u_1.2 ++ b_w cB cC cI cJ cZ oA rA u_1.2 ++ b_c cB cC cI cJ cZ oA rA u_1.2)) (hDD u_1.2) fl_3 fl_3 [0, 1, 2] (by decide +kernel) rfl
  have hFc := bx_F (bs := [b_g cB cC cI cJ cZ oA rA u_1.2, b_w cB cC cI cJ cZ oA rA u_1.2, b_c cB cC cI cJ cZ oA rA u_1.2]) (bs' := [b_g cB cC cI cJ cZ oA rA u_1.2, b_w cB cC cI cJ cZ oA rA u_1.2, b_c cB cC cI cJ cZ oA rA u_1.2]) (wc := (b_g cB cC cI cJ cZ oA rA u_1.2 ++ b_w cB cC cI cJ cZ oA rA u_1.2 ++ b_c cB cC cI cJ cZ oA rA u_1.2)) (hDD u_1.2) hS hA fl_3 fl_3 [0, 1, 2] rfl
  refine g_ofi (wc := (b_g cB cC cI cJ cZ oA rA u_1.2 ++ b_w cB cC cI cJ cZ oA rA u_1.2 ++ b_c cB cC cI cJ cZ oA rA u_1.2)) (wr := ([] : va_W)) hP (hDD u_1.2) hS hFc (bx_ix [b_g cB cC cI cJ cZ oA rA u_1.2, b_w cB cC cI cJ cZ oA rA u_1.2, b_c cB cC cI cJ cZ oA rA u_1.2] [0, 1, 2]) (bx_ix [b_g cB cC cI cJ cZ oA rA u_1.2, b_w cB cC cI cJ cZ oA rA u_1.2, b_c cB cC cI cJ cZ oA rA u_1.2] []) (bx_C (bs := [b_g cB cC cI cJ cZ oA rA u_1.2, b_w cB cC cI cJ cZ oA rA u_1.2, b_c cB cC cI cJ cZ oA rA u_1.2]) (bs' := [b_g cB cC cI cJ cZ oA rA u_1.2, b_w cB cC cI cJ cZ oA rA u_1.2, b_c cB cC cI cJ cZ oA rA u_1.2]) (is := [0, 1, 2]) fl_3 fl_3 rfl) (bx_C (bs := [b_g cB cC cI cJ cZ oA rA u_1.2, b_w cB cC cI cJ cZ oA rA u_1.2, b_c cB cC cI cJ cZ oA rA u_1.2]) (bs' := []) (is := []) fl_3 fl_0 rfl) (bx_n (by decide +kernel)) (bx_d (by decide +kernel)) (va_runV (As := []) (rest := []) ⟨hx, hb, hml, hown, hts⟩ (k_X2_names l dC dI cB cC cI cJ cZ cP oA rA H.size  u_1.2 _ hu_3) (cwV 0 hts (g_gV wq_582 wq_583 wq_2006 wq_3 wq_584) rfl rfl rfl (by decide +kernel) ⟨Nat.le_of_ble_eq_true rfl, Nat.le_of_ble_eq_true rfl⟩) (g_preV g_bl0 hK hPc hDc hS hE hFc g_to0 (q0 := 0) (ci := 2) rfl rfl) rfl rfl hl.1 rfl (lv_room (Nat.le_of_ble_eq_true rfl)) dX2_verbItem_6 ⟨Nat.le_of_ble_eq_true rfl, Nat.le_of_ble_eq_true rfl⟩) (fun r9 u9 H locs hw9 hP' hD' hS => ?_)
  clear hPc hDc hFc
  subst hw9
  have hP : va_P (dC, dI) vwCl (b_g cB cC cI cJ cZ oA rA u_3.2 ++ b_w cB cC cI cJ cZ oA rA u_3.2 ++ b_c cB cC cI cJ cZ oA rA u_3.2) H := hP'
  clear hP' hD'
  refine lv_pop hx hb dX2_verbItem_9 rfl ?_
  refine lv_aload_n hx hb dX2_verbItem_10 rfl (lv_at hl 0 rfl) ?_
  refine lv_sipush (v := 215) hx hb dX2_verbItem_11 (by decide +kernel) ?_
  obtain ⟨u_5, hu_5, hF_6⟩ := Option.bind_eq_some_iff.mp hF_4
  clear hF_4
  have hPc := bx_P (bs := [b_g cB cC cI cJ cZ oA rA u_3.2, b_w cB cC cI cJ cZ oA rA u_3.2, b_c cB cC cI cJ cZ oA rA u_3.2]) (bs' := [b_g cB cC cI cJ cZ oA rA u_3.2, b_w cB cC cI cJ cZ oA rA u_3.2, b_c cB cC cI cJ cZ oA rA u_3.2]) (ws' := (b_g cB cC cI cJ cZ oA rA u_3.2 ++ b_w cB cC cI cJ cZ oA rA u_3.2 ++ b_c cB cC cI cJ cZ oA rA u_3.2)) hP fl_3 fl_3 [0, 1, 2] rfl
  have hDc := bx_D (bs := [b_g cB cC cI cJ cZ oA rA u_3.2, b_w cB cC cI cJ cZ oA rA u_3.2, b_c cB cC cI cJ cZ oA rA u_3.2]) (bs' := [b_g cB cC cI cJ cZ oA rA u_3.2, b_w cB cC cI cJ cZ oA rA u_3.2, b_c cB cC cI cJ cZ oA rA u_3.2]) (ws' := (b_g cB cC cI cJ cZ oA rA u_3.2 ++ b_w cB cC cI cJ cZ oA rA u_3.2 ++ b_c cB cC cI cJ cZ oA rA u_3.2)) (hDD u_3.2) fl_3 fl_3 [0, 1, 2] (by decide +kernel) rfl
  have hFc := bx_F (bs := [b_g cB cC cI cJ cZ oA rA u_3.2, b_w cB cC cI cJ cZ oA rA u_3.2, b_c cB cC cI cJ cZ oA rA u_3.2]) (bs' := [b_g cB cC cI cJ cZ oA rA u_3.2, b_w cB cC cI cJ cZ oA rA u_3.2, b_c cB cC cI cJ cZ oA rA u_3.2]) (wc := (b_g cB cC cI cJ cZ oA rA u_3.2 ++ b_w cB cC cI cJ cZ oA rA u_3.2 ++ b_c cB cC cI cJ cZ oA rA u_3.2)) (hDD u_3.2) hS hA fl_3 fl_3 [0, 1, 2] rfl
  refine g_ofi (wc := (b_g cB cC cI cJ cZ oA rA u_3.2 ++ b_w cB cC cI cJ cZ oA rA u_3.2 ++ b_c cB cC cI cJ cZ oA rA u_3.2)) (wr := ([] : va_W)) hP (hDD u_3.2) hS hFc (bx_ix [b_g cB cC cI cJ cZ oA rA u_3.2, b_w cB cC cI cJ cZ oA rA u_3.2, b_c cB cC cI cJ cZ oA rA u_3.2] [0, 1, 2]) (bx_ix [b_g cB cC cI cJ cZ oA rA u_3.2, b_w cB cC cI cJ cZ oA rA u_3.2, b_c cB cC cI cJ cZ oA rA u_3.2] []) (bx_C (bs := [b_g cB cC cI cJ cZ oA rA u_3.2, b_w cB cC cI cJ cZ oA rA u_3.2, b_c cB cC cI cJ cZ oA rA u_3.2]) (bs' := [b_g cB cC cI cJ cZ oA rA u_3.2, b_w cB cC cI cJ cZ oA rA u_3.2, b_c cB cC cI cJ cZ oA rA u_3.2]) (is := [0, 1, 2]) fl_3 fl_3 rfl) (bx_C (bs := [b_g cB cC cI cJ cZ oA rA u_3.2, b_w cB cC cI cJ cZ oA rA u_3.2, b_c cB cC cI cJ cZ oA rA u_3.2]) (bs' := []) (is := []) fl_3 fl_0 rfl) (bx_n (by decide +kernel)) (bx_d (by decide +kernel)) (va_runV (As := [.int 215]) (rest := []) ⟨hx, hb, hml, hown, hts⟩ (k_X2_accept l dC dI cB cC cI cJ cZ cP oA rA H.size  215 u_3.2 _ hu_5) (cwV 1 hts (g_gV wq_573 wq_574 wq_2003 wq_3 wq_575) rfl rfl rfl (by decide +kernel) ⟨Nat.le_of_ble_eq_true rfl, Nat.le_of_ble_eq_true rfl⟩) (g_preV g_bl0 hK hPc hDc hS hE hFc g_to0 (q0 := 0) (ci := 2) rfl rfl) rfl rfl hl.1 rfl (lv_room (Nat.le_of_ble_eq_true rfl)) dX2_verbItem_14 ⟨Nat.le_of_ble_eq_true rfl, Nat.le_of_ble_eq_true rfl⟩) (fun r9 u9 H locs hw9 hP' hD' hS => ?_)
  clear hPc hDc hFc
  subst hw9
  have hP : va_P (dC, dI) vwCl (b_g cB cC cI cJ cZ oA rA u_5.2 ++ b_w cB cC cI cJ cZ oA rA u_5.2 ++ b_c cB cC cI cJ cZ oA rA u_5.2) H := hP'
  clear hP' hD'
  obtain ⟨j_8, ej_8, hF_9⟩ := bnd_e hF_6
  clear hF_6
  have Jj_8 : ∀  (σ_7 : HS), j_8  σ_7 = some res → ∀ (H : Heap) (locs : List Loc), va_P (dC, dI) vwCl (b_g cB cC cI cJ cZ oA rA σ_7 ++ b_w cB cC cI cJ cZ oA rA σ_7 ++ b_c cB cC cI cJ cZ oA rA σ_7) H → va_S A s.heap H locs → ∀ ls : Array Slot, lv_has ls 1 [(0, .ref (oA 2))] → W p l e (headSpec (g_ws yX2_verbItem cX2_verbItem 1 none) { frames := 4, cells := 0, slots := 0, locals := 103 }).room s m ([.ref (oA 2)] : List Value).toArray below meth c H locs 0 0 (MQ below (va_Qv (fun (_ : Unit) => True) (g_Bo (dC, dI) A (fun (_ : Unit) => (b_g cB cC cI cJ cZ oA rA res.2 ++ b_w cB cC cI cJ cZ oA rA res.2 ++ b_c cB cC cI cJ cZ oA rA res.2))) A) ([.ref (oA 2)] : List Value).toArray s 0 0 A) (F0 m 38 ls []) := by
    intro  σ_7 hF0 H locs hP hS ls hl
    subst ej_8
    have hF_10 := hF0
    clear hF0
    refine lv_aload_n hx hb dX2_verbItem_38 rfl (lv_at hl 0 rfl) ?_
    refine lv_bipush (v := 59) hx hb dX2_verbItem_39 (by decide +kernel) ?_
    obtain ⟨u_11, hu_11, hF_12⟩ := Option.bind_eq_some_iff.mp hF_10
    clear hF_10
    have hPc := bx_P (bs := [b_g cB cC cI cJ cZ oA rA σ_7, b_w cB cC cI cJ cZ oA rA σ_7, b_c cB cC cI cJ cZ oA rA σ_7]) (bs' := [b_g cB cC cI cJ cZ oA rA σ_7, b_w cB cC cI cJ cZ oA rA σ_7, b_c cB cC cI cJ cZ oA rA σ_7]) (ws' := (b_g cB cC cI cJ cZ oA rA σ_7 ++ b_w cB cC cI cJ cZ oA rA σ_7 ++ b_c cB cC cI cJ cZ oA rA σ_7)) hP fl_3 fl_3 [0, 1, 2] rfl
    have hDc := bx_D (bs := [b_g cB cC cI cJ cZ oA rA σ_7, b_w cB cC cI cJ cZ oA rA σ_7, b_c cB cC cI cJ cZ oA rA σ_7]) (bs' := [b_g cB cC cI cJ cZ oA rA σ_7, b_w cB cC cI cJ cZ oA rA σ_7, b_c cB cC cI cJ cZ oA rA σ_7]) (ws' := (b_g cB cC cI cJ cZ oA rA σ_7 ++ b_w cB cC cI cJ cZ oA rA σ_7 ++ b_c cB cC cI cJ cZ oA rA σ_7)) (hDD σ_7) fl_3 fl_3 [0, 1, 2] (by decide +kernel) rfl
    have hFc := bx_F (bs := [b_g cB cC cI cJ cZ oA rA σ_7, b_w cB cC cI cJ cZ oA rA σ_7, b_c cB cC cI cJ cZ oA rA σ_7]) (bs' := [b_g cB cC cI cJ cZ oA rA σ_7, b_w cB cC cI cJ cZ oA rA σ_7, b_c cB cC cI cJ cZ oA rA σ_7]) (wc := (b_g cB cC cI cJ cZ oA rA σ_7 ++ b_w cB cC cI cJ cZ oA rA σ_7 ++ b_c cB cC cI cJ cZ oA rA σ_7)) (hDD σ_7) hS hA fl_3 fl_3 [0, 1, 2] rfl
    refine g_ofv (wc := (b_g cB cC cI cJ cZ oA rA σ_7 ++ b_w cB cC cI cJ cZ oA rA σ_7 ++ b_c cB cC cI cJ cZ oA rA σ_7)) (wr := ([] : va_W)) hP (hDD σ_7) hS hFc (bx_ix [b_g cB cC cI cJ cZ oA rA σ_7, b_w cB cC cI cJ cZ oA rA σ_7, b_c cB cC cI cJ cZ oA rA σ_7] [0, 1, 2]) (bx_ix [b_g cB cC cI cJ cZ oA rA σ_7, b_w cB cC cI cJ cZ oA rA σ_7, b_c cB cC cI cJ cZ oA rA σ_7] []) (bx_C (bs := [b_g cB cC cI cJ cZ oA rA σ_7, b_w cB cC cI cJ cZ oA rA σ_7, b_c cB cC cI cJ cZ oA rA σ_7]) (bs' := [b_g cB cC cI cJ cZ oA rA σ_7, b_w cB cC cI cJ cZ oA rA σ_7, b_c cB cC cI cJ cZ oA rA σ_7]) (is := [0, 1, 2]) fl_3 fl_3 rfl) (bx_C (bs := [b_g cB cC cI cJ cZ oA rA σ_7, b_w cB cC cI cJ cZ oA rA σ_7, b_c cB cC cI cJ cZ oA rA σ_7]) (bs' := []) (is := []) fl_3 fl_0 rfl) (bx_n (by decide +kernel)) (bx_d (by decide +kernel)) (va_runV (As := [.int 59]) (rest := []) ⟨hx, hb, hml, hown, hts⟩ (k_X2_need l dC dI cB cC cI cJ cZ cP oA rA H.size  59 σ_7 _ hu_11) (cwV 1 hts (g_gV wq_564 wq_565 wq_2000 wq_3 wq_566) rfl rfl rfl (by decide +kernel) ⟨Nat.le_of_ble_eq_true rfl, Nat.le_of_ble_eq_true rfl⟩) (g_preV g_bl0 hK hPc hDc hS hE hFc g_to0 (q0 := 0) (ci := 2) rfl rfl) rfl rfl hl.1 rfl (lv_room (Nat.le_of_ble_eq_true rfl)) dX2_verbItem_41 ⟨Nat.le_of_ble_eq_true rfl, Nat.le_of_ble_eq_true rfl⟩) (fun u9 H locs hw9 hP' hD' hS => ?_)
    clear hPc hDc hFc
    have hP : va_P (dC, dI) vwCl (b_g cB cC cI cJ cZ oA rA u_11.2 ++ b_w cB cC cI cJ cZ oA rA u_11.2 ++ b_c cB cC cI cJ cZ oA rA u_11.2) H := hP'
    clear hP' hD'
    have h9 := Option.some.inj hF_12
    subst h9
    exact W.vret hx hb hr (fun t ht hW => ⟨⟨(), rfl, trivial, m_end ht hP, hDD _⟩, hS.F ht⟩) hS.2.2 dX2_verbItem_44
  refine lv_if_eq (tgt := 28) hx hb dX2_verbItem_17 (by decide) (fun c_13 => ?_) (fun c_13 => ?_)
  · have hF_14 := ipos c_13 hF_9
    clear hF_9
    refine lv_aload_n hx hb dX2_verbItem_28 rfl (lv_at hl 0 rfl) ?_
    refine lv_sipush (v := 213) hx hb dX2_verbItem_29 (by decide +kernel) ?_
    refine lv_sipush (v := 214) hx hb dX2_verbItem_32 (by decide +kernel) ?_
    obtain ⟨u_15, hu_15, hF_16⟩ := Option.bind_eq_some_iff.mp hF_14
    clear hF_14
    have hPc := bx_P (bs := [b_g cB cC cI cJ cZ oA rA u_5.2, b_w cB cC cI cJ cZ oA rA u_5.2, b_c cB cC cI cJ cZ oA rA u_5.2]) (bs' := [b_g cB cC cI cJ cZ oA rA u_5.2, b_w cB cC cI cJ cZ oA rA u_5.2, b_c cB cC cI cJ cZ oA rA u_5.2]) (ws' := (b_g cB cC cI cJ cZ oA rA u_5.2 ++ b_w cB cC cI cJ cZ oA rA u_5.2 ++ b_c cB cC cI cJ cZ oA rA u_5.2)) hP fl_3 fl_3 [0, 1, 2] rfl
    have hDc := bx_D (bs := [b_g cB cC cI cJ cZ oA rA u_5.2, b_w cB cC cI cJ cZ oA rA u_5.2, b_c cB cC cI cJ cZ oA rA u_5.2]) (bs' := [b_g cB cC cI cJ cZ oA rA u_5.2, b_w cB cC cI cJ cZ oA rA u_5.2, b_c cB cC cI cJ cZ oA rA u_5.2]) (ws' := (b_g cB cC cI cJ cZ oA rA u_5.2 ++ b_w cB cC cI cJ cZ oA rA u_5.2 ++ b_c cB cC cI cJ cZ oA rA u_5.2)) (hDD u_5.2) fl_3 fl_3 [0, 1, 2] (by decide +kernel) rfl
    have hFc := bx_F (bs := [b_g cB cC cI cJ cZ oA rA u_5.2, b_w cB cC cI cJ cZ oA rA u_5.2, b_c cB cC cI cJ cZ oA rA u_5.2]) (bs' := [b_g cB cC cI cJ cZ oA rA u_5.2, b_w cB cC cI cJ cZ oA rA u_5.2, b_c cB cC cI cJ cZ oA rA u_5.2]) (wc := (b_g cB cC cI cJ cZ oA rA u_5.2 ++ b_w cB cC cI cJ cZ oA rA u_5.2 ++ b_c cB cC cI cJ cZ oA rA u_5.2)) (hDD u_5.2) hS hA fl_3 fl_3 [0, 1, 2] rfl
    refine g_ofv (wc := (b_g cB cC cI cJ cZ oA rA u_5.2 ++ b_w cB cC cI cJ cZ oA rA u_5.2 ++ b_c cB cC cI cJ cZ oA rA u_5.2)) (wr := ([] : va_W)) hP (hDD u_5.2) hS hFc (bx_ix [b_g cB cC cI cJ cZ oA rA u_5.2, b_w cB cC cI cJ cZ oA rA u_5.2, b_c cB cC cI cJ cZ oA rA u_5.2] [0, 1, 2]) (bx_ix [b_g cB cC cI cJ cZ oA rA u_5.2, b_w cB cC cI cJ cZ oA rA u_5.2, b_c cB cC cI cJ cZ oA rA u_5.2] []) (bx_C (bs := [b_g cB cC cI cJ cZ oA rA u_5.2, b_w cB cC cI cJ cZ oA rA u_5.2, b_c cB cC cI cJ cZ oA rA u_5.2]) (bs' := [b_g cB cC cI cJ cZ oA rA u_5.2, b_w cB cC cI cJ cZ oA rA u_5.2, b_c cB cC cI cJ cZ oA rA u_5.2]) (is := [0, 1, 2]) fl_3 fl_3 rfl) (bx_C (bs := [b_g cB cC cI cJ cZ oA rA u_5.2, b_w cB cC cI cJ cZ oA rA u_5.2, b_c cB cC cI cJ cZ oA rA u_5.2]) (bs' := []) (is := []) fl_3 fl_0 rfl) (bx_n (by decide +kernel)) (bx_d (by decide +kernel)) (va_runV (As := [.int 213, .int 214]) (rest := []) ⟨hx, hb, hml, hown, hts⟩ (k_X2_needFrom l dC dI cB cC cI cJ cZ cP oA rA H.size  213 214 u_5.2 _ hu_15) (cwV 2 hts (g_gV wq_549 wq_550 wq_1995 wq_3 wq_551) rfl rfl rfl (by decide +kernel) ⟨Nat.le_of_ble_eq_true rfl, Nat.le_of_ble_eq_true rfl⟩) (g_preV g_bl0 hK hPc hDc hS hE hFc g_to0 (q0 := 0) (ci := 2) rfl rfl) rfl rfl hl.1 rfl (lv_room (Nat.le_of_ble_eq_true rfl)) dX2_verbItem_35 ⟨Nat.le_of_ble_eq_true rfl, Nat.le_of_ble_eq_true rfl⟩) (fun u9 H locs hw9 hP' hD' hS => ?_)
    clear hPc hDc hFc
    have hP : va_P (dC, dI) vwCl (b_g cB cC cI cJ cZ oA rA u_15.2 ++ b_w cB cC cI cJ cZ oA rA u_15.2 ++ b_c cB cC cI cJ cZ oA rA u_15.2) H := hP'
    clear hP' hD'
    exact Jj_8  u_15.2 hF_16 _ _ hP hS ls (lv_sub hl [0] rfl)
  · have hF_17 := ineg c_13 hF_9
    clear hF_9
    refine lv_aload_n hx hb dX2_verbItem_20 rfl (lv_at hl 0 rfl) ?_
    refine lv_iconst (v := 2) hx hb dX2_verbItem_21 (by decide +kernel) ?_
    obtain ⟨u_18, hu_18, hF_19⟩ := Option.bind_eq_some_iff.mp hF_17
    clear hF_17
    have hPc := bx_P (bs := [b_g cB cC cI cJ cZ oA rA u_5.2, b_w cB cC cI cJ cZ oA rA u_5.2, b_c cB cC cI cJ cZ oA rA u_5.2]) (bs' := [b_g cB cC cI cJ cZ oA rA u_5.2, b_w cB cC cI cJ cZ oA rA u_5.2, b_c cB cC cI cJ cZ oA rA u_5.2]) (ws' := (b_g cB cC cI cJ cZ oA rA u_5.2 ++ b_w cB cC cI cJ cZ oA rA u_5.2 ++ b_c cB cC cI cJ cZ oA rA u_5.2)) hP fl_3 fl_3 [0, 1, 2] rfl
    have hDc := bx_D (bs := [b_g cB cC cI cJ cZ oA rA u_5.2, b_w cB cC cI cJ cZ oA rA u_5.2, b_c cB cC cI cJ cZ oA rA u_5.2]) (bs' := [b_g cB cC cI cJ cZ oA rA u_5.2, b_w cB cC cI cJ cZ oA rA u_5.2, b_c cB cC cI cJ cZ oA rA u_5.2]) (ws' := (b_g cB cC cI cJ cZ oA rA u_5.2 ++ b_w cB cC cI cJ cZ oA rA u_5.2 ++ b_c cB cC cI cJ cZ oA rA u_5.2)) (hDD u_5.2) fl_3 fl_3 [0, 1, 2] (by decide +kernel) rfl
    have hFc := bx_F (bs := [b_g cB cC cI cJ cZ oA rA u_5.2, b_w cB cC cI cJ cZ oA rA u_5.2, b_c cB cC cI cJ cZ oA rA u_5.2]) (bs' := [b_g cB cC cI cJ cZ oA rA u_5.2, b_w cB cC cI cJ cZ oA rA u_5.2, b_c cB cC cI cJ cZ oA rA u_5.2]) (wc := (b_g cB cC cI cJ cZ oA rA u_5.2 ++ b_w cB cC cI cJ cZ oA rA u_5.2 ++ b_c cB cC cI cJ cZ oA rA u_5.2)) (hDD u_5.2) hS hA fl_3 fl_3 [0, 1, 2] rfl
    refine g_ofv (wc := (b_g cB cC cI cJ cZ oA rA u_5.2 ++ b_w cB cC cI cJ cZ oA rA u_5.2 ++ b_c cB cC cI cJ cZ oA rA u_5.2)) (wr := ([] : va_W)) hP (hDD u_5.2) hS hFc (bx_ix [b_g cB cC cI cJ cZ oA rA u_5.2, b_w cB cC cI cJ cZ oA rA u_5.2, b_c cB cC cI cJ cZ oA rA u_5.2] [0, 1, 2]) (bx_ix [b_g cB cC cI cJ cZ oA rA u_5.2, b_w cB cC cI cJ cZ oA rA u_5.2, b_c cB cC cI cJ cZ oA rA u_5.2] []) (bx_C (bs := [b_g cB cC cI cJ cZ oA rA u_5.2, b_w cB cC cI cJ cZ oA rA u_5.2, b_c cB cC cI cJ cZ oA rA u_5.2]) (bs' := [b_g cB cC cI cJ cZ oA rA u_5.2, b_w cB cC cI cJ cZ oA rA u_5.2, b_c cB cC cI cJ cZ oA rA u_5.2]) (is := [0, 1, 2]) fl_3 fl_3 rfl) (bx_C (bs := [b_g cB cC cI cJ cZ oA rA u_5.2, b_w cB cC cI cJ cZ oA rA u_5.2, b_c cB cC cI cJ cZ oA rA u_5.2]) (bs' := []) (is := []) fl_3 fl_0 rfl) (bx_n (by decide +kernel)) (bx_d (by decide +kernel)) (va_runV (As := [.int 2]) (rest := []) ⟨hx, hb, hml, hown, hts⟩ (k_X2_need l dC dI cB cC cI cJ cZ cP oA rA H.size  2 u_5.2 _ hu_18) (cwV 1 hts (g_gV wq_564 wq_565 wq_2000 wq_3 wq_566) rfl rfl rfl (by decide +kernel) ⟨Nat.le_of_ble_eq_true rfl, Nat.le_of_ble_eq_true rfl⟩) (g_preV g_bl0 hK hPc hDc hS hE hFc g_to0 (q0 := 0) (ci := 2) rfl rfl) rfl rfl hl.1 rfl (lv_room (Nat.le_of_ble_eq_true rfl)) dX2_verbItem_22 ⟨Nat.le_of_ble_eq_true rfl, Nat.le_of_ble_eq_true rfl⟩) (fun u9 H locs hw9 hP' hD' hS => ?_)
    clear hPc hDc hFc
    have hP : va_P (dC, dI) vwCl (b_g cB cC cI cJ cZ oA rA u_18.2 ++ b_w cB cC cI cJ cZ oA rA u_18.2 ++ b_c cB cC cI cJ cZ oA rA u_18.2) H := hP'
    clear hP' hD'
    refine lv_goto (tgt := 38) hx hb dX2_verbItem_25 (by decide) ?_
    exact Jj_8  u_18.2 hF_19 _ _ hP hS ls (lv_sub hl [0] rfl)
theorem dX2_item_0 : decode cX2_item 0 = .ok (.aload_n 0, 1) := by decide +kernel
theorem dX2_item_1 : decode cX2_item 1 = .ok (.getfield 19, 3) := by decide +kernel
theorem dX2_item_4 : decode cX2_item 4 = .ok (.istore_n 1, 1) := by decide +kernel
theorem dX2_item_5 : decode cX2_item 5 = .ok (.aload_n 0, 1) := by decide +kernel
theorem dX2_item_6 : decode cX2_item 6 = .ok (.getfield 29, 3) := by decide +kernel
theorem dX2_item_9 : decode cX2_item 9 = .ok (.istore_n 2, 1) := by decide +kernel
theorem dX2_item_10 : decode cX2_item 10 = .ok (.aload_n 0, 1) := by decide +kernel
theorem dX2_item_11 : decode cX2_item 11 = .ok (.sipush 230, 3) := by decide +kernel
theorem dX2_item_14 : decode cX2_item 14 = .ok (.sipush 237, 3) := by decide +kernel
theorem dX2_item_17 : decode cX2_item 17 = .ok (.invokevirtual 53, 3) := by decide +kernel
theorem dX2_item_20 : decode cX2_item 20 = .ok (.iload_n 2, 1) := by decide +kernel
theorem dX2_item_21 : decode cX2_item 21 = .ok (.tableswitch 106 230 237 #[47, 54, 61, 68, 75, 82, 89, 96], 47) := by decide +kernel
theorem dX2_item_68 : decode cX2_item 68 = .ok (.aload_n 0, 1) := by decide +kernel
theorem dX2_item_69 : decode cX2_item 69 = .ok (.invokevirtual 57, 3) := by decide +kernel
theorem dX2_item_72 : decode cX2_item 72 = .ok (.goto 55, 3) := by decide +kernel
theorem dX2_item_75 : decode cX2_item 75 = .ok (.aload_n 0, 1) := by decide +kernel
theorem dX2_item_76 : decode cX2_item 76 = .ok (.invokevirtual 60, 3) := by decide +kernel
theorem dX2_item_79 : decode cX2_item 79 = .ok (.goto 48, 3) := by decide +kernel
theorem dX2_item_82 : decode cX2_item 82 = .ok (.aload_n 0, 1) := by decide +kernel
theorem dX2_item_83 : decode cX2_item 83 = .ok (.invokevirtual 63, 3) := by decide +kernel
theorem dX2_item_86 : decode cX2_item 86 = .ok (.goto 41, 3) := by decide +kernel
theorem dX2_item_89 : decode cX2_item 89 = .ok (.aload_n 0, 1) := by decide +kernel
theorem dX2_item_90 : decode cX2_item 90 = .ok (.invokevirtual 66, 3) := by decide +kernel
theorem dX2_item_93 : decode cX2_item 93 = .ok (.goto 34, 3) := by decide +kernel
theorem dX2_item_96 : decode cX2_item 96 = .ok (.aload_n 0, 1) := by decide +kernel
theorem dX2_item_97 : decode cX2_item 97 = .ok (.invokevirtual 69, 3) := by decide +kernel
theorem dX2_item_100 : decode cX2_item 100 = .ok (.goto 27, 3) := by decide +kernel
theorem dX2_item_103 : decode cX2_item 103 = .ok (.aload_n 0, 1) := by decide +kernel
theorem dX2_item_104 : decode cX2_item 104 = .ok (.invokevirtual 72, 3) := by decide +kernel
theorem dX2_item_107 : decode cX2_item 107 = .ok (.goto 20, 3) := by decide +kernel
theorem dX2_item_110 : decode cX2_item 110 = .ok (.aload_n 0, 1) := by decide +kernel
theorem dX2_item_111 : decode cX2_item 111 = .ok (.invokevirtual 75, 3) := by decide +kernel
theorem dX2_item_114 : decode cX2_item 114 = .ok (.goto 13, 3) := by decide +kernel
theorem dX2_item_117 : decode cX2_item 117 = .ok (.aload_n 0, 1) := by decide +kernel
theorem dX2_item_118 : decode cX2_item 118 = .ok (.getfield 15, 3) := by decide +kernel
theorem dX2_item_121 : decode cX2_item 121 = .ok (.invokevirtual 78, 3) := by decide +kernel
theorem dX2_item_124 : decode cX2_item 124 = .ok (.goto 3, 3) := by decide +kernel
theorem dX2_item_127 : decode cX2_item 127 = .ok (.iload_n 2, 1) := by decide +kernel
theorem dX2_item_128 : decode cX2_item 128 = .ok (.sipush 235, 3) := by decide +kernel
theorem dX2_item_131 : decode cX2_item 131 = .ok (.if_icmp .lt 19, 3) := by decide +kernel
theorem dX2_item_134 : decode cX2_item 134 = .ok (.iload_n 2, 1) := by decide +kernel
theorem dX2_item_135 : decode cX2_item 135 = .ok (.sipush 237, 3) := by decide +kernel
theorem dX2_item_138 : decode cX2_item 138 = .ok (.if_icmp .gt 12, 3) := by decide +kernel
theorem dX2_item_141 : decode cX2_item 141 = .ok (.aload_n 0, 1) := by decide +kernel
theorem dX2_item_142 : decode cX2_item 142 = .ok (.invokevirtual 83, 3) := by decide +kernel
theorem dX2_item_145 : decode cX2_item 145 = .ok (.aload_n 0, 1) := by decide +kernel
theorem dX2_item_146 : decode cX2_item 146 = .ok (.iload_n 1, 1) := by decide +kernel
theorem dX2_item_147 : decode cX2_item 147 = .ok (.invokevirtual 86, 3) := by decide +kernel
theorem dX2_item_150 : decode cX2_item 150 = .ok (.return_, 1) := by decide +kernel
def F_X2_item  (Γ : HS) : HR :=
  bnd (((Γ 2).1 2)) fun (x_1 : Int32) =>
  bnd (((Γ 2).1 3)) fun (x_3 : Int32) =>
  (F_X2_needFrom 230 237 Γ).bind fun u_5 =>
  bnd (fun  (σ_7 : HS) => (
    if x_3 < 235 then (
      some (0, σ_7)
    ) else (
      if 237 < x_3 then (
        some (0, σ_7)
      ) else (
        (G_X2_block σ_7).bind fun u_17 =>
        (F_X2_endRoutine x_1 u_17.2).bind fun u_19 =>
        some (0, u_19.2)
      )
    )
  ) : HS → HR) fun j_8 =>
  if x_3 = 230 then (
    (F_X2_roomItem u_5.2).bind fun u_23 =>
    j_8  u_23.2
  ) else
  if x_3 = 231 then (
    (F_X2_thingItem u_5.2).bind fun u_28 =>
    j_8  u_28.2
  ) else
  if x_3 = 232 then (
    (F_X2_verbItem u_5.2).bind fun u_33 =>
    j_8  u_33.2
  ) else
  if x_3 = 233 then (
    (F_X2_varItem u_5.2).bind fun u_38 =>
    j_8  u_38.2
  ) else
  if x_3 = 234 then (
    (F_X2_arrayItem u_5.2).bind fun u_43 =>
    j_8  u_43.2
  ) else
  if x_3 = 235 then (
    (F_X2_defHead u_5.2).bind fun u_48 =>
    j_8  u_48.2
  ) else
  if x_3 = 236 then (
    (F_X2_onHead u_5.2).bind fun u_53 =>
    j_8  u_53.2
  ) else
  if x_3 = 237 then (
    (F_X0_openEach u_5.2).bind fun u_58 =>
    bnd (mrg (fun j => j == 5) u_5.2 u_58.2) fun σ_60 =>
    j_8  σ_60
  ) else
  (
    j_8  u_5.2
  )
set_option maxHeartbeats 4000000 in
set_option maxRecDepth 100000 in
theorem k_X2_item (l : Launch) (dC : Nat → ClassId) (dI : Nat → Nat → Nat) (cB cC cI cJ cZ cP : ClassId) (oA : Nat → Nat) (rA : Nat → Nat → Nat) (sz : Nat)   (Γ : HS) (res : Int32 × HS) (hF : F_X2_item  Γ = some res) : Met l yX2_item (g_ws yX2_item cX2_item 3 none) ({ frames := 407, cells := 0, slots := 0, locals := 8967 }) (va_Pc [.ref (oA 2)] (g_B (dC, dI) [(cB, .byte), (cC, .char), (cI, .int), (cJ, .long), (cZ, .boolean), (cP, .object "StoryHouse$Play")] sz (b_g cB cC cI cJ cZ oA rA Γ ++ b_w cB cC cI cJ cZ oA rA Γ ++ b_c cB cC cI cJ cZ oA rA Γ) g_0)) (va_Qv (fun (_ : Unit) => True) (g_Bo (dC, dI) (va_A (b_g cB cC cI cJ cZ oA rA Γ ++ b_w cB cC cI cJ cZ oA rA Γ ++ b_c cB cC cI cJ cZ oA rA Γ) sz) (fun (_ : Unit) => (b_g cB cC cI cJ cZ oA rA res.2 ++ b_w cB cC cI cJ cZ oA rA res.2 ++ b_c cB cC cI cJ cZ oA rA res.2))) (va_A (b_g cB cC cI cJ cZ oA rA Γ ++ b_w cB cC cI cJ cZ oA rA Γ ++ b_c cB cC cI cJ cZ oA rA Γ) sz)) 0 0 (va_A (b_g cB cC cI cJ cZ oA rA Γ ++ b_w cB cC cI cJ cZ oA rA Γ ++ b_c cB cC cI cJ cZ oA rA Γ) sz) := by
  refine Met.ofW (cc := cX2_item) (maxL := 3) (ret := none) (by decide) rfl ?_
  intro p e s m args below meth c s₁ B hml hv
  obtain ⟨rfl, hsz, hP, hK, hD0, hE, hX⟩ := hv
  have hx := B.exec
  have hb := B.bytes
  have hr := B.returns
  have hts0 := atoms_spec (ws := g_ws yX2_item cX2_item 3 none) B.pre
  have hts : ∀ w ∈ lw_good, w.before ([.ref (oA 2)] : List Value).toArray s = true := fun w z => hts0 w (List.mem_cons_of_mem _ z)
  have hown : s.vm.findClass RX2 = some m.cls := findClass_of_methodNamed B.named
  have hlocks := B.notSynchronized
  subst hsz
  have hD1 := hD0.self (sz := s.heap.size)
  generalize hAe : va_A (b_g cB cC cI cJ cZ oA rA Γ ++ b_w cB cC cI cJ cZ oA rA Γ ++ b_c cB cC cI cJ cZ oA rA Γ) s.heap.size = A at hD1 hE hX ⊢
  have hA : ∀ q : Nat, s.heap.size ≤ q → A q := fun q z => by rw [← hAe]; exact Or.inr z
  have hDD : ∀ Γ : HS, va_D A (b_g cB cC cI cJ cZ oA rA Γ ++ b_w cB cC cI cJ cZ oA rA Γ ++ b_c cB cC cI cJ cZ oA rA Γ) := fun Γ9 => va_D_fst (ws := (b_g cB cC cI cJ cZ oA rA Γ ++ b_w cB cC cI cJ cZ oA rA Γ ++ b_c cB cC cI cJ cZ oA rA Γ)) (ws' := (b_g cB cC cI cJ cZ oA rA Γ9 ++ b_w cB cC cI cJ cZ oA rA Γ9 ++ b_c cB cC cI cJ cZ oA rA Γ9)) rfl hD1
  have hN := hE.1
  have hS : va_S A s.heap s.heap [] := va_S.rf
  have hl := lv_entry ([.ref (oA 2)]) (n := 3) (Nat.le_of_ble_eq_true rfl)
  rw [lg_entry_eq]
  generalize (lg_sl ([.ref (oA 2)]) ++ List.replicate (3 - (lg_sl ([.ref (oA 2)])).length) Slot.unset).toArray = ls at hl ⊢
  have hl : lv_has ls 3 [(0, .ref (oA 2))] := hl
  unfold F_X2_item at hF
  refine lv_aload_n hx hb dX2_item_0 rfl (lv_at hl 0 rfl) ?_
  refine va_get (D := (dC, dI)) (ci := 2) (v := .int ((Γ 2).1 2)) (C := RX2) (T := TX2) (N := 8) hx hb hts ii_X2 hown hK hP 0 rfl rfl 2 (by decide) (hts (.fieldLink RX2 19 "StoryHouse$Grammar" "at" "I") wq_73) (fun _ h9 => h9) rfl dX2_item_1 ?_
  obtain ⟨x_1, ex_1, hF_2⟩ := bnd_e hF
  clear hF
  refine m_top ex_1 ?_
  refine lv_istore_n (lv' := [(1, .int x_1), (0, .ref (oA 2))]) hx hb dX2_item_4 rfl hl (by decide) rfl (fun ls hl => ?_)
  refine lv_aload_n hx hb dX2_item_5 rfl (lv_at hl 1 rfl) ?_
  refine va_get (D := (dC, dI)) (ci := 2) (v := .int ((Γ 2).1 3)) (C := RX2) (T := TX2) (N := 8) hx hb hts ii_X2 hown hK hP 0 rfl rfl 3 (by decide) (hts (.fieldLink RX2 29 "StoryHouse$Grammar" "kind" "I") wq_74) (fun _ h9 => h9) rfl dX2_item_6 ?_
  obtain ⟨x_3, ex_3, hF_4⟩ := bnd_e hF_2
  clear hF_2
  refine m_top ex_3 ?_
  refine lv_istore_n (lv' := [(2, .int x_3), (1, .int x_1), (0, .ref (oA 2))]) hx hb dX2_item_9 rfl hl (by decide) rfl (fun ls hl => ?_)
  refine lv_aload_n hx hb dX2_item_10 rfl (lv_at hl 2 rfl) ?_
  refine lv_sipush (v := 230) hx hb dX2_item_11 (by decide +kernel) ?_
  refine lv_sipush (v := 237) hx hb dX2_item_14 (by decide +kernel) ?_
  obtain ⟨u_5, hu_5, hF_6⟩ := Option.bind_eq_some_iff.mp hF_4
  clear hF_4
  have hPc := bx_P (bs := [b_g cB cC cI cJ cZ oA rA Γ, b_w cB cC cI cJ cZ oA rA Γ, b_c cB cC cI cJ cZ oA rA Γ]) (bs' := [b_g cB cC cI cJ cZ oA rA Γ, b_w cB cC cI cJ cZ oA rA Γ, b_c cB cC cI cJ cZ oA rA Γ]) (ws' := (b_g cB cC cI cJ cZ oA rA Γ ++ b_w cB cC cI cJ cZ oA rA Γ ++ b_c cB cC cI cJ cZ oA rA Γ)) hP fl_3 fl_3 [0, 1, 2] rfl
  have hDc := bx_D (bs := [b_g cB cC cI cJ cZ oA rA Γ, b_w cB cC cI cJ cZ oA rA Γ, b_c cB cC cI cJ cZ oA rA Γ]) (bs' := [b_g cB cC cI cJ cZ oA rA Γ, b_w cB cC cI cJ cZ oA rA Γ, b_c cB cC cI cJ cZ oA rA Γ]) (ws' := (b_g cB cC cI cJ cZ oA rA Γ ++ b_w cB cC cI cJ cZ oA rA Γ ++ b_c cB cC cI cJ cZ oA rA Γ)) (hDD Γ) fl_3 fl_3 [0, 1, 2] (by decide +kernel) rfl
  have hFc := bx_F (bs := [b_g cB cC cI cJ cZ oA rA Γ, b_w cB cC cI cJ cZ oA rA Γ, b_c cB cC cI cJ cZ oA rA Γ]) (bs' := [b_g cB cC cI cJ cZ oA rA Γ, b_w cB cC cI cJ cZ oA rA Γ, b_c cB cC cI cJ cZ oA rA Γ]) (wc := (b_g cB cC cI cJ cZ oA rA Γ ++ b_w cB cC cI cJ cZ oA rA Γ ++ b_c cB cC cI cJ cZ oA rA Γ)) (hDD Γ) hS hA fl_3 fl_3 [0, 1, 2] rfl
  refine g_ofv (wc := (b_g cB cC cI cJ cZ oA rA Γ ++ b_w cB cC cI cJ cZ oA rA Γ ++ b_c cB cC cI cJ cZ oA rA Γ)) (wr := ([] : va_W)) hP (hDD Γ) hS hFc (bx_ix [b_g cB cC cI cJ cZ oA rA Γ, b_w cB cC cI cJ cZ oA rA Γ, b_c cB cC cI cJ cZ oA rA Γ] [0, 1, 2]) (bx_ix [b_g cB cC cI cJ cZ oA rA Γ, b_w cB cC cI cJ cZ oA rA Γ, b_c cB cC cI cJ cZ oA rA Γ] []) (bx_C (bs := [b_g cB cC cI cJ cZ oA rA Γ, b_w cB cC cI cJ cZ oA rA Γ, b_c cB cC cI cJ cZ oA rA Γ]) (bs' := [b_g cB cC cI cJ cZ oA rA Γ, b_w cB cC cI cJ cZ oA rA Γ, b_c cB cC cI cJ cZ oA rA Γ]) (is := [0, 1, 2]) fl_3 fl_3 rfl) (bx_C (bs := [b_g cB cC cI cJ cZ oA rA Γ, b_w cB cC cI cJ cZ oA rA Γ, b_c cB cC cI cJ cZ oA rA Γ]) (bs' := []) (is := []) fl_3 fl_0 rfl) (bx_n (by decide +kernel)) (bx_d (by decide +kernel)) (va_runV (As := [.int 230, .int 237]) (rest := []) ⟨hx, hb, hml, hown, hts⟩ (k_X2_needFrom l dC dI cB cC cI cJ cZ cP oA rA s.heap.size  230 237 Γ _ hu_5) (cwV 2 hts (g_gV wq_549 wq_550 wq_1995 wq_3 wq_551) rfl rfl rfl (by decide +kernel) ⟨Nat.le_of_ble_eq_true rfl, Nat.le_of_ble_eq_true rfl⟩) (g_preV g_bl0 hK hPc hDc hS hE hFc g_to0 (q0 := 0) (ci := 2) rfl rfl) rfl rfl hl.1 rfl (lv_room (Nat.le_of_ble_eq_true rfl)) dX2_item_17 ⟨Nat.le_of_ble_eq_true rfl, Nat.le_of_ble_eq_true rfl⟩) (fun u9 H locs hw9 hP' hD' hS => ?_)
  clear hPc hDc hFc
  have hP : va_P (dC, dI) vwCl (b_g cB cC cI cJ cZ oA rA u_5.2 ++ b_w cB cC cI cJ cZ oA rA u_5.2 ++ b_c cB cC cI cJ cZ oA rA u_5.2) H := hP'
  clear hP' hD'
  refine lv_iload_n hx hb dX2_item_20 rfl (lv_at hl 0 rfl) ?_
  obtain ⟨j_8, ej_8, hF_9⟩ := bnd_e hF_6
  clear hF_6
  have Jj_8 : ∀  (σ_7 : HS), j_8  σ_7 = some res → ∀ (H : Heap) (locs : List Loc), va_P (dC, dI) vwCl (b_g cB cC cI cJ cZ oA rA σ_7 ++ b_w cB cC cI cJ cZ oA rA σ_7 ++ b_c cB cC cI cJ cZ oA rA σ_7) H → va_S A s.heap H locs → ∀ ls : Array Slot, lv_has ls 3 [(0, .ref (oA 2)), (1, .int x_1), (2, .int x_3)] → W p l e (headSpec (g_ws yX2_item cX2_item 3 none) { frames := 407, cells := 0, slots := 0, locals := 8967 }).room s m ([.ref (oA 2)] : List Value).toArray below meth c H locs 0 0 (MQ below (va_Qv (fun (_ : Unit) => True) (g_Bo (dC, dI) A (fun (_ : Unit) => (b_g cB cC cI cJ cZ oA rA res.2 ++ b_w cB cC cI cJ cZ oA rA res.2 ++ b_c cB cC cI cJ cZ oA rA res.2))) A) ([.ref (oA 2)] : List Value).toArray s 0 0 A) (F0 m 127 ls []) := by
    intro  σ_7 hF0 H locs hP hS ls hl
    subst ej_8
    have hF_10 := hF0
    clear hF0
    refine lv_iload_n hx hb dX2_item_127 rfl (lv_at hl 2 rfl) ?_
    refine lv_sipush (v := 235) hx hb dX2_item_128 (by decide +kernel) ?_
    refine lv_icmp_lt (tgt := 150) hx hb dX2_item_131 (by decide) (fun c_11 => ?_) (fun c_11 => ?_)
    · have hF_12 := ipos c_11 hF_10
      clear hF_10
      have h9 := Option.some.inj hF_12
      subst h9
      exact W.vret hx hb hr (fun t ht hW => ⟨⟨(), rfl, trivial, m_end ht hP, hDD _⟩, hS.F ht⟩) hS.2.2 dX2_item_150
    · have hF_13 := ineg c_11 hF_10
      clear hF_10
      refine lv_iload_n hx hb dX2_item_134 rfl (lv_at hl 2 rfl) ?_
      refine lv_sipush (v := 237) hx hb dX2_item_135 (by decide +kernel) ?_
      refine lv_icmp_gt (tgt := 150) hx hb dX2_item_138 (by decide) (fun c_14 => ?_) (fun c_14 => ?_)
      · have hF_15 := ipos c_14 hF_13
        clear hF_13
        have h9 := Option.some.inj hF_15
        subst h9
        exact W.vret hx hb hr (fun t ht hW => ⟨⟨(), rfl, trivial, m_end ht hP, hDD _⟩, hS.F ht⟩) hS.2.2 dX2_item_150
      · have hF_16 := ineg c_14 hF_13
        clear hF_13
        refine lv_aload_n hx hb dX2_item_141 rfl (lv_at hl 0 rfl) ?_
        obtain ⟨u_17, hu_17, hF_18⟩ := Option.bind_eq_some_iff.mp hF_16
        clear hF_16
        have hPc := bx_P (bs := [b_g cB cC cI cJ cZ oA rA σ_7, b_w cB cC cI cJ cZ oA rA σ_7, b_c cB cC cI cJ cZ oA rA σ_7]) (bs' := [b_g cB cC cI cJ cZ oA rA σ_7, b_w cB cC cI cJ cZ oA rA σ_7, b_c cB cC cI cJ cZ oA rA σ_7]) (ws' := (b_g cB cC cI cJ cZ oA rA σ_7 ++ b_w cB cC cI cJ cZ oA rA σ_7 ++ b_c cB cC cI cJ cZ oA rA σ_7)) hP fl_3 fl_3 [0, 1, 2] rfl
        have hDc := bx_D (bs := [b_g cB cC cI cJ cZ oA rA σ_7, b_w cB cC cI cJ cZ oA rA σ_7, b_c cB cC cI cJ cZ oA rA σ_7]) (bs' := [b_g cB cC cI cJ cZ oA rA σ_7, b_w cB cC cI cJ cZ oA rA σ_7, b_c cB cC cI cJ cZ oA rA σ_7]) (ws' := (b_g cB cC cI cJ cZ oA rA σ_7 ++ b_w cB cC cI cJ cZ oA rA σ_7 ++ b_c cB cC cI cJ cZ oA rA σ_7)) (hDD σ_7) fl_3 fl_3 [0, 1, 2] (by decide +kernel) rfl
        have hFc := bx_F (bs := [b_g cB cC cI cJ cZ oA rA σ_7, b_w cB cC cI cJ cZ oA rA σ_7, b_c cB cC cI cJ cZ oA rA σ_7]) (bs' := [b_g cB cC cI cJ cZ oA rA σ_7, b_w cB cC cI cJ cZ oA rA σ_7, b_c cB cC cI cJ cZ oA rA σ_7]) (wc := (b_g cB cC cI cJ cZ oA rA σ_7 ++ b_w cB cC cI cJ cZ oA rA σ_7 ++ b_c cB cC cI cJ cZ oA rA σ_7)) (hDD σ_7) hS hA fl_3 fl_3 [0, 1, 2] rfl
        refine g_ofv (wc := (b_g cB cC cI cJ cZ oA rA σ_7 ++ b_w cB cC cI cJ cZ oA rA σ_7 ++ b_c cB cC cI cJ cZ oA rA σ_7)) (wr := ([] : va_W)) hP (hDD σ_7) hS hFc (bx_ix [b_g cB cC cI cJ cZ oA rA σ_7, b_w cB cC cI cJ cZ oA rA σ_7, b_c cB cC cI cJ cZ oA rA σ_7] [0, 1, 2]) (bx_ix [b_g cB cC cI cJ cZ oA rA σ_7, b_w cB cC cI cJ cZ oA rA σ_7, b_c cB cC cI cJ cZ oA rA σ_7] []) (bx_C (bs := [b_g cB cC cI cJ cZ oA rA σ_7, b_w cB cC cI cJ cZ oA rA σ_7, b_c cB cC cI cJ cZ oA rA σ_7]) (bs' := [b_g cB cC cI cJ cZ oA rA σ_7, b_w cB cC cI cJ cZ oA rA σ_7, b_c cB cC cI cJ cZ oA rA σ_7]) (is := [0, 1, 2]) fl_3 fl_3 rfl) (bx_C (bs := [b_g cB cC cI cJ cZ oA rA σ_7, b_w cB cC cI cJ cZ oA rA σ_7, b_c cB cC cI cJ cZ oA rA σ_7]) (bs' := []) (is := []) fl_3 fl_0 rfl) (bx_n (by decide +kernel)) (bx_d (by decide +kernel)) (va_runV (As := []) (rest := []) ⟨hx, hb, hml, hown, hts⟩ (k_X2_block l dC dI cB cC cI cJ cZ cP oA rA H.size  σ_7 _ hu_17) (cwV 0 hts (g_gV wq_615 wq_616 wq_2013 wq_3 wq_617) rfl rfl rfl (by decide +kernel) ⟨Nat.le_of_ble_eq_true rfl, Nat.le_of_ble_eq_true rfl⟩) (g_preV g_bl0 hK hPc hDc hS hE hFc g_to0 (q0 := 0) (ci := 2) rfl rfl) rfl rfl hl.1 rfl (lv_room (Nat.le_of_ble_eq_true rfl)) dX2_item_142 ⟨Nat.le_of_ble_eq_true rfl, Nat.le_of_ble_eq_true rfl⟩) (fun u9 H locs hw9 hP' hD' hS => ?_)
        clear hPc hDc hFc
        have hP : va_P (dC, dI) vwCl (b_g cB cC cI cJ cZ oA rA u_17.2 ++ b_w cB cC cI cJ cZ oA rA u_17.2 ++ b_c cB cC cI cJ cZ oA rA u_17.2) H := hP'
        clear hP' hD'
        refine lv_aload_n hx hb dX2_item_145 rfl (lv_at hl 0 rfl) ?_
        refine lv_iload_n hx hb dX2_item_146 rfl (lv_at hl 1 rfl) ?_
        obtain ⟨u_19, hu_19, hF_20⟩ := Option.bind_eq_some_iff.mp hF_18
        clear hF_18
        have hPc := bx_P (bs := [b_g cB cC cI cJ cZ oA rA u_17.2, b_w cB cC cI cJ cZ oA rA u_17.2, b_c cB cC cI cJ cZ oA rA u_17.2]) (bs' := [b_g cB cC cI cJ cZ oA rA u_17.2, b_w cB cC cI cJ cZ oA rA u_17.2, b_c cB cC cI cJ cZ oA rA u_17.2]) (ws' := (b_g cB cC cI cJ cZ oA rA u_17.2 ++ b_w cB cC cI cJ cZ oA rA u_17.2 ++ b_c cB cC cI cJ cZ oA rA u_17.2)) hP fl_3 fl_3 [0, 1, 2] rfl
        have hDc := bx_D (bs := [b_g cB cC cI cJ cZ oA rA u_17.2, b_w cB cC cI cJ cZ oA rA u_17.2, b_c cB cC cI cJ cZ oA rA u_17.2]) (bs' := [b_g cB cC cI cJ cZ oA rA u_17.2, b_w cB cC cI cJ cZ oA rA u_17.2, b_c cB cC cI cJ cZ oA rA u_17.2]) (ws' := (b_g cB cC cI cJ cZ oA rA u_17.2 ++ b_w cB cC cI cJ cZ oA rA u_17.2 ++ b_c cB cC cI cJ cZ oA rA u_17.2)) (hDD u_17.2) fl_3 fl_3 [0, 1, 2] (by decide +kernel) rfl
        have hFc := bx_F (bs := [b_g cB cC cI cJ cZ oA rA u_17.2, b_w cB cC cI cJ cZ oA rA u_17.2, b_c cB cC cI cJ cZ oA rA u_17.2]) (bs' := [b_g cB cC cI cJ cZ oA rA u_17.2, b_w cB cC cI cJ cZ oA rA u_17.2, b_c cB cC cI cJ cZ oA rA u_17.2]) (wc := (b_g cB cC cI cJ cZ oA rA u_17.2 ++ b_w cB cC cI cJ cZ oA rA u_17.2 ++ b_c cB cC cI cJ cZ oA rA u_17.2)) (hDD u_17.2) hS hA fl_3 fl_3 [0, 1, 2] rfl
        refine g_ofv (wc := (b_g cB cC cI cJ cZ oA rA u_17.2 ++ b_w cB cC cI cJ cZ oA rA u_17.2 ++ b_c cB cC cI cJ cZ oA rA u_17.2)) (wr := ([] : va_W)) hP (hDD u_17.2) hS hFc (bx_ix [b_g cB cC cI cJ cZ oA rA u_17.2, b_w cB cC cI cJ cZ oA rA u_17.2, b_c cB cC cI cJ cZ oA rA u_17.2] [0, 1, 2]) (bx_ix [b_g cB cC cI cJ cZ oA rA u_17.2, b_w cB cC cI cJ cZ oA rA u_17.2, b_c cB cC cI cJ cZ oA rA u_17.2] []) (bx_C (bs := [b_g cB cC cI cJ cZ oA rA u_17.2, b_w cB cC cI cJ cZ oA rA u_17.2, b_c cB cC cI cJ cZ oA rA u_17.2]) (bs' := [b_g cB cC cI cJ cZ oA rA u_17.2, b_w cB cC cI cJ cZ oA rA u_17.2, b_c cB cC cI cJ cZ oA rA u_17.2]) (is := [0, 1, 2]) fl_3 fl_3 rfl) (bx_C (bs := [b_g cB cC cI cJ cZ oA rA u_17.2, b_w cB cC cI cJ cZ oA rA u_17.2, b_c cB cC cI cJ cZ oA rA u_17.2]) (bs' := []) (is := []) fl_3 fl_0 rfl) (bx_n (by decide +kernel)) (bx_d (by decide +kernel)) (va_runV (As := [.int x_1]) (rest := []) ⟨hx, hb, hml, hown, hts⟩ (k_X2_endRoutine l dC dI cB cC cI cJ cZ cP oA rA H.size  x_1 u_17.2 _ hu_19) (cwV 1 hts (g_gV wq_694 wq_695 wq_2032 wq_3 wq_696) rfl rfl rfl (by decide +kernel) ⟨Nat.le_of_ble_eq_true rfl, Nat.le_of_ble_eq_true rfl⟩) (g_preV g_bl0 hK hPc hDc hS hE hFc g_to0 (q0 := 0) (ci := 2) rfl rfl) rfl rfl hl.1 rfl (lv_room (Nat.le_of_ble_eq_true rfl)) dX2_item_147 ⟨Nat.le_of_ble_eq_true rfl, Nat.le_of_ble_eq_true rfl⟩) (fun u9 H locs hw9 hP' hD' hS => ?_)
        clear hPc hDc hFc
        have hP : va_P (dC, dI) vwCl (b_g cB cC cI cJ cZ oA rA u_19.2 ++ b_w cB cC cI cJ cZ oA rA u_19.2 ++ b_c cB cC cI cJ cZ oA rA u_19.2) H := hP'
        clear hP' hD'
        have h9 := Option.some.inj hF_20
        subst h9
        exact W.vret hx hb hr (fun t ht hW => ⟨⟨(), rfl, trivial, m_end ht hP, hDD _⟩, hS.F ht⟩) hS.2.2 dX2_item_150
  by_cases c_21 : x_3 = 230
  · have hF_22 := ipos c_21 hF_9
    clear hF_9
    refine lv_tableIn (off := 47) (tgt := 68) hx hb dX2_item_21 (by rw [c_21]; decide +kernel) (by rw [c_21]; decide +kernel) (by rw [c_21]; decide +kernel) (by decide) ?_
    refine lv_aload_n hx hb dX2_item_68 rfl (lv_at hl 2 rfl) ?_
    obtain ⟨u_23, hu_23, hF_24⟩ := Option.bind_eq_some_iff.mp hF_22
    clear hF_22
    have hPc := bx_P (bs := [b_g cB cC cI cJ cZ oA rA u_5.2, b_w cB cC cI cJ cZ oA rA u_5.2, b_c cB cC cI cJ cZ oA rA u_5.2]) (bs' := [b_g cB cC cI cJ cZ oA rA u_5.2, b_w cB cC cI cJ cZ oA rA u_5.2, b_c cB cC cI cJ cZ oA rA u_5.2]) (ws' := (b_g cB cC cI cJ cZ oA rA u_5.2 ++ b_w cB cC cI cJ cZ oA rA u_5.2 ++ b_c cB cC cI cJ cZ oA rA u_5.2)) hP fl_3 fl_3 [0, 1, 2] rfl
    have hDc := bx_D (bs := [b_g cB cC cI cJ cZ oA rA u_5.2, b_w cB cC cI cJ cZ oA rA u_5.2, b_c cB cC cI cJ cZ oA rA u_5.2]) (bs' := [b_g cB cC cI cJ cZ oA rA u_5.2, b_w cB cC cI cJ cZ oA rA u_5.2, b_c cB cC cI cJ cZ oA rA u_5.2]) (ws' := (b_g cB cC cI cJ cZ oA rA u_5.2 ++ b_w cB cC cI cJ cZ oA rA u_5.2 ++ b_c cB cC cI cJ cZ oA rA u_5.2)) (hDD u_5.2) fl_3 fl_3 [0, 1, 2] (by decide +kernel) rfl
    have hFc := bx_F (bs := [b_g cB cC cI cJ cZ oA rA u_5.2, b_w cB cC cI cJ cZ oA rA u_5.2, b_c cB cC cI cJ cZ oA rA u_5.2]) (bs' := [b_g cB cC cI cJ cZ oA rA u_5.2, b_w cB cC cI cJ cZ oA rA u_5.2, b_c cB cC cI cJ cZ oA rA u_5.2]) (wc := (b_g cB cC cI cJ cZ oA rA u_5.2 ++ b_w cB cC cI cJ cZ oA rA u_5.2 ++ b_c cB cC cI cJ cZ oA rA u_5.2)) (hDD u_5.2) hS hA fl_3 fl_3 [0, 1, 2] rfl
    refine g_ofv (wc := (b_g cB cC cI cJ cZ oA rA u_5.2 ++ b_w cB cC cI cJ cZ oA rA u_5.2 ++ b_c cB cC cI cJ cZ oA rA u_5.2)) (wr := ([] : va_W)) hP (hDD u_5.2) hS hFc (bx_ix [b_g cB cC cI cJ cZ oA rA u_5.2, b_w cB cC cI cJ cZ oA rA u_5.2, b_c cB cC cI cJ cZ oA rA u_5.2] [0, 1, 2]) (bx_ix [b_g cB cC cI cJ cZ oA rA u_5.2, b_w cB cC cI cJ cZ oA rA u_5.2, b_c cB cC cI cJ cZ oA rA u_5.2] []) (bx_C (bs := [b_g cB cC cI cJ cZ oA rA u_5.2, b_w cB cC cI cJ cZ oA rA u_5.2, b_c cB cC cI cJ cZ oA rA u_5.2]) (bs' := [b_g cB cC cI cJ cZ oA rA u_5.2, b_w cB cC cI cJ cZ oA rA u_5.2, b_c cB cC cI cJ cZ oA rA u_5.2]) (is := [0, 1, 2]) fl_3 fl_3 rfl) (bx_C (bs := [b_g cB cC cI cJ cZ oA rA u_5.2, b_w cB cC cI cJ cZ oA rA u_5.2, b_c cB cC cI cJ cZ oA rA u_5.2]) (bs' := []) (is := []) fl_3 fl_0 rfl) (bx_n (by decide +kernel)) (bx_d (by decide +kernel)) (va_runV (As := []) (rest := []) ⟨hx, hb, hml, hown, hts⟩ (k_X2_roomItem l dC dI cB cC cI cJ cZ cP oA rA H.size  u_5.2 _ hu_23) (cwV 0 hts (g_gV wq_561 wq_562 wq_1999 wq_3 wq_563) rfl rfl rfl (by decide +kernel) ⟨Nat.le_of_ble_eq_true rfl, Nat.le_of_ble_eq_true rfl⟩) (g_preV g_bl0 hK hPc hDc hS hE hFc g_to0 (q0 := 0) (ci := 2) rfl rfl) rfl rfl hl.1 rfl (lv_room (Nat.le_of_ble_eq_true rfl)) dX2_item_69 ⟨Nat.le_of_ble_eq_true rfl, Nat.le_of_ble_eq_true rfl⟩) (fun u9 H locs hw9 hP' hD' hS => ?_)
    clear hPc hDc hFc
    have hP : va_P (dC, dI) vwCl (b_g cB cC cI cJ cZ oA rA u_23.2 ++ b_w cB cC cI cJ cZ oA rA u_23.2 ++ b_c cB cC cI cJ cZ oA rA u_23.2) H := hP'
    clear hP' hD'
    refine lv_goto (tgt := 127) hx hb dX2_item_72 (by decide) ?_
    exact Jj_8  u_23.2 hF_24 _ _ hP hS ls (lv_sub hl [2, 1, 0] rfl)
  have hF_25 := ineg c_21 hF_9
  clear hF_9
  by_cases c_26 : x_3 = 231
  · have hF_27 := ipos c_26 hF_25
    clear hF_25
    refine lv_tableIn (off := 54) (tgt := 75) hx hb dX2_item_21 (by rw [c_26]; decide +kernel) (by rw [c_26]; decide +kernel) (by rw [c_26]; decide +kernel) (by decide) ?_
    refine lv_aload_n hx hb dX2_item_75 rfl (lv_at hl 2 rfl) ?_
    obtain ⟨u_28, hu_28, hF_29⟩ := Option.bind_eq_some_iff.mp hF_27
    clear hF_27
    have hPc := bx_P (bs := [b_g cB cC cI cJ cZ oA rA u_5.2, b_w cB cC cI cJ cZ oA rA u_5.2, b_c cB cC cI cJ cZ oA rA u_5.2]) (bs' := [b_g cB cC cI cJ cZ oA rA u_5.2, b_w cB cC cI cJ cZ oA rA u_5.2, b_c cB cC cI cJ cZ oA rA u_5.2]) (ws' := (b_g cB cC cI cJ cZ oA rA u_5.2 ++ b_w cB cC cI cJ cZ oA rA u_5.2 ++ b_c cB cC cI cJ cZ oA rA u_5.2)) hP fl_3 fl_3 [0, 1, 2] rfl
    have hDc := bx_D (bs := [b_g cB cC cI cJ cZ oA rA u_5.2, b_w cB cC cI cJ cZ oA rA u_5.2, b_c cB cC cI cJ cZ oA rA u_5.2]) (bs' := [b_g cB cC cI cJ cZ oA rA u_5.2, b_w cB cC cI cJ cZ oA rA u_5.2, b_c cB cC cI cJ cZ oA rA u_5.2]) (ws' := (b_g cB cC cI cJ cZ oA rA u_5.2 ++ b_w cB cC cI cJ cZ oA rA u_5.2 ++ b_c cB cC cI cJ cZ oA rA u_5.2)) (hDD u_5.2) fl_3 fl_3 [0, 1, 2] (by decide +kernel) rfl
    have hFc := bx_F (bs := [b_g cB cC cI cJ cZ oA rA u_5.2, b_w cB cC cI cJ cZ oA rA u_5.2, b_c cB cC cI cJ cZ oA rA u_5.2]) (bs' := [b_g cB cC cI cJ cZ oA rA u_5.2, b_w cB cC cI cJ cZ oA rA u_5.2, b_c cB cC cI cJ cZ oA rA u_5.2]) (wc := (b_g cB cC cI cJ cZ oA rA u_5.2 ++ b_w cB cC cI cJ cZ oA rA u_5.2 ++ b_c cB cC cI cJ cZ oA rA u_5.2)) (hDD u_5.2) hS hA fl_3 fl_3 [0, 1, 2] rfl
    refine g_ofv (wc := (b_g cB cC cI cJ cZ oA rA u_5.2 ++ b_w cB cC cI cJ cZ oA rA u_5.2 ++ b_c cB cC cI cJ cZ oA rA u_5.2)) (wr := ([] : va_W)) hP (hDD u_5.2) hS hFc (bx_ix [b_g cB cC cI cJ cZ oA rA u_5.2, b_w cB cC cI cJ cZ oA rA u_5.2, b_c cB cC cI cJ cZ oA rA u_5.2] [0, 1, 2]) (bx_ix [b_g cB cC cI cJ cZ oA rA u_5.2, b_w cB cC cI cJ cZ oA rA u_5.2, b_c cB cC cI cJ cZ oA rA u_5.2] []) (bx_C (bs := [b_g cB cC cI cJ cZ oA rA u_5.2, b_w cB cC cI cJ cZ oA rA u_5.2, b_c cB cC cI cJ cZ oA rA u_5.2]) (bs' := [b_g cB cC cI cJ cZ oA rA u_5.2, b_w cB cC cI cJ cZ oA rA u_5.2, b_c cB cC cI cJ cZ oA rA u_5.2]) (is := [0, 1, 2]) fl_3 fl_3 rfl) (bx_C (bs := [b_g cB cC cI cJ cZ oA rA u_5.2, b_w cB cC cI cJ cZ oA rA u_5.2, b_c cB cC cI cJ cZ oA rA u_5.2]) (bs' := []) (is := []) fl_3 fl_0 rfl) (bx_n (by decide +kernel)) (bx_d (by decide +kernel)) (va_runV (As := []) (rest := []) ⟨hx, hb, hml, hown, hts⟩ (k_X2_thingItem l dC dI cB cC cI cJ cZ cP oA rA H.size  u_5.2 _ hu_28) (cwV 0 hts (g_gV wq_579 wq_580 wq_2005 wq_3 wq_581) rfl rfl rfl (by decide +kernel) ⟨Nat.le_of_ble_eq_true rfl, Nat.le_of_ble_eq_true rfl⟩) (g_preV g_bl0 hK hPc hDc hS hE hFc g_to0 (q0 := 0) (ci := 2) rfl rfl) rfl rfl hl.1 rfl (lv_room (Nat.le_of_ble_eq_true rfl)) dX2_item_76 ⟨Nat.le_of_ble_eq_true rfl, Nat.le_of_ble_eq_true rfl⟩) (fun u9 H locs hw9 hP' hD' hS => ?_)
    clear hPc hDc hFc
    have hP : va_P (dC, dI) vwCl (b_g cB cC cI cJ cZ oA rA u_28.2 ++ b_w cB cC cI cJ cZ oA rA u_28.2 ++ b_c cB cC cI cJ cZ oA rA u_28.2) H := hP'
    clear hP' hD'
    refine lv_goto (tgt := 127) hx hb dX2_item_79 (by decide) ?_
    exact Jj_8  u_28.2 hF_29 _ _ hP hS ls (lv_sub hl [2, 1, 0] rfl)
  have hF_30 := ineg c_26 hF_25
  clear hF_25
  by_cases c_31 : x_3 = 232
  · have hF_32 := ipos c_31 hF_30
    clear hF_30
    refine lv_tableIn (off := 61) (tgt := 82) hx hb dX2_item_21 (by rw [c_31]; decide +kernel) (by rw [c_31]; decide +kernel) (by rw [c_31]; decide +kernel) (by decide) ?_
    refine lv_aload_n hx hb dX2_item_82 rfl (lv_at hl 2 rfl) ?_
    obtain ⟨u_33, hu_33, hF_34⟩ := Option.bind_eq_some_iff.mp hF_32
    clear hF_32
    have hPc := bx_P (bs := [b_g cB cC cI cJ cZ oA rA u_5.2, b_w cB cC cI cJ cZ oA rA u_5.2, b_c cB cC cI cJ cZ oA rA u_5.2]) (bs' := [b_g cB cC cI cJ cZ oA rA u_5.2, b_w cB cC cI cJ cZ oA rA u_5.2, b_c cB cC cI cJ cZ oA rA u_5.2]) (ws' := (b_g cB cC cI cJ cZ oA rA u_5.2 ++ b_w cB cC cI cJ cZ oA rA u_5.2 ++ b_c cB cC cI cJ cZ oA rA u_5.2)) hP fl_3 fl_3 [0, 1, 2] rfl
    have hDc := bx_D (bs := [b_g cB cC cI cJ cZ oA rA u_5.2, b_w cB cC cI cJ cZ oA rA u_5.2, b_c cB cC cI cJ cZ oA rA u_5.2]) (bs' := [b_g cB cC cI cJ cZ oA rA u_5.2, b_w cB cC cI cJ cZ oA rA u_5.2, b_c cB cC cI cJ cZ oA rA u_5.2]) (ws' := (b_g cB cC cI cJ cZ oA rA u_5.2 ++ b_w cB cC cI cJ cZ oA rA u_5.2 ++ b_c cB cC cI cJ cZ oA rA u_5.2)) (hDD u_5.2) fl_3 fl_3 [0, 1, 2] (by decide +kernel) rfl
    have hFc := bx_F (bs := [b_g cB cC cI cJ cZ oA rA u_5.2, b_w cB cC cI cJ cZ oA rA u_5.2, b_c cB cC cI cJ cZ oA rA u_5.2]) (bs' := [b_g cB cC cI cJ cZ oA rA u_5.2, b_w cB cC cI cJ cZ oA rA u_5.2, b_c cB cC cI cJ cZ oA rA u_5.2]) (wc := (b_g cB cC cI cJ cZ oA rA u_5.2 ++ b_w cB cC cI cJ cZ oA rA u_5.2 ++ b_c cB cC cI cJ cZ oA rA u_5.2)) (hDD u_5.2) hS hA fl_3 fl_3 [0, 1, 2] rfl
    refine g_ofv (wc := (b_g cB cC cI cJ cZ oA rA u_5.2 ++ b_w cB cC cI cJ cZ oA rA u_5.2 ++ b_c cB cC cI cJ cZ oA rA u_5.2)) (wr := ([] : va_W)) hP (hDD u_5.2) hS hFc (bx_ix [b_g cB cC cI cJ cZ oA rA u_5.2, b_w cB cC cI cJ cZ oA rA u_5.2, b_c cB cC cI cJ cZ oA rA u_5.2] [0, 1, 2]) (bx_ix [b_g cB cC cI cJ cZ oA rA u_5.2, b_w cB cC cI cJ cZ oA rA u_5.2, b_c cB cC cI cJ cZ oA rA u_5.2] []) (bx_C (bs := [b_g cB cC cI cJ cZ oA rA u_5.2, b_w cB cC cI cJ cZ oA rA u_5.2, b_c cB cC cI cJ cZ oA rA u_5.2]) (bs' := [b_g cB cC cI cJ cZ oA rA u_5.2, b_w cB cC cI cJ cZ oA rA u_5.2, b_c cB cC cI cJ cZ oA rA u_5.2]) (is := [0, 1, 2]) fl_3 fl_3 rfl) (bx_C (bs := [b_g cB cC cI cJ cZ oA rA u_5.2, b_w cB cC cI cJ cZ oA rA u_5.2, b_c cB cC cI cJ cZ oA rA u_5.2]) (bs' := []) (is := []) fl_3 fl_0 rfl) (bx_n (by decide +kernel)) (bx_d (by decide +kernel)) (va_runV (As := []) (rest := []) ⟨hx, hb, hml, hown, hts⟩ (k_X2_verbItem l dC dI cB cC cI cJ cZ cP oA rA H.size  u_5.2 _ hu_33) (cwV 0 hts (g_gV wq_585 wq_586 wq_2007 wq_3 wq_587) rfl rfl rfl (by decide +kernel) ⟨Nat.le_of_ble_eq_true rfl, Nat.le_of_ble_eq_true rfl⟩) (g_preV g_bl0 hK hPc hDc hS hE hFc g_to0 (q0 := 0) (ci := 2) rfl rfl) rfl rfl hl.1 rfl (lv_room (Nat.le_of_ble_eq_true rfl)) dX2_item_83 ⟨Nat.le_of_ble_eq_true rfl, Nat.le_of_ble_eq_true rfl⟩) (fun u9 H locs hw9 hP' hD' hS => ?_)
    clear hPc hDc hFc
    have hP : va_P (dC, dI) vwCl (b_g cB cC cI cJ cZ oA rA u_33.2 ++ b_w cB cC cI cJ cZ oA rA u_33.2 ++ b_c cB cC cI cJ cZ oA rA u_33.2) H := hP'
    clear hP' hD'
    refine lv_goto (tgt := 127) hx hb dX2_item_86 (by decide) ?_
    exact Jj_8  u_33.2 hF_34 _ _ hP hS ls (lv_sub hl [2, 1, 0] rfl)
  have hF_35 := ineg c_31 hF_30
  clear hF_30
  by_cases c_36 : x_3 = 233
  · have hF_37 := ipos c_36 hF_35
    clear hF_35
    refine lv_tableIn (off := 68) (tgt := 89) hx hb dX2_item_21 (by rw [c_36]; decide +kernel) (by rw [c_36]; decide +kernel) (by rw [c_36]; decide +kernel) (by decide) ?_
    refine lv_aload_n hx hb dX2_item_89 rfl (lv_at hl 2 rfl) ?_
    obtain ⟨u_38, hu_38, hF_39⟩ := Option.bind_eq_some_iff.mp hF_37
    clear hF_37
    have hPc := bx_P (bs := [b_g cB cC cI cJ cZ oA rA u_5.2, b_w cB cC cI cJ cZ oA rA u_5.2, b_c cB cC cI cJ cZ oA rA u_5.2]) (bs' := [b_g cB cC cI cJ cZ oA rA u_5.2, b_w cB cC cI cJ cZ oA rA u_5.2, b_c cB cC cI cJ cZ oA rA u_5.2]) (ws' := (b_g cB cC cI cJ cZ oA rA u_5.2 ++ b_w cB cC cI cJ cZ oA rA u_5.2 ++ b_c cB cC cI cJ cZ oA rA u_5.2)) hP fl_3 fl_3 [0, 1, 2] rfl
    have hDc := bx_D (bs := [b_g cB cC cI cJ cZ oA rA u_5.2, b_w cB cC cI cJ cZ oA rA u_5.2, b_c cB cC cI cJ cZ oA rA u_5.2]) (bs' := [b_g cB cC cI cJ cZ oA rA u_5.2, b_w cB cC cI cJ cZ oA rA u_5.2, b_c cB cC cI cJ cZ oA rA u_5.2]) (ws' := (b_g cB cC cI cJ cZ oA rA u_5.2 ++ b_w cB cC cI cJ cZ oA rA u_5.2 ++ b_c cB cC cI cJ cZ oA rA u_5.2)) (hDD u_5.2) fl_3 fl_3 [0, 1, 2] (by decide +kernel) rfl
    have hFc := bx_F (bs := [b_g cB cC cI cJ cZ oA rA u_5.2, b_w cB cC cI cJ cZ oA rA u_5.2, b_c cB cC cI cJ cZ oA rA u_5.2]) (bs' := [b_g cB cC cI cJ cZ oA rA u_5.2, b_w cB cC cI cJ cZ oA rA u_5.2, b_c cB cC cI cJ cZ oA rA u_5.2]) (wc := (b_g cB cC cI cJ cZ oA rA u_5.2 ++ b_w cB cC cI cJ cZ oA rA u_5.2 ++ b_c cB cC cI cJ cZ oA rA u_5.2)) (hDD u_5.2) hS hA fl_3 fl_3 [0, 1, 2] rfl
    refine g_ofv (wc := (b_g cB cC cI cJ cZ oA rA u_5.2 ++ b_w cB cC cI cJ cZ oA rA u_5.2 ++ b_c cB cC cI cJ cZ oA rA u_5.2)) (wr := ([] : va_W)) hP (hDD u_5.2) hS hFc (bx_ix [b_g cB cC cI cJ cZ oA rA u_5.2, b_w cB cC cI cJ cZ oA rA u_5.2, b_c cB cC cI cJ cZ oA rA u_5.2] [0, 1, 2]) (bx_ix [b_g cB cC cI cJ cZ oA rA u_5.2, b_w cB cC cI cJ cZ oA rA u_5.2, b_c cB cC cI cJ cZ oA rA u_5.2] []) (bx_C (bs := [b_g cB cC cI cJ cZ oA rA u_5.2, b_w cB cC cI cJ cZ oA rA u_5.2, b_c cB cC cI cJ cZ oA rA u_5.2]) (bs' := [b_g cB cC cI cJ cZ oA rA u_5.2, b_w cB cC cI cJ cZ oA rA u_5.2, b_c cB cC cI cJ cZ oA rA u_5.2]) (is := [0, 1, 2]) fl_3 fl_3 rfl) (bx_C (bs := [b_g cB cC cI cJ cZ oA rA u_5.2, b_w cB cC cI cJ cZ oA rA u_5.2, b_c cB cC cI cJ cZ oA rA u_5.2]) (bs' := []) (is := []) fl_3 fl_0 rfl) (bx_n (by decide +kernel)) (bx_d (by decide +kernel)) (va_runV (As := []) (rest := []) ⟨hx, hb, hml, hown, hts⟩ (k_X2_varItem l dC dI cB cC cI cJ cZ cP oA rA H.size  u_5.2 _ hu_38) (cwV 0 hts (g_gV wq_588 wq_589 wq_2008 wq_3 wq_590) rfl rfl rfl (by decide +kernel) ⟨Nat.le_of_ble_eq_true rfl, Nat.le_of_ble_eq_true rfl⟩) (g_preV g_bl0 hK hPc hDc hS hE hFc g_to0 (q0 := 0) (ci := 2) rfl rfl) rfl rfl hl.1 rfl (lv_room (Nat.le_of_ble_eq_true rfl)) dX2_item_90 ⟨Nat.le_of_ble_eq_true rfl, Nat.le_of_ble_eq_true rfl⟩) (fun u9 H locs hw9 hP' hD' hS => ?_)
    clear hPc hDc hFc
    have hP : va_P (dC, dI) vwCl (b_g cB cC cI cJ cZ oA rA u_38.2 ++ b_w cB cC cI cJ cZ oA rA u_38.2 ++ b_c cB cC cI cJ cZ oA rA u_38.2) H := hP'
    clear hP' hD'
    refine lv_goto (tgt := 127) hx hb dX2_item_93 (by decide) ?_
    exact Jj_8  u_38.2 hF_39 _ _ hP hS ls (lv_sub hl [2, 1, 0] rfl)
  have hF_40 := ineg c_36 hF_35
  clear hF_35
  by_cases c_41 : x_3 = 234
  · have hF_42 := ipos c_41 hF_40
    clear hF_40
    refine lv_tableIn (off := 75) (tgt := 96) hx hb dX2_item_21 (by rw [c_41]; decide +kernel) (by rw [c_41]; decide +kernel) (by rw [c_41]; decide +kernel) (by decide) ?_
    refine lv_aload_n hx hb dX2_item_96 rfl (lv_at hl 2 rfl) ?_
    obtain ⟨u_43, hu_43, hF_44⟩ := Option.bind_eq_some_iff.mp hF_42
    clear hF_42
    have hPc := bx_P (bs := [b_g cB cC cI cJ cZ oA rA u_5.2, b_w cB cC cI cJ cZ oA rA u_5.2, b_c cB cC cI cJ cZ oA rA u_5.2]) (bs' := [b_g cB cC cI cJ cZ oA rA u_5.2, b_w cB cC cI cJ cZ oA rA u_5.2, b_c cB cC cI cJ cZ oA rA u_5.2]) (ws' := (b_g cB cC cI cJ cZ oA rA u_5.2 ++ b_w cB cC cI cJ cZ oA rA u_5.2 ++ b_c cB cC cI cJ cZ oA rA u_5.2)) hP fl_3 fl_3 [0, 1, 2] rfl
    have hDc := bx_D (bs := [b_g cB cC cI cJ cZ oA rA u_5.2, b_w cB cC cI cJ cZ oA rA u_5.2, b_c cB cC cI cJ cZ oA rA u_5.2]) (bs' := [b_g cB cC cI cJ cZ oA rA u_5.2, b_w cB cC cI cJ cZ oA rA u_5.2, b_c cB cC cI cJ cZ oA rA u_5.2]) (ws' := (b_g cB cC cI cJ cZ oA rA u_5.2 ++ b_w cB cC cI cJ cZ oA rA u_5.2 ++ b_c cB cC cI cJ cZ oA rA u_5.2)) (hDD u_5.2) fl_3 fl_3 [0, 1, 2] (by decide +kernel) rfl
    have hFc := bx_F (bs := [b_g cB cC cI cJ cZ oA rA u_5.2, b_w cB cC cI cJ cZ oA rA u_5.2, b_c cB cC cI cJ cZ oA rA u_5.2]) (bs' := [b_g cB cC cI cJ cZ oA rA u_5.2, b_w cB cC cI cJ cZ oA rA u_5.2, b_c cB cC cI cJ cZ oA rA u_5.2]) (wc := (b_g cB cC cI cJ cZ oA rA u_5.2 ++ b_w cB cC cI cJ cZ oA rA u_5.2 ++ b_c cB cC cI cJ cZ oA rA u_5.2)) (hDD u_5.2) hS hA fl_3 fl_3 [0, 1, 2] rfl
    refine g_ofv (wc := (b_g cB cC cI cJ cZ oA rA u_5.2 ++ b_w cB cC cI cJ cZ oA rA u_5.2 ++ b_c cB cC cI cJ cZ oA rA u_5.2)) (wr := ([] : va_W)) hP (hDD u_5.2) hS hFc (bx_ix [b_g cB cC cI cJ cZ oA rA u_5.2, b_w cB cC cI cJ cZ oA rA u_5.2, b_c cB cC cI cJ cZ oA rA u_5.2] [0, 1, 2]) (bx_ix [b_g cB cC cI cJ cZ oA rA u_5.2, b_w cB cC cI cJ cZ oA rA u_5.2, b_c cB cC cI cJ cZ oA rA u_5.2] []) (bx_C (bs := [b_g cB cC cI cJ cZ oA rA u_5.2, b_w cB cC cI cJ cZ oA rA u_5.2, b_c cB cC cI cJ cZ oA rA u_5.2]) (bs' := [b_g cB cC cI cJ cZ oA rA u_5.2, b_w cB cC cI cJ cZ oA rA u_5.2, b_c cB cC cI cJ cZ oA rA u_5.2]) (is := [0, 1, 2]) fl_3 fl_3 rfl) (bx_C (bs := [b_g cB cC cI cJ cZ oA rA u_5.2, b_w cB cC cI cJ cZ oA rA u_5.2, b_c cB cC cI cJ cZ oA rA u_5.2]) (bs' := []) (is := []) fl_3 fl_0 rfl) (bx_n (by decide +kernel)) (bx_d (by decide +kernel)) (va_runV (As := []) (rest := []) ⟨hx, hb, hml, hown, hts⟩ (k_X2_arrayItem l dC dI cB cC cI cJ cZ cP oA rA H.size  u_5.2 _ hu_43) (cwV 0 hts (g_gV wq_591 wq_592 wq_2009 wq_3 wq_593) rfl rfl rfl (by decide +kernel) ⟨Nat.le_of_ble_eq_true rfl, Nat.le_of_ble_eq_true rfl⟩) (g_preV g_bl0 hK hPc hDc hS hE hFc g_to0 (q0 := 0) (ci := 2) rfl rfl) rfl rfl hl.1 rfl (lv_room (Nat.le_of_ble_eq_true rfl)) dX2_item_97 ⟨Nat.le_of_ble_eq_true rfl, Nat.le_of_ble_eq_true rfl⟩) (fun u9 H locs hw9 hP' hD' hS => ?_)
    clear hPc hDc hFc
    have hP : va_P (dC, dI) vwCl (b_g cB cC cI cJ cZ oA rA u_43.2 ++ b_w cB cC cI cJ cZ oA rA u_43.2 ++ b_c cB cC cI cJ cZ oA rA u_43.2) H := hP'
    clear hP' hD'
    refine lv_goto (tgt := 127) hx hb dX2_item_100 (by decide) ?_
    exact Jj_8  u_43.2 hF_44 _ _ hP hS ls (lv_sub hl [2, 1, 0] rfl)
  have hF_45 := ineg c_41 hF_40
  clear hF_40
  by_cases c_46 : x_3 = 235
  · have hF_47 := ipos c_46 hF_45
    clear hF_45
    refine lv_tableIn (off := 82) (tgt := 103) hx hb dX2_item_21 (by rw [c_46]; decide +kernel) (by rw [c_46]; decide +kernel) (by rw [c_46]; decide +kernel) (by decide) ?_
    refine lv_aload_n hx hb dX2_item_103 rfl (lv_at hl 2 rfl) ?_
    obtain ⟨u_48, hu_48, hF_49⟩ := Option.bind_eq_some_iff.mp hF_47
    clear hF_47
    have hPc := bx_P (bs := [b_g cB cC cI cJ cZ oA rA u_5.2, b_w cB cC cI cJ cZ oA rA u_5.2, b_c cB cC cI cJ cZ oA rA u_5.2]) (bs' := [b_g cB cC cI cJ cZ oA rA u_5.2, b_w cB cC cI cJ cZ oA rA u_5.2, b_c cB cC cI cJ cZ oA rA u_5.2]) (ws' := (b_g cB cC cI cJ cZ oA rA u_5.2 ++ b_w cB cC cI cJ cZ oA rA u_5.2 ++ b_c cB cC cI cJ cZ oA rA u_5.2)) hP fl_3 fl_3 [0, 1, 2] rfl
    have hDc := bx_D (bs := [b_g cB cC cI cJ cZ oA rA u_5.2, b_w cB cC cI cJ cZ oA rA u_5.2, b_c cB cC cI cJ cZ oA rA u_5.2]) (bs' := [b_g cB cC cI cJ cZ oA rA u_5.2, b_w cB cC cI cJ cZ oA rA u_5.2, b_c cB cC cI cJ cZ oA rA u_5.2]) (ws' := (b_g cB cC cI cJ cZ oA rA u_5.2 ++ b_w cB cC cI cJ cZ oA rA u_5.2 ++ b_c cB cC cI cJ cZ oA rA u_5.2)) (hDD u_5.2) fl_3 fl_3 [0, 1, 2] (by decide +kernel) rfl
    have hFc := bx_F (bs := [b_g cB cC cI cJ cZ oA rA u_5.2, b_w cB cC cI cJ cZ oA rA u_5.2, b_c cB cC cI cJ cZ oA rA u_5.2]) (bs' := [b_g cB cC cI cJ cZ oA rA u_5.2, b_w cB cC cI cJ cZ oA rA u_5.2, b_c cB cC cI cJ cZ oA rA u_5.2]) (wc := (b_g cB cC cI cJ cZ oA rA u_5.2 ++ b_w cB cC cI cJ cZ oA rA u_5.2 ++ b_c cB cC cI cJ cZ oA rA u_5.2)) (hDD u_5.2) hS hA fl_3 fl_3 [0, 1, 2] rfl
    refine g_ofv (wc := (b_g cB cC cI cJ cZ oA rA u_5.2 ++ b_w cB cC cI cJ cZ oA rA u_5.2 ++ b_c cB cC cI cJ cZ oA rA u_5.2)) (wr := ([] : va_W)) hP (hDD u_5.2) hS hFc (bx_ix [b_g cB cC cI cJ cZ oA rA u_5.2, b_w cB cC cI cJ cZ oA rA u_5.2, b_c cB cC cI cJ cZ oA rA u_5.2] [0, 1, 2]) (bx_ix [b_g cB cC cI cJ cZ oA rA u_5.2, b_w cB cC cI cJ cZ oA rA u_5.2, b_c cB cC cI cJ cZ oA rA u_5.2] []) (bx_C (bs := [b_g cB cC cI cJ cZ oA rA u_5.2, b_w cB cC cI cJ cZ oA rA u_5.2, b_c cB cC cI cJ cZ oA rA u_5.2]) (bs' := [b_g cB cC cI cJ cZ oA rA u_5.2, b_w cB cC cI cJ cZ oA rA u_5.2, b_c cB cC cI cJ cZ oA rA u_5.2]) (is := [0, 1, 2]) fl_3 fl_3 rfl) (bx_C (bs := [b_g cB cC cI cJ cZ oA rA u_5.2, b_w cB cC cI cJ cZ oA rA u_5.2, b_c cB cC cI cJ cZ oA rA u_5.2]) (bs' := []) (is := []) fl_3 fl_0 rfl) (bx_n (by decide +kernel)) (bx_d (by decide +kernel)) (va_runV (As := []) (rest := []) ⟨hx, hb, hml, hown, hts⟩ (k_X2_defHead l dC dI cB cC cI cJ cZ cP oA rA H.size  u_5.2 _ hu_48) (cwV 0 hts (g_gV wq_594 wq_595 wq_2010 wq_3 wq_596) rfl rfl rfl (by decide +kernel) ⟨Nat.le_of_ble_eq_true rfl, Nat.le_of_ble_eq_true rfl⟩) (g_preV g_bl0 hK hPc hDc hS hE hFc g_to0 (q0 := 0) (ci := 2) rfl rfl) rfl rfl hl.1 rfl (lv_room (Nat.le_of_ble_eq_true rfl)) dX2_item_104 ⟨Nat.le_of_ble_eq_true rfl, Nat.le_of_ble_eq_true rfl⟩) (fun u9 H locs hw9 hP' hD' hS => ?_)
    clear hPc hDc hFc
    have hP : va_P (dC, dI) vwCl (b_g cB cC cI cJ cZ oA rA u_48.2 ++ b_w cB cC cI cJ cZ oA rA u_48.2 ++ b_c cB cC cI cJ cZ oA rA u_48.2) H := hP'
    clear hP' hD'
    refine lv_goto (tgt := 127) hx hb dX2_item_107 (by decide) ?_
    exact Jj_8  u_48.2 hF_49 _ _ hP hS ls (lv_sub hl [2, 1, 0] rfl)
  have hF_50 := ineg c_46 hF_45
  clear hF_45
  by_cases c_51 : x_3 = 236
  · have hF_52 := ipos c_51 hF_50
    clear hF_50
    refine lv_tableIn (off := 89) (tgt := 110) hx hb dX2_item_21 (by rw [c_51]; decide +kernel) (by rw [c_51]; decide +kernel) (by rw [c_51]; decide +kernel) (by decide) ?_
    refine lv_aload_n hx hb dX2_item_110 rfl (lv_at hl 2 rfl) ?_
    obtain ⟨u_53, hu_53, hF_54⟩ := Option.bind_eq_some_iff.mp hF_52
    clear hF_52
    have hPc := bx_P (bs := [b_g cB cC cI cJ cZ oA rA u_5.2, b_w cB cC cI cJ cZ oA rA u_5.2, b_c cB cC cI cJ cZ oA rA u_5.2]) (bs' := [b_g cB cC cI cJ cZ oA rA u_5.2, b_w cB cC cI cJ cZ oA rA u_5.2, b_c cB cC cI cJ cZ oA rA u_5.2]) (ws' := (b_g cB cC cI cJ cZ oA rA u_5.2 ++ b_w cB cC cI cJ cZ oA rA u_5.2 ++ b_c cB cC cI cJ cZ oA rA u_5.2)) hP fl_3 fl_3 [0, 1, 2] rfl
    have hDc := bx_D (bs := [b_g cB cC cI cJ cZ oA rA u_5.2, b_w cB cC cI cJ cZ oA rA u_5.2, b_c cB cC cI cJ cZ oA rA u_5.2]) (bs' := [b_g cB cC cI cJ cZ oA rA u_5.2, b_w cB cC cI cJ cZ oA rA u_5.2, b_c cB cC cI cJ cZ oA rA u_5.2]) (ws' := (b_g cB cC cI cJ cZ oA rA u_5.2 ++ b_w cB cC cI cJ cZ oA rA u_5.2 ++ b_c cB cC cI cJ cZ oA rA u_5.2)) (hDD u_5.2) fl_3 fl_3 [0, 1, 2] (by decide +kernel) rfl
    have hFc := bx_F (bs := [b_g cB cC cI cJ cZ oA rA u_5.2, b_w cB cC cI cJ cZ oA rA u_5.2, b_c cB cC cI cJ cZ oA rA u_5.2]) (bs' := [b_g cB cC cI cJ cZ oA rA u_5.2, b_w cB cC cI cJ cZ oA rA u_5.2, b_c cB cC cI cJ cZ oA rA u_5.2]) (wc := (b_g cB cC cI cJ cZ oA rA u_5.2 ++ b_w cB cC cI cJ cZ oA rA u_5.2 ++ b_c cB cC cI cJ cZ oA rA u_5.2)) (hDD u_5.2) hS hA fl_3 fl_3 [0, 1, 2] rfl
    refine g_ofv (wc := (b_g cB cC cI cJ cZ oA rA u_5.2 ++ b_w cB cC cI cJ cZ oA rA u_5.2 ++ b_c cB cC cI cJ cZ oA rA u_5.2)) (wr := ([] : va_W)) hP (hDD u_5.2) hS hFc (bx_ix [b_g cB cC cI cJ cZ oA rA u_5.2, b_w cB cC cI cJ cZ oA rA u_5.2, b_c cB cC cI cJ cZ oA rA u_5.2] [0, 1, 2]) (bx_ix [b_g cB cC cI cJ cZ oA rA u_5.2, b_w cB cC cI cJ cZ oA rA u_5.2, b_c cB cC cI cJ cZ oA rA u_5.2] []) (bx_C (bs := [b_g cB cC cI cJ cZ oA rA u_5.2, b_w cB cC cI cJ cZ oA rA u_5.2, b_c cB cC cI cJ cZ oA rA u_5.2]) (bs' := [b_g cB cC cI cJ cZ oA rA u_5.2, b_w cB cC cI cJ cZ oA rA u_5.2, b_c cB cC cI cJ cZ oA rA u_5.2]) (is := [0, 1, 2]) fl_3 fl_3 rfl) (bx_C (bs := [b_g cB cC cI cJ cZ oA rA u_5.2, b_w cB cC cI cJ cZ oA rA u_5.2, b_c cB cC cI cJ cZ oA rA u_5.2]) (bs' := []) (is := []) fl_3 fl_0 rfl) (bx_n (by decide +kernel)) (bx_d (by decide +kernel)) (va_runV (As := []) (rest := []) ⟨hx, hb, hml, hown, hts⟩ (k_X2_onHead l dC dI cB cC cI cJ cZ cP oA rA H.size  u_5.2 _ hu_53) (cwV 0 hts (g_gV wq_604 wq_605 wq_2012 wq_3 wq_606) rfl rfl rfl (by decide +kernel) ⟨Nat.le_of_ble_eq_true rfl, Nat.le_of_ble_eq_true rfl⟩) (g_preV g_bl0 hK hPc hDc hS hE hFc g_to0 (q0 := 0) (ci := 2) rfl rfl) rfl rfl hl.1 rfl (lv_room (Nat.le_of_ble_eq_true rfl)) dX2_item_111 ⟨Nat.le_of_ble_eq_true rfl, Nat.le_of_ble_eq_true rfl⟩) (fun u9 H locs hw9 hP' hD' hS => ?_)
    clear hPc hDc hFc
    have hP : va_P (dC, dI) vwCl (b_g cB cC cI cJ cZ oA rA u_53.2 ++ b_w cB cC cI cJ cZ oA rA u_53.2 ++ b_c cB cC cI cJ cZ oA rA u_53.2) H := hP'
    clear hP' hD'
    refine lv_goto (tgt := 127) hx hb dX2_item_114 (by decide) ?_
    exact Jj_8  u_53.2 hF_54 _ _ hP hS ls (lv_sub hl [2, 1, 0] rfl)
  have hF_55 := ineg c_51 hF_50
  clear hF_50
  by_cases c_56 : x_3 = 237
  · have hF_57 := ipos c_56 hF_55
    clear hF_55
    refine lv_tableIn (off := 96) (tgt := 117) hx hb dX2_item_21 (by rw [c_56]; decide +kernel) (by rw [c_56]; decide +kernel) (by rw [c_56]; decide +kernel) (by decide) ?_
    refine lv_aload_n hx hb dX2_item_117 rfl (lv_at hl 2 rfl) ?_
    refine va_get (D := (dC, dI)) (ci := 2) (v := .ref (oA 5)) (C := RX2) (T := TX2) (N := 8) hx hb hts ii_X2 hown hK hP 0 rfl rfl 1 (by decide) (hts (.fieldLink RX2 15 "StoryHouse$Grammar" "code" "LStoryHouse$Code;") wq_72) (fun _ h9 => h9) rfl dX2_item_118 ?_
    obtain ⟨u_58, hu_58, hF_59⟩ := Option.bind_eq_some_iff.mp hF_57
    clear hF_57
    have hPc := bx_P (bs := [b_g cB cC cI cJ cZ oA rA u_5.2, b_w cB cC cI cJ cZ oA rA u_5.2, b_c cB cC cI cJ cZ oA rA u_5.2]) (bs' := [b_c cB cC cI cJ cZ oA rA u_5.2]) (ws' := (b_c cB cC cI cJ cZ oA rA u_5.2)) hP fl_3 fl_1 [2] rfl
    have hDc := bx_D (bs := [b_g cB cC cI cJ cZ oA rA u_5.2, b_w cB cC cI cJ cZ oA rA u_5.2, b_c cB cC cI cJ cZ oA rA u_5.2]) (bs' := [b_c cB cC cI cJ cZ oA rA u_5.2]) (ws' := (b_c cB cC cI cJ cZ oA rA u_5.2)) (hDD u_5.2) fl_3 fl_1 [2] (by decide +kernel) rfl
    have hFc := bx_F (bs := [b_g cB cC cI cJ cZ oA rA u_5.2, b_w cB cC cI cJ cZ oA rA u_5.2, b_c cB cC cI cJ cZ oA rA u_5.2]) (bs' := [b_c cB cC cI cJ cZ oA rA u_5.2]) (wc := (b_c cB cC cI cJ cZ oA rA u_5.2)) (hDD u_5.2) hS hA fl_3 fl_1 [2] rfl
    refine g_ofv (wc := (b_c cB cC cI cJ cZ oA rA u_5.2)) (wr := (b_g cB cC cI cJ cZ oA rA u_5.2 ++ b_w cB cC cI cJ cZ oA rA u_5.2)) hP (hDD u_5.2) hS hFc (bx_ix [b_g cB cC cI cJ cZ oA rA u_5.2, b_w cB cC cI cJ cZ oA rA u_5.2, b_c cB cC cI cJ cZ oA rA u_5.2] [2]) (bx_ix [b_g cB cC cI cJ cZ oA rA u_5.2, b_w cB cC cI cJ cZ oA rA u_5.2, b_c cB cC cI cJ cZ oA rA u_5.2] [0, 1]) (bx_C (bs := [b_g cB cC cI cJ cZ oA rA u_5.2, b_w cB cC cI cJ cZ oA rA u_5.2, b_c cB cC cI cJ cZ oA rA u_5.2]) (bs' := [b_c cB cC cI cJ cZ oA rA u_5.2]) (is := [2]) fl_3 fl_1 rfl) (bx_C (bs := [b_g cB cC cI cJ cZ oA rA u_5.2, b_w cB cC cI cJ cZ oA rA u_5.2, b_c cB cC cI cJ cZ oA rA u_5.2]) (bs' := [b_g cB cC cI cJ cZ oA rA u_5.2, b_w cB cC cI cJ cZ oA rA u_5.2]) (is := [0, 1]) fl_3 fl_2 rfl) (bx_n (by decide +kernel)) (bx_d (by decide +kernel)) (va_runV (As := []) (rest := []) ⟨hx, hb, hml, hown, hts⟩ (k_X0_openEach l dC dI cB cC cI cJ cZ cP oA rA H.size  u_5.2 _ hu_58) (cwV 0 hts (g_gV wq_611 wq_612 wq_613 wq_6 wq_614) rfl rfl rfl (by decide +kernel) ⟨Nat.le_of_ble_eq_true rfl, Nat.le_of_ble_eq_true rfl⟩) (g_preV g_bl0 hK hPc hDc hS hE hFc g_to0 (q0 := 0) (ci := 0) rfl rfl) rfl rfl hl.1 rfl (lv_room (Nat.le_of_ble_eq_true rfl)) dX2_item_121 ⟨Nat.le_of_ble_eq_true rfl, Nat.le_of_ble_eq_true rfl⟩) (fun u9 H locs hw9 hP' hD' hS => ?_)
    clear hPc hDc hFc
    obtain ⟨σ_60, eσ_60, hF_61⟩ := bnd_e hF_59
    clear hF_59
    have hP : va_P (dC, dI) vwCl (b_g cB cC cI cJ cZ oA rA σ_60 ++ b_w cB cC cI cJ cZ oA rA σ_60 ++ b_c cB cC cI cJ cZ oA rA σ_60) H := by rw [eσ_60]; exact bx_P (bs := [b_g cB cC cI cJ cZ oA rA u_5.2, b_w cB cC cI cJ cZ oA rA u_5.2] ++ [b_c cB cC cI cJ cZ oA rA u_58.2]) (bs' := [b_g cB cC cI cJ cZ oA rA (mrg (fun j => j == 5) u_5.2 u_58.2), b_w cB cC cI cJ cZ oA rA (mrg (fun j => j == 5) u_5.2 u_58.2), b_c cB cC cI cJ cZ oA rA (mrg (fun j => j == 5) u_5.2 u_58.2)]) hP' (fl_a fl_2 fl_1) fl_3 [0, 1, 2] rfl
    clear hP' hD'
    refine lv_goto (tgt := 127) hx hb dX2_item_124 (by decide) ?_
    exact Jj_8  σ_60 hF_61 _ _ hP hS ls (lv_sub hl [2, 1, 0] rfl)
  have hF_62 := ineg c_56 hF_55
  clear hF_55
  refine m_tabD (lo := 230) (n := 8) (tgt := 127) hx hb dX2_item_21 (by decide +kernel) (by decide) (fun j9 h9 e9 => by
      match j9, h9 with
      | 0, _ => exact absurd ((by rw [e9]; decide +kernel)) c_21
      | 1, _ => exact absurd ((by rw [e9]; decide +kernel)) c_26
      | 2, _ => exact absurd ((by rw [e9]; decide +kernel)) c_31
      | 3, _ => exact absurd ((by rw [e9]; decide +kernel)) c_36
      | 4, _ => exact absurd ((by rw [e9]; decide +kernel)) c_41
      | 5, _ => exact absurd ((by rw [e9]; decide +kernel)) c_46
      | 6, _ => exact absurd ((by rw [e9]; decide +kernel)) c_51
      | 7, _ => exact absurd ((by rw [e9]; decide +kernel)) c_56
      | n9 + 8, h9 => exact absurd h9 (by omega)) ?_
  exact Jj_8  u_5.2 hF_62 _ _ hP hS ls (lv_sub hl [2, 1, 0] rfl)
theorem dX2_readAll_0 : decode cX2_readAll 0 = .ok (.aload_n 0, 1) := by decide +kernel
theorem dX2_readAll_1 : decode cX2_readAll 1 = .ok (.aload_n 1, 1) := by decide +kernel
theorem dX2_readAll_2 : decode cX2_readAll 2 = .ok (.putfield 15, 3) := by decide +kernel
theorem dX2_readAll_5 : decode cX2_readAll 5 = .ok (.aload_n 0, 1) := by decide +kernel
theorem dX2_readAll_6 : decode cX2_readAll 6 = .ok (.iconst 0, 1) := by decide +kernel
theorem dX2_readAll_7 : decode cX2_readAll 7 = .ok (.putfield 19, 3) := by decide +kernel
theorem dX2_readAll_10 : decode cX2_readAll 10 = .ok (.aload_n 0, 1) := by decide +kernel
theorem dX2_readAll_11 : decode cX2_readAll 11 = .ok (.aload_n 0, 1) := by decide +kernel
theorem dX2_readAll_12 : decode cX2_readAll 12 = .ok (.getfield 9, 3) := by decide +kernel
theorem dX2_readAll_15 : decode cX2_readAll 15 = .ok (.iconst 0, 1) := by decide +kernel
theorem dX2_readAll_16 : decode cX2_readAll 16 = .ok (.invokevirtual 23, 3) := by decide +kernel
theorem dX2_readAll_19 : decode cX2_readAll 19 = .ok (.putfield 29, 3) := by decide +kernel
theorem dX2_readAll_22 : decode cX2_readAll 22 = .ok (.aload_n 0, 1) := by decide +kernel
theorem dX2_readAll_23 : decode cX2_readAll 23 = .ok (.iconst 0, 1) := by decide +kernel
theorem dX2_readAll_24 : decode cX2_readAll 24 = .ok (.putfield 32, 3) := by decide +kernel
theorem dX2_readAll_27 : decode cX2_readAll 27 = .ok (.aload_n 0, 1) := by decide +kernel
theorem dX2_readAll_28 : decode cX2_readAll 28 = .ok (.iconst 0, 1) := by decide +kernel
theorem dX2_readAll_29 : decode cX2_readAll 29 = .ok (.putfield 35, 3) := by decide +kernel
theorem dX2_readAll_32 : decode cX2_readAll 32 = .ok (.iconst 0, 1) := by decide +kernel
theorem dX2_readAll_33 : decode cX2_readAll 33 = .ok (.istore_n 2, 1) := by decide +kernel
theorem dX2_readAll_34 : decode cX2_readAll 34 = .ok (.iload_n 2, 1) := by decide +kernel
theorem dX2_readAll_35 : decode cX2_readAll 35 = .ok (.aload_n 0, 1) := by decide +kernel
theorem dX2_readAll_36 : decode cX2_readAll 36 = .ok (.getfield 9, 3) := by decide +kernel
theorem dX2_readAll_39 : decode cX2_readAll 39 = .ok (.getfield 38, 3) := by decide +kernel
theorem dX2_readAll_42 : decode cX2_readAll 42 = .ok (.if_icmp .ge 20, 3) := by decide +kernel
theorem dX2_readAll_45 : decode cX2_readAll 45 = .ok (.aload_n 0, 1) := by decide +kernel
theorem dX2_readAll_46 : decode cX2_readAll 46 = .ok (.getfield 29, 3) := by decide +kernel
theorem dX2_readAll_49 : decode cX2_readAll 49 = .ok (.ifCond .eq 13, 3) := by decide +kernel
theorem dX2_readAll_52 : decode cX2_readAll 52 = .ok (.aload_n 0, 1) := by decide +kernel
theorem dX2_readAll_53 : decode cX2_readAll 53 = .ok (.invokevirtual 41, 3) := by decide +kernel
theorem dX2_readAll_56 : decode cX2_readAll 56 = .ok (.iinc 2 1, 3) := by decide +kernel
theorem dX2_readAll_59 : decode cX2_readAll 59 = .ok (.goto (-25), 3) := by decide +kernel
theorem dX2_readAll_62 : decode cX2_readAll 62 = .ok (.aload_n 0, 1) := by decide +kernel
theorem dX2_readAll_63 : decode cX2_readAll 63 = .ok (.getfield 35, 3) := by decide +kernel
theorem dX2_readAll_66 : decode cX2_readAll 66 = .ok (.ifCond .eq 23, 3) := by decide +kernel
theorem dX2_readAll_69 : decode cX2_readAll 69 = .ok (.aload_n 0, 1) := by decide +kernel
theorem dX2_readAll_70 : decode cX2_readAll 70 = .ok (.getfield 9, 3) := by decide +kernel
theorem dX2_readAll_73 : decode cX2_readAll 73 = .ok (.aload_n 0, 1) := by decide +kernel
theorem dX2_readAll_74 : decode cX2_readAll 74 = .ok (.getfield 44, 3) := by decide +kernel
theorem dX2_readAll_77 : decode cX2_readAll 77 = .ok (.invokevirtual 23, 3) := by decide +kernel
theorem dX2_readAll_80 : decode cX2_readAll 80 = .ok (.iconst 1, 1) := by decide +kernel
theorem dX2_readAll_81 : decode cX2_readAll 81 = .ok (.if_icmp .ne 8, 3) := by decide +kernel
theorem dX2_readAll_84 : decode cX2_readAll 84 = .ok (.aload_n 0, 1) := by decide +kernel
theorem dX2_readAll_85 : decode cX2_readAll 85 = .ok (.iconst 1, 1) := by decide +kernel
theorem dX2_readAll_86 : decode cX2_readAll 86 = .ok (.putfield 35, 3) := by decide +kernel
theorem dX2_readAll_89 : decode cX2_readAll 89 = .ok (.aload_n 0, 1) := by decide +kernel
theorem dX2_readAll_90 : decode cX2_readAll 90 = .ok (.aload_n 0, 1) := by decide +kernel
theorem dX2_readAll_91 : decode cX2_readAll 91 = .ok (.getfield 35, 3) := by decide +kernel
theorem dX2_readAll_94 : decode cX2_readAll 94 = .ok (.ifCond .eq 17, 3) := by decide +kernel
theorem dX2_readAll_97 : decode cX2_readAll 97 = .ok (.aload_n 0, 1) := by decide +kernel
theorem dX2_readAll_98 : decode cX2_readAll 98 = .ok (.getfield 9, 3) := by decide +kernel
theorem dX2_readAll_101 : decode cX2_readAll 101 = .ok (.aload_n 0, 1) := by decide +kernel
theorem dX2_readAll_102 : decode cX2_readAll 102 = .ok (.getfield 44, 3) := by decide +kernel
theorem dX2_readAll_105 : decode cX2_readAll 105 = .ok (.invokevirtual 47, 3) := by decide +kernel
theorem dX2_readAll_108 : decode cX2_readAll 108 = .ok (.goto 4, 3) := by decide +kernel
theorem dX2_readAll_111 : decode cX2_readAll 111 = .ok (.iconst (-1), 1) := by decide +kernel
theorem dX2_readAll_112 : decode cX2_readAll 112 = .ok (.putfield 50, 3) := by decide +kernel
theorem dX2_readAll_115 : decode cX2_readAll 115 = .ok (.aload_n 0, 1) := by decide +kernel
theorem dX2_readAll_116 : decode cX2_readAll 116 = .ok (.getfield 35, 3) := by decide +kernel
theorem dX2_readAll_119 : decode cX2_readAll 119 = .ok (.ireturn, 1) := by decide +kernel
def F_X2_readAll  (Γ : HS) : HR :=
  bnd (cI' Γ 2 2 0) fun σ_1 =>
  (F_X10_kindOf 0 σ_1).bind fun u_3 =>
  bnd (mrg (fun j => j == 1) σ_1 u_3.2) fun σ_5 =>
  bnd (cI' σ_5 2 3 u_3.1) fun σ_7 =>
  bnd (cI' σ_7 2 4 0) fun σ_9 =>
  bnd (cI' σ_9 2 5 0) fun σ_11 =>
  loopF (fun (again_14 : (Int32 × HS) → HR) (s_13 : Int32 × HS) => (
    bnd (fun  (σ_17 : HS) => (
      bnd (fun  (σ_21 : HS) => (
        bnd (fun (t_25 : Int32) (σ_26 : HS) => (
          bnd (cI' σ_26 2 7 t_25) fun σ_30 =>
          some (((σ_30 2).1 5), σ_30)
        ) : Int32 → HS → HR) fun j_27 =>
        if ((σ_21 2).1 5) = 0 then (
          j_27 (-1) σ_21
        ) else (
          (F_X10_placeOf ((σ_21 2).1 6) σ_21).bind fun u_35 =>
          bnd (mrg (fun j => j == 1) σ_21 u_35.2) fun σ_37 =>
          j_27 u_35.1 σ_37
        )
      ) : HS → HR) fun j_22 =>
      if ((σ_17 2).1 5) = 0 then (
        j_22  σ_17
      ) else (
        (F_X10_kindOf ((σ_17 2).1 6) σ_17).bind fun u_42 =>
        bnd (mrg (fun j => j == 1) σ_17 u_42.2) fun σ_44 =>
        if u_42.1 = 1 then (
          bnd (cI' σ_44 2 5 1) fun σ_48 =>
          j_22  σ_48
        ) else (
          j_22  σ_44
        )
      )
    ) : HS → HR) fun j_18 =>
    if ((s_13.2 1).1 2) ≤ s_13.1 then (
      j_18  s_13.2
    ) else (
      if ((s_13.2 2).1 3) = 0 then (
        j_18  s_13.2
      ) else (
        (F_X2_item s_13.2).bind fun u_57 =>
        bnd (s_13.1 + 1) fun (x_59 : Int32) =>
        again_14 (x_59, u_57.2)
      )
    )
  )) FU (0, σ_11)
set_option maxHeartbeats 4000000 in
set_option maxRecDepth 100000 in
theorem k_X2_readAll (l : Launch) (dC : Nat → ClassId) (dI : Nat → Nat → Nat) (cB cC cI cJ cZ cP : ClassId) (oA : Nat → Nat) (rA : Nat → Nat → Nat) (oc : Option Nat) (sz : Nat)   (Γ : HS) (res : Int32 × HS) (hF : F_X2_readAll  Γ = some res) : Met l yX2_readAll (g_ws yX2_readAll cX2_readAll 3 (some .int)) ({ frames := 408, cells := 0, slots := 0, locals := 8989 }) (va_Pc [.ref (oA 2), .ref (oA 5)] (g_B (dC, dI) [(cB, .byte), (cC, .char), (cI, .int), (cJ, .long), (cZ, .boolean), (cP, .object "StoryHouse$Play")] sz ((b_g cB cC cI cJ cZ oA rA Γ ++ b_w cB cC cI cJ cZ oA rA Γ ++ b_c cB cC cI cJ cZ oA rA Γ).set 0 (oA 2, .inr (2, (fX2 oA (rA 2) (Γ 2).1).set 1 (va_rf oc)))) g_0)) (va_Qi (fun r (_ : Unit) => r = res.1) (g_Bo (dC, dI) (va_A ((b_g cB cC cI cJ cZ oA rA Γ ++ b_w cB cC cI cJ cZ oA rA Γ ++ b_c cB cC cI cJ cZ oA rA Γ).set 0 (oA 2, .inr (2, (fX2 oA (rA 2) (Γ 2).1).set 1 (va_rf oc)))) sz) (fun (_ : Unit) => (b_g cB cC cI cJ cZ oA rA res.2 ++ b_w cB cC cI cJ cZ oA rA res.2 ++ b_c cB cC cI cJ cZ oA rA res.2))) (va_A ((b_g cB cC cI cJ cZ oA rA Γ ++ b_w cB cC cI cJ cZ oA rA Γ ++ b_c cB cC cI cJ cZ oA rA Γ).set 0 (oA 2, .inr (2, (fX2 oA (rA 2) (Γ 2).1).set 1 (va_rf oc)))) sz)) 0 0 (va_A ((b_g cB cC cI cJ cZ oA rA Γ ++ b_w cB cC cI cJ cZ oA rA Γ ++ b_c cB cC cI cJ cZ oA rA Γ).set 0 (oA 2, .inr (2, (fX2 oA (rA 2) (Γ 2).1).set 1 (va_rf oc)))) sz) := by
  refine Met.ofW (cc := cX2_readAll) (maxL := 3) (ret := (some .int)) (by decide) rfl ?_
  intro p e s m args below meth c s₁ B hml hv
  obtain ⟨rfl, hsz, hP, hK, hD0, hE, hX⟩ := hv
  have hx := B.exec
  have hb := B.bytes
  have hr := B.returns
  have hts0 := atoms_spec (ws := g_ws yX2_readAll cX2_readAll 3 (some .int)) B.pre
  have hts : ∀ w ∈ lw_good, w.before ([.ref (oA 2), .ref (oA 5)] : List Value).toArray s = true := fun w z => hts0 w (List.mem_cons_of_mem _ z)
  have hown : s.vm.findClass RX2 = some m.cls := findClass_of_methodNamed B.named
  have hlocks := B.notSynchronized
  subst hsz
  have hD1 := hD0.self (sz := s.heap.size)
  generalize hAe : va_A ((b_g cB cC cI cJ cZ oA rA Γ ++ b_w cB cC cI cJ cZ oA rA Γ ++ b_c cB cC cI cJ cZ oA rA Γ).set 0 (oA 2, .inr (2, (fX2 oA (rA 2) (Γ 2).1).set 1 (va_rf oc)))) s.heap.size = A at hD1 hE hX ⊢
  have hA : ∀ q : Nat, s.heap.size ≤ q → A q := fun q z => by rw [← hAe]; exact Or.inr z
  have hDD : ∀ Γ : HS, va_D A (b_g cB cC cI cJ cZ oA rA Γ ++ b_w cB cC cI cJ cZ oA rA Γ ++ b_c cB cC cI cJ cZ oA rA Γ) := fun Γ9 => va_D_fst (ws := ((b_g cB cC cI cJ cZ oA rA Γ ++ b_w cB cC cI cJ cZ oA rA Γ ++ b_c cB cC cI cJ cZ oA rA Γ).set 0 (oA 2, .inr (2, (fX2 oA (rA 2) (Γ 2).1).set 1 (va_rf oc))))) (ws' := (b_g cB cC cI cJ cZ oA rA Γ9 ++ b_w cB cC cI cJ cZ oA rA Γ9 ++ b_c cB cC cI cJ cZ oA rA Γ9)) rfl hD1
  have hN := hE.1
  have hS : va_S A s.heap s.heap [] := va_S.rf
  have hl := lv_entry ([.ref (oA 2), .ref (oA 5)]) (n := 3) (Nat.le_of_ble_eq_true rfl)
  rw [lg_entry_eq]
  generalize (lg_sl ([.ref (oA 2), .ref (oA 5)]) ++ List.replicate (3 - (lg_sl ([.ref (oA 2), .ref (oA 5)])).length) Slot.unset).toArray = ls at hl ⊢
  have hl : lv_has ls 3 [(0, .ref (oA 2)), (1, .ref (oA 5))] := hl
  unfold F_X2_readAll at hF
  refine lv_aload_n hx hb dX2_readAll_0 rfl (lv_at hl 0 rfl) ?_
  refine lv_aload_n hx hb dX2_readAll_1 rfl (lv_at hl 1 rfl) ?_
  refine va_put (D := (dC, dI)) (ci := 2) (v := .ref (oA 5)) (ty := .object "StoryHouse$Code") (C := RX2) (T := TX2) (N := 8) hx hb hts ii_X2 tyX2 tyX2_ok nmX2 hown hK hP hD1 hS 0 rfl rfl 1 (by decide) (hts (.fieldLink RX2 15 "StoryHouse$Grammar" "code" "LStoryHouse$Code;") wq_72) (fun _ h9 => h9) rfl (by decide +kernel) rfl rfl (Nat.le_of_ble_eq_true rfl) dX2_readAll_2 (fun H locs hP' _ hS => ?_)
  have hP : va_P (dC, dI) vwCl (b_g cB cC cI cJ cZ oA rA Γ ++ b_w cB cC cI cJ cZ oA rA Γ ++ b_c cB cC cI cJ cZ oA rA Γ) H := ca_gwc_g_1 ▸ hP'
  clear hP'
  refine lv_aload_n hx hb dX2_readAll_5 rfl (lv_at hl 0 rfl) ?_
  refine lv_iconst (v := 0) hx hb dX2_readAll_6 (by decide +kernel) ?_
  obtain ⟨σ_1, eσ_1, hF_2⟩ := bnd_e hF
  clear hF
  refine va_put (D := (dC, dI)) (ci := 2) (v := .int 0) (ty := .int) (C := RX2) (T := TX2) (N := 8) hx hb hts ii_X2 tyX2 tyX2_ok nmX2 hown hK hP (hDD _) hS 0 rfl rfl 2 (by decide) (hts (.fieldLink RX2 19 "StoryHouse$Grammar" "at" "I") wq_73) (fun _ h9 => h9) rfl (by decide +kernel) rfl rfl (Nat.le_of_ble_eq_true rfl) dX2_readAll_7 (fun H locs hP' _ hS => ?_)
  have hP : va_P (dC, dI) vwCl (b_g cB cC cI cJ cZ oA rA σ_1 ++ b_w cB cC cI cJ cZ oA rA σ_1 ++ b_c cB cC cI cJ cZ oA rA σ_1) H := by rw [eσ_1]; exact cs_gwc_g_2 ▸ hP'
  clear hP'
  refine lv_aload_n hx hb dX2_readAll_10 rfl (lv_at hl 0 rfl) ?_
  refine lv_aload_n hx hb dX2_readAll_11 rfl (lv_at hl 0 rfl) ?_
  refine va_get (D := (dC, dI)) (ci := 2) (v := .ref (oA 1)) (C := RX2) (T := TX2) (N := 8) hx hb hts ii_X2 hown hK hP 0 rfl rfl 0 (by decide) (hts (.fieldLink RX2 9 "StoryHouse$Grammar" "words" "LStoryHouse$Words;") wq_71) (fun _ h9 => h9) rfl dX2_readAll_12 ?_
  refine lv_iconst (v := 0) hx hb dX2_readAll_15 (by decide +kernel) ?_
  obtain ⟨u_3, hu_3, hF_4⟩ := Option.bind_eq_some_iff.mp hF_2
  clear hF_2
  have hPc := bx_P (bs := [b_g cB cC cI cJ cZ oA rA σ_1, b_w cB cC cI cJ cZ oA rA σ_1, b_c cB cC cI cJ cZ oA rA σ_1]) (bs' := [b_w cB cC cI cJ cZ oA rA σ_1]) (ws' := (b_w cB cC cI cJ cZ oA rA σ_1)) hP fl_3 fl_1 [1] rfl
  have hDc := bx_D (bs := [b_g cB cC cI cJ cZ oA rA σ_1, b_w cB cC cI cJ cZ oA rA σ_1, b_c cB cC cI cJ cZ oA rA σ_1]) (bs' := [b_w cB cC cI cJ cZ oA rA σ_1]) (ws' := (b_w cB cC cI cJ cZ oA rA σ_1)) (hDD σ_1) fl_3 fl_1 [1] (by decide +kernel) rfl
  have hFc := bx_F (bs := [b_g cB cC cI cJ cZ oA rA σ_1, b_w cB cC cI cJ cZ oA rA σ_1, b_c cB cC cI cJ cZ oA rA σ_1]) (bs' := [b_w cB cC cI cJ cZ oA rA σ_1]) (wc := (b_w cB cC cI cJ cZ oA rA σ_1)) (hDD σ_1) hS hA fl_3 fl_1 [1] rfl
  refine g_ofi (wc := (b_w cB cC cI cJ cZ oA rA σ_1)) (wr := (b_g cB cC cI cJ cZ oA rA σ_1 ++ b_c cB cC cI cJ cZ oA rA σ_1)) hP (hDD σ_1) hS hFc (bx_ix [b_g cB cC cI cJ cZ oA rA σ_1, b_w cB cC cI cJ cZ oA rA σ_1, b_c cB cC cI cJ cZ oA rA σ_1] [1]) (bx_ix [b_g cB cC cI cJ cZ oA rA σ_1, b_w cB cC cI cJ cZ oA rA σ_1, b_c cB cC cI cJ cZ oA rA σ_1] [0, 2]) (bx_C (bs := [b_g cB cC cI cJ cZ oA rA σ_1, b_w cB cC cI cJ cZ oA rA σ_1, b_c cB cC cI cJ cZ oA rA σ_1]) (bs' := [b_w cB cC cI cJ cZ oA rA σ_1]) (is := [1]) fl_3 fl_1 rfl) (bx_C (bs := [b_g cB cC cI cJ cZ oA rA σ_1, b_w cB cC cI cJ cZ oA rA σ_1, b_c cB cC cI cJ cZ oA rA σ_1]) (bs' := [b_g cB cC cI cJ cZ oA rA σ_1, b_c cB cC cI cJ cZ oA rA σ_1]) (is := [0, 2]) fl_3 fl_2 rfl) (bx_n (by decide +kernel)) (bx_d (by decide +kernel)) (va_runV (As := [.int 0]) (rest := [.ref (oA 2)]) ⟨hx, hb, hml, hown, hts⟩ (k_X10_kindOf l dC dI cB cC cI cJ cZ cP oA rA H.size  0 σ_1 _ hu_3) (cwV 1 hts (g_gV wq_542 wq_543 wq_544 wq_2 wq_545) rfl rfl rfl (by decide +kernel) ⟨Nat.le_of_ble_eq_true rfl, Nat.le_of_ble_eq_true rfl⟩) (g_preV g_bl0 hK hPc hDc hS hE hFc g_to0 (q0 := 0) (ci := 10) rfl rfl) rfl rfl hl.1 rfl (lv_room (Nat.le_of_ble_eq_true rfl)) dX2_readAll_16 ⟨Nat.le_of_ble_eq_true rfl, Nat.le_of_ble_eq_true rfl⟩) (fun r9 u9 H locs hw9 hP' hD' hS => ?_)
  clear hPc hDc hFc
  subst hw9
  obtain ⟨σ_5, eσ_5, hF_6⟩ := bnd_e hF_4
  clear hF_4
  have hP : va_P (dC, dI) vwCl (b_g cB cC cI cJ cZ oA rA σ_5 ++ b_w cB cC cI cJ cZ oA rA σ_5 ++ b_c cB cC cI cJ cZ oA rA σ_5) H := by rw [eσ_5]; exact bx_P (bs := [b_g cB cC cI cJ cZ oA rA σ_1, b_c cB cC cI cJ cZ oA rA σ_1] ++ [b_w cB cC cI cJ cZ oA rA u_3.2]) (bs' := [b_g cB cC cI cJ cZ oA rA (mrg (fun j => j == 1) σ_1 u_3.2), b_w cB cC cI cJ cZ oA rA (mrg (fun j => j == 1) σ_1 u_3.2), b_c cB cC cI cJ cZ oA rA (mrg (fun j => j == 1) σ_1 u_3.2)]) hP' (fl_a fl_2 fl_1) fl_3 [0, 2, 1] rfl
  clear hP' hD'
  obtain ⟨σ_7, eσ_7, hF_8⟩ := bnd_e hF_6
  clear hF_6
  refine va_put (D := (dC, dI)) (ci := 2) (v := .int u_3.1) (ty := .int) (C := RX2) (T := TX2) (N := 8) hx hb hts ii_X2 tyX2 tyX2_ok nmX2 hown hK hP (hDD _) hS 0 rfl rfl 3 (by decide) (hts (.fieldLink RX2 29 "StoryHouse$Grammar" "kind" "I") wq_74) (fun _ h9 => h9) rfl (by decide +kernel) rfl rfl (Nat.le_of_ble_eq_true rfl) dX2_readAll_19 (fun H locs hP' _ hS => ?_)
  have hP : va_P (dC, dI) vwCl (b_g cB cC cI cJ cZ oA rA σ_7 ++ b_w cB cC cI cJ cZ oA rA σ_7 ++ b_c cB cC cI cJ cZ oA rA σ_7) H := by rw [eσ_7]; exact cs_gwc_g_3 ▸ hP'
  clear hP'
  refine lv_aload_n hx hb dX2_readAll_22 rfl (lv_at hl 0 rfl) ?_
  refine lv_iconst (v := 0) hx hb dX2_readAll_23 (by decide +kernel) ?_
  obtain ⟨σ_9, eσ_9, hF_10⟩ := bnd_e hF_8
  clear hF_8
  refine va_put (D := (dC, dI)) (ci := 2) (v := .int 0) (ty := .int) (C := RX2) (T := TX2) (N := 8) hx hb hts ii_X2 tyX2 tyX2_ok nmX2 hown hK hP (hDD _) hS 0 rfl rfl 4 (by decide) (hts (.fieldLink RX2 32 "StoryHouse$Grammar" "nest" "I") wq_75) (fun _ h9 => h9) rfl (by decide +kernel) rfl rfl (Nat.le_of_ble_eq_true rfl) dX2_readAll_24 (fun H locs hP' _ hS => ?_)
  have hP : va_P (dC, dI) vwCl (b_g cB cC cI cJ cZ oA rA σ_9 ++ b_w cB cC cI cJ cZ oA rA σ_9 ++ b_c cB cC cI cJ cZ oA rA σ_9) H := by rw [eσ_9]; exact cs_gwc_g_4 ▸ hP'
  clear hP'
  refine lv_aload_n hx hb dX2_readAll_27 rfl (lv_at hl 0 rfl) ?_
  refine lv_iconst (v := 0) hx hb dX2_readAll_28 (by decide +kernel) ?_
  obtain ⟨σ_11, eσ_11, hF_12⟩ := bnd_e hF_10
  clear hF_10
  refine va_put (D := (dC, dI)) (ci := 2) (v := .int 0) (ty := .int) (C := RX2) (T := TX2) (N := 8) hx hb hts ii_X2 tyX2 tyX2_ok nmX2 hown hK hP (hDD _) hS 0 rfl rfl 5 (by decide) (hts (.fieldLink RX2 35 "StoryHouse$Grammar" "fault" "I") wq_76) (fun _ h9 => h9) rfl (by decide +kernel) rfl rfl (Nat.le_of_ble_eq_true rfl) dX2_readAll_29 (fun H locs hP' _ hS => ?_)
  have hP : va_P (dC, dI) vwCl (b_g cB cC cI cJ cZ oA rA σ_11 ++ b_w cB cC cI cJ cZ oA rA σ_11 ++ b_c cB cC cI cJ cZ oA rA σ_11) H := by rw [eσ_11]; exact cs_gwc_g_5 ▸ hP'
  clear hP'
  refine lv_iconst (v := 0) hx hb dX2_readAll_32 (by decide +kernel) ?_
  refine lv_istore_n (lv' := [(2, .int 0), (0, .ref (oA 2)), (1, .ref (oA 5))]) hx hb dX2_readAll_33 rfl hl (by decide) rfl (fun ls hl => ?_)
  refine loopF_ind (P := fun (s_13 : Int32 × HS) => ∀ (H : Heap) (locs : List Loc), va_P (dC, dI) vwCl (b_g cB cC cI cJ cZ oA rA s_13.2 ++ b_w cB cC cI cJ cZ oA rA s_13.2 ++ b_c cB cC cI cJ cZ oA rA s_13.2) H → va_S A s.heap H locs → ∀ ls : Array Slot, lv_has ls 3 [(0, .ref (oA 2)), (2, .int s_13.1)] → W p l e (headSpec (g_ws yX2_readAll cX2_readAll 3 (some .int)) { frames := 408, cells := 0, slots := 0, locals := 8989 }).room s m ([.ref (oA 2), .ref (oA 5)] : List Value).toArray below meth c H locs 0 0 (MQ below (va_Qi (fun r (_ : Unit) => r = res.1) (g_Bo (dC, dI) A (fun (_ : Unit) => (b_g cB cC cI cJ cZ oA rA res.2 ++ b_w cB cC cI cJ cZ oA rA res.2 ++ b_c cB cC cI cJ cZ oA rA res.2))) A) ([.ref (oA 2), .ref (oA 5)] : List Value).toArray s 0 0 A) (F0 m 34 ls [])) ?_ _ _ hF_12 _ _ hP hS ls (lv_sub hl [1, 0] rfl)
  intro again_14 s_13 ih_15 hF_16
  intro H locs hP hS ls hl
  refine lv_iload_n hx hb dX2_readAll_34 rfl (lv_at hl 1 rfl) ?_
  refine lv_aload_n hx hb dX2_readAll_35 rfl (lv_at hl 0 rfl) ?_
  refine va_get (D := (dC, dI)) (ci := 2) (v := .ref (oA 1)) (C := RX2) (T := TX2) (N := 8) hx hb hts ii_X2 hown hK hP 0 rfl rfl 0 (by decide) (hts (.fieldLink RX2 9 "StoryHouse$Grammar" "words" "LStoryHouse$Words;") wq_71) (fun _ h9 => h9) rfl dX2_readAll_36 ?_
  refine va_get (D := (dC, dI)) (ci := 10) (v := .int ((s_13.2 1).1 2)) (C := RX10) (T := TX10) (N := 12) hx hb hts ii_X10 hown hK hP 1 rfl rfl 2 (by decide) (hts (.fieldLink RX2 38 "StoryHouse$Words" "count" "I") wq_47) (fun _ h9 => h9) rfl dX2_readAll_39 ?_
  obtain ⟨j_18, ej_18, hF_19⟩ := bnd_e hF_16
  clear hF_16
  have Jj_18 : ∀  (σ_17 : HS), j_18  σ_17 = some res → ∀ (H : Heap) (locs : List Loc), va_P (dC, dI) vwCl (b_g cB cC cI cJ cZ oA rA σ_17 ++ b_w cB cC cI cJ cZ oA rA σ_17 ++ b_c cB cC cI cJ cZ oA rA σ_17) H → va_S A s.heap H locs → ∀ ls : Array Slot, lv_has ls 3 [(0, .ref (oA 2))] → W p l e (headSpec (g_ws yX2_readAll cX2_readAll 3 (some .int)) { frames := 408, cells := 0, slots := 0, locals := 8989 }).room s m ([.ref (oA 2), .ref (oA 5)] : List Value).toArray below meth c H locs 0 0 (MQ below (va_Qi (fun r (_ : Unit) => r = res.1) (g_Bo (dC, dI) A (fun (_ : Unit) => (b_g cB cC cI cJ cZ oA rA res.2 ++ b_w cB cC cI cJ cZ oA rA res.2 ++ b_c cB cC cI cJ cZ oA rA res.2))) A) ([.ref (oA 2), .ref (oA 5)] : List Value).toArray s 0 0 A) (F0 m 62 ls []) := by
    intro  σ_17 hF0 H locs hP hS ls hl
    subst ej_18
    have hF_20 := hF0
    clear hF0
    refine lv_aload_n hx hb dX2_readAll_62 rfl (lv_at hl 0 rfl) ?_
    refine va_get (D := (dC, dI)) (ci := 2) (v := .int ((σ_17 2).1 5)) (C := RX2) (T := TX2) (N := 8) hx hb hts ii_X2 hown hK hP 0 rfl rfl 5 (by decide) (hts (.fieldLink RX2 35 "StoryHouse$Grammar" "fault" "I") wq_76) (fun _ h9 => h9) rfl dX2_readAll_63 ?_
    obtain ⟨j_22, ej_22, hF_23⟩ := bnd_e hF_20
    clear hF_20
    have Jj_22 : ∀  (σ_21 : HS), j_22  σ_21 = some res → ∀ (H : Heap) (locs : List Loc), va_P (dC, dI) vwCl (b_g cB cC cI cJ cZ oA rA σ_21 ++ b_w cB cC cI cJ cZ oA rA σ_21 ++ b_c cB cC cI cJ cZ oA rA σ_21) H → va_S A s.heap H locs → ∀ ls : Array Slot, lv_has ls 3 [(0, .ref (oA 2))] → W p l e (headSpec (g_ws yX2_readAll cX2_readAll 3 (some .int)) { frames := 408, cells := 0, slots := 0, locals := 8989 }).room s m ([.ref (oA 2), .ref (oA 5)] : List Value).toArray below meth c H locs 0 0 (MQ below (va_Qi (fun r (_ : Unit) => r = res.1) (g_Bo (dC, dI) A (fun (_ : Unit) => (b_g cB cC cI cJ cZ oA rA res.2 ++ b_w cB cC cI cJ cZ oA rA res.2 ++ b_c cB cC cI cJ cZ oA rA res.2))) A) ([.ref (oA 2), .ref (oA 5)] : List Value).toArray s 0 0 A) (F0 m 89 ls []) := by
      intro  σ_21 hF0 H locs hP hS ls hl
      subst ej_22
      have hF_24 := hF0
      clear hF0
      refine lv_aload_n hx hb dX2_readAll_89 rfl (lv_at hl 0 rfl) ?_
      refine lv_aload_n hx hb dX2_readAll_90 rfl (lv_at hl 0 rfl) ?_
      refine va_get (D := (dC, dI)) (ci := 2) (v := .int ((σ_21 2).1 5)) (C := RX2) (T := TX2) (N := 8) hx hb hts ii_X2 hown hK hP 0 rfl rfl 5 (by decide) (hts (.fieldLink RX2 35 "StoryHouse$Grammar" "fault" "I") wq_76) (fun _ h9 => h9) rfl dX2_readAll_91 ?_
      obtain ⟨j_27, ej_27, hF_28⟩ := bnd_e hF_24
      clear hF_24
      have Jj_27 : ∀ (t_25 : Int32) (σ_26 : HS), j_27 t_25 σ_26 = some res → ∀ (H : Heap) (locs : List Loc), va_P (dC, dI) vwCl (b_g cB cC cI cJ cZ oA rA σ_26 ++ b_w cB cC cI cJ cZ oA rA σ_26 ++ b_c cB cC cI cJ cZ oA rA σ_26) H → va_S A s.heap H locs → ∀ ls : Array Slot, lv_has ls 3 [(0, .ref (oA 2))] → W p l e (headSpec (g_ws yX2_readAll cX2_readAll 3 (some .int)) { frames := 408, cells := 0, slots := 0, locals := 8989 }).room s m ([.ref (oA 2), .ref (oA 5)] : List Value).toArray below meth c H locs 0 0 (MQ below (va_Qi (fun r (_ : Unit) => r = res.1) (g_Bo (dC, dI) A (fun (_ : Unit) => (b_g cB cC cI cJ cZ oA rA res.2 ++ b_w cB cC cI cJ cZ oA rA res.2 ++ b_c cB cC cI cJ cZ oA rA res.2))) A) ([.ref (oA 2), .ref (oA 5)] : List Value).toArray s 0 0 A) (F0 m 112 ls [.int t_25, .ref (oA 2)]) := by
        intro t_25 σ_26 hF0 H locs hP hS ls hl
        subst ej_27
        have hF_29 := hF0
        clear hF0
        obtain ⟨σ_30, eσ_30, hF_31⟩ := bnd_e hF_29
        clear hF_29
        refine va_put (D := (dC, dI)) (ci := 2) (v := .int t_25) (ty := .int) (C := RX2) (T := TX2) (N := 8) hx hb hts ii_X2 tyX2 tyX2_ok nmX2 hown hK hP (hDD _) hS 0 rfl rfl 7 (by decide) (hts (.fieldLink RX2 50 "StoryHouse$Grammar" "faultPlace" "I") wq_78) (fun _ h9 => h9) rfl (by decide +kernel) rfl rfl (Nat.le_of_ble_eq_true rfl) dX2_readAll_112 (fun H locs hP' _ hS => ?_)
        have hP : va_P (dC, dI) vwCl (b_g cB cC cI cJ cZ oA rA σ_30 ++ b_w cB cC cI cJ cZ oA rA σ_30 ++ b_c cB cC cI cJ cZ oA rA σ_30) H := by rw [eσ_30]; exact cs_gwc_g_7 ▸ hP'
        clear hP'
        refine lv_aload_n hx hb dX2_readAll_115 rfl (lv_at hl 0 rfl) ?_
        refine va_get (D := (dC, dI)) (ci := 2) (v := .int ((σ_30 2).1 5)) (C := RX2) (T := TX2) (N := 8) hx hb hts ii_X2 hown hK hP 0 rfl rfl 5 (by decide) (hts (.fieldLink RX2 35 "StoryHouse$Grammar" "fault" "I") wq_76) (fun _ h9 => h9) rfl dX2_readAll_116 ?_
        have h9 := Option.some.inj hF_31
        subst h9
        exact W.iret (v := ((σ_30 2).1 5)) hx hb hr (fun t ht hW => ⟨⟨((σ_30 2).1 5), (), rfl, rfl, m_end ht hP, hDD _⟩, hS.F ht⟩) hS.2.2 dX2_readAll_119
      refine lv_if_eq (tgt := 111) hx hb dX2_readAll_94 (by decide) (fun c_32 => ?_) (fun c_32 => ?_)
      · have hF_33 := ipos c_32 hF_28
        clear hF_28
        refine lv_iconst (v := (-1)) hx hb dX2_readAll_111 (by decide +kernel) ?_
        exact Jj_27 (-1) σ_21 hF_33 _ _ hP hS ls (lv_sub hl [0] rfl)
      · have hF_34 := ineg c_32 hF_28
        clear hF_28
        refine lv_aload_n hx hb dX2_readAll_97 rfl (lv_at hl 0 rfl) ?_
        refine va_get (D := (dC, dI)) (ci := 2) (v := .ref (oA 1)) (C := RX2) (T := TX2) (N := 8) hx hb hts ii_X2 hown hK hP 0 rfl rfl 0 (by decide) (hts (.fieldLink RX2 9 "StoryHouse$Grammar" "words" "LStoryHouse$Words;") wq_71) (fun _ h9 => h9) rfl dX2_readAll_98 ?_
        refine lv_aload_n hx hb dX2_readAll_101 rfl (lv_at hl 0 rfl) ?_
        refine va_get (D := (dC, dI)) (ci := 2) (v := .int ((σ_21 2).1 6)) (C := RX2) (T := TX2) (N := 8) hx hb hts ii_X2 hown hK hP 0 rfl rfl 6 (by decide) (hts (.fieldLink RX2 44 "StoryHouse$Grammar" "faultWord" "I") wq_77) (fun _ h9 => h9) rfl dX2_readAll_102 ?_
        obtain ⟨u_35, hu_35, hF_36⟩ := Option.bind_eq_some_iff.mp hF_34
        clear hF_34
        have hPc := bx_P (bs := [b_g cB cC cI cJ cZ oA rA σ_21, b_w cB cC cI cJ cZ oA rA σ_21, b_c cB cC cI cJ cZ oA rA σ_21]) (bs' := [b_w cB cC cI cJ cZ oA rA σ_21]) (ws' := (b_w cB cC cI cJ cZ oA rA σ_21)) hP fl_3 fl_1 [1] rfl
        have hDc := bx_D (bs := [b_g cB cC cI cJ cZ oA rA σ_21, b_w cB cC cI cJ cZ oA rA σ_21, b_c cB cC cI cJ cZ oA rA σ_21]) (bs' := [b_w cB cC cI cJ cZ oA rA σ_21]) (ws' := (b_w cB cC cI cJ cZ oA rA σ_21)) (hDD σ_21) fl_3 fl_1 [1] (by decide +kernel) rfl
        have hFc := bx_F (bs := [b_g cB cC cI cJ cZ oA rA σ_21, b_w cB cC cI cJ cZ oA rA σ_21, b_c cB cC cI cJ cZ oA rA σ_21]) (bs' := [b_w cB cC cI cJ cZ oA rA σ_21]) (wc := (b_w cB cC cI cJ cZ oA rA σ_21)) (hDD σ_21) hS hA fl_3 fl_1 [1] rfl
        refine g_ofi (wc := (b_w cB cC cI cJ cZ oA rA σ_21)) (wr := (b_g cB cC cI cJ cZ oA rA σ_21 ++ b_c cB cC cI cJ cZ oA rA σ_21)) hP (hDD σ_21) hS hFc (bx_ix [b_g cB cC cI cJ cZ oA rA σ_21, b_w cB cC cI cJ cZ oA rA σ_21, b_c cB cC cI cJ cZ oA rA σ_21] [1]) (bx_ix [b_g cB cC cI cJ cZ oA rA σ_21, b_w cB cC cI cJ cZ oA rA σ_21, b_c cB cC cI cJ cZ oA rA σ_21] [0, 2]) (bx_C (bs := [b_g cB cC cI cJ cZ oA rA σ_21, b_w cB cC cI cJ cZ oA rA σ_21, b_c cB cC cI cJ cZ oA rA σ_21]) (bs' := [b_w cB cC cI cJ cZ oA rA σ_21]) (is := [1]) fl_3 fl_1 rfl) (bx_C (bs := [b_g cB cC cI cJ cZ oA rA σ_21, b_w cB cC cI cJ cZ oA rA σ_21, b_c cB cC cI cJ cZ oA rA σ_21]) (bs' := [b_g cB cC cI cJ cZ oA rA σ_21, b_c cB cC cI cJ cZ oA rA σ_21]) (is := [0, 2]) fl_3 fl_2 rfl) (bx_n (by decide +kernel)) (bx_d (by decide +kernel)) (va_runV (As := [.int ((σ_21 2).1 6)]) (rest := [.ref (oA 2)]) ⟨hx, hb, hml, hown, hts⟩ (k_X10_placeOf l dC dI cB cC cI cJ cZ cP oA rA H.size  ((σ_21 2).1 6) σ_21 _ hu_35) (cwV 1 hts (g_gV wq_701 wq_702 wq_703 wq_2 wq_704) rfl rfl rfl (by decide +kernel) ⟨Nat.le_of_ble_eq_true rfl, Nat.le_of_ble_eq_true rfl⟩) (g_preV g_bl0 hK hPc hDc hS hE hFc g_to0 (q0 := 0) (ci := 10) rfl rfl) rfl rfl hl.1 rfl (lv_room (Nat.le_of_ble_eq_true rfl)) dX2_readAll_105 ⟨Nat.le_of_ble_eq_true rfl, Nat.le_of_ble_eq_true rfl⟩) (fun r9 u9 H locs hw9 hP' hD' hS => ?_)
        clear hPc hDc hFc
        subst hw9
        obtain ⟨σ_37, eσ_37, hF_38⟩ := bnd_e hF_36
        clear hF_36
        have hP : va_P (dC, dI) vwCl (b_g cB cC cI cJ cZ oA rA σ_37 ++ b_w cB cC cI cJ cZ oA rA σ_37 ++ b_c cB cC cI cJ cZ oA rA σ_37) H := by rw [eσ_37]; exact bx_P (bs := [b_g cB cC cI cJ cZ oA rA σ_21, b_c cB cC cI cJ cZ oA rA σ_21] ++ [b_w cB cC cI cJ cZ oA rA u_35.2]) (bs' := [b_g cB cC cI cJ cZ oA rA (mrg (fun j => j == 1) σ_21 u_35.2), b_w cB cC cI cJ cZ oA rA (mrg (fun j => j == 1) σ_21 u_35.2), b_c cB cC cI cJ cZ oA rA (mrg (fun j => j == 1) σ_21 u_35.2)]) hP' (fl_a fl_2 fl_1) fl_3 [0, 2, 1] rfl
        clear hP' hD'
        refine lv_goto (tgt := 112) hx hb dX2_readAll_108 (by decide) ?_
        exact Jj_27 u_35.1 σ_37 hF_38 _ _ hP hS ls (lv_sub hl [0] rfl)
    refine lv_if_eq (tgt := 89) hx hb dX2_readAll_66 (by decide) (fun c_39 => ?_) (fun c_39 => ?_)
    · have hF_40 := ipos c_39 hF_23
      clear hF_23
      exact Jj_22  σ_17 hF_40 _ _ hP hS ls (lv_sub hl [0] rfl)
    · have hF_41 := ineg c_39 hF_23
      clear hF_23
      refine lv_aload_n hx hb dX2_readAll_69 rfl (lv_at hl 0 rfl) ?_
      refine va_get (D := (dC, dI)) (ci := 2) (v := .ref (oA 1)) (C := RX2) (T := TX2) (N := 8) hx hb hts ii_X2 hown hK hP 0 rfl rfl 0 (by decide) (hts (.fieldLink RX2 9 "StoryHouse$Grammar" "words" "LStoryHouse$Words;") wq_71) (fun _ h9 => h9) rfl dX2_readAll_70 ?_
      refine lv_aload_n hx hb dX2_readAll_73 rfl (lv_at hl 0 rfl) ?_
      refine va_get (D := (dC, dI)) (ci := 2) (v := .int ((σ_17 2).1 6)) (C := RX2) (T := TX2) (N := 8) hx hb hts ii_X2 hown hK hP 0 rfl rfl 6 (by decide) (hts (.fieldLink RX2 44 "StoryHouse$Grammar" "faultWord" "I") wq_77) (fun _ h9 => h9) rfl dX2_readAll_74 ?_
      obtain ⟨u_42, hu_42, hF_43⟩ := Option.bind_eq_some_iff.mp hF_41
      clear hF_41
      have hPc := bx_P (bs := [b_g cB cC cI cJ cZ oA rA σ_17, b_w cB cC cI cJ cZ oA rA σ_17, b_c cB cC cI cJ cZ oA rA σ_17]) (bs' := [b_w cB cC cI cJ cZ oA rA σ_17]) (ws' := (b_w cB cC cI cJ cZ oA rA σ_17)) hP fl_3 fl_1 [1] rfl
      have hDc := bx_D (bs := [b_g cB cC cI cJ cZ oA rA σ_17, b_w cB cC cI cJ cZ oA rA σ_17, b_c cB cC cI cJ cZ oA rA σ_17]) (bs' := [b_w cB cC cI cJ cZ oA rA σ_17]) (ws' := (b_w cB cC cI cJ cZ oA rA σ_17)) (hDD σ_17) fl_3 fl_1 [1] (by decide +kernel) rfl
      have hFc := bx_F (bs := [b_g cB cC cI cJ cZ oA rA σ_17, b_w cB cC cI cJ cZ oA rA σ_17, b_c cB cC cI cJ cZ oA rA σ_17]) (bs' := [b_w cB cC cI cJ cZ oA rA σ_17]) (wc := (b_w cB cC cI cJ cZ oA rA σ_17)) (hDD σ_17) hS hA fl_3 fl_1 [1] rfl
      refine g_ofi (wc := (b_w cB cC cI cJ cZ oA rA σ_17)) (wr := (b_g cB cC cI cJ cZ oA rA σ_17 ++ b_c cB cC cI cJ cZ oA rA σ_17)) hP (hDD σ_17) hS hFc (bx_ix [b_g cB cC cI cJ cZ oA rA σ_17, b_w cB cC cI cJ cZ oA rA σ_17, b_c cB cC cI cJ cZ oA rA σ_17] [1]) (bx_ix [b_g cB cC cI cJ cZ oA rA σ_17, b_w cB cC cI cJ cZ oA rA σ_17, b_c cB cC cI cJ cZ oA rA σ_17] [0, 2]) (bx_C (bs := [b_g cB cC cI cJ cZ oA rA σ_17, b_w cB cC cI cJ cZ oA rA σ_17, b_c cB cC cI cJ cZ oA rA σ_17]) (bs' := [b_w cB cC cI cJ cZ oA rA σ_17]) (is := [1]) fl_3 fl_1 rfl) (bx_C (bs := [b_g cB cC cI cJ cZ oA rA σ_17, b_w cB cC cI cJ cZ oA rA σ_17, b_c cB cC cI cJ cZ oA rA σ_17]) (bs' := [b_g cB cC cI cJ cZ oA rA σ_17, b_c cB cC cI cJ cZ oA rA σ_17]) (is := [0, 2]) fl_3 fl_2 rfl) (bx_n (by decide +kernel)) (bx_d (by decide +kernel)) (va_runV (As := [.int ((σ_17 2).1 6)]) (rest := []) ⟨hx, hb, hml, hown, hts⟩ (k_X10_kindOf l dC dI cB cC cI cJ cZ cP oA rA H.size  ((σ_17 2).1 6) σ_17 _ hu_42) (cwV 1 hts (g_gV wq_542 wq_543 wq_544 wq_2 wq_545) rfl rfl rfl (by decide +kernel) ⟨Nat.le_of_ble_eq_true rfl, Nat.le_of_ble_eq_true rfl⟩) (g_preV g_bl0 hK hPc hDc hS hE hFc g_to0 (q0 := 0) (ci := 10) rfl rfl) rfl rfl hl.1 rfl (lv_room (Nat.le_of_ble_eq_true rfl)) dX2_readAll_77 ⟨Nat.le_of_ble_eq_true rfl, Nat.le_of_ble_eq_true rfl⟩) (fun r9 u9 H locs hw9 hP' hD' hS => ?_)
      clear hPc hDc hFc
      subst hw9
      obtain ⟨σ_44, eσ_44, hF_45⟩ := bnd_e hF_43
      clear hF_43
      have hP : va_P (dC, dI) vwCl (b_g cB cC cI cJ cZ oA rA σ_44 ++ b_w cB cC cI cJ cZ oA rA σ_44 ++ b_c cB cC cI cJ cZ oA rA σ_44) H := by rw [eσ_44]; exact bx_P (bs := [b_g cB cC cI cJ cZ oA rA σ_17, b_c cB cC cI cJ cZ oA rA σ_17] ++ [b_w cB cC cI cJ cZ oA rA u_42.2]) (bs' := [b_g cB cC cI cJ cZ oA rA (mrg (fun j => j == 1) σ_17 u_42.2), b_w cB cC cI cJ cZ oA rA (mrg (fun j => j == 1) σ_17 u_42.2), b_c cB cC cI cJ cZ oA rA (mrg (fun j => j == 1) σ_17 u_42.2)]) hP' (fl_a fl_2 fl_1) fl_3 [0, 2, 1] rfl
      clear hP' hD'
      refine lv_iconst (v := 1) hx hb dX2_readAll_80 (by decide +kernel) ?_
      refine lv_icmp_ne (tgt := 89) hx hb dX2_readAll_81 (by decide) (fun c_46 => ?_) (fun c_46 => ?_)
      · have hF_50 := ineg c_46 hF_45
        clear hF_45
        exact Jj_22  σ_44 hF_50 _ _ hP hS ls (lv_sub hl [0] rfl)
      · have hF_47 := ipos c_46 hF_45
        clear hF_45
        refine lv_aload_n hx hb dX2_readAll_84 rfl (lv_at hl 0 rfl) ?_
        refine lv_iconst (v := 1) hx hb dX2_readAll_85 (by decide +kernel) ?_
        obtain ⟨σ_48, eσ_48, hF_49⟩ := bnd_e hF_47
        clear hF_47
        refine va_put (D := (dC, dI)) (ci := 2) (v := .int 1) (ty := .int) (C := RX2) (T := TX2) (N := 8) hx hb hts ii_X2 tyX2 tyX2_ok nmX2 hown hK hP (hDD _) hS 0 rfl rfl 5 (by decide) (hts (.fieldLink RX2 35 "StoryHouse$Grammar" "fault" "I") wq_76) (fun _ h9 => h9) rfl (by decide +kernel) rfl rfl (Nat.le_of_ble_eq_true rfl) dX2_readAll_86 (fun H locs hP' _ hS => ?_)
        have hP : va_P (dC, dI) vwCl (b_g cB cC cI cJ cZ oA rA σ_48 ++ b_w cB cC cI cJ cZ oA rA σ_48 ++ b_c cB cC cI cJ cZ oA rA σ_48) H := by rw [eσ_48]; exact cs_gwc_g_5 ▸ hP'
        clear hP'
        exact Jj_22  σ_48 hF_49 _ _ hP hS ls (lv_sub hl [0] rfl)
  refine lv_icmp_ge (tgt := 62) hx hb dX2_readAll_42 (by decide) (fun c_51 => ?_) (fun c_51 => ?_)
  · have hF_52 := ipos c_51 hF_19
    clear hF_19
    exact Jj_18  s_13.2 hF_52 _ _ hP hS ls (lv_sub hl [0] rfl)
  · have hF_53 := ineg c_51 hF_19
    clear hF_19
    refine lv_aload_n hx hb dX2_readAll_45 rfl (lv_at hl 0 rfl) ?_
    refine va_get (D := (dC, dI)) (ci := 2) (v := .int ((s_13.2 2).1 3)) (C := RX2) (T := TX2) (N := 8) hx hb hts ii_X2 hown hK hP 0 rfl rfl 3 (by decide) (hts (.fieldLink RX2 29 "StoryHouse$Grammar" "kind" "I") wq_74) (fun _ h9 => h9) rfl dX2_readAll_46 ?_
    refine lv_if_eq (tgt := 62) hx hb dX2_readAll_49 (by decide) (fun c_54 => ?_) (fun c_54 => ?_)
    · have hF_55 := ipos c_54 hF_53
      clear hF_53
      exact Jj_18  s_13.2 hF_55 _ _ hP hS ls (lv_sub hl [0] rfl)
    · have hF_56 := ineg c_54 hF_53
      clear hF_53
      refine lv_aload_n hx hb dX2_readAll_52 rfl (lv_at hl 0 rfl) ?_
      obtain ⟨u_57, hu_57, hF_58⟩ := Option.bind_eq_some_iff.mp hF_56
      clear hF_56
      have hPc := bx_P (bs := [b_g cB cC cI cJ cZ oA rA s_13.2, b_w cB cC cI cJ cZ oA rA s_13.2, b_c cB cC cI cJ cZ oA rA s_13.2]) (bs' := [b_g cB cC cI cJ cZ oA rA s_13.2, b_w cB cC cI cJ cZ oA rA s_13.2, b_c cB cC cI cJ cZ oA rA s_13.2]) (ws' := (b_g cB cC cI cJ cZ oA rA s_13.2 ++ b_w cB cC cI cJ cZ oA rA s_13.2 ++ b_c cB cC cI cJ cZ oA rA s_13.2)) hP fl_3 fl_3 [0, 1, 2] rfl
      have hDc := bx_D (bs := [b_g cB cC cI cJ cZ oA rA s_13.2, b_w cB cC cI cJ cZ oA rA s_13.2, b_c cB cC cI cJ cZ oA rA s_13.2]) (bs' := [b_g cB cC cI cJ cZ oA rA s_13.2, b_w cB cC cI cJ cZ oA rA s_13.2, b_c cB cC cI cJ cZ oA rA s_13.2]) (ws' := (b_g cB cC cI cJ cZ oA rA s_13.2 ++ b_w cB cC cI cJ cZ oA rA s_13.2 ++ b_c cB cC cI cJ cZ oA rA s_13.2)) (hDD s_13.2) fl_3 fl_3 [0, 1, 2] (by decide +kernel) rfl
      have hFc := bx_F (bs := [b_g cB cC cI cJ cZ oA rA s_13.2, b_w cB cC cI cJ cZ oA rA s_13.2, b_c cB cC cI cJ cZ oA rA s_13.2]) (bs' := [b_g cB cC cI cJ cZ oA rA s_13.2, b_w cB cC cI cJ cZ oA rA s_13.2, b_c cB cC cI cJ cZ oA rA s_13.2]) (wc := (b_g cB cC cI cJ cZ oA rA s_13.2 ++ b_w cB cC cI cJ cZ oA rA s_13.2 ++ b_c cB cC cI cJ cZ oA rA s_13.2)) (hDD s_13.2) hS hA fl_3 fl_3 [0, 1, 2] rfl
      refine g_ofv (wc := (b_g cB cC cI cJ cZ oA rA s_13.2 ++ b_w cB cC cI cJ cZ oA rA s_13.2 ++ b_c cB cC cI cJ cZ oA rA s_13.2)) (wr := ([] : va_W)) hP (hDD s_13.2) hS hFc (bx_ix [b_g cB cC cI cJ cZ oA rA s_13.2, b_w cB cC cI cJ cZ oA rA s_13.2, b_c cB cC cI cJ cZ oA rA s_13.2] [0, 1, 2]) (bx_ix [b_g cB cC cI cJ cZ oA rA s_13.2, b_w cB cC cI cJ cZ oA rA s_13.2, b_c cB cC cI cJ cZ oA rA s_13.2] []) (bx_C (bs := [b_g cB cC cI cJ cZ oA rA s_13.2, b_w cB cC cI cJ cZ oA rA s_13.2, b_c cB cC cI cJ cZ oA rA s_13.2]) (bs' := [b_g cB cC cI cJ cZ oA rA s_13.2, b_w cB cC cI cJ cZ oA rA s_13.2, b_c cB cC cI cJ cZ oA rA s_13.2]) (is := [0, 1, 2]) fl_3 fl_3 rfl) (bx_C (bs := [b_g cB cC cI cJ cZ oA rA s_13.2, b_w cB cC cI cJ cZ oA rA s_13.2, b_c cB cC cI cJ cZ oA rA s_13.2]) (bs' := []) (is := []) fl_3 fl_0 rfl) (bx_n (by decide +kernel)) (bx_d (by decide +kernel)) (va_runV (As := []) (rest := []) ⟨hx, hb, hml, hown, hts⟩ (k_X2_item l dC dI cB cC cI cJ cZ cP oA rA H.size  s_13.2 _ hu_57) (cwV 0 hts (g_gV wq_546 wq_547 wq_1994 wq_3 wq_548) rfl rfl rfl (by decide +kernel) ⟨Nat.le_of_ble_eq_true rfl, Nat.le_of_ble_eq_true rfl⟩) (g_preV g_bl0 hK hPc hDc hS hE hFc g_to0 (q0 := 0) (ci := 2) rfl rfl) rfl rfl hl.1 rfl (lv_room (Nat.le_of_ble_eq_true rfl)) dX2_readAll_53 ⟨Nat.le_of_ble_eq_true rfl, Nat.le_of_ble_eq_true rfl⟩) (fun u9 H locs hw9 hP' hD' hS => ?_)
      clear hPc hDc hFc
      have hP : va_P (dC, dI) vwCl (b_g cB cC cI cJ cZ oA rA u_57.2 ++ b_w cB cC cI cJ cZ oA rA u_57.2 ++ b_c cB cC cI cJ cZ oA rA u_57.2) H := hP'
      clear hP' hD'
      obtain ⟨x_59, ex_59, hF_60⟩ := bnd_e hF_58
      clear hF_58
      refine lv_iinc (v := x_59) (lv' := [(2, .int x_59), (0, .ref (oA 2))]) hx hb dX2_readAll_56 hl (k := 1) rfl (by rw [ex_59]; rfl) (by decide) rfl (fun ls hl => ?_)
      refine lv_goto (tgt := 34) hx hb dX2_readAll_59 (by decide) ?_
      exact ih_15 (x_59, u_57.2) hF_60 _ _ hP hS ls (lv_sub hl [1, 0] rfl)
theorem dX3_ready_0 : decode cX3_ready 0 = .ok (.aload_n 0, 1) := by decide +kernel
theorem dX3_ready_1 : decode cX3_ready 1 = .ok (.iconst 0, 1) := by decide +kernel
theorem dX3_ready_2 : decode cX3_ready 2 = .ok (.putfield 37, 3) := by decide +kernel
theorem dX3_ready_5 : decode cX3_ready 5 = .ok (.aload_n 0, 1) := by decide +kernel
theorem dX3_ready_6 : decode cX3_ready 6 = .ok (.iconst 0, 1) := by decide +kernel
theorem dX3_ready_7 : decode cX3_ready 7 = .ok (.putfield 40, 3) := by decide +kernel
theorem dX3_ready_10 : decode cX3_ready 10 = .ok (.return_, 1) := by decide +kernel
def F_X3_ready  (Γ : HS) : HR :=
  bnd (cI' Γ 10 5 0) fun σ_1 =>
  bnd (cI' σ_1 10 13 0) fun σ_3 =>
  some (0, σ_3)
set_option maxHeartbeats 4000000 in
set_option maxRecDepth 100000 in
theorem k_X3_ready (l : Launch) (dC : Nat → ClassId) (dI : Nat → Nat → Nat) (cB cC cI cJ cZ cP : ClassId) (oA : Nat → Nat) (rA : Nat → Nat → Nat) (sz : Nat)   (Γ : HS) (res : Int32 × HS) (hF : F_X3_ready  Γ = some res) : Met l yX3_ready (g_ws yX3_ready cX3_ready 1 none) ({ frames := 1, cells := 0, slots := 0, locals := 40 }) (va_Pc [.ref (oA 10)] (g_B (dC, dI) [(cB, .byte), (cC, .char), (cI, .int), (cJ, .long), (cZ, .boolean), (cP, .object "StoryHouse$Play")] sz (b_k cB cC cI cJ cZ oA rA Γ ++ b_p cB cC cI cJ cZ oA rA Γ ++ b_o cB cC cI cJ cZ oA rA Γ ++ b_s cB cC cI cJ cZ oA rA Γ ++ b_c cB cC cI cJ cZ oA rA Γ ++ b_t cB cC cI cJ cZ oA rA Γ ++ b_d cB cC cI cJ cZ oA rA Γ) g_0)) (va_Qv (fun (_ : Unit) => True) (g_Bo (dC, dI) (va_A (b_k cB cC cI cJ cZ oA rA Γ ++ b_p cB cC cI cJ cZ oA rA Γ ++ b_o cB cC cI cJ cZ oA rA Γ ++ b_s cB cC cI cJ cZ oA rA Γ ++ b_c cB cC cI cJ cZ oA rA Γ ++ b_t cB cC cI cJ cZ oA rA Γ ++ b_d cB cC cI cJ cZ oA rA Γ) sz) (fun (_ : Unit) => (b_k cB cC cI cJ cZ oA rA res.2 ++ b_p cB cC cI cJ cZ oA rA res.2 ++ b_o cB cC cI cJ cZ oA rA res.2 ++ b_s cB cC cI cJ cZ oA rA res.2 ++ b_c cB cC cI cJ cZ oA rA res.2 ++ b_t cB cC cI cJ cZ oA rA res.2 ++ b_d cB cC cI cJ cZ oA rA res.2))) (va_A (b_k cB cC cI cJ cZ oA rA Γ ++ b_p cB cC cI cJ cZ oA rA Γ ++ b_o cB cC cI cJ cZ oA rA Γ ++ b_s cB cC cI cJ cZ oA rA Γ ++ b_c cB cC cI cJ cZ oA rA Γ ++ b_t cB cC cI cJ cZ oA rA Γ ++ b_d cB cC cI cJ cZ oA rA Γ) sz)) 0 0 (va_A (b_k cB cC cI cJ cZ oA rA Γ ++ b_p cB cC cI cJ cZ oA rA Γ ++ b_o cB cC cI cJ cZ oA rA Γ ++ b_s cB cC cI cJ cZ oA rA Γ ++ b_c cB cC cI cJ cZ oA rA Γ ++ b_t cB cC cI cJ cZ oA rA Γ ++ b_d cB cC cI cJ cZ oA rA Γ) sz) := by
  refine Met.ofW (cc := cX3_ready) (maxL := 1) (ret := none) (by decide) rfl ?_
  intro p e s m args below meth c s₁ B hml hv
  obtain ⟨rfl, hsz, hP, hK, hD0, hE, hX⟩ := hv
  have hx := B.exec
  have hb := B.bytes
  have hr := B.returns
  have hts0 := atoms_spec (ws := g_ws yX3_ready cX3_ready 1 none) B.pre
  have hts : ∀ w ∈ lw_good, w.before ([.ref (oA 10)] : List Value).toArray s = true := fun w z => hts0 w (List.mem_cons_of_mem _ z)
  have hown : s.vm.findClass RX3 = some m.cls := findClass_of_methodNamed B.named
  have hlocks := B.notSynchronized
  subst hsz
  have hD1 := hD0.self (sz := s.heap.size)
  generalize hAe : va_A (b_k cB cC cI cJ cZ oA rA Γ ++ b_p cB cC cI cJ cZ oA rA Γ ++ b_o cB cC cI cJ cZ oA rA Γ ++ b_s cB cC cI cJ cZ oA rA Γ ++ b_c cB cC cI cJ cZ oA rA Γ ++ b_t cB cC cI cJ cZ oA rA Γ ++ b_d cB cC cI cJ cZ oA rA Γ) s.heap.size = A at hD1 hE hX ⊢
  have hA : ∀ q : Nat, s.heap.size ≤ q → A q := fun q z => by rw [← hAe]; exact Or.inr z
  have hDD : ∀ Γ : HS, va_D A (b_k cB cC cI cJ cZ oA rA Γ ++ b_p cB cC cI cJ cZ oA rA Γ ++ b_o cB cC cI cJ cZ oA rA Γ ++ b_s cB cC cI cJ cZ oA rA Γ ++ b_c cB cC cI cJ cZ oA rA Γ ++ b_t cB cC cI cJ cZ oA rA Γ ++ b_d cB cC cI cJ cZ oA rA Γ) := fun Γ9 => va_D_fst (ws := (b_k cB cC cI cJ cZ oA rA Γ ++ b_p cB cC cI cJ cZ oA rA Γ ++ b_o cB cC cI cJ cZ oA rA Γ ++ b_s cB cC cI cJ cZ oA rA Γ ++ b_c cB cC cI cJ cZ oA rA Γ ++ b_t cB cC cI cJ cZ oA rA Γ ++ b_d cB cC cI cJ cZ oA rA Γ)) (ws' := (b_k cB cC cI cJ cZ oA rA Γ9 ++ b_p cB cC cI cJ cZ oA rA Γ9 ++ b_o cB cC cI cJ cZ oA rA Γ9 ++ b_s cB cC cI cJ cZ oA rA Γ9 ++ b_c cB cC cI cJ cZ oA rA Γ9 ++ b_t cB cC cI cJ cZ oA rA Γ9 ++ b_d cB cC cI cJ cZ oA rA Γ9)) rfl hD1
  have hN := hE.1
  have hS : va_S A s.heap s.heap [] := va_S.rf
  have hl := lv_entry ([.ref (oA 10)]) (n := 1) (Nat.le_of_ble_eq_true rfl)
  rw [lg_entry_eq]
  generalize (lg_sl ([.ref (oA 10)]) ++ List.replicate (1 - (lg_sl ([.ref (oA 10)])).length) Slot.unset).toArray = ls at hl ⊢
  have hl : lv_has ls 1 [(0, .ref (oA 10))] := hl
  unfold F_X3_ready at hF
  refine lv_aload_n hx hb dX3_ready_0 rfl (lv_at hl 0 rfl) ?_
  refine lv_iconst (v := 0) hx hb dX3_ready_1 (by decide +kernel) ?_
  obtain ⟨σ_1, eσ_1, hF_2⟩ := bnd_e hF
  clear hF
  refine va_put (D := (dC, dI)) (ci := 3) (v := .int 0) (ty := .int) (C := RX3) (T := TX3) (N := 16) hx hb hts ii_X3 tyX3 tyX3_ok nmX3 hown hK hP (hDD _) hS 0 rfl rfl 5 (by decide) (hts (.fieldLink RX3 37 "StoryHouse$Machine" "broke" "I") wq_267) (fun _ h9 => h9) rfl (by decide +kernel) rfl rfl (Nat.le_of_ble_eq_true rfl) dX3_ready_2 (fun H locs hP' _ hS => ?_)
  have hP : va_P (dC, dI) vwCl (b_k cB cC cI cJ cZ oA rA σ_1 ++ b_p cB cC cI cJ cZ oA rA σ_1 ++ b_o cB cC cI cJ cZ oA rA σ_1 ++ b_s cB cC cI cJ cZ oA rA σ_1 ++ b_c cB cC cI cJ cZ oA rA σ_1 ++ b_t cB cC cI cJ cZ oA rA σ_1 ++ b_d cB cC cI cJ cZ oA rA σ_1) H := by rw [eσ_1]; exact cs_kposctd_k_5 ▸ hP'
  clear hP'
  refine lv_aload_n hx hb dX3_ready_5 rfl (lv_at hl 0 rfl) ?_
  refine lv_iconst (v := 0) hx hb dX3_ready_6 (by decide +kernel) ?_
  obtain ⟨σ_3, eσ_3, hF_4⟩ := bnd_e hF_2
  clear hF_2
  refine va_put (D := (dC, dI)) (ci := 3) (v := .int 0) (ty := .int) (C := RX3) (T := TX3) (N := 16) hx hb hts ii_X3 tyX3 tyX3_ok nmX3 hown hK hP (hDD _) hS 0 rfl rfl 13 (by decide) (hts (.fieldLink RX3 40 "StoryHouse$Machine" "work" "I") wq_277) (fun _ h9 => h9) rfl (by decide +kernel) rfl rfl (Nat.le_of_ble_eq_true rfl) dX3_ready_7 (fun H locs hP' _ hS => ?_)
  have hP : va_P (dC, dI) vwCl (b_k cB cC cI cJ cZ oA rA σ_3 ++ b_p cB cC cI cJ cZ oA rA σ_3 ++ b_o cB cC cI cJ cZ oA rA σ_3 ++ b_s cB cC cI cJ cZ oA rA σ_3 ++ b_c cB cC cI cJ cZ oA rA σ_3 ++ b_t cB cC cI cJ cZ oA rA σ_3 ++ b_d cB cC cI cJ cZ oA rA σ_3) H := by rw [eσ_3]; exact cs_kposctd_k_13 ▸ hP'
  clear hP'
  have h9 := Option.some.inj hF_4
  subst h9
  exact W.vret hx hb hr (fun t ht hW => ⟨⟨(), rfl, trivial, m_end ht hP, hDD _⟩, hS.F ht⟩) hS.2.2 dX3_ready_10
theorem dX3_waits_0 : decode cX3_waits 0 = .ok (.aload_n 0, 1) := by decide +kernel
theorem dX3_waits_1 : decode cX3_waits 1 = .ok (.getfield 21, 3) := by decide +kernel
theorem dX3_waits_4 : decode cX3_waits 4 = .ok (.ifCond .eq 28, 3) := by decide +kernel
theorem dX3_waits_7 : decode cX3_waits 7 = .ok (.aload_n 0, 1) := by decide +kernel
theorem dX3_waits_8 : decode cX3_waits 8 = .ok (.getfield 43, 3) := by decide +kernel
theorem dX3_waits_11 : decode cX3_waits 11 = .ok (.ifCond .ne 21, 3) := by decide +kernel
theorem dX3_waits_14 : decode cX3_waits 14 = .ok (.aload_n 0, 1) := by decide +kernel
theorem dX3_waits_15 : decode cX3_waits 15 = .ok (.getfield 46, 3) := by decide +kernel
theorem dX3_waits_18 : decode cX3_waits 18 = .ok (.ifCond .ne 14, 3) := by decide +kernel
theorem dX3_waits_21 : decode cX3_waits 21 = .ok (.aload_n 0, 1) := by decide +kernel
theorem dX3_waits_22 : decode cX3_waits 22 = .ok (.getfield 49, 3) := by decide +kernel
theorem dX3_waits_25 : decode cX3_waits 25 = .ok (.ifCond .ne 7, 3) := by decide +kernel
theorem dX3_waits_28 : decode cX3_waits 28 = .ok (.iconst 1, 1) := by decide +kernel
theorem dX3_waits_29 : decode cX3_waits 29 = .ok (.goto 4, 3) := by decide +kernel
theorem dX3_waits_32 : decode cX3_waits 32 = .ok (.iconst 0, 1) := by decide +kernel
theorem dX3_waits_33 : decode cX3_waits 33 = .ok (.ireturn, 1) := by decide +kernel
def F_X3_waits  (Γ : HS) : HR :=
  if ((Γ 10).1 14) = 0 then (
    some (0, Γ)
  ) else (
    if ((Γ 10).1 12) = 0 then (
      if ((Γ 10).1 8) = 0 then (
        if ((Γ 10).1 7) = 0 then (
          some (1, Γ)
        ) else (
          some (0, Γ)
        )
      ) else (
        some (0, Γ)
      )
    ) else (
      some (0, Γ)
    )
  )
set_option maxHeartbeats 4000000 in
set_option maxRecDepth 100000 in
theorem k_X3_waits (l : Launch) (dC : Nat → ClassId) (dI : Nat → Nat → Nat) (cB cC cI cJ cZ cP : ClassId) (oA : Nat → Nat) (rA : Nat → Nat → Nat) (sz : Nat)   (Γ : HS) (res : Int32 × HS) (hF : F_X3_waits  Γ = some res) : Met l yX3_waits (g_ws yX3_waits cX3_waits 1 (some .boolean)) ({ frames := 1, cells := 0, slots := 0, locals := 40 }) (va_Pc [.ref (oA 10)] (g_B (dC, dI) [(cB, .byte), (cC, .char), (cI, .int), (cJ, .long), (cZ, .boolean), (cP, .object "StoryHouse$Play")] sz (b_k cB cC cI cJ cZ oA rA Γ ++ b_p cB cC cI cJ cZ oA rA Γ ++ b_o cB cC cI cJ cZ oA rA Γ ++ b_s cB cC cI cJ cZ oA rA Γ ++ b_c cB cC cI cJ cZ oA rA Γ ++ b_t cB cC cI cJ cZ oA rA Γ ++ b_d cB cC cI cJ cZ oA rA Γ) g_0)) (va_Qi (fun r (_ : Unit) => r = res.1) (g_Bo (dC, dI) (va_A (b_k cB cC cI cJ cZ oA rA Γ ++ b_p cB cC cI cJ cZ oA rA Γ ++ b_o cB cC cI cJ cZ oA rA Γ ++ b_s cB cC cI cJ cZ oA rA Γ ++ b_c cB cC cI cJ cZ oA rA Γ ++ b_t cB cC cI cJ cZ oA rA Γ ++ b_d cB cC cI cJ cZ oA rA Γ) sz) (fun (_ : Unit) => (b_k cB cC cI cJ cZ oA rA res.2 ++ b_p cB cC cI cJ cZ oA rA res.2 ++ b_o cB cC cI cJ cZ oA rA res.2 ++ b_s cB cC cI cJ cZ oA rA res.2 ++ b_c cB cC cI cJ cZ oA rA res.2 ++ b_t cB cC cI cJ cZ oA rA res.2 ++ b_d cB cC cI cJ cZ oA rA res.2))) (va_A (b_k cB cC cI cJ cZ oA rA Γ ++ b_p cB cC cI cJ cZ oA rA Γ ++ b_o cB cC cI cJ cZ oA rA Γ ++ b_s cB cC cI cJ cZ oA rA Γ ++ b_c cB cC cI cJ cZ oA rA Γ ++ b_t cB cC cI cJ cZ oA rA Γ ++ b_d cB cC cI cJ cZ oA rA Γ) sz)) 0 0 (va_A (b_k cB cC cI cJ cZ oA rA Γ ++ b_p cB cC cI cJ cZ oA rA Γ ++ b_o cB cC cI cJ cZ oA rA Γ ++ b_s cB cC cI cJ cZ oA rA Γ ++ b_c cB cC cI cJ cZ oA rA Γ ++ b_t cB cC cI cJ cZ oA rA Γ ++ b_d cB cC cI cJ cZ oA rA Γ) sz) := by
  refine Met.ofW (cc := cX3_waits) (maxL := 1) (ret := (some .boolean)) (by decide) rfl ?_
  intro p e s m args below meth c s₁ B hml hv
  obtain ⟨rfl, hsz, hP, hK, hD0, hE, hX⟩ := hv
  have hx := B.exec
  have hb := B.bytes
  have hr := B.returns
  have hts0 := atoms_spec (ws := g_ws yX3_waits cX3_waits 1 (some .boolean)) B.pre
  have hts : ∀ w ∈ lw_good, w.before ([.ref (oA 10)] : List Value).toArray s = true := fun w z => hts0 w (List.mem_cons_of_mem _ z)
  have hown : s.vm.findClass RX3 = some m.cls := findClass_of_methodNamed B.named
  have hlocks := B.notSynchronized
  subst hsz
  have hD1 := hD0.self (sz := s.heap.size)
  generalize hAe : va_A (b_k cB cC cI cJ cZ oA rA Γ ++ b_p cB cC cI cJ cZ oA rA Γ ++ b_o cB cC cI cJ cZ oA rA Γ ++ b_s cB cC cI cJ cZ oA rA Γ ++ b_c cB cC cI cJ cZ oA rA Γ ++ b_t cB cC cI cJ cZ oA rA Γ ++ b_d cB cC cI cJ cZ oA rA Γ) s.heap.size = A at hD1 hE hX ⊢
  have hA : ∀ q : Nat, s.heap.size ≤ q → A q := fun q z => by rw [← hAe]; exact Or.inr z
  have hDD : ∀ Γ : HS, va_D A (b_k cB cC cI cJ cZ oA rA Γ ++ b_p cB cC cI cJ cZ oA rA Γ ++ b_o cB cC cI cJ cZ oA rA Γ ++ b_s cB cC cI cJ cZ oA rA Γ ++ b_c cB cC cI cJ cZ oA rA Γ ++ b_t cB cC cI cJ cZ oA rA Γ ++ b_d cB cC cI cJ cZ oA rA Γ) := fun Γ9 => va_D_fst (ws := (b_k cB cC cI cJ cZ oA rA Γ ++ b_p cB cC cI cJ cZ oA rA Γ ++ b_o cB cC cI cJ cZ oA rA Γ ++ b_s cB cC cI cJ cZ oA rA Γ ++ b_c cB cC cI cJ cZ oA rA Γ ++ b_t cB cC cI cJ cZ oA rA Γ ++ b_d cB cC cI cJ cZ oA rA Γ)) (ws' := (b_k cB cC cI cJ cZ oA rA Γ9 ++ b_p cB cC cI cJ cZ oA rA Γ9 ++ b_o cB cC cI cJ cZ oA rA Γ9 ++ b_s cB cC cI cJ cZ oA rA Γ9 ++ b_c cB cC cI cJ cZ oA rA Γ9 ++ b_t cB cC cI cJ cZ oA rA Γ9 ++ b_d cB cC cI cJ cZ oA rA Γ9)) rfl hD1
  have hN := hE.1
  have hS : va_S A s.heap s.heap [] := va_S.rf
  have hl := lv_entry ([.ref (oA 10)]) (n := 1) (Nat.le_of_ble_eq_true rfl)
  rw [lg_entry_eq]
  generalize (lg_sl ([.ref (oA 10)]) ++ List.replicate (1 - (lg_sl ([.ref (oA 10)])).length) Slot.unset).toArray = ls at hl ⊢
  have hl : lv_has ls 1 [(0, .ref (oA 10))] := hl
  unfold F_X3_waits at hF
  refine lv_aload_n hx hb dX3_waits_0 rfl (lv_at hl 0 rfl) ?_
  refine va_get (D := (dC, dI)) (ci := 3) (v := .int ((Γ 10).1 14)) (C := RX3) (T := TX3) (N := 16) hx hb hts ii_X3 hown hK hP 0 rfl rfl 14 (by decide) (hts (.fieldLink RX3 21 "StoryHouse$Machine" "how" "I") wq_278) (fun _ h9 => h9) rfl dX3_waits_1 ?_
  refine lv_if_eq (tgt := 32) hx hb dX3_waits_4 (by decide) (fun c_1 => ?_) (fun c_1 => ?_)
  · have hF_2 := ipos c_1 hF
    clear hF
    refine lv_iconst (v := 0) hx hb dX3_waits_32 (by decide +kernel) ?_
    have h9 := Option.some.inj hF_2
    subst h9
    exact W.zret (v := 0) hx hb hr (by decide +kernel) (fun t ht hW => ⟨⟨0, (), rfl, rfl, m_end ht hP, hDD _⟩, hS.F ht⟩) hS.2.2 dX3_waits_33
  · have hF_3 := ineg c_1 hF
    clear hF
    refine lv_aload_n hx hb dX3_waits_7 rfl (lv_at hl 0 rfl) ?_
    refine va_get (D := (dC, dI)) (ci := 3) (v := .int ((Γ 10).1 12)) (C := RX3) (T := TX3) (N := 16) hx hb hts ii_X3 hown hK hP 0 rfl rfl 12 (by decide) (hts (.fieldLink RX3 43 "StoryHouse$Machine" "depth" "I") wq_276) (fun _ h9 => h9) rfl dX3_waits_8 ?_
    refine lv_if_ne (tgt := 32) hx hb dX3_waits_11 (by decide) (fun c_4 => ?_) (fun c_4 => ?_)
    · have hF_12 := ineg c_4 hF_3
      clear hF_3
      refine lv_iconst (v := 0) hx hb dX3_waits_32 (by decide +kernel) ?_
      have h9 := Option.some.inj hF_12
      subst h9
      exact W.zret (v := 0) hx hb hr (by decide +kernel) (fun t ht hW => ⟨⟨0, (), rfl, rfl, m_end ht hP, hDD _⟩, hS.F ht⟩) hS.2.2 dX3_waits_33
    · have hF_5 := ipos c_4 hF_3
      clear hF_3
      refine lv_aload_n hx hb dX3_waits_14 rfl (lv_at hl 0 rfl) ?_
      refine va_get (D := (dC, dI)) (ci := 3) (v := .int ((Γ 10).1 8)) (C := RX3) (T := TX3) (N := 16) hx hb hts ii_X3 hown hK hP 0 rfl rfl 8 (by decide) (hts (.fieldLink RX3 46 "StoryHouse$Machine" "base" "I") wq_272) (fun _ h9 => h9) rfl dX3_waits_15 ?_
      refine lv_if_ne (tgt := 32) hx hb dX3_waits_18 (by decide) (fun c_6 => ?_) (fun c_6 => ?_)
      · have hF_11 := ineg c_6 hF_5
        clear hF_5
        refine lv_iconst (v := 0) hx hb dX3_waits_32 (by decide +kernel) ?_
        have h9 := Option.some.inj hF_11
        subst h9
        exact W.zret (v := 0) hx hb hr (by decide +kernel) (fun t ht hW => ⟨⟨0, (), rfl, rfl, m_end ht hP, hDD _⟩, hS.F ht⟩) hS.2.2 dX3_waits_33
      · have hF_7 := ipos c_6 hF_5
        clear hF_5
        refine lv_aload_n hx hb dX3_waits_21 rfl (lv_at hl 0 rfl) ?_
        refine va_get (D := (dC, dI)) (ci := 3) (v := .int ((Γ 10).1 7)) (C := RX3) (T := TX3) (N := 16) hx hb hts ii_X3 hown hK hP 0 rfl rfl 7 (by decide) (hts (.fieldLink RX3 49 "StoryHouse$Machine" "top" "I") wq_271) (fun _ h9 => h9) rfl dX3_waits_22 ?_
        refine lv_if_ne (tgt := 32) hx hb dX3_waits_25 (by decide) (fun c_8 => ?_) (fun c_8 => ?_)
        · have hF_10 := ineg c_8 hF_7
          clear hF_7
          refine lv_iconst (v := 0) hx hb dX3_waits_32 (by decide +kernel) ?_
          have h9 := Option.some.inj hF_10
          subst h9
          exact W.zret (v := 0) hx hb hr (by decide +kernel) (fun t ht hW => ⟨⟨0, (), rfl, rfl, m_end ht hP, hDD _⟩, hS.F ht⟩) hS.2.2 dX3_waits_33
        · have hF_9 := ipos c_8 hF_7
          clear hF_7
          refine lv_iconst (v := 1) hx hb dX3_waits_28 (by decide +kernel) ?_
          refine lv_goto (tgt := 33) hx hb dX3_waits_29 (by decide) ?_
          have h9 := Option.some.inj hF_9
          subst h9
          exact W.zret (v := 1) hx hb hr (by decide +kernel) (fun t ht hW => ⟨⟨1, (), rfl, rfl, m_end ht hP, hDD _⟩, hS.F ht⟩) hS.2.2 dX3_waits_33
