/-! methods of the class: what each does is its function -/
theorem dX4_sortOf_0 : decode cX4_sortOf 0 = .ok (.aload_n 0, 1) := by decide +kernel
theorem dX4_sortOf_1 : decode cX4_sortOf 1 = .ok (.getfield 32, 3) := by decide +kernel
theorem dX4_sortOf_4 : decode cX4_sortOf 4 = .ok (.iload_n 1, 1) := by decide +kernel
theorem dX4_sortOf_5 : decode cX4_sortOf 5 = .ok (.invokevirtual 119, 3) := by decide +kernel
theorem dX4_sortOf_8 : decode cX4_sortOf 8 = .ok (.istore_n 2, 1) := by decide +kernel
theorem dX4_sortOf_9 : decode cX4_sortOf 9 = .ok (.aload_n 0, 1) := by decide +kernel
theorem dX4_sortOf_10 : decode cX4_sortOf 10 = .ok (.getfield 32, 3) := by decide +kernel
theorem dX4_sortOf_13 : decode cX4_sortOf 13 = .ok (.iload_n 1, 1) := by decide +kernel
theorem dX4_sortOf_14 : decode cX4_sortOf 14 = .ok (.invokevirtual 116, 3) := by decide +kernel
theorem dX4_sortOf_17 : decode cX4_sortOf 17 = .ok (.iconst 2, 1) := by decide +kernel
theorem dX4_sortOf_18 : decode cX4_sortOf 18 = .ok (.if_icmp .eq 5, 3) := by decide +kernel
theorem dX4_sortOf_21 : decode cX4_sortOf 21 = .ok (.iconst 0, 1) := by decide +kernel
theorem dX4_sortOf_22 : decode cX4_sortOf 22 = .ok (.ireturn, 1) := by decide +kernel
theorem dX4_sortOf_23 : decode cX4_sortOf 23 = .ok (.aload_n 0, 1) := by decide +kernel
theorem dX4_sortOf_24 : decode cX4_sortOf 24 = .ok (.getfield 23, 3) := by decide +kernel
theorem dX4_sortOf_27 : decode cX4_sortOf 27 = .ok (.iload_n 2, 1) := by decide +kernel
theorem dX4_sortOf_28 : decode cX4_sortOf 28 = .ok (.invokestatic 122, 3) := by decide +kernel
theorem dX4_sortOf_31 : decode cX4_sortOf 31 = .ok (.ifCond .eq 8, 3) := by decide +kernel
theorem dX4_sortOf_34 : decode cX4_sortOf 34 = .ok (.bipush 7, 2) := by decide +kernel
theorem dX4_sortOf_36 : decode cX4_sortOf 36 = .ok (.goto 11, 3) := by decide +kernel
theorem dX4_sortOf_39 : decode cX4_sortOf 39 = .ok (.aload_n 0, 1) := by decide +kernel
theorem dX4_sortOf_40 : decode cX4_sortOf 40 = .ok (.getfield 17, 3) := by decide +kernel
theorem dX4_sortOf_43 : decode cX4_sortOf 43 = .ok (.iload_n 2, 1) := by decide +kernel
theorem dX4_sortOf_44 : decode cX4_sortOf 44 = .ok (.invokestatic 122, 3) := by decide +kernel
theorem dX4_sortOf_47 : decode cX4_sortOf 47 = .ok (.ireturn, 1) := by decide +kernel
def F_X4_sortOf (p0 : Int32) (Γ : HS) : HR :=
  (F_X10_worthOf p0 Γ).bind fun u_1 =>
  bnd (mrg (fun j => j == 1) Γ u_1.2) fun σ_3 =>
  (F_X10_kindOf p0 σ_3).bind fun u_5 =>
  bnd (mrg (fun j => j == 1) σ_3 u_5.2) fun σ_7 =>
  if u_5.1 = 2 then (
    bnd ((g_at 4500 ((σ_7 3).2.1 5) u_1.1)) fun (x_11 : Int32) =>
    if x_11 = 0 then (
      bnd ((g_at 4500 ((σ_7 3).2.1 3) u_1.1)) fun (x_15 : Int32) =>
      some (x_15, σ_7)
    ) else (
      some (7, σ_7)
    )
  ) else (
    some (0, σ_7)
  )
set_option maxHeartbeats 4000000 in
set_option maxRecDepth 100000 in
theorem k_X4_sortOf (l : Launch) (dC : Nat → ClassId) (dI : Nat → Nat → Nat) (cB cC cI cJ cZ cP : ClassId) (oA : Nat → Nat) (rA : Nat → Nat → Nat) (sz : Nat)  (p0 : Int32) (Γ : HS) (res : Int32 × HS) (hF : F_X4_sortOf p0 Γ = some res) : Met l yX4_sortOf (g_ws yX4_sortOf cX4_sortOf 3 (some .int)) ({ frames := 4, cells := 0, slots := 0, locals := 102 }) (va_Pc [.ref (oA 3), .int p0] (g_B (dC, dI) [(cB, .byte), (cC, .char), (cI, .int), (cJ, .long), (cZ, .boolean), (cP, .object "StoryHouse$Play")] sz (b_m cB cC cI cJ cZ oA rA Γ ++ b_w cB cC cI cJ cZ oA rA Γ ++ b_s cB cC cI cJ cZ oA rA Γ ++ b_c cB cC cI cJ cZ oA rA Γ ++ b_t cB cC cI cJ cZ oA rA Γ ++ b_d cB cC cI cJ cZ oA rA Γ) g_0)) (va_Qi (fun r (_ : Unit) => r = res.1) (g_Bo (dC, dI) (va_A (b_m cB cC cI cJ cZ oA rA Γ ++ b_w cB cC cI cJ cZ oA rA Γ ++ b_s cB cC cI cJ cZ oA rA Γ ++ b_c cB cC cI cJ cZ oA rA Γ ++ b_t cB cC cI cJ cZ oA rA Γ ++ b_d cB cC cI cJ cZ oA rA Γ) sz) (fun (_ : Unit) => (b_m cB cC cI cJ cZ oA rA res.2 ++ b_w cB cC cI cJ cZ oA rA res.2 ++ b_s cB cC cI cJ cZ oA rA res.2 ++ b_c cB cC cI cJ cZ oA rA res.2 ++ b_t cB cC cI cJ cZ oA rA res.2 ++ b_d cB cC cI cJ cZ oA rA res.2))) (va_A (b_m cB cC cI cJ cZ oA rA Γ ++ b_w cB cC cI cJ cZ oA rA Γ ++ b_s cB cC cI cJ cZ oA rA Γ ++ b_c cB cC cI cJ cZ oA rA Γ ++ b_t cB cC cI cJ cZ oA rA Γ ++ b_d cB cC cI cJ cZ oA rA Γ) sz)) 0 0 (va_A (b_m cB cC cI cJ cZ oA rA Γ ++ b_w cB cC cI cJ cZ oA rA Γ ++ b_s cB cC cI cJ cZ oA rA Γ ++ b_c cB cC cI cJ cZ oA rA Γ ++ b_t cB cC cI cJ cZ oA rA Γ ++ b_d cB cC cI cJ cZ oA rA Γ) sz) := by
  refine Met.ofW (cc := cX4_sortOf) (maxL := 3) (ret := (some .int)) (by decide) rfl ?_
  intro p e s m args below meth c s₁ B hml hv
  obtain ⟨rfl, hsz, hP, hK, hD0, hE, hX⟩ := hv
  have hx := B.exec
  have hb := B.bytes
  have hr := B.returns
  have hts0 := atoms_spec (ws := g_ws yX4_sortOf cX4_sortOf 3 (some .int)) B.pre
  have hts : ∀ w ∈ lw_good, w.before ([.ref (oA 3), .int p0] : List Value).toArray s = true := fun w z => hts0 w (List.mem_cons_of_mem _ z)
  have hown : s.vm.findClass RX4 = some m.cls := findClass_of_methodNamed B.named
  have hlocks := B.notSynchronized
  subst hsz
  have hD1 := hD0.self (sz := s.heap.size)
  generalize hAe : va_A (b_m cB cC cI cJ cZ oA rA Γ ++ b_w cB cC cI cJ cZ oA rA Γ ++ b_s cB cC cI cJ cZ oA rA Γ ++ b_c cB cC cI cJ cZ oA rA Γ ++ b_t cB cC cI cJ cZ oA rA Γ ++ b_d cB cC cI cJ cZ oA rA Γ) s.heap.size = A at hD1 hE hX ⊢
  have hA : ∀ q : Nat, s.heap.size ≤ q → A q := fun q z => by rw [← hAe]; exact Or.inr z
  have hDD : ∀ Γ : HS, va_D A (b_m cB cC cI cJ cZ oA rA Γ ++ b_w cB cC cI cJ cZ oA rA Γ ++ b_s cB cC cI cJ cZ oA rA Γ ++ b_c cB cC cI cJ cZ oA rA Γ ++ b_t cB cC cI cJ cZ oA rA Γ ++ b_d cB cC cI cJ cZ oA rA Γ) := fun Γ9 => va_D_fst (ws := (b_m cB cC cI cJ cZ oA rA Γ ++ b_w cB cC cI cJ cZ oA rA Γ ++ b_s cB cC cI cJ cZ oA rA Γ ++ b_c cB cC cI cJ cZ oA rA Γ ++ b_t cB cC cI cJ cZ oA rA Γ ++ b_d cB cC cI cJ cZ oA rA Γ)) (ws' := (b_m cB cC cI cJ cZ oA rA Γ9 ++ b_w cB cC cI cJ cZ oA rA Γ9 ++ b_s cB cC cI cJ cZ oA rA Γ9 ++ b_c cB cC cI cJ cZ oA rA Γ9 ++ b_t cB cC cI cJ cZ oA rA Γ9 ++ b_d cB cC cI cJ cZ oA rA Γ9)) rfl hD1
  have hN := hE.1
  have hS : va_S A s.heap s.heap [] := va_S.rf
  have hl := lv_entry ([.ref (oA 3), .int p0]) (n := 3) (Nat.le_of_ble_eq_true rfl)
  rw [lg_entry_eq]
  generalize (lg_sl ([.ref (oA 3), .int p0]) ++ List.replicate (3 - (lg_sl ([.ref (oA 3), .int p0])).length) Slot.unset).toArray = ls at hl ⊢
  have hl : lv_has ls 3 [(0, .ref (oA 3)), (1, .int p0)] := hl
  unfold F_X4_sortOf at hF
  refine lv_aload_n hx hb dX4_sortOf_0 rfl (lv_at hl 0 rfl) ?_
  refine va_get (D := (dC, dI)) (ci := 4) (v := .ref (oA 1)) (C := RX4) (T := TX4) (N := 18) hx hb hts ii_X4 hown hK hP 0 rfl rfl 0 (by decide) (hts (.fieldLink RX4 32 "StoryHouse$Meanings" "words" "LStoryHouse$Words;") wq_86) (fun _ h9 => h9) rfl dX4_sortOf_1 ?_
  refine lv_iload_n hx hb dX4_sortOf_4 rfl (lv_at hl 1 rfl) ?_
  obtain ⟨u_1, hu_1, hF_2⟩ := Option.bind_eq_some_iff.mp hF
  clear hF
  have hPc := bx_P (bs := [b_m cB cC cI cJ cZ oA rA Γ, b_w cB cC cI cJ cZ oA rA Γ, b_s cB cC cI cJ cZ oA rA Γ, b_c cB cC cI cJ cZ oA rA Γ, b_t cB cC cI cJ cZ oA rA Γ, b_d cB cC cI cJ cZ oA rA Γ]) (bs' := [b_w cB cC cI cJ cZ oA rA Γ]) (ws' := (b_w cB cC cI cJ cZ oA rA Γ)) hP fl_6 fl_1 [1] rfl
  have hDc := bx_D (bs := [b_m cB cC cI cJ cZ oA rA Γ, b_w cB cC cI cJ cZ oA rA Γ, b_s cB cC cI cJ cZ oA rA Γ, b_c cB cC cI cJ cZ oA rA Γ, b_t cB cC cI cJ cZ oA rA Γ, b_d cB cC cI cJ cZ oA rA Γ]) (bs' := [b_w cB cC cI cJ cZ oA rA Γ]) (ws' := (b_w cB cC cI cJ cZ oA rA Γ)) (hDD Γ) fl_6 fl_1 [1] (by decide +kernel) rfl
  have hFc := bx_F (bs := [b_m cB cC cI cJ cZ oA rA Γ, b_w cB cC cI cJ cZ oA rA Γ, b_s cB cC cI cJ cZ oA rA Γ, b_c cB cC cI cJ cZ oA rA Γ, b_t cB cC cI cJ cZ oA rA Γ, b_d cB cC cI cJ cZ oA rA Γ]) (bs' := [b_w cB cC cI cJ cZ oA rA Γ]) (wc := (b_w cB cC cI cJ cZ oA rA Γ)) (hDD Γ) hS hA fl_6 fl_1 [1] rfl
  refine g_ofi (wc := (b_w cB cC cI cJ cZ oA rA Γ)) (wr := (b_m cB cC cI cJ cZ oA rA Γ ++ b_s cB cC cI cJ cZ oA rA Γ ++ b_c cB cC cI cJ cZ oA rA Γ ++ b_t cB cC cI cJ cZ oA rA Γ ++ b_d cB cC cI cJ cZ oA rA Γ)) hP (hDD Γ) hS hFc (bx_ix [b_m cB cC cI cJ cZ oA rA Γ, b_w cB cC cI cJ cZ oA rA Γ, b_s cB cC cI cJ cZ oA rA Γ, b_c cB cC cI cJ cZ oA rA Γ, b_t cB cC cI cJ cZ oA rA Γ, b_d cB cC cI cJ cZ oA rA Γ] [1]) (bx_ix [b_m cB cC cI cJ cZ oA rA Γ, b_w cB cC cI cJ cZ oA rA Γ, b_s cB cC cI cJ cZ oA rA Γ, b_c cB cC cI cJ cZ oA rA Γ, b_t cB cC cI cJ cZ oA rA Γ, b_d cB cC cI cJ cZ oA rA Γ] [0, 2, 3, 4, 5]) (bx_C (bs := [b_m cB cC cI cJ cZ oA rA Γ, b_w cB cC cI cJ cZ oA rA Γ, b_s cB cC cI cJ cZ oA rA Γ, b_c cB cC cI cJ cZ oA rA Γ, b_t cB cC cI cJ cZ oA rA Γ, b_d cB cC cI cJ cZ oA rA Γ]) (bs' := [b_w cB cC cI cJ cZ oA rA Γ]) (is := [1]) fl_6 fl_1 rfl) (bx_C (bs := [b_m cB cC cI cJ cZ oA rA Γ, b_w cB cC cI cJ cZ oA rA Γ, b_s cB cC cI cJ cZ oA rA Γ, b_c cB cC cI cJ cZ oA rA Γ, b_t cB cC cI cJ cZ oA rA Γ, b_d cB cC cI cJ cZ oA rA Γ]) (bs' := [b_m cB cC cI cJ cZ oA rA Γ, b_s cB cC cI cJ cZ oA rA Γ, b_c cB cC cI cJ cZ oA rA Γ, b_t cB cC cI cJ cZ oA rA Γ, b_d cB cC cI cJ cZ oA rA Γ]) (is := [0, 2, 3, 4, 5]) fl_6 fl_5 rfl) (bx_n (by decide +kernel)) (bx_d (by decide +kernel)) (va_runV (As := [.int p0]) (rest := []) ⟨hx, hb, hml, hown, hts⟩ (k_X10_worthOf l dC dI cB cC cI cJ cZ cP oA rA s.heap.size  p0 Γ _ hu_1) (cwV 1 hts (g_gV wq_715 wq_653 wq_654 wq_2 wq_655) rfl rfl rfl (by decide +kernel) ⟨Nat.le_of_ble_eq_true rfl, Nat.le_of_ble_eq_true rfl⟩) (g_preV g_bl0 hK hPc hDc hS hE hFc g_to0 (q0 := 0) (ci := 10) rfl rfl) rfl rfl hl.1 rfl (lv_room (Nat.le_of_ble_eq_true rfl)) dX4_sortOf_5 ⟨Nat.le_of_ble_eq_true rfl, Nat.le_of_ble_eq_true rfl⟩) (fun r9 u9 H locs hw9 hP' hD' hS => ?_)
  clear hPc hDc hFc
  subst hw9
  obtain ⟨σ_3, eσ_3, hF_4⟩ := bnd_e hF_2
  clear hF_2
  have hP : va_P (dC, dI) vwCl (b_m cB cC cI cJ cZ oA rA σ_3 ++ b_w cB cC cI cJ cZ oA rA σ_3 ++ b_s cB cC cI cJ cZ oA rA σ_3 ++ b_c cB cC cI cJ cZ oA rA σ_3 ++ b_t cB cC cI cJ cZ oA rA σ_3 ++ b_d cB cC cI cJ cZ oA rA σ_3) H := by rw [eσ_3]; exact bx_P (bs := [b_m cB cC cI cJ cZ oA rA Γ, b_s cB cC cI cJ cZ oA rA Γ, b_c cB cC cI cJ cZ oA rA Γ, b_t cB cC cI cJ cZ oA rA Γ, b_d cB cC cI cJ cZ oA rA Γ] ++ [b_w cB cC cI cJ cZ oA rA u_1.2]) (bs' := [b_m cB cC cI cJ cZ oA rA (mrg (fun j => j == 1) Γ u_1.2), b_w cB cC cI cJ cZ oA rA (mrg (fun j => j == 1) Γ u_1.2), b_s cB cC cI cJ cZ oA rA (mrg (fun j => j == 1) Γ u_1.2), b_c cB cC cI cJ cZ oA rA (mrg (fun j => j == 1) Γ u_1.2), b_t cB cC cI cJ cZ oA rA (mrg (fun j => j == 1) Γ u_1.2), b_d cB cC cI cJ cZ oA rA (mrg (fun j => j == 1) Γ u_1.2)]) hP' (fl_a fl_5 fl_1) fl_6 [0, 5, 1, 2, 3, 4] rfl
  clear hP' hD'
  refine lv_istore_n (lv' := [(2, .int u_1.1), (0, .ref (oA 3)), (1, .int p0)]) hx hb dX4_sortOf_8 rfl hl (by decide) rfl (fun ls hl => ?_)
  refine lv_aload_n hx hb dX4_sortOf_9 rfl (lv_at hl 1 rfl) ?_
  refine va_get (D := (dC, dI)) (ci := 4) (v := .ref (oA 1)) (C := RX4) (T := TX4) (N := 18) hx hb hts ii_X4 hown hK hP 0 rfl rfl 0 (by decide) (hts (.fieldLink RX4 32 "StoryHouse$Meanings" "words" "LStoryHouse$Words;") wq_86) (fun _ h9 => h9) rfl dX4_sortOf_10 ?_
  refine lv_iload_n hx hb dX4_sortOf_13 rfl (lv_at hl 2 rfl) ?_
  obtain ⟨u_5, hu_5, hF_6⟩ := Option.bind_eq_some_iff.mp hF_4
  clear hF_4
  have hPc := bx_P (bs := [b_m cB cC cI cJ cZ oA rA σ_3, b_w cB cC cI cJ cZ oA rA σ_3, b_s cB cC cI cJ cZ oA rA σ_3, b_c cB cC cI cJ cZ oA rA σ_3, b_t cB cC cI cJ cZ oA rA σ_3, b_d cB cC cI cJ cZ oA rA σ_3]) (bs' := [b_w cB cC cI cJ cZ oA rA σ_3]) (ws' := (b_w cB cC cI cJ cZ oA rA σ_3)) hP fl_6 fl_1 [1] rfl
  have hDc := bx_D (bs := [b_m cB cC cI cJ cZ oA rA σ_3, b_w cB cC cI cJ cZ oA rA σ_3, b_s cB cC cI cJ cZ oA rA σ_3, b_c cB cC cI cJ cZ oA rA σ_3, b_t cB cC cI cJ cZ oA rA σ_3, b_d cB cC cI cJ cZ oA rA σ_3]) (bs' := [b_w cB cC cI cJ cZ oA rA σ_3]) (ws' := (b_w cB cC cI cJ cZ oA rA σ_3)) (hDD σ_3) fl_6 fl_1 [1] (by decide +kernel) rfl
  have hFc := bx_F (bs := [b_m cB cC cI cJ cZ oA rA σ_3, b_w cB cC cI cJ cZ oA rA σ_3, b_s cB cC cI cJ cZ oA rA σ_3, b_c cB cC cI cJ cZ oA rA σ_3, b_t cB cC cI cJ cZ oA rA σ_3, b_d cB cC cI cJ cZ oA rA σ_3]) (bs' := [b_w cB cC cI cJ cZ oA rA σ_3]) (wc := (b_w cB cC cI cJ cZ oA rA σ_3)) (hDD σ_3) hS hA fl_6 fl_1 [1] rfl
  refine g_ofi (wc := (b_w cB cC cI cJ cZ oA rA σ_3)) (wr := (b_m cB cC cI cJ cZ oA rA σ_3 ++ b_s cB cC cI cJ cZ oA rA σ_3 ++ b_c cB cC cI cJ cZ oA rA σ_3 ++ b_t cB cC cI cJ cZ oA rA σ_3 ++ b_d cB cC cI cJ cZ oA rA σ_3)) hP (hDD σ_3) hS hFc (bx_ix [b_m cB cC cI cJ cZ oA rA σ_3, b_w cB cC cI cJ cZ oA rA σ_3, b_s cB cC cI cJ cZ oA rA σ_3, b_c cB cC cI cJ cZ oA rA σ_3, b_t cB cC cI cJ cZ oA rA σ_3, b_d cB cC cI cJ cZ oA rA σ_3] [1]) (bx_ix [b_m cB cC cI cJ cZ oA rA σ_3, b_w cB cC cI cJ cZ oA rA σ_3, b_s cB cC cI cJ cZ oA rA σ_3, b_c cB cC cI cJ cZ oA rA σ_3, b_t cB cC cI cJ cZ oA rA σ_3, b_d cB cC cI cJ cZ oA rA σ_3] [0, 2, 3, 4, 5]) (bx_C (bs := [b_m cB cC cI cJ cZ oA rA σ_3, b_w cB cC cI cJ cZ oA rA σ_3, b_s cB cC cI cJ cZ oA rA σ_3, b_c cB cC cI cJ cZ oA rA σ_3, b_t cB cC cI cJ cZ oA rA σ_3, b_d cB cC cI cJ cZ oA rA σ_3]) (bs' := [b_w cB cC cI cJ cZ oA rA σ_3]) (is := [1]) fl_6 fl_1 rfl) (bx_C (bs := [b_m cB cC cI cJ cZ oA rA σ_3, b_w cB cC cI cJ cZ oA rA σ_3, b_s cB cC cI cJ cZ oA rA σ_3, b_c cB cC cI cJ cZ oA rA σ_3, b_t cB cC cI cJ cZ oA rA σ_3, b_d cB cC cI cJ cZ oA rA σ_3]) (bs' := [b_m cB cC cI cJ cZ oA rA σ_3, b_s cB cC cI cJ cZ oA rA σ_3, b_c cB cC cI cJ cZ oA rA σ_3, b_t cB cC cI cJ cZ oA rA σ_3, b_d cB cC cI cJ cZ oA rA σ_3]) (is := [0, 2, 3, 4, 5]) fl_6 fl_5 rfl) (bx_n (by decide +kernel)) (bx_d (by decide +kernel)) (va_runV (As := [.int p0]) (rest := []) ⟨hx, hb, hml, hown, hts⟩ (k_X10_kindOf l dC dI cB cC cI cJ cZ cP oA rA H.size  p0 σ_3 _ hu_5) (cwV 1 hts (g_gV wq_714 wq_543 wq_544 wq_2 wq_545) rfl rfl rfl (by decide +kernel) ⟨Nat.le_of_ble_eq_true rfl, Nat.le_of_ble_eq_true rfl⟩) (g_preV g_bl0 hK hPc hDc hS hE hFc g_to0 (q0 := 0) (ci := 10) rfl rfl) rfl rfl hl.1 rfl (lv_room (Nat.le_of_ble_eq_true rfl)) dX4_sortOf_14 ⟨Nat.le_of_ble_eq_true rfl, Nat.le_of_ble_eq_true rfl⟩) (fun r9 u9 H locs hw9 hP' hD' hS => ?_)
  clear hPc hDc hFc
  subst hw9
  obtain ⟨σ_7, eσ_7, hF_8⟩ := bnd_e hF_6
  clear hF_6
  have hP : va_P (dC, dI) vwCl (b_m cB cC cI cJ cZ oA rA σ_7 ++ b_w cB cC cI cJ cZ oA rA σ_7 ++ b_s cB cC cI cJ cZ oA rA σ_7 ++ b_c cB cC cI cJ cZ oA rA σ_7 ++ b_t cB cC cI cJ cZ oA rA σ_7 ++ b_d cB cC cI cJ cZ oA rA σ_7) H := by rw [eσ_7]; exact bx_P (bs := [b_m cB cC cI cJ cZ oA rA σ_3, b_s cB cC cI cJ cZ oA rA σ_3, b_c cB cC cI cJ cZ oA rA σ_3, b_t cB cC cI cJ cZ oA rA σ_3, b_d cB cC cI cJ cZ oA rA σ_3] ++ [b_w cB cC cI cJ cZ oA rA u_5.2]) (bs' := [b_m cB cC cI cJ cZ oA rA (mrg (fun j => j == 1) σ_3 u_5.2), b_w cB cC cI cJ cZ oA rA (mrg (fun j => j == 1) σ_3 u_5.2), b_s cB cC cI cJ cZ oA rA (mrg (fun j => j == 1) σ_3 u_5.2), b_c cB cC cI cJ cZ oA rA (mrg (fun j => j == 1) σ_3 u_5.2), b_t cB cC cI cJ cZ oA rA (mrg (fun j => j == 1) σ_3 u_5.2), b_d cB cC cI cJ cZ oA rA (mrg (fun j => j == 1) σ_3 u_5.2)]) hP' (fl_a fl_5 fl_1) fl_6 [0, 5, 1, 2, 3, 4] rfl
  clear hP' hD'
  refine lv_iconst (v := 2) hx hb dX4_sortOf_17 (by decide +kernel) ?_
  refine lv_icmp_eq (tgt := 23) hx hb dX4_sortOf_18 (by decide) (fun c_9 => ?_) (fun c_9 => ?_)
  · have hF_10 := ipos c_9 hF_8
    clear hF_8
    refine lv_aload_n hx hb dX4_sortOf_23 rfl (lv_at hl 1 rfl) ?_
    refine va_get (D := (dC, dI)) (ci := 4) (v := .ref (rA 3 5)) (C := RX4) (T := TX4) (N := 18) hx hb hts ii_X4 hown hK hP 0 rfl rfl 5 (by decide) (hts (.fieldLink RX4 23 "StoryHouse$Meanings" "seen" "[I") wq_91) (fun _ h9 => h9) rfl dX4_sortOf_24 ?_
    refine lv_iload_n hx hb dX4_sortOf_27 rfl (lv_at hl 0 rfl) ?_
    have hq9 : ((b_m cB cC cI cJ cZ oA rA σ_7 ++ b_w cB cC cI cJ cZ oA rA σ_7 ++ b_s cB cC cI cJ cZ oA rA σ_7 ++ b_c cB cC cI cJ cZ oA rA σ_7 ++ b_t cB cC cI cJ cZ oA rA σ_7 ++ b_d cB cC cI cJ cZ oA rA σ_7))[4]? = some (rA 3 5, .inl (cI, 4500, .inl ((σ_7 3).2.1 5))) := rfl
    have hPc := hP.sub (ws' := [(rA 3 5, .inl (cI, 4500, .inl ((σ_7 3).2.1 5)))]) [4] (pk_fm (er_C hq9))
    have hDc := (hDD σ_7).sub (ws' := [(rA 3 5, .inl (cI, 4500, .inl ((σ_7 3).2.1 5)))]) [4] (by decide +kernel) (er_C hq9)
    have hFc := va_free (wc := [(rA 3 5, .inl (cI, 4500, .inl ((σ_7 3).2.1 5)))]) (hDD σ_7) hS hA [4] (er_C hq9)
    refine g_ofi (wc := [(rA 3 5, .inl (cI, 4500, .inl ((σ_7 3).2.1 5)))]) (wr := (((b_m cB cC cI cJ cZ oA rA σ_7 ++ b_w cB cC cI cJ cZ oA rA σ_7 ++ b_s cB cC cI cJ cZ oA rA σ_7 ++ b_c cB cC cI cJ cZ oA rA σ_7 ++ b_t cB cC cI cJ cZ oA rA σ_7 ++ b_d cB cC cI cJ cZ oA rA σ_7)).eraseIdx 4)) hP (hDD σ_7) hS hFc [4] ((List.range ((b_m cB cC cI cJ cZ oA rA σ_7 ++ b_w cB cC cI cJ cZ oA rA σ_7 ++ b_s cB cC cI cJ cZ oA rA σ_7 ++ b_c cB cC cI cJ cZ oA rA σ_7 ++ b_t cB cC cI cJ cZ oA rA σ_7 ++ b_d cB cC cI cJ cZ oA rA σ_7)).length).eraseIdx 4) (er_C hq9) er_R er_n er_d (va_runSN (As := [.ref (rA 3 5), .int u_1.1]) (rest := []) ⟨hx, hb, hml, hown, hts⟩ (c_X11_at l dC dI cB cC cI cJ cZ cP H.size (rA 3 5) u_1.1 4500 ((σ_7 3).2.1 5) (by decide)) ⟨va_cnB 2 hts (g_gA wq_407) rfl rfl rfl (nw_24 hN) (hts (.initialized RX11) wq_1) (by decide +kernel) ⟨Nat.le_of_ble_eq_true rfl, Nat.le_of_ble_eq_true rfl⟩, (hts (.static yX11_at) wq_406), trivial⟩ (g_preS g_bl0 hK hPc hDc hS hE hFc g_to0) rfl rfl hl.1 rfl (lv_room (Nat.le_of_ble_eq_true rfl)) dX4_sortOf_28 ⟨Nat.le_of_ble_eq_true rfl, Nat.le_of_ble_eq_true rfl⟩) (fun r9 u9 H locs hw9 hP' hD' hS => ?_)
    clear hPc hDc hFc hD'
    have hP : va_P (dC, dI) vwCl (b_m cB cC cI cJ cZ oA rA σ_7 ++ b_w cB cC cI cJ cZ oA rA σ_7 ++ b_s cB cC cI cJ cZ oA rA σ_7 ++ b_c cB cC cI cJ cZ oA rA σ_7 ++ b_t cB cC cI cJ cZ oA rA σ_7 ++ b_d cB cC cI cJ cZ oA rA σ_7) H := er_I hP' hq9
    clear hP' hq9
    subst hw9
    obtain ⟨x_11, ex_11, hF_12⟩ := bnd_e hF_10
    clear hF_10
    refine m_top ex_11 ?_
    refine lv_if_eq (tgt := 39) hx hb dX4_sortOf_31 (by decide) (fun c_13 => ?_) (fun c_13 => ?_)
    · have hF_14 := ipos c_13 hF_12
      clear hF_12
      refine lv_aload_n hx hb dX4_sortOf_39 rfl (lv_at hl 1 rfl) ?_
      refine va_get (D := (dC, dI)) (ci := 4) (v := .ref (rA 3 3)) (C := RX4) (T := TX4) (N := 18) hx hb hts ii_X4 hown hK hP 0 rfl rfl 3 (by decide) (hts (.fieldLink RX4 17 "StoryHouse$Meanings" "sorts" "[I") wq_89) (fun _ h9 => h9) rfl dX4_sortOf_40 ?_
      refine lv_iload_n hx hb dX4_sortOf_43 rfl (lv_at hl 0 rfl) ?_
      have hq9 : ((b_m cB cC cI cJ cZ oA rA σ_7 ++ b_w cB cC cI cJ cZ oA rA σ_7 ++ b_s cB cC cI cJ cZ oA rA σ_7 ++ b_c cB cC cI cJ cZ oA rA σ_7 ++ b_t cB cC cI cJ cZ oA rA σ_7 ++ b_d cB cC cI cJ cZ oA rA σ_7))[2]? = some (rA 3 3, .inl (cI, 4500, .inl ((σ_7 3).2.1 3))) := rfl
      have hPc := hP.sub (ws' := [(rA 3 3, .inl (cI, 4500, .inl ((σ_7 3).2.1 3)))]) [2] (pk_fm (er_C hq9))
      have hDc := (hDD σ_7).sub (ws' := [(rA 3 3, .inl (cI, 4500, .inl ((σ_7 3).2.1 3)))]) [2] (by decide +kernel) (er_C hq9)
      have hFc := va_free (wc := [(rA 3 3, .inl (cI, 4500, .inl ((σ_7 3).2.1 3)))]) (hDD σ_7) hS hA [2] (er_C hq9)
      refine g_ofi (wc := [(rA 3 3, .inl (cI, 4500, .inl ((σ_7 3).2.1 3)))]) (wr := (((b_m cB cC cI cJ cZ oA rA σ_7 ++ b_w cB cC cI cJ cZ oA rA σ_7 ++ b_s cB cC cI cJ cZ oA rA σ_7 ++ b_c cB cC cI cJ cZ oA rA σ_7 ++ b_t cB cC cI cJ cZ oA rA σ_7 ++ b_d cB cC cI cJ cZ oA rA σ_7)).eraseIdx 2)) hP (hDD σ_7) hS hFc [2] ((List.range ((b_m cB cC cI cJ cZ oA rA σ_7 ++ b_w cB cC cI cJ cZ oA rA σ_7 ++ b_s cB cC cI cJ cZ oA rA σ_7 ++ b_c cB cC cI cJ cZ oA rA σ_7 ++ b_t cB cC cI cJ cZ oA rA σ_7 ++ b_d cB cC cI cJ cZ oA rA σ_7)).length).eraseIdx 2) (er_C hq9) er_R er_n er_d (va_runSN (As := [.ref (rA 3 3), .int u_1.1]) (rest := []) ⟨hx, hb, hml, hown, hts⟩ (c_X11_at l dC dI cB cC cI cJ cZ cP H.size (rA 3 3) u_1.1 4500 ((σ_7 3).2.1 3) (by decide)) ⟨va_cnB 2 hts (g_gA wq_407) rfl rfl rfl (nw_24 hN) (hts (.initialized RX11) wq_1) (by decide +kernel) ⟨Nat.le_of_ble_eq_true rfl, Nat.le_of_ble_eq_true rfl⟩, (hts (.static yX11_at) wq_406), trivial⟩ (g_preS g_bl0 hK hPc hDc hS hE hFc g_to0) rfl rfl hl.1 rfl (lv_room (Nat.le_of_ble_eq_true rfl)) dX4_sortOf_44 ⟨Nat.le_of_ble_eq_true rfl, Nat.le_of_ble_eq_true rfl⟩) (fun r9 u9 H locs hw9 hP' hD' hS => ?_)
      clear hPc hDc hFc hD'
      have hP : va_P (dC, dI) vwCl (b_m cB cC cI cJ cZ oA rA σ_7 ++ b_w cB cC cI cJ cZ oA rA σ_7 ++ b_s cB cC cI cJ cZ oA rA σ_7 ++ b_c cB cC cI cJ cZ oA rA σ_7 ++ b_t cB cC cI cJ cZ oA rA σ_7 ++ b_d cB cC cI cJ cZ oA rA σ_7) H := er_I hP' hq9
      clear hP' hq9
      subst hw9
      obtain ⟨x_15, ex_15, hF_16⟩ := bnd_e hF_14
      clear hF_14
      refine m_top ex_15 ?_
      have h9 := Option.some.inj hF_16
      subst h9
      exact W.iret (v := x_15) hx hb hr (fun t ht hW => ⟨⟨x_15, (), rfl, rfl, m_end ht hP, hDD _⟩, hS.F ht⟩) hS.2.2 dX4_sortOf_47
    · have hF_17 := ineg c_13 hF_12
      clear hF_12
      refine lv_bipush (v := 7) hx hb dX4_sortOf_34 (by decide +kernel) ?_
      refine lv_goto (tgt := 47) hx hb dX4_sortOf_36 (by decide) ?_
      have h9 := Option.some.inj hF_17
      subst h9
      exact W.iret (v := 7) hx hb hr (fun t ht hW => ⟨⟨7, (), rfl, rfl, m_end ht hP, hDD _⟩, hS.F ht⟩) hS.2.2 dX4_sortOf_47
  · have hF_18 := ineg c_9 hF_8
    clear hF_8
    refine lv_iconst (v := 0) hx hb dX4_sortOf_21 (by decide +kernel) ?_
    have h9 := Option.some.inj hF_18
    subst h9
    exact W.iret (v := 0) hx hb hr (fun t ht hW => ⟨⟨0, (), rfl, rfl, m_end ht hP, hDD _⟩, hS.F ht⟩) hS.2.2 dX4_sortOf_22
theorem dX4_nameInBody_0 : decode cX4_nameInBody 0 = .ok (.aload_n 0, 1) := by decide +kernel
theorem dX4_nameInBody_1 : decode cX4_nameInBody 1 = .ok (.getfield 32, 3) := by decide +kernel
theorem dX4_nameInBody_4 : decode cX4_nameInBody 4 = .ok (.iload_n 1, 1) := by decide +kernel
theorem dX4_nameInBody_5 : decode cX4_nameInBody 5 = .ok (.iconst 1, 1) := by decide +kernel
theorem dX4_nameInBody_6 : decode cX4_nameInBody 6 = .ok (.isub, 1) := by decide +kernel
theorem dX4_nameInBody_7 : decode cX4_nameInBody 7 = .ok (.invokevirtual 116, 3) := by decide +kernel
theorem dX4_nameInBody_10 : decode cX4_nameInBody 10 = .ok (.sipush 242, 3) := by decide +kernel
theorem dX4_nameInBody_13 : decode cX4_nameInBody 13 = .ok (.if_icmp .ne 23, 3) := by decide +kernel
theorem dX4_nameInBody_16 : decode cX4_nameInBody 16 = .ok (.aload_n 0, 1) := by decide +kernel
theorem dX4_nameInBody_17 : decode cX4_nameInBody 17 = .ok (.getfield 32, 3) := by decide +kernel
theorem dX4_nameInBody_20 : decode cX4_nameInBody 20 = .ok (.getfield 269, 3) := by decide +kernel
theorem dX4_nameInBody_23 : decode cX4_nameInBody 23 = .ok (.iload_n 1, 1) := by decide +kernel
theorem dX4_nameInBody_24 : decode cX4_nameInBody 24 = .ok (.ldc_w 272, 3) := by decide +kernel
theorem dX4_nameInBody_27 : decode cX4_nameInBody 27 = .ok (.aload_n 0, 1) := by decide +kernel
theorem dX4_nameInBody_28 : decode cX4_nameInBody 28 = .ok (.getfield 129, 3) := by decide +kernel
theorem dX4_nameInBody_31 : decode cX4_nameInBody 31 = .ok (.ior, 1) := by decide +kernel
theorem dX4_nameInBody_32 : decode cX4_nameInBody 32 = .ok (.invokestatic 112, 3) := by decide +kernel
theorem dX4_nameInBody_35 : decode cX4_nameInBody 35 = .ok (.return_, 1) := by decide +kernel
theorem dX4_nameInBody_36 : decode cX4_nameInBody 36 = .ok (.aload_n 0, 1) := by decide +kernel
theorem dX4_nameInBody_37 : decode cX4_nameInBody 37 = .ok (.iload_n 1, 1) := by decide +kernel
theorem dX4_nameInBody_38 : decode cX4_nameInBody 38 = .ok (.invokevirtual 221, 3) := by decide +kernel
theorem dX4_nameInBody_41 : decode cX4_nameInBody 41 = .ok (.istore_n 2, 1) := by decide +kernel
theorem dX4_nameInBody_42 : decode cX4_nameInBody 42 = .ok (.aload_n 0, 1) := by decide +kernel
theorem dX4_nameInBody_43 : decode cX4_nameInBody 43 = .ok (.iload_n 1, 1) := by decide +kernel
theorem dX4_nameInBody_44 : decode cX4_nameInBody 44 = .ok (.invokevirtual 193, 3) := by decide +kernel
theorem dX4_nameInBody_47 : decode cX4_nameInBody 47 = .ok (.istore_n 3, 1) := by decide +kernel
theorem dX4_nameInBody_48 : decode cX4_nameInBody 48 = .ok (.aload_n 0, 1) := by decide +kernel
theorem dX4_nameInBody_49 : decode cX4_nameInBody 49 = .ok (.getfield 32, 3) := by decide +kernel
theorem dX4_nameInBody_52 : decode cX4_nameInBody 52 = .ok (.iload_n 1, 1) := by decide +kernel
theorem dX4_nameInBody_53 : decode cX4_nameInBody 53 = .ok (.iconst 1, 1) := by decide +kernel
theorem dX4_nameInBody_54 : decode cX4_nameInBody 54 = .ok (.iadd, 1) := by decide +kernel
theorem dX4_nameInBody_55 : decode cX4_nameInBody 55 = .ok (.invokevirtual 116, 3) := by decide +kernel
theorem dX4_nameInBody_58 : decode cX4_nameInBody 58 = .ok (.lookupswitch 114 #[(40, 34), (61, 93), (91, 78)], 34) := by decide +kernel
theorem dX4_nameInBody_92 : decode cX4_nameInBody 92 = .ok (.iload_n 2, 1) := by decide +kernel
theorem dX4_nameInBody_93 : decode cX4_nameInBody 93 = .ok (.bipush 6, 2) := by decide +kernel
theorem dX4_nameInBody_95 : decode cX4_nameInBody 95 = .ok (.if_icmp .ne 35, 3) := by decide +kernel
theorem dX4_nameInBody_98 : decode cX4_nameInBody 98 = .ok (.aload_n 0, 1) := by decide +kernel
theorem dX4_nameInBody_99 : decode cX4_nameInBody 99 = .ok (.getfield 32, 3) := by decide +kernel
theorem dX4_nameInBody_102 : decode cX4_nameInBody 102 = .ok (.getfield 181, 3) := by decide +kernel
theorem dX4_nameInBody_105 : decode cX4_nameInBody 105 = .ok (.iload_n 1, 1) := by decide +kernel
theorem dX4_nameInBody_106 : decode cX4_nameInBody 106 = .ok (.invokestatic 122, 3) := by decide +kernel
theorem dX4_nameInBody_109 : decode cX4_nameInBody 109 = .ok (.aload_n 0, 1) := by decide +kernel
theorem dX4_nameInBody_110 : decode cX4_nameInBody 110 = .ok (.getfield 36, 3) := by decide +kernel
theorem dX4_nameInBody_113 : decode cX4_nameInBody 113 = .ok (.getfield 273, 3) := by decide +kernel
theorem dX4_nameInBody_116 : decode cX4_nameInBody 116 = .ok (.getfield 277, 3) := by decide +kernel
theorem dX4_nameInBody_119 : decode cX4_nameInBody 119 = .ok (.iload_n 3, 1) := by decide +kernel
theorem dX4_nameInBody_120 : decode cX4_nameInBody 120 = .ok (.invokestatic 122, 3) := by decide +kernel
theorem dX4_nameInBody_123 : decode cX4_nameInBody 123 = .ok (.if_icmp .ne 7, 3) := by decide +kernel
theorem dX4_nameInBody_126 : decode cX4_nameInBody 126 = .ok (.iconst 1, 1) := by decide +kernel
theorem dX4_nameInBody_127 : decode cX4_nameInBody 127 = .ok (.goto 4, 3) := by decide +kernel
theorem dX4_nameInBody_130 : decode cX4_nameInBody 130 = .ok (.iconst 0, 1) := by decide +kernel
theorem dX4_nameInBody_131 : decode cX4_nameInBody 131 = .ok (.istore 4, 2) := by decide +kernel
theorem dX4_nameInBody_133 : decode cX4_nameInBody 133 = .ok (.goto 67, 3) := by decide +kernel
theorem dX4_nameInBody_136 : decode cX4_nameInBody 136 = .ok (.iload_n 2, 1) := by decide +kernel
theorem dX4_nameInBody_137 : decode cX4_nameInBody 137 = .ok (.iconst 5, 1) := by decide +kernel
theorem dX4_nameInBody_138 : decode cX4_nameInBody 138 = .ok (.if_icmp .ne 7, 3) := by decide +kernel
theorem dX4_nameInBody_141 : decode cX4_nameInBody 141 = .ok (.iconst 1, 1) := by decide +kernel
theorem dX4_nameInBody_142 : decode cX4_nameInBody 142 = .ok (.goto 4, 3) := by decide +kernel
theorem dX4_nameInBody_145 : decode cX4_nameInBody 145 = .ok (.iconst 0, 1) := by decide +kernel
theorem dX4_nameInBody_146 : decode cX4_nameInBody 146 = .ok (.istore 4, 2) := by decide +kernel
theorem dX4_nameInBody_148 : decode cX4_nameInBody 148 = .ok (.goto 52, 3) := by decide +kernel
theorem dX4_nameInBody_151 : decode cX4_nameInBody 151 = .ok (.iload_n 2, 1) := by decide +kernel
theorem dX4_nameInBody_152 : decode cX4_nameInBody 152 = .ok (.iconst 4, 1) := by decide +kernel
theorem dX4_nameInBody_153 : decode cX4_nameInBody 153 = .ok (.if_icmp .eq 9, 3) := by decide +kernel
theorem dX4_nameInBody_156 : decode cX4_nameInBody 156 = .ok (.iload_n 2, 1) := by decide +kernel
theorem dX4_nameInBody_157 : decode cX4_nameInBody 157 = .ok (.bipush 7, 2) := by decide +kernel
theorem dX4_nameInBody_159 : decode cX4_nameInBody 159 = .ok (.if_icmp .ne 7, 3) := by decide +kernel
theorem dX4_nameInBody_162 : decode cX4_nameInBody 162 = .ok (.iconst 1, 1) := by decide +kernel
theorem dX4_nameInBody_163 : decode cX4_nameInBody 163 = .ok (.goto 4, 3) := by decide +kernel
theorem dX4_nameInBody_166 : decode cX4_nameInBody 166 = .ok (.iconst 0, 1) := by decide +kernel
theorem dX4_nameInBody_167 : decode cX4_nameInBody 167 = .ok (.istore 4, 2) := by decide +kernel
theorem dX4_nameInBody_169 : decode cX4_nameInBody 169 = .ok (.goto 31, 3) := by decide +kernel
theorem dX4_nameInBody_172 : decode cX4_nameInBody 172 = .ok (.iload_n 2, 1) := by decide +kernel
theorem dX4_nameInBody_173 : decode cX4_nameInBody 173 = .ok (.iconst 1, 1) := by decide +kernel
theorem dX4_nameInBody_174 : decode cX4_nameInBody 174 = .ok (.if_icmp .eq 19, 3) := by decide +kernel
theorem dX4_nameInBody_177 : decode cX4_nameInBody 177 = .ok (.iload_n 2, 1) := by decide +kernel
theorem dX4_nameInBody_178 : decode cX4_nameInBody 178 = .ok (.iconst 2, 1) := by decide +kernel
theorem dX4_nameInBody_179 : decode cX4_nameInBody 179 = .ok (.if_icmp .eq 14, 3) := by decide +kernel
theorem dX4_nameInBody_182 : decode cX4_nameInBody 182 = .ok (.iload_n 2, 1) := by decide +kernel
theorem dX4_nameInBody_183 : decode cX4_nameInBody 183 = .ok (.iconst 4, 1) := by decide +kernel
theorem dX4_nameInBody_184 : decode cX4_nameInBody 184 = .ok (.if_icmp .eq 9, 3) := by decide +kernel
theorem dX4_nameInBody_187 : decode cX4_nameInBody 187 = .ok (.iload_n 2, 1) := by decide +kernel
theorem dX4_nameInBody_188 : decode cX4_nameInBody 188 = .ok (.bipush 7, 2) := by decide +kernel
theorem dX4_nameInBody_190 : decode cX4_nameInBody 190 = .ok (.if_icmp .ne 7, 3) := by decide +kernel
theorem dX4_nameInBody_193 : decode cX4_nameInBody 193 = .ok (.iconst 1, 1) := by decide +kernel
theorem dX4_nameInBody_194 : decode cX4_nameInBody 194 = .ok (.goto 4, 3) := by decide +kernel
theorem dX4_nameInBody_197 : decode cX4_nameInBody 197 = .ok (.iconst 0, 1) := by decide +kernel
theorem dX4_nameInBody_198 : decode cX4_nameInBody 198 = .ok (.istore 4, 2) := by decide +kernel
theorem dX4_nameInBody_200 : decode cX4_nameInBody 200 = .ok (.iload 4, 2) := by decide +kernel
theorem dX4_nameInBody_202 : decode cX4_nameInBody 202 = .ok (.ifCond .ne 9, 3) := by decide +kernel
theorem dX4_nameInBody_205 : decode cX4_nameInBody 205 = .ok (.aload_n 0, 1) := by decide +kernel
theorem dX4_nameInBody_206 : decode cX4_nameInBody 206 = .ok (.iconst 3, 1) := by decide +kernel
theorem dX4_nameInBody_207 : decode cX4_nameInBody 207 = .ok (.iload_n 1, 1) := by decide +kernel
theorem dX4_nameInBody_208 : decode cX4_nameInBody 208 = .ok (.invokevirtual 84, 3) := by decide +kernel
theorem dX4_nameInBody_211 : decode cX4_nameInBody 211 = .ok (.aload_n 0, 1) := by decide +kernel
theorem dX4_nameInBody_212 : decode cX4_nameInBody 212 = .ok (.getfield 32, 3) := by decide +kernel
theorem dX4_nameInBody_215 : decode cX4_nameInBody 215 = .ok (.getfield 269, 3) := by decide +kernel
theorem dX4_nameInBody_218 : decode cX4_nameInBody 218 = .ok (.iload_n 1, 1) := by decide +kernel
theorem dX4_nameInBody_219 : decode cX4_nameInBody 219 = .ok (.iload_n 2, 1) := by decide +kernel
theorem dX4_nameInBody_220 : decode cX4_nameInBody 220 = .ok (.bipush 16, 2) := by decide +kernel
theorem dX4_nameInBody_222 : decode cX4_nameInBody 222 = .ok (.ishl, 1) := by decide +kernel
theorem dX4_nameInBody_223 : decode cX4_nameInBody 223 = .ok (.iload_n 3, 1) := by decide +kernel
theorem dX4_nameInBody_224 : decode cX4_nameInBody 224 = .ok (.ior, 1) := by decide +kernel
theorem dX4_nameInBody_225 : decode cX4_nameInBody 225 = .ok (.invokestatic 112, 3) := by decide +kernel
theorem dX4_nameInBody_228 : decode cX4_nameInBody 228 = .ok (.return_, 1) := by decide +kernel
def F_X4_nameInBody (p0 : Int32) (Γ : HS) : HR :=
  (F_X10_kindOf (p0 - 1) Γ).bind fun u_1 =>
  bnd (mrg (fun j => j == 1) Γ u_1.2) fun σ_3 =>
  if u_1.1 = 242 then (
    bnd ((458752 ||| ((σ_3 3).1 8))) fun (x_7 : Int32) =>
    bnd (cA' σ_3 1 7 (g_put 16001 ((σ_3 1).2.1 7) p0 x_7)) fun σ_9 =>
    some (0, σ_9)
  ) else (
    (F_X4_sortOf p0 σ_3).bind fun u_12 =>
    (F_X4_numberOf p0 u_12.2).bind fun u_14 =>
    (F_X10_kindOf (p0 + 1) u_14.2).bind fun u_16 =>
    bnd (mrg (fun j => j == 1) u_14.2 u_16.2) fun σ_18 =>
    bnd (fun (v4_20 : Int32) (σ_21 : HS) => (
      bnd (fun  (σ_25 : HS) => (
        bnd (((u_12.1 <<< (16 &&& 31)) ||| u_14.1)) fun (x_29 : Int32) =>
        bnd (cA' σ_25 1 7 (g_put 16001 ((σ_25 1).2.1 7) p0 x_29)) fun σ_31 =>
        some (0, σ_31)
      ) : HS → HR) fun j_26 =>
      if v4_20 = 0 then (
        (F_X4_fail 3 p0 σ_21).bind fun u_35 =>
        j_26  u_35.2
      ) else (
        j_26  σ_21
      )
    ) : Int32 → HS → HR) fun j_22 =>
    if u_16.1 = 40 then (
      bnd (fun (t_40 : Int32) (σ_41 : HS) => (
        j_22 t_40 σ_41
      ) : Int32 → HS → HR) fun j_42 =>
      bnd (fun  (σ_45 : HS) => (
        j_42 0 σ_45
      ) : HS → HR) fun j_46 =>
      if u_12.1 = 6 then (
        bnd ((g_at 16001 ((σ_18 1).2.1 6) p0)) fun (x_51 : Int32) =>
        bnd ((g_at 100 ((σ_18 5).2.1 4) u_14.1)) fun (x_53 : Int32) =>
        if x_51 = x_53 then (
          j_42 1 σ_18
        ) else (
          j_46  σ_18
        )
      ) else (
        j_46  σ_18
      )
    ) else
    if u_16.1 = 61 then (
      bnd (fun (t_62 : Int32) (σ_63 : HS) => (
        j_22 t_62 σ_63
      ) : Int32 → HS → HR) fun j_64 =>
      bnd (fun  (σ_67 : HS) => (
        j_64 1 σ_67
      ) : HS → HR) fun j_68 =>
      if u_12.1 = 4 then (
        j_68  σ_18
      ) else (
        if u_12.1 = 7 then (
          j_68  σ_18
        ) else (
          j_64 0 σ_18
        )
      )
    ) else
    if u_16.1 = 91 then (
      bnd (fun (t_80 : Int32) (σ_81 : HS) => (
        j_22 t_80 σ_81
      ) : Int32 → HS → HR) fun j_82 =>
      if u_12.1 = 5 then (
        j_82 1 σ_18
      ) else (
        j_82 0 σ_18
      )
    ) else
    (
      bnd (fun (t_89 : Int32) (σ_90 : HS) => (
        j_22 t_89 σ_90
      ) : Int32 → HS → HR) fun j_91 =>
      bnd (fun  (σ_94 : HS) => (
        j_91 1 σ_94
      ) : HS → HR) fun j_95 =>
      if u_12.1 = 1 then (
        j_95  σ_18
      ) else (
        if u_12.1 = 2 then (
          j_95  σ_18
        ) else (
          if u_12.1 = 4 then (
            j_95  σ_18
          ) else (
            if u_12.1 = 7 then (
              j_95  σ_18
            ) else (
              j_91 0 σ_18
            )
          )
        )
      )
    )
  )
set_option maxHeartbeats 4000000 in
set_option maxRecDepth 100000 in
theorem k_X4_nameInBody (l : Launch) (dC : Nat → ClassId) (dI : Nat → Nat → Nat) (cB cC cI cJ cZ cP : ClassId) (oA : Nat → Nat) (rA : Nat → Nat → Nat) (sz : Nat)  (p0 : Int32) (Γ : HS) (res : Int32 × HS) (hF : F_X4_nameInBody p0 Γ = some res) : Met l yX4_nameInBody (g_ws yX4_nameInBody cX4_nameInBody 5 none) ({ frames := 5, cells := 0, slots := 0, locals := 124 }) (va_Pc [.ref (oA 3), .int p0] (g_B (dC, dI) [(cB, .byte), (cC, .char), (cI, .int), (cJ, .long), (cZ, .boolean), (cP, .object "StoryHouse$Play")] sz (b_m cB cC cI cJ cZ oA rA Γ ++ b_w cB cC cI cJ cZ oA rA Γ ++ b_s cB cC cI cJ cZ oA rA Γ ++ b_c cB cC cI cJ cZ oA rA Γ ++ b_t cB cC cI cJ cZ oA rA Γ ++ b_d cB cC cI cJ cZ oA rA Γ) g_0)) (va_Qv (fun (_ : Unit) => True) (g_Bo (dC, dI) (va_A (b_m cB cC cI cJ cZ oA rA Γ ++ b_w cB cC cI cJ cZ oA rA Γ ++ b_s cB cC cI cJ cZ oA rA Γ ++ b_c cB cC cI cJ cZ oA rA Γ ++ b_t cB cC cI cJ cZ oA rA Γ ++ b_d cB cC cI cJ cZ oA rA Γ) sz) (fun (_ : Unit) => (b_m cB cC cI cJ cZ oA rA res.2 ++ b_w cB cC cI cJ cZ oA rA res.2 ++ b_s cB cC cI cJ cZ oA rA res.2 ++ b_c cB cC cI cJ cZ oA rA res.2 ++ b_t cB cC cI cJ cZ oA rA res.2 ++ b_d cB cC cI cJ cZ oA rA res.2))) (va_A (b_m cB cC cI cJ cZ oA rA Γ ++ b_w cB cC cI cJ cZ oA rA Γ ++ b_s cB cC cI cJ cZ oA rA Γ ++ b_c cB cC cI cJ cZ oA rA Γ ++ b_t cB cC cI cJ cZ oA rA Γ ++ b_d cB cC cI cJ cZ oA rA Γ) sz)) 0 0 (va_A (b_m cB cC cI cJ cZ oA rA Γ ++ b_w cB cC cI cJ cZ oA rA Γ ++ b_s cB cC cI cJ cZ oA rA Γ ++ b_c cB cC cI cJ cZ oA rA Γ ++ b_t cB cC cI cJ cZ oA rA Γ ++ b_d cB cC cI cJ cZ oA rA Γ) sz) := by
  refine Met.ofW (cc := cX4_nameInBody) (maxL := 5) (ret := none) (by decide) rfl ?_
  intro p e s m args below meth c s₁ B hml hv
  obtain ⟨rfl, hsz, hP, hK, hD0, hE, hX⟩ := hv
  have hx := B.exec
  have hb := B.bytes
  have hr := B.returns
  have hts0 := atoms_spec (ws := g_ws yX4_nameInBody cX4_nameInBody 5 none) B.pre
  have hts : ∀ w ∈ lw_good, w.before ([.ref (oA 3), .int p0] : List Value).toArray s = true := fun w z => hts0 w (List.mem_cons_of_mem _ z)
  have hown : s.vm.findClass RX4 = some m.cls := findClass_of_methodNamed B.named
  have hlocks := B.notSynchronized
  subst hsz
  have hD1 := hD0.self (sz := s.heap.size)
  generalize hAe : va_A (b_m cB cC cI cJ cZ oA rA Γ ++ b_w cB cC cI cJ cZ oA rA Γ ++ b_s cB cC cI cJ cZ oA rA Γ ++ b_c cB cC cI cJ cZ oA rA Γ ++ b_t cB cC cI cJ cZ oA rA Γ ++ b_d cB cC cI cJ cZ oA rA Γ) s.heap.size = A at hD1 hE hX ⊢
  have hA : ∀ q : Nat, s.heap.size ≤ q → A q := fun q z => by rw [← hAe]; exact Or.inr z
  have hDD : ∀ Γ : HS, va_D A (b_m cB cC cI cJ cZ oA rA Γ ++ b_w cB cC cI cJ cZ oA rA Γ ++ b_s cB cC cI cJ cZ oA rA Γ ++ b_c cB cC cI cJ cZ oA rA Γ ++ b_t cB cC cI cJ cZ oA rA Γ ++ b_d cB cC cI cJ cZ oA rA Γ) := fun Γ9 => va_D_fst (ws := (b_m cB cC cI cJ cZ oA rA Γ ++ b_w cB cC cI cJ cZ oA rA Γ ++ b_s cB cC cI cJ cZ oA rA Γ ++ b_c cB cC cI cJ cZ oA rA Γ ++ b_t cB cC cI cJ cZ oA rA Γ ++ b_d cB cC cI cJ cZ oA rA Γ)) (ws' := (b_m cB cC cI cJ cZ oA rA Γ9 ++ b_w cB cC cI cJ cZ oA rA Γ9 ++ b_s cB cC cI cJ cZ oA rA Γ9 ++ b_c cB cC cI cJ cZ oA rA Γ9 ++ b_t cB cC cI cJ cZ oA rA Γ9 ++ b_d cB cC cI cJ cZ oA rA Γ9)) rfl hD1
  have hN := hE.1
  have hS : va_S A s.heap s.heap [] := va_S.rf
  have hl := lv_entry ([.ref (oA 3), .int p0]) (n := 5) (Nat.le_of_ble_eq_true rfl)
  rw [lg_entry_eq]
  generalize (lg_sl ([.ref (oA 3), .int p0]) ++ List.replicate (5 - (lg_sl ([.ref (oA 3), .int p0])).length) Slot.unset).toArray = ls at hl ⊢
  have hl : lv_has ls 5 [(0, .ref (oA 3)), (1, .int p0)] := hl
  unfold F_X4_nameInBody at hF
  refine lv_aload_n hx hb dX4_nameInBody_0 rfl (lv_at hl 0 rfl) ?_
  refine va_get (D := (dC, dI)) (ci := 4) (v := .ref (oA 1)) (C := RX4) (T := TX4) (N := 18) hx hb hts ii_X4 hown hK hP 0 rfl rfl 0 (by decide) (hts (.fieldLink RX4 32 "StoryHouse$Meanings" "words" "LStoryHouse$Words;") wq_86) (fun _ h9 => h9) rfl dX4_nameInBody_1 ?_
  refine lv_iload_n hx hb dX4_nameInBody_4 rfl (lv_at hl 1 rfl) ?_
  refine lv_iconst (v := 1) hx hb dX4_nameInBody_5 (by decide +kernel) ?_
  refine lv_isub hx hb dX4_nameInBody_6 ?_
  obtain ⟨u_1, hu_1, hF_2⟩ := Option.bind_eq_some_iff.mp hF
  clear hF
  have hPc := bx_P (bs := [b_m cB cC cI cJ cZ oA rA Γ, b_w cB cC cI cJ cZ oA rA Γ, b_s cB cC cI cJ cZ oA rA Γ, b_c cB cC cI cJ cZ oA rA Γ, b_t cB cC cI cJ cZ oA rA Γ, b_d cB cC cI cJ cZ oA rA Γ]) (bs' := [b_w cB cC cI cJ cZ oA rA Γ]) (ws' := (b_w cB cC cI cJ cZ oA rA Γ)) hP fl_6 fl_1 [1] rfl
  have hDc := bx_D (bs := [b_m cB cC cI cJ cZ oA rA Γ, b_w cB cC cI cJ cZ oA rA Γ, b_s cB cC cI cJ cZ oA rA Γ, b_c cB cC cI cJ cZ oA rA Γ, b_t cB cC cI cJ cZ oA rA Γ, b_d cB cC cI cJ cZ oA rA Γ]) (bs' := [b_w cB cC cI cJ cZ oA rA Γ]) (ws' := (b_w cB cC cI cJ cZ oA rA Γ)) (hDD Γ) fl_6 fl_1 [1] (by decide +kernel) rfl
  have hFc := bx_F (bs := [b_m cB cC cI cJ cZ oA rA Γ, b_w cB cC cI cJ cZ oA rA Γ, b_s cB cC cI cJ cZ oA rA Γ, b_c cB cC cI cJ cZ oA rA Γ, b_t cB cC cI cJ cZ oA rA Γ, b_d cB cC cI cJ cZ oA rA Γ]) (bs' := [b_w cB cC cI cJ cZ oA rA Γ]) (wc := (b_w cB cC cI cJ cZ oA rA Γ)) (hDD Γ) hS hA fl_6 fl_1 [1] rfl
  refine g_ofi (wc := (b_w cB cC cI cJ cZ oA rA Γ)) (wr := (b_m cB cC cI cJ cZ oA rA Γ ++ b_s cB cC cI cJ cZ oA rA Γ ++ b_c cB cC cI cJ cZ oA rA Γ ++ b_t cB cC cI cJ cZ oA rA Γ ++ b_d cB cC cI cJ cZ oA rA Γ)) hP (hDD Γ) hS hFc (bx_ix [b_m cB cC cI cJ cZ oA rA Γ, b_w cB cC cI cJ cZ oA rA Γ, b_s cB cC cI cJ cZ oA rA Γ, b_c cB cC cI cJ cZ oA rA Γ, b_t cB cC cI cJ cZ oA rA Γ, b_d cB cC cI cJ cZ oA rA Γ] [1]) (bx_ix [b_m cB cC cI cJ cZ oA rA Γ, b_w cB cC cI cJ cZ oA rA Γ, b_s cB cC cI cJ cZ oA rA Γ, b_c cB cC cI cJ cZ oA rA Γ, b_t cB cC cI cJ cZ oA rA Γ, b_d cB cC cI cJ cZ oA rA Γ] [0, 2, 3, 4, 5]) (bx_C (bs := [b_m cB cC cI cJ cZ oA rA Γ, b_w cB cC cI cJ cZ oA rA Γ, b_s cB cC cI cJ cZ oA rA Γ, b_c cB cC cI cJ cZ oA rA Γ, b_t cB cC cI cJ cZ oA rA Γ, b_d cB cC cI cJ cZ oA rA Γ]) (bs' := [b_w cB cC cI cJ cZ oA rA Γ]) (is := [1]) fl_6 fl_1 rfl) (bx_C (bs := [b_m cB cC cI cJ cZ oA rA Γ, b_w cB cC cI cJ cZ oA rA Γ, b_s cB cC cI cJ cZ oA rA Γ, b_c cB cC cI cJ cZ oA rA Γ, b_t cB cC cI cJ cZ oA rA Γ, b_d cB cC cI cJ cZ oA rA Γ]) (bs' := [b_m cB cC cI cJ cZ oA rA Γ, b_s cB cC cI cJ cZ oA rA Γ, b_c cB cC cI cJ cZ oA rA Γ, b_t cB cC cI cJ cZ oA rA Γ, b_d cB cC cI cJ cZ oA rA Γ]) (is := [0, 2, 3, 4, 5]) fl_6 fl_5 rfl) (bx_n (by decide +kernel)) (bx_d (by decide +kernel)) (va_runV (As := [.int (p0 - 1)]) (rest := []) ⟨hx, hb, hml, hown, hts⟩ (k_X10_kindOf l dC dI cB cC cI cJ cZ cP oA rA s.heap.size  (p0 - 1) Γ _ hu_1) (cwV 1 hts (g_gV wq_714 wq_543 wq_544 wq_2 wq_545) rfl rfl rfl (by decide +kernel) ⟨Nat.le_of_ble_eq_true rfl, Nat.le_of_ble_eq_true rfl⟩) (g_preV g_bl0 hK hPc hDc hS hE hFc g_to0 (q0 := 0) (ci := 10) rfl rfl) rfl rfl hl.1 rfl (lv_room (Nat.le_of_ble_eq_true rfl)) dX4_nameInBody_7 ⟨Nat.le_of_ble_eq_true rfl, Nat.le_of_ble_eq_true rfl⟩) (fun r9 u9 H locs hw9 hP' hD' hS => ?_)
  clear hPc hDc hFc
  subst hw9
  obtain ⟨σ_3, eσ_3, hF_4⟩ := bnd_e hF_2
  clear hF_2
  have hP : va_P (dC, dI) vwCl (b_m cB cC cI cJ cZ oA rA σ_3 ++ b_w cB cC cI cJ cZ oA rA σ_3 ++ b_s cB cC cI cJ cZ oA rA σ_3 ++ b_c cB cC cI cJ cZ oA rA σ_3 ++ b_t cB cC cI cJ cZ oA rA σ_3 ++ b_d cB cC cI cJ cZ oA rA σ_3) H := by rw [eσ_3]; exact bx_P (bs := [b_m cB cC cI cJ cZ oA rA Γ, b_s cB cC cI cJ cZ oA rA Γ, b_c cB cC cI cJ cZ oA rA Γ, b_t cB cC cI cJ cZ oA rA Γ, b_d cB cC cI cJ cZ oA rA Γ] ++ [b_w cB cC cI cJ cZ oA rA u_1.2]) (bs' := [b_m cB cC cI cJ cZ oA rA (mrg (fun j => j == 1) Γ u_1.2), b_w cB cC cI cJ cZ oA rA (mrg (fun j => j == 1) Γ u_1.2), b_s cB cC cI cJ cZ oA rA (mrg (fun j => j == 1) Γ u_1.2), b_c cB cC cI cJ cZ oA rA (mrg (fun j => j == 1) Γ u_1.2), b_t cB cC cI cJ cZ oA rA (mrg (fun j => j == 1) Γ u_1.2), b_d cB cC cI cJ cZ oA rA (mrg (fun j => j == 1) Γ u_1.2)]) hP' (fl_a fl_5 fl_1) fl_6 [0, 5, 1, 2, 3, 4] rfl
  clear hP' hD'
  refine lv_sipush (v := 242) hx hb dX4_nameInBody_10 (by decide +kernel) ?_
  refine lv_icmp_ne (tgt := 36) hx hb dX4_nameInBody_13 (by decide) (fun c_5 => ?_) (fun c_5 => ?_)
  · have hF_11 := ineg c_5 hF_4
    clear hF_4
    refine lv_aload_n hx hb dX4_nameInBody_36 rfl (lv_at hl 0 rfl) ?_
    refine lv_iload_n hx hb dX4_nameInBody_37 rfl (lv_at hl 1 rfl) ?_
    obtain ⟨u_12, hu_12, hF_13⟩ := Option.bind_eq_some_iff.mp hF_11
    clear hF_11
    have hPc := bx_P (bs := [b_m cB cC cI cJ cZ oA rA σ_3, b_w cB cC cI cJ cZ oA rA σ_3, b_s cB cC cI cJ cZ oA rA σ_3, b_c cB cC cI cJ cZ oA rA σ_3, b_t cB cC cI cJ cZ oA rA σ_3, b_d cB cC cI cJ cZ oA rA σ_3]) (bs' := [b_m cB cC cI cJ cZ oA rA σ_3, b_w cB cC cI cJ cZ oA rA σ_3, b_s cB cC cI cJ cZ oA rA σ_3, b_c cB cC cI cJ cZ oA rA σ_3, b_t cB cC cI cJ cZ oA rA σ_3, b_d cB cC cI cJ cZ oA rA σ_3]) (ws' := (b_m cB cC cI cJ cZ oA rA σ_3 ++ b_w cB cC cI cJ cZ oA rA σ_3 ++ b_s cB cC cI cJ cZ oA rA σ_3 ++ b_c cB cC cI cJ cZ oA rA σ_3 ++ b_t cB cC cI cJ cZ oA rA σ_3 ++ b_d cB cC cI cJ cZ oA rA σ_3)) hP fl_6 fl_6 [0, 1, 2, 3, 4, 5] rfl
    have hDc := bx_D (bs := [b_m cB cC cI cJ cZ oA rA σ_3, b_w cB cC cI cJ cZ oA rA σ_3, b_s cB cC cI cJ cZ oA rA σ_3, b_c cB cC cI cJ cZ oA rA σ_3, b_t cB cC cI cJ cZ oA rA σ_3, b_d cB cC cI cJ cZ oA rA σ_3]) (bs' := [b_m cB cC cI cJ cZ oA rA σ_3, b_w cB cC cI cJ cZ oA rA σ_3, b_s cB cC cI cJ cZ oA rA σ_3, b_c cB cC cI cJ cZ oA rA σ_3, b_t cB cC cI cJ cZ oA rA σ_3, b_d cB cC cI cJ cZ oA rA σ_3]) (ws' := (b_m cB cC cI cJ cZ oA rA σ_3 ++ b_w cB cC cI cJ cZ oA rA σ_3 ++ b_s cB cC cI cJ cZ oA rA σ_3 ++ b_c cB cC cI cJ cZ oA rA σ_3 ++ b_t cB cC cI cJ cZ oA rA σ_3 ++ b_d cB cC cI cJ cZ oA rA σ_3)) (hDD σ_3) fl_6 fl_6 [0, 1, 2, 3, 4, 5] (by decide +kernel) rfl
    have hFc := bx_F (bs := [b_m cB cC cI cJ cZ oA rA σ_3, b_w cB cC cI cJ cZ oA rA σ_3, b_s cB cC cI cJ cZ oA rA σ_3, b_c cB cC cI cJ cZ oA rA σ_3, b_t cB cC cI cJ cZ oA rA σ_3, b_d cB cC cI cJ cZ oA rA σ_3]) (bs' := [b_m cB cC cI cJ cZ oA rA σ_3, b_w cB cC cI cJ cZ oA rA σ_3, b_s cB cC cI cJ cZ oA rA σ_3, b_c cB cC cI cJ cZ oA rA σ_3, b_t cB cC cI cJ cZ oA rA σ_3, b_d cB cC cI cJ cZ oA rA σ_3]) (wc := (b_m cB cC cI cJ cZ oA rA σ_3 ++ b_w cB cC cI cJ cZ oA rA σ_3 ++ b_s cB cC cI cJ cZ oA rA σ_3 ++ b_c cB cC cI cJ cZ oA rA σ_3 ++ b_t cB cC cI cJ cZ oA rA σ_3 ++ b_d cB cC cI cJ cZ oA rA σ_3)) (hDD σ_3) hS hA fl_6 fl_6 [0, 1, 2, 3, 4, 5] rfl
    refine g_ofi (wc := (b_m cB cC cI cJ cZ oA rA σ_3 ++ b_w cB cC cI cJ cZ oA rA σ_3 ++ b_s cB cC cI cJ cZ oA rA σ_3 ++ b_c cB cC cI cJ cZ oA rA σ_3 ++ b_t cB cC cI cJ cZ oA rA σ_3 ++ b_d cB cC cI cJ cZ oA rA σ_3)) (wr := ([] : va_W)) hP (hDD σ_3) hS hFc (bx_ix [b_m cB cC cI cJ cZ oA rA σ_3, b_w cB cC cI cJ cZ oA rA σ_3, b_s cB cC cI cJ cZ oA rA σ_3, b_c cB cC cI cJ cZ oA rA σ_3, b_t cB cC cI cJ cZ oA rA σ_3, b_d cB cC cI cJ cZ oA rA σ_3] [0, 1, 2, 3, 4, 5]) (bx_ix [b_m cB cC cI cJ cZ oA rA σ_3, b_w cB cC cI cJ cZ oA rA σ_3, b_s cB cC cI cJ cZ oA rA σ_3, b_c cB cC cI cJ cZ oA rA σ_3, b_t cB cC cI cJ cZ oA rA σ_3, b_d cB cC cI cJ cZ oA rA σ_3] []) (bx_C (bs := [b_m cB cC cI cJ cZ oA rA σ_3, b_w cB cC cI cJ cZ oA rA σ_3, b_s cB cC cI cJ cZ oA rA σ_3, b_c cB cC cI cJ cZ oA rA σ_3, b_t cB cC cI cJ cZ oA rA σ_3, b_d cB cC cI cJ cZ oA rA σ_3]) (bs' := [b_m cB cC cI cJ cZ oA rA σ_3, b_w cB cC cI cJ cZ oA rA σ_3, b_s cB cC cI cJ cZ oA rA σ_3, b_c cB cC cI cJ cZ oA rA σ_3, b_t cB cC cI cJ cZ oA rA σ_3, b_d cB cC cI cJ cZ oA rA σ_3]) (is := [0, 1, 2, 3, 4, 5]) fl_6 fl_6 rfl) (bx_C (bs := [b_m cB cC cI cJ cZ oA rA σ_3, b_w cB cC cI cJ cZ oA rA σ_3, b_s cB cC cI cJ cZ oA rA σ_3, b_c cB cC cI cJ cZ oA rA σ_3, b_t cB cC cI cJ cZ oA rA σ_3, b_d cB cC cI cJ cZ oA rA σ_3]) (bs' := []) (is := []) fl_6 fl_0 rfl) (bx_n (by decide +kernel)) (bx_d (by decide +kernel)) (va_runV (As := [.int p0]) (rest := []) ⟨hx, hb, hml, hown, hts⟩ (k_X4_sortOf l dC dI cB cC cI cJ cZ cP oA rA H.size  p0 σ_3 _ hu_12) (cwV 1 hts (g_gV wq_766 wq_767 wq_2050 wq_4 wq_768) rfl rfl rfl (by decide +kernel) ⟨Nat.le_of_ble_eq_true rfl, Nat.le_of_ble_eq_true rfl⟩) (g_preV g_bl0 hK hPc hDc hS hE hFc g_to0 (q0 := 0) (ci := 4) rfl rfl) rfl rfl hl.1 rfl (lv_room (Nat.le_of_ble_eq_true rfl)) dX4_nameInBody_38 ⟨Nat.le_of_ble_eq_true rfl, Nat.le_of_ble_eq_true rfl⟩) (fun r9 u9 H locs hw9 hP' hD' hS => ?_)
    clear hPc hDc hFc
    subst hw9
    have hP : va_P (dC, dI) vwCl (b_m cB cC cI cJ cZ oA rA u_12.2 ++ b_w cB cC cI cJ cZ oA rA u_12.2 ++ b_s cB cC cI cJ cZ oA rA u_12.2 ++ b_c cB cC cI cJ cZ oA rA u_12.2 ++ b_t cB cC cI cJ cZ oA rA u_12.2 ++ b_d cB cC cI cJ cZ oA rA u_12.2) H := hP'
    clear hP' hD'
    refine lv_istore_n (lv' := [(2, .int u_12.1), (0, .ref (oA 3)), (1, .int p0)]) hx hb dX4_nameInBody_41 rfl hl (by decide) rfl (fun ls hl => ?_)
    refine lv_aload_n hx hb dX4_nameInBody_42 rfl (lv_at hl 1 rfl) ?_
    refine lv_iload_n hx hb dX4_nameInBody_43 rfl (lv_at hl 2 rfl) ?_
    obtain ⟨u_14, hu_14, hF_15⟩ := Option.bind_eq_some_iff.mp hF_13
    clear hF_13
    have hPc := bx_P (bs := [b_m cB cC cI cJ cZ oA rA u_12.2, b_w cB cC cI cJ cZ oA rA u_12.2, b_s cB cC cI cJ cZ oA rA u_12.2, b_c cB cC cI cJ cZ oA rA u_12.2, b_t cB cC cI cJ cZ oA rA u_12.2, b_d cB cC cI cJ cZ oA rA u_12.2]) (bs' := [b_m cB cC cI cJ cZ oA rA u_12.2, b_w cB cC cI cJ cZ oA rA u_12.2, b_s cB cC cI cJ cZ oA rA u_12.2, b_c cB cC cI cJ cZ oA rA u_12.2, b_t cB cC cI cJ cZ oA rA u_12.2, b_d cB cC cI cJ cZ oA rA u_12.2]) (ws' := (b_m cB cC cI cJ cZ oA rA u_12.2 ++ b_w cB cC cI cJ cZ oA rA u_12.2 ++ b_s cB cC cI cJ cZ oA rA u_12.2 ++ b_c cB cC cI cJ cZ oA rA u_12.2 ++ b_t cB cC cI cJ cZ oA rA u_12.2 ++ b_d cB cC cI cJ cZ oA rA u_12.2)) hP fl_6 fl_6 [0, 1, 2, 3, 4, 5] rfl
    have hDc := bx_D (bs := [b_m cB cC cI cJ cZ oA rA u_12.2, b_w cB cC cI cJ cZ oA rA u_12.2, b_s cB cC cI cJ cZ oA rA u_12.2, b_c cB cC cI cJ cZ oA rA u_12.2, b_t cB cC cI cJ cZ oA rA u_12.2, b_d cB cC cI cJ cZ oA rA u_12.2]) (bs' := [b_m cB cC cI cJ cZ oA rA u_12.2, b_w cB cC cI cJ cZ oA rA u_12.2, b_s cB cC cI cJ cZ oA rA u_12.2, b_c cB cC cI cJ cZ oA rA u_12.2, b_t cB cC cI cJ cZ oA rA u_12.2, b_d cB cC cI cJ cZ oA rA u_12.2]) (ws' := (b_m cB cC cI cJ cZ oA rA u_12.2 ++ b_w cB cC cI cJ cZ oA rA u_12.2 ++ b_s cB cC cI cJ cZ oA rA u_12.2 ++ b_c cB cC cI cJ cZ oA rA u_12.2 ++ b_t cB cC cI cJ cZ oA rA u_12.2 ++ b_d cB cC cI cJ cZ oA rA u_12.2)) (hDD u_12.2) fl_6 fl_6 [0, 1, 2, 3, 4, 5] (by decide +kernel) rfl
    have hFc := bx_F (bs := [b_m cB cC cI cJ cZ oA rA u_12.2, b_w cB cC cI cJ cZ oA rA u_12.2, b_s cB cC cI cJ cZ oA rA u_12.2, b_c cB cC cI cJ cZ oA rA u_12.2, b_t cB cC cI cJ cZ oA rA u_12.2, b_d cB cC cI cJ cZ oA rA u_12.2]) (bs' := [b_m cB cC cI cJ cZ oA rA u_12.2, b_w cB cC cI cJ cZ oA rA u_12.2, b_s cB cC cI cJ cZ oA rA u_12.2, b_c cB cC cI cJ cZ oA rA u_12.2, b_t cB cC cI cJ cZ oA rA u_12.2, b_d cB cC cI cJ cZ oA rA u_12.2]) (wc := (b_m cB cC cI cJ cZ oA rA u_12.2 ++ b_w cB cC cI cJ cZ oA rA u_12.2 ++ b_s cB cC cI cJ cZ oA rA u_12.2 ++ b_c cB cC cI cJ cZ oA rA u_12.2 ++ b_t cB cC cI cJ cZ oA rA u_12.2 ++ b_d cB cC cI cJ cZ oA rA u_12.2)) (hDD u_12.2) hS hA fl_6 fl_6 [0, 1, 2, 3, 4, 5] rfl
    refine g_ofi (wc := (b_m cB cC cI cJ cZ oA rA u_12.2 ++ b_w cB cC cI cJ cZ oA rA u_12.2 ++ b_s cB cC cI cJ cZ oA rA u_12.2 ++ b_c cB cC cI cJ cZ oA rA u_12.2 ++ b_t cB cC cI cJ cZ oA rA u_12.2 ++ b_d cB cC cI cJ cZ oA rA u_12.2)) (wr := ([] : va_W)) hP (hDD u_12.2) hS hFc (bx_ix [b_m cB cC cI cJ cZ oA rA u_12.2, b_w cB cC cI cJ cZ oA rA u_12.2, b_s cB cC cI cJ cZ oA rA u_12.2, b_c cB cC cI cJ cZ oA rA u_12.2, b_t cB cC cI cJ cZ oA rA u_12.2, b_d cB cC cI cJ cZ oA rA u_12.2] [0, 1, 2, 3, 4, 5]) (bx_ix [b_m cB cC cI cJ cZ oA rA u_12.2, b_w cB cC cI cJ cZ oA rA u_12.2, b_s cB cC cI cJ cZ oA rA u_12.2, b_c cB cC cI cJ cZ oA rA u_12.2, b_t cB cC cI cJ cZ oA rA u_12.2, b_d cB cC cI cJ cZ oA rA u_12.2] []) (bx_C (bs := [b_m cB cC cI cJ cZ oA rA u_12.2, b_w cB cC cI cJ cZ oA rA u_12.2, b_s cB cC cI cJ cZ oA rA u_12.2, b_c cB cC cI cJ cZ oA rA u_12.2, b_t cB cC cI cJ cZ oA rA u_12.2, b_d cB cC cI cJ cZ oA rA u_12.2]) (bs' := [b_m cB cC cI cJ cZ oA rA u_12.2, b_w cB cC cI cJ cZ oA rA u_12.2, b_s cB cC cI cJ cZ oA rA u_12.2, b_c cB cC cI cJ cZ oA rA u_12.2, b_t cB cC cI cJ cZ oA rA u_12.2, b_d cB cC cI cJ cZ oA rA u_12.2]) (is := [0, 1, 2, 3, 4, 5]) fl_6 fl_6 rfl) (bx_C (bs := [b_m cB cC cI cJ cZ oA rA u_12.2, b_w cB cC cI cJ cZ oA rA u_12.2, b_s cB cC cI cJ cZ oA rA u_12.2, b_c cB cC cI cJ cZ oA rA u_12.2, b_t cB cC cI cJ cZ oA rA u_12.2, b_d cB cC cI cJ cZ oA rA u_12.2]) (bs' := []) (is := []) fl_6 fl_0 rfl) (bx_n (by decide +kernel)) (bx_d (by decide +kernel)) (va_runV (As := [.int p0]) (rest := []) ⟨hx, hb, hml, hown, hts⟩ (k_X4_numberOf l dC dI cB cC cI cJ cZ cP oA rA H.size  p0 u_12.2 _ hu_14) (cwV 1 hts (g_gV wq_769 wq_770 wq_2051 wq_4 wq_771) rfl rfl rfl (by decide +kernel) ⟨Nat.le_of_ble_eq_true rfl, Nat.le_of_ble_eq_true rfl⟩) (g_preV g_bl0 hK hPc hDc hS hE hFc g_to0 (q0 := 0) (ci := 4) rfl rfl) rfl rfl hl.1 rfl (lv_room (Nat.le_of_ble_eq_true rfl)) dX4_nameInBody_44 ⟨Nat.le_of_ble_eq_true rfl, Nat.le_of_ble_eq_true rfl⟩) (fun r9 u9 H locs hw9 hP' hD' hS => ?_)
    clear hPc hDc hFc
    subst hw9
    have hP : va_P (dC, dI) vwCl (b_m cB cC cI cJ cZ oA rA u_14.2 ++ b_w cB cC cI cJ cZ oA rA u_14.2 ++ b_s cB cC cI cJ cZ oA rA u_14.2 ++ b_c cB cC cI cJ cZ oA rA u_14.2 ++ b_t cB cC cI cJ cZ oA rA u_14.2 ++ b_d cB cC cI cJ cZ oA rA u_14.2) H := hP'
    clear hP' hD'
    refine lv_istore_n (lv' := [(3, .int u_14.1), (2, .int u_12.1), (0, .ref (oA 3)), (1, .int p0)]) hx hb dX4_nameInBody_47 rfl hl (by decide) rfl (fun ls hl => ?_)
    refine lv_aload_n hx hb dX4_nameInBody_48 rfl (lv_at hl 2 rfl) ?_
    refine va_get (D := (dC, dI)) (ci := 4) (v := .ref (oA 1)) (C := RX4) (T := TX4) (N := 18) hx hb hts ii_X4 hown hK hP 0 rfl rfl 0 (by decide) (hts (.fieldLink RX4 32 "StoryHouse$Meanings" "words" "LStoryHouse$Words;") wq_86) (fun _ h9 => h9) rfl dX4_nameInBody_49 ?_
    refine lv_iload_n hx hb dX4_nameInBody_52 rfl (lv_at hl 3 rfl) ?_
    refine lv_iconst (v := 1) hx hb dX4_nameInBody_53 (by decide +kernel) ?_
    refine lv_iadd hx hb dX4_nameInBody_54 ?_
    obtain ⟨u_16, hu_16, hF_17⟩ := Option.bind_eq_some_iff.mp hF_15
    clear hF_15
    have hPc := bx_P (bs := [b_m cB cC cI cJ cZ oA rA u_14.2, b_w cB cC cI cJ cZ oA rA u_14.2, b_s cB cC cI cJ cZ oA rA u_14.2, b_c cB cC cI cJ cZ oA rA u_14.2, b_t cB cC cI cJ cZ oA rA u_14.2, b_d cB cC cI cJ cZ oA rA u_14.2]) (bs' := [b_w cB cC cI cJ cZ oA rA u_14.2]) (ws' := (b_w cB cC cI cJ cZ oA rA u_14.2)) hP fl_6 fl_1 [1] rfl
    have hDc := bx_D (bs := [b_m cB cC cI cJ cZ oA rA u_14.2, b_w cB cC cI cJ cZ oA rA u_14.2, b_s cB cC cI cJ cZ oA rA u_14.2, b_c cB cC cI cJ cZ oA rA u_14.2, b_t cB cC cI cJ cZ oA rA u_14.2, b_d cB cC cI cJ cZ oA rA u_14.2]) (bs' := [b_w cB cC cI cJ cZ oA rA u_14.2]) (ws' := (b_w cB cC cI cJ cZ oA rA u_14.2)) (hDD u_14.2) fl_6 fl_1 [1] (by decide +kernel) rfl
    have hFc := bx_F (bs := [b_m cB cC cI cJ cZ oA rA u_14.2, b_w cB cC cI cJ cZ oA rA u_14.2, b_s cB cC cI cJ cZ oA rA u_14.2, b_c cB cC cI cJ cZ oA rA u_14.2, b_t cB cC cI cJ cZ oA rA u_14.2, b_d cB cC cI cJ cZ oA rA u_14.2]) (bs' := [b_w cB cC cI cJ cZ oA rA u_14.2]) (wc := (b_w cB cC cI cJ cZ oA rA u_14.2)) (hDD u_14.2) hS hA fl_6 fl_1 [1] rfl
    refine g_ofi (wc := (b_w cB cC cI cJ cZ oA rA u_14.2)) (wr := (b_m cB cC cI cJ cZ oA rA u_14.2 ++ b_s cB cC cI cJ cZ oA rA u_14.2 ++ b_c cB cC cI cJ cZ oA rA u_14.2 ++ b_t cB cC cI cJ cZ oA rA u_14.2 ++ b_d cB cC cI cJ cZ oA rA u_14.2)) hP (hDD u_14.2) hS hFc (bx_ix [b_m cB cC cI cJ cZ oA rA u_14.2, b_w cB cC cI cJ cZ oA rA u_14.2, b_s cB cC cI cJ cZ oA rA u_14.2, b_c cB cC cI cJ cZ oA rA u_14.2, b_t cB cC cI cJ cZ oA rA u_14.2, b_d cB cC cI cJ cZ oA rA u_14.2] [1]) (bx_ix [b_m cB cC cI cJ cZ oA rA u_14.2, b_w cB cC cI cJ cZ oA rA u_14.2, b_s cB cC cI cJ cZ oA rA u_14.2, b_c cB cC cI cJ cZ oA rA u_14.2, b_t cB cC cI cJ cZ oA rA u_14.2, b_d cB cC cI cJ cZ oA rA u_14.2] [0, 2, 3, 4, 5]) (bx_C (bs := [b_m cB cC cI cJ cZ oA rA u_14.2, b_w cB cC cI cJ cZ oA rA u_14.2, b_s cB cC cI cJ cZ oA rA u_14.2, b_c cB cC cI cJ cZ oA rA u_14.2, b_t cB cC cI cJ cZ oA rA u_14.2, b_d cB cC cI cJ cZ oA rA u_14.2]) (bs' := [b_w cB cC cI cJ cZ oA rA u_14.2]) (is := [1]) fl_6 fl_1 rfl) (bx_C (bs := [b_m cB cC cI cJ cZ oA rA u_14.2, b_w cB cC cI cJ cZ oA rA u_14.2, b_s cB cC cI cJ cZ oA rA u_14.2, b_c cB cC cI cJ cZ oA rA u_14.2, b_t cB cC cI cJ cZ oA rA u_14.2, b_d cB cC cI cJ cZ oA rA u_14.2]) (bs' := [b_m cB cC cI cJ cZ oA rA u_14.2, b_s cB cC cI cJ cZ oA rA u_14.2, b_c cB cC cI cJ cZ oA rA u_14.2, b_t cB cC cI cJ cZ oA rA u_14.2, b_d cB cC cI cJ cZ oA rA u_14.2]) (is := [0, 2, 3, 4, 5]) fl_6 fl_5 rfl) (bx_n (by decide +kernel)) (bx_d (by decide +kernel)) (va_runV (As := [.int (p0 + 1)]) (rest := []) ⟨hx, hb, hml, hown, hts⟩ (k_X10_kindOf l dC dI cB cC cI cJ cZ cP oA rA H.size  (p0 + 1) u_14.2 _ hu_16) (cwV 1 hts (g_gV wq_714 wq_543 wq_544 wq_2 wq_545) rfl rfl rfl (by decide +kernel) ⟨Nat.le_of_ble_eq_true rfl, Nat.le_of_ble_eq_true rfl⟩) (g_preV g_bl0 hK hPc hDc hS hE hFc g_to0 (q0 := 0) (ci := 10) rfl rfl) rfl rfl hl.1 rfl (lv_room (Nat.le_of_ble_eq_true rfl)) dX4_nameInBody_55 ⟨Nat.le_of_ble_eq_true rfl, Nat.le_of_ble_eq_true rfl⟩) (fun r9 u9 H locs hw9 hP' hD' hS => ?_)
    clear hPc hDc hFc
    subst hw9
    obtain ⟨σ_18, eσ_18, hF_19⟩ := bnd_e hF_17
    clear hF_17
    have hP : va_P (dC, dI) vwCl (b_m cB cC cI cJ cZ oA rA σ_18 ++ b_w cB cC cI cJ cZ oA rA σ_18 ++ b_s cB cC cI cJ cZ oA rA σ_18 ++ b_c cB cC cI cJ cZ oA rA σ_18 ++ b_t cB cC cI cJ cZ oA rA σ_18 ++ b_d cB cC cI cJ cZ oA rA σ_18) H := by rw [eσ_18]; exact bx_P (bs := [b_m cB cC cI cJ cZ oA rA u_14.2, b_s cB cC cI cJ cZ oA rA u_14.2, b_c cB cC cI cJ cZ oA rA u_14.2, b_t cB cC cI cJ cZ oA rA u_14.2, b_d cB cC cI cJ cZ oA rA u_14.2] ++ [b_w cB cC cI cJ cZ oA rA u_16.2]) (bs' := [b_m cB cC cI cJ cZ oA rA (mrg (fun j => j == 1) u_14.2 u_16.2), b_w cB cC cI cJ cZ oA rA (mrg (fun j => j == 1) u_14.2 u_16.2), b_s cB cC cI cJ cZ oA rA (mrg (fun j => j == 1) u_14.2 u_16.2), b_c cB cC cI cJ cZ oA rA (mrg (fun j => j == 1) u_14.2 u_16.2), b_t cB cC cI cJ cZ oA rA (mrg (fun j => j == 1) u_14.2 u_16.2), b_d cB cC cI cJ cZ oA rA (mrg (fun j => j == 1) u_14.2 u_16.2)]) hP' (fl_a fl_5 fl_1) fl_6 [0, 5, 1, 2, 3, 4] rfl
    clear hP' hD'
    obtain ⟨j_22, ej_22, hF_23⟩ := bnd_e hF_19
    clear hF_19
    have Jj_22 : ∀ (v4_20 : Int32) (σ_21 : HS), j_22 v4_20 σ_21 = some res → ∀ (H : Heap) (locs : List Loc), va_P (dC, dI) vwCl (b_m cB cC cI cJ cZ oA rA σ_21 ++ b_w cB cC cI cJ cZ oA rA σ_21 ++ b_s cB cC cI cJ cZ oA rA σ_21 ++ b_c cB cC cI cJ cZ oA rA σ_21 ++ b_t cB cC cI cJ cZ oA rA σ_21 ++ b_d cB cC cI cJ cZ oA rA σ_21) H → va_S A s.heap H locs → ∀ ls : Array Slot, lv_has ls 5 [(0, .ref (oA 3)), (1, .int p0), (2, .int u_12.1), (3, .int u_14.1), (4, .int v4_20)] → W p l e (headSpec (g_ws yX4_nameInBody cX4_nameInBody 5 none) { frames := 5, cells := 0, slots := 0, locals := 124 }).room s m ([.ref (oA 3), .int p0] : List Value).toArray below meth c H locs 0 0 (MQ below (va_Qv (fun (_ : Unit) => True) (g_Bo (dC, dI) A (fun (_ : Unit) => (b_m cB cC cI cJ cZ oA rA res.2 ++ b_w cB cC cI cJ cZ oA rA res.2 ++ b_s cB cC cI cJ cZ oA rA res.2 ++ b_c cB cC cI cJ cZ oA rA res.2 ++ b_t cB cC cI cJ cZ oA rA res.2 ++ b_d cB cC cI cJ cZ oA rA res.2))) A) ([.ref (oA 3), .int p0] : List Value).toArray s 0 0 A) (F0 m 200 ls []) := by
      intro v4_20 σ_21 hF0 H locs hP hS ls hl
      subst ej_22
      have hF_24 := hF0
      clear hF0
      refine lv_iload hx hb dX4_nameInBody_200 (lv_at hl 4 rfl) ?_
      obtain ⟨j_26, ej_26, hF_27⟩ := bnd_e hF_24
      clear hF_24
      have Jj_26 : ∀  (σ_25 : HS), j_26  σ_25 = some res → ∀ (H : Heap) (locs : List Loc), va_P (dC, dI) vwCl (b_m cB cC cI cJ cZ oA rA σ_25 ++ b_w cB cC cI cJ cZ oA rA σ_25 ++ b_s cB cC cI cJ cZ oA rA σ_25 ++ b_c cB cC cI cJ cZ oA rA σ_25 ++ b_t cB cC cI cJ cZ oA rA σ_25 ++ b_d cB cC cI cJ cZ oA rA σ_25) H → va_S A s.heap H locs → ∀ ls : Array Slot, lv_has ls 5 [(0, .ref (oA 3)), (1, .int p0), (2, .int u_12.1), (3, .int u_14.1)] → W p l e (headSpec (g_ws yX4_nameInBody cX4_nameInBody 5 none) { frames := 5, cells := 0, slots := 0, locals := 124 }).room s m ([.ref (oA 3), .int p0] : List Value).toArray below meth c H locs 0 0 (MQ below (va_Qv (fun (_ : Unit) => True) (g_Bo (dC, dI) A (fun (_ : Unit) => (b_m cB cC cI cJ cZ oA rA res.2 ++ b_w cB cC cI cJ cZ oA rA res.2 ++ b_s cB cC cI cJ cZ oA rA res.2 ++ b_c cB cC cI cJ cZ oA rA res.2 ++ b_t cB cC cI cJ cZ oA rA res.2 ++ b_d cB cC cI cJ cZ oA rA res.2))) A) ([.ref (oA 3), .int p0] : List Value).toArray s 0 0 A) (F0 m 211 ls []) := by
        intro  σ_25 hF0 H locs hP hS ls hl
        subst ej_26
        have hF_28 := hF0
        clear hF0
        refine lv_aload_n hx hb dX4_nameInBody_211 rfl (lv_at hl 0 rfl) ?_
        refine va_get (D := (dC, dI)) (ci := 4) (v := .ref (oA 1)) (C := RX4) (T := TX4) (N := 18) hx hb hts ii_X4 hown hK hP 0 rfl rfl 0 (by decide) (hts (.fieldLink RX4 32 "StoryHouse$Meanings" "words" "LStoryHouse$Words;") wq_86) (fun _ h9 => h9) rfl dX4_nameInBody_212 ?_
        refine va_get (D := (dC, dI)) (ci := 10) (v := .ref (rA 1 7)) (C := RX10) (T := TX10) (N := 12) hx hb hts ii_X10 hown hK hP 7 rfl rfl 7 (by decide) (hts (.fieldLink RX4 269 "StoryHouse$Words" "meanings" "[I") wq_57) (fun _ h9 => h9) rfl dX4_nameInBody_215 ?_
        refine lv_iload_n hx hb dX4_nameInBody_218 rfl (lv_at hl 1 rfl) ?_
        refine lv_iload_n hx hb dX4_nameInBody_219 rfl (lv_at hl 2 rfl) ?_
        refine lv_bipush (v := 16) hx hb dX4_nameInBody_220 (by decide +kernel) ?_
        refine lv_ishl hx hb dX4_nameInBody_222 ?_
        refine lv_iload_n hx hb dX4_nameInBody_223 rfl (lv_at hl 3 rfl) ?_
        refine lv_ior hx hb dX4_nameInBody_224 ?_
        obtain ⟨x_29, ex_29, hF_30⟩ := bnd_e hF_28
        clear hF_28
        refine m_top ex_29 ?_
        have hq9 : ((b_m cB cC cI cJ cZ oA rA σ_25 ++ b_w cB cC cI cJ cZ oA rA σ_25 ++ b_s cB cC cI cJ cZ oA rA σ_25 ++ b_c cB cC cI cJ cZ oA rA σ_25 ++ b_t cB cC cI cJ cZ oA rA σ_25 ++ b_d cB cC cI cJ cZ oA rA σ_25))[13]? = some (rA 1 7, .inl (cI, 16001, .inl ((σ_25 1).2.1 7))) := rfl
        have hPc := hP.sub (ws' := [(rA 1 7, .inl (cI, 16001, .inl ((σ_25 1).2.1 7)))]) [13] (pk_fm (er_C hq9))
        have hDc := (hDD σ_25).sub (ws' := [(rA 1 7, .inl (cI, 16001, .inl ((σ_25 1).2.1 7)))]) [13] (by decide +kernel) (er_C hq9)
        have hFc := va_free (wc := [(rA 1 7, .inl (cI, 16001, .inl ((σ_25 1).2.1 7)))]) (hDD σ_25) hS hA [13] (er_C hq9)
        refine g_ofv (wc := [(rA 1 7, .inl (cI, 16001, .inl ((σ_25 1).2.1 7)))]) (wr := (((b_m cB cC cI cJ cZ oA rA σ_25 ++ b_w cB cC cI cJ cZ oA rA σ_25 ++ b_s cB cC cI cJ cZ oA rA σ_25 ++ b_c cB cC cI cJ cZ oA rA σ_25 ++ b_t cB cC cI cJ cZ oA rA σ_25 ++ b_d cB cC cI cJ cZ oA rA σ_25)).eraseIdx 13)) hP (hDD σ_25) hS hFc [13] ((List.range ((b_m cB cC cI cJ cZ oA rA σ_25 ++ b_w cB cC cI cJ cZ oA rA σ_25 ++ b_s cB cC cI cJ cZ oA rA σ_25 ++ b_c cB cC cI cJ cZ oA rA σ_25 ++ b_t cB cC cI cJ cZ oA rA σ_25 ++ b_d cB cC cI cJ cZ oA rA σ_25)).length).eraseIdx 13) (er_C hq9) er_R er_n er_d (va_runSN (As := [.ref (rA 1 7), .int p0, .int x_29]) (rest := []) ⟨hx, hb, hml, hown, hts⟩ (c_X11_put l dC dI cB cC cI cJ cZ cP H.size (rA 1 7) p0 x_29 16001 ((σ_25 1).2.1 7) (by decide)) ⟨va_cnB 3 hts (g_gA wq_412) rfl rfl rfl (nw_23 hN) (hts (.initialized RX11) wq_1) (by decide +kernel) ⟨Nat.le_of_ble_eq_true rfl, Nat.le_of_ble_eq_true rfl⟩, (hts (.static yX11_put) wq_411), trivial⟩ (g_preS g_bl0 hK hPc hDc hS hE hFc g_to0) rfl rfl hl.1 rfl (lv_room (Nat.le_of_ble_eq_true rfl)) dX4_nameInBody_225 ⟨Nat.le_of_ble_eq_true rfl, Nat.le_of_ble_eq_true rfl⟩) (fun g9 H locs hw9 hP' hD' hS => ?_)
        clear hPc hDc hFc hD'
        obtain ⟨σ_31, eσ_31, hF_32⟩ := bnd_e hF_30
        clear hF_30
        subst hw9
        have hP : va_P (dC, dI) vwCl (b_m cB cC cI cJ cZ oA rA σ_31 ++ b_w cB cC cI cJ cZ oA rA σ_31 ++ b_s cB cC cI cJ cZ oA rA σ_31 ++ b_c cB cC cI cJ cZ oA rA σ_31 ++ b_t cB cC cI cJ cZ oA rA σ_31 ++ b_d cB cC cI cJ cZ oA rA σ_31) H := by rw [eσ_31]; exact cs_mwsctd_w_7 ▸ er_P hP' (er_lt hq9)
        clear hP' hq9
        have h9 := Option.some.inj hF_32
        subst h9
        exact W.vret hx hb hr (fun t ht hW => ⟨⟨(), rfl, trivial, m_end ht hP, hDD _⟩, hS.F ht⟩) hS.2.2 dX4_nameInBody_228
      refine lv_if_ne (tgt := 211) hx hb dX4_nameInBody_202 (by decide) (fun c_33 => ?_) (fun c_33 => ?_)
      · have hF_37 := ineg c_33 hF_27
        clear hF_27
        exact Jj_26  σ_21 hF_37 _ _ hP hS ls (lv_sub hl [0, 1, 2, 3] rfl)
      · have hF_34 := ipos c_33 hF_27
        clear hF_27
        refine lv_aload_n hx hb dX4_nameInBody_205 rfl (lv_at hl 0 rfl) ?_
        refine lv_iconst (v := 3) hx hb dX4_nameInBody_206 (by decide +kernel) ?_
        refine lv_iload_n hx hb dX4_nameInBody_207 rfl (lv_at hl 1 rfl) ?_
        obtain ⟨u_35, hu_35, hF_36⟩ := Option.bind_eq_some_iff.mp hF_34
        clear hF_34
        have hPc := bx_P (bs := [b_m cB cC cI cJ cZ oA rA σ_21, b_w cB cC cI cJ cZ oA rA σ_21, b_s cB cC cI cJ cZ oA rA σ_21, b_c cB cC cI cJ cZ oA rA σ_21, b_t cB cC cI cJ cZ oA rA σ_21, b_d cB cC cI cJ cZ oA rA σ_21]) (bs' := [b_m cB cC cI cJ cZ oA rA σ_21, b_w cB cC cI cJ cZ oA rA σ_21, b_s cB cC cI cJ cZ oA rA σ_21, b_c cB cC cI cJ cZ oA rA σ_21, b_t cB cC cI cJ cZ oA rA σ_21, b_d cB cC cI cJ cZ oA rA σ_21]) (ws' := (b_m cB cC cI cJ cZ oA rA σ_21 ++ b_w cB cC cI cJ cZ oA rA σ_21 ++ b_s cB cC cI cJ cZ oA rA σ_21 ++ b_c cB cC cI cJ cZ oA rA σ_21 ++ b_t cB cC cI cJ cZ oA rA σ_21 ++ b_d cB cC cI cJ cZ oA rA σ_21)) hP fl_6 fl_6 [0, 1, 2, 3, 4, 5] rfl
        have hDc := bx_D (bs := [b_m cB cC cI cJ cZ oA rA σ_21, b_w cB cC cI cJ cZ oA rA σ_21, b_s cB cC cI cJ cZ oA rA σ_21, b_c cB cC cI cJ cZ oA rA σ_21, b_t cB cC cI cJ cZ oA rA σ_21, b_d cB cC cI cJ cZ oA rA σ_21]) (bs' := [b_m cB cC cI cJ cZ oA rA σ_21, b_w cB cC cI cJ cZ oA rA σ_21, b_s cB cC cI cJ cZ oA rA σ_21, b_c cB cC cI cJ cZ oA rA σ_21, b_t cB cC cI cJ cZ oA rA σ_21, b_d cB cC cI cJ cZ oA rA σ_21]) (ws' := (b_m cB cC cI cJ cZ oA rA σ_21 ++ b_w cB cC cI cJ cZ oA rA σ_21 ++ b_s cB cC cI cJ cZ oA rA σ_21 ++ b_c cB cC cI cJ cZ oA rA σ_21 ++ b_t cB cC cI cJ cZ oA rA σ_21 ++ b_d cB cC cI cJ cZ oA rA σ_21)) (hDD σ_21) fl_6 fl_6 [0, 1, 2, 3, 4, 5] (by decide +kernel) rfl
        have hFc := bx_F (bs := [b_m cB cC cI cJ cZ oA rA σ_21, b_w cB cC cI cJ cZ oA rA σ_21, b_s cB cC cI cJ cZ oA rA σ_21, b_c cB cC cI cJ cZ oA rA σ_21, b_t cB cC cI cJ cZ oA rA σ_21, b_d cB cC cI cJ cZ oA rA σ_21]) (bs' := [b_m cB cC cI cJ cZ oA rA σ_21, b_w cB cC cI cJ cZ oA rA σ_21, b_s cB cC cI cJ cZ oA rA σ_21, b_c cB cC cI cJ cZ oA rA σ_21, b_t cB cC cI cJ cZ oA rA σ_21, b_d cB cC cI cJ cZ oA rA σ_21]) (wc := (b_m cB cC cI cJ cZ oA rA σ_21 ++ b_w cB cC cI cJ cZ oA rA σ_21 ++ b_s cB cC cI cJ cZ oA rA σ_21 ++ b_c cB cC cI cJ cZ oA rA σ_21 ++ b_t cB cC cI cJ cZ oA rA σ_21 ++ b_d cB cC cI cJ cZ oA rA σ_21)) (hDD σ_21) hS hA fl_6 fl_6 [0, 1, 2, 3, 4, 5] rfl
        refine g_ofv (wc := (b_m cB cC cI cJ cZ oA rA σ_21 ++ b_w cB cC cI cJ cZ oA rA σ_21 ++ b_s cB cC cI cJ cZ oA rA σ_21 ++ b_c cB cC cI cJ cZ oA rA σ_21 ++ b_t cB cC cI cJ cZ oA rA σ_21 ++ b_d cB cC cI cJ cZ oA rA σ_21)) (wr := ([] : va_W)) hP (hDD σ_21) hS hFc (bx_ix [b_m cB cC cI cJ cZ oA rA σ_21, b_w cB cC cI cJ cZ oA rA σ_21, b_s cB cC cI cJ cZ oA rA σ_21, b_c cB cC cI cJ cZ oA rA σ_21, b_t cB cC cI cJ cZ oA rA σ_21, b_d cB cC cI cJ cZ oA rA σ_21] [0, 1, 2, 3, 4, 5]) (bx_ix [b_m cB cC cI cJ cZ oA rA σ_21, b_w cB cC cI cJ cZ oA rA σ_21, b_s cB cC cI cJ cZ oA rA σ_21, b_c cB cC cI cJ cZ oA rA σ_21, b_t cB cC cI cJ cZ oA rA σ_21, b_d cB cC cI cJ cZ oA rA σ_21] []) (bx_C (bs := [b_m cB cC cI cJ cZ oA rA σ_21, b_w cB cC cI cJ cZ oA rA σ_21, b_s cB cC cI cJ cZ oA rA σ_21, b_c cB cC cI cJ cZ oA rA σ_21, b_t cB cC cI cJ cZ oA rA σ_21, b_d cB cC cI cJ cZ oA rA σ_21]) (bs' := [b_m cB cC cI cJ cZ oA rA σ_21, b_w cB cC cI cJ cZ oA rA σ_21, b_s cB cC cI cJ cZ oA rA σ_21, b_c cB cC cI cJ cZ oA rA σ_21, b_t cB cC cI cJ cZ oA rA σ_21, b_d cB cC cI cJ cZ oA rA σ_21]) (is := [0, 1, 2, 3, 4, 5]) fl_6 fl_6 rfl) (bx_C (bs := [b_m cB cC cI cJ cZ oA rA σ_21, b_w cB cC cI cJ cZ oA rA σ_21, b_s cB cC cI cJ cZ oA rA σ_21, b_c cB cC cI cJ cZ oA rA σ_21, b_t cB cC cI cJ cZ oA rA σ_21, b_d cB cC cI cJ cZ oA rA σ_21]) (bs' := []) (is := []) fl_6 fl_0 rfl) (bx_n (by decide +kernel)) (bx_d (by decide +kernel)) (va_runV (As := [.int 3, .int p0]) (rest := []) ⟨hx, hb, hml, hown, hts⟩ (k_X4_fail l dC dI cB cC cI cJ cZ cP oA rA H.size  3 p0 σ_21 _ hu_35) (cwV 2 hts (g_gV wq_725 wq_726 wq_2037 wq_4 wq_727) rfl rfl rfl (by decide +kernel) ⟨Nat.le_of_ble_eq_true rfl, Nat.le_of_ble_eq_true rfl⟩) (g_preV g_bl0 hK hPc hDc hS hE hFc g_to0 (q0 := 0) (ci := 4) rfl rfl) rfl rfl hl.1 rfl (lv_room (Nat.le_of_ble_eq_true rfl)) dX4_nameInBody_208 ⟨Nat.le_of_ble_eq_true rfl, Nat.le_of_ble_eq_true rfl⟩) (fun u9 H locs hw9 hP' hD' hS => ?_)
        clear hPc hDc hFc
        have hP : va_P (dC, dI) vwCl (b_m cB cC cI cJ cZ oA rA u_35.2 ++ b_w cB cC cI cJ cZ oA rA u_35.2 ++ b_s cB cC cI cJ cZ oA rA u_35.2 ++ b_c cB cC cI cJ cZ oA rA u_35.2 ++ b_t cB cC cI cJ cZ oA rA u_35.2 ++ b_d cB cC cI cJ cZ oA rA u_35.2) H := hP'
        clear hP' hD'
        exact Jj_26  u_35.2 hF_36 _ _ hP hS ls (lv_sub hl [0, 1, 2, 3] rfl)
    by_cases c_38 : u_16.1 = 40
    · have hF_39 := ipos c_38 hF_23
      clear hF_23
      refine lv_lookup (off := 34) (tgt := 92) hx hb dX4_nameInBody_58 (by decide +kernel) (by rw [c_38]; decide +kernel) (by decide) ?_
      refine lv_iload_n hx hb dX4_nameInBody_92 rfl (lv_at hl 1 rfl) ?_
      refine lv_bipush (v := 6) hx hb dX4_nameInBody_93 (by decide +kernel) ?_
      obtain ⟨j_42, ej_42, hF_43⟩ := bnd_e hF_39
      clear hF_39
      have Jj_42 : ∀ (t_40 : Int32) (σ_41 : HS), j_42 t_40 σ_41 = some res → ∀ (H : Heap) (locs : List Loc), va_P (dC, dI) vwCl (b_m cB cC cI cJ cZ oA rA σ_41 ++ b_w cB cC cI cJ cZ oA rA σ_41 ++ b_s cB cC cI cJ cZ oA rA σ_41 ++ b_c cB cC cI cJ cZ oA rA σ_41 ++ b_t cB cC cI cJ cZ oA rA σ_41 ++ b_d cB cC cI cJ cZ oA rA σ_41) H → va_S A s.heap H locs → ∀ ls : Array Slot, lv_has ls 5 [(0, .ref (oA 3)), (1, .int p0), (2, .int u_12.1), (3, .int u_14.1)] → W p l e (headSpec (g_ws yX4_nameInBody cX4_nameInBody 5 none) { frames := 5, cells := 0, slots := 0, locals := 124 }).room s m ([.ref (oA 3), .int p0] : List Value).toArray below meth c H locs 0 0 (MQ below (va_Qv (fun (_ : Unit) => True) (g_Bo (dC, dI) A (fun (_ : Unit) => (b_m cB cC cI cJ cZ oA rA res.2 ++ b_w cB cC cI cJ cZ oA rA res.2 ++ b_s cB cC cI cJ cZ oA rA res.2 ++ b_c cB cC cI cJ cZ oA rA res.2 ++ b_t cB cC cI cJ cZ oA rA res.2 ++ b_d cB cC cI cJ cZ oA rA res.2))) A) ([.ref (oA 3), .int p0] : List Value).toArray s 0 0 A) (F0 m 131 ls [.int t_40]) := by
        intro t_40 σ_41 hF0 H locs hP hS ls hl
        subst ej_42
        have hF_44 := hF0
        clear hF0
        refine lv_istore (lv' := [(4, .int t_40), (0, .ref (oA 3)), (1, .int p0), (2, .int u_12.1), (3, .int u_14.1)]) hx hb dX4_nameInBody_131 hl (by decide) rfl (fun ls hl => ?_)
        refine lv_goto (tgt := 200) hx hb dX4_nameInBody_133 (by decide) ?_
        exact Jj_22 t_40 σ_41 hF_44 _ _ hP hS ls (lv_sub hl [1, 2, 3, 4, 0] rfl)
      obtain ⟨j_46, ej_46, hF_47⟩ := bnd_e hF_43
      clear hF_43
      have Jj_46 : ∀  (σ_45 : HS), j_46  σ_45 = some res → ∀ (H : Heap) (locs : List Loc), va_P (dC, dI) vwCl (b_m cB cC cI cJ cZ oA rA σ_45 ++ b_w cB cC cI cJ cZ oA rA σ_45 ++ b_s cB cC cI cJ cZ oA rA σ_45 ++ b_c cB cC cI cJ cZ oA rA σ_45 ++ b_t cB cC cI cJ cZ oA rA σ_45 ++ b_d cB cC cI cJ cZ oA rA σ_45) H → va_S A s.heap H locs → ∀ ls : Array Slot, lv_has ls 5 [(0, .ref (oA 3)), (1, .int p0), (2, .int u_12.1), (3, .int u_14.1)] → W p l e (headSpec (g_ws yX4_nameInBody cX4_nameInBody 5 none) { frames := 5, cells := 0, slots := 0, locals := 124 }).room s m ([.ref (oA 3), .int p0] : List Value).toArray below meth c H locs 0 0 (MQ below (va_Qv (fun (_ : Unit) => True) (g_Bo (dC, dI) A (fun (_ : Unit) => (b_m cB cC cI cJ cZ oA rA res.2 ++ b_w cB cC cI cJ cZ oA rA res.2 ++ b_s cB cC cI cJ cZ oA rA res.2 ++ b_c cB cC cI cJ cZ oA rA res.2 ++ b_t cB cC cI cJ cZ oA rA res.2 ++ b_d cB cC cI cJ cZ oA rA res.2))) A) ([.ref (oA 3), .int p0] : List Value).toArray s 0 0 A) (F0 m 130 ls []) := by
        intro  σ_45 hF0 H locs hP hS ls hl
        subst ej_46
        have hF_48 := hF0
        clear hF0
        refine lv_iconst (v := 0) hx hb dX4_nameInBody_130 (by decide +kernel) ?_
        exact Jj_42 0 σ_45 hF_48 _ _ hP hS ls (lv_sub hl [0, 1, 2, 3] rfl)
      refine lv_icmp_ne (tgt := 130) hx hb dX4_nameInBody_95 (by decide) (fun c_49 => ?_) (fun c_49 => ?_)
      · have hF_58 := ineg c_49 hF_47
        clear hF_47
        exact Jj_46  σ_18 hF_58 _ _ hP hS ls (lv_sub hl [2, 3, 1, 0] rfl)
      · have hF_50 := ipos c_49 hF_47
        clear hF_47
        refine lv_aload_n hx hb dX4_nameInBody_98 rfl (lv_at hl 2 rfl) ?_
        refine va_get (D := (dC, dI)) (ci := 4) (v := .ref (oA 1)) (C := RX4) (T := TX4) (N := 18) hx hb hts ii_X4 hown hK hP 0 rfl rfl 0 (by decide) (hts (.fieldLink RX4 32 "StoryHouse$Meanings" "words" "LStoryHouse$Words;") wq_86) (fun _ h9 => h9) rfl dX4_nameInBody_99 ?_
        refine va_get (D := (dC, dI)) (ci := 10) (v := .ref (rA 1 6)) (C := RX10) (T := TX10) (N := 12) hx hb hts ii_X10 hown hK hP 7 rfl rfl 6 (by decide) (hts (.fieldLink RX4 181 "StoryHouse$Words" "notes" "[I") wq_54) (fun _ h9 => h9) rfl dX4_nameInBody_102 ?_
        refine lv_iload_n hx hb dX4_nameInBody_105 rfl (lv_at hl 3 rfl) ?_
        have hq9 : ((b_m cB cC cI cJ cZ oA rA σ_18 ++ b_w cB cC cI cJ cZ oA rA σ_18 ++ b_s cB cC cI cJ cZ oA rA σ_18 ++ b_c cB cC cI cJ cZ oA rA σ_18 ++ b_t cB cC cI cJ cZ oA rA σ_18 ++ b_d cB cC cI cJ cZ oA rA σ_18))[12]? = some (rA 1 6, .inl (cI, 16001, .inl ((σ_18 1).2.1 6))) := rfl
        have hPc := hP.sub (ws' := [(rA 1 6, .inl (cI, 16001, .inl ((σ_18 1).2.1 6)))]) [12] (pk_fm (er_C hq9))
        have hDc := (hDD σ_18).sub (ws' := [(rA 1 6, .inl (cI, 16001, .inl ((σ_18 1).2.1 6)))]) [12] (by decide +kernel) (er_C hq9)
        have hFc := va_free (wc := [(rA 1 6, .inl (cI, 16001, .inl ((σ_18 1).2.1 6)))]) (hDD σ_18) hS hA [12] (er_C hq9)
        refine g_ofi (wc := [(rA 1 6, .inl (cI, 16001, .inl ((σ_18 1).2.1 6)))]) (wr := (((b_m cB cC cI cJ cZ oA rA σ_18 ++ b_w cB cC cI cJ cZ oA rA σ_18 ++ b_s cB cC cI cJ cZ oA rA σ_18 ++ b_c cB cC cI cJ cZ oA rA σ_18 ++ b_t cB cC cI cJ cZ oA rA σ_18 ++ b_d cB cC cI cJ cZ oA rA σ_18)).eraseIdx 12)) hP (hDD σ_18) hS hFc [12] ((List.range ((b_m cB cC cI cJ cZ oA rA σ_18 ++ b_w cB cC cI cJ cZ oA rA σ_18 ++ b_s cB cC cI cJ cZ oA rA σ_18 ++ b_c cB cC cI cJ cZ oA rA σ_18 ++ b_t cB cC cI cJ cZ oA rA σ_18 ++ b_d cB cC cI cJ cZ oA rA σ_18)).length).eraseIdx 12) (er_C hq9) er_R er_n er_d (va_runSN (As := [.ref (rA 1 6), .int p0]) (rest := []) ⟨hx, hb, hml, hown, hts⟩ (c_X11_at l dC dI cB cC cI cJ cZ cP H.size (rA 1 6) p0 16001 ((σ_18 1).2.1 6) (by decide)) ⟨va_cnB 2 hts (g_gA wq_407) rfl rfl rfl (nw_24 hN) (hts (.initialized RX11) wq_1) (by decide +kernel) ⟨Nat.le_of_ble_eq_true rfl, Nat.le_of_ble_eq_true rfl⟩, (hts (.static yX11_at) wq_406), trivial⟩ (g_preS g_bl0 hK hPc hDc hS hE hFc g_to0) rfl rfl hl.1 rfl (lv_room (Nat.le_of_ble_eq_true rfl)) dX4_nameInBody_106 ⟨Nat.le_of_ble_eq_true rfl, Nat.le_of_ble_eq_true rfl⟩) (fun r9 u9 H locs hw9 hP' hD' hS => ?_)
        clear hPc hDc hFc hD'
        have hP : va_P (dC, dI) vwCl (b_m cB cC cI cJ cZ oA rA σ_18 ++ b_w cB cC cI cJ cZ oA rA σ_18 ++ b_s cB cC cI cJ cZ oA rA σ_18 ++ b_c cB cC cI cJ cZ oA rA σ_18 ++ b_t cB cC cI cJ cZ oA rA σ_18 ++ b_d cB cC cI cJ cZ oA rA σ_18) H := er_I hP' hq9
        clear hP' hq9
        subst hw9
        obtain ⟨x_51, ex_51, hF_52⟩ := bnd_e hF_50
        clear hF_50
        refine m_top ex_51 ?_
        refine lv_aload_n hx hb dX4_nameInBody_109 rfl (lv_at hl 2 rfl) ?_
        refine va_get (D := (dC, dI)) (ci := 4) (v := .ref (oA 4)) (C := RX4) (T := TX4) (N := 18) hx hb hts ii_X4 hown hK hP 0 rfl rfl 1 (by decide) (hts (.fieldLink RX4 36 "StoryHouse$Meanings" "story" "LStoryHouse$Story;") wq_87) (fun _ h9 => h9) rfl dX4_nameInBody_110 ?_
        refine va_get (D := (dC, dI)) (ci := 7) (v := .ref (oA 5)) (C := RX7) (T := TX7) (N := 19) hx hb hts ii_X7 hown hK hP 16 rfl rfl 16 (by decide) (hts (.fieldLink RX4 273 "StoryHouse$Story" "code" "LStoryHouse$Code;") wq_195) (fun _ h9 => h9) rfl dX4_nameInBody_113 ?_
        refine va_get (D := (dC, dI)) (ci := 0) (v := .ref (rA 5 4)) (C := RX0) (T := TX0) (N := 9) hx hb hts ii_X0 hown hK hP 33 rfl rfl 4 (by decide) (hts (.fieldLink RX4 277 "StoryHouse$Code" "lists" "[I") wq_123) (fun _ h9 => h9) rfl dX4_nameInBody_116 ?_
        refine lv_iload_n hx hb dX4_nameInBody_119 rfl (lv_at hl 0 rfl) ?_
        have hq9 : ((b_m cB cC cI cJ cZ oA rA σ_18 ++ b_w cB cC cI cJ cZ oA rA σ_18 ++ b_s cB cC cI cJ cZ oA rA σ_18 ++ b_c cB cC cI cJ cZ oA rA σ_18 ++ b_t cB cC cI cJ cZ oA rA σ_18 ++ b_d cB cC cI cJ cZ oA rA σ_18))[37]? = some (rA 5 4, .inl (cI, 100, .inl ((σ_18 5).2.1 4))) := rfl
        have hPc := hP.sub (ws' := [(rA 5 4, .inl (cI, 100, .inl ((σ_18 5).2.1 4)))]) [37] (pk_fm (er_C hq9))
        have hDc := (hDD σ_18).sub (ws' := [(rA 5 4, .inl (cI, 100, .inl ((σ_18 5).2.1 4)))]) [37] (by decide +kernel) (er_C hq9)
        have hFc := va_free (wc := [(rA 5 4, .inl (cI, 100, .inl ((σ_18 5).2.1 4)))]) (hDD σ_18) hS hA [37] (er_C hq9)
        refine g_ofi (wc := [(rA 5 4, .inl (cI, 100, .inl ((σ_18 5).2.1 4)))]) (wr := (((b_m cB cC cI cJ cZ oA rA σ_18 ++ b_w cB cC cI cJ cZ oA rA σ_18 ++ b_s cB cC cI cJ cZ oA rA σ_18 ++ b_c cB cC cI cJ cZ oA rA σ_18 ++ b_t cB cC cI cJ cZ oA rA σ_18 ++ b_d cB cC cI cJ cZ oA rA σ_18)).eraseIdx 37)) hP (hDD σ_18) hS hFc [37] ((List.range ((b_m cB cC cI cJ cZ oA rA σ_18 ++ b_w cB cC cI cJ cZ oA rA σ_18 ++ b_s cB cC cI cJ cZ oA rA σ_18 ++ b_c cB cC cI cJ cZ oA rA σ_18 ++ b_t cB cC cI cJ cZ oA rA σ_18 ++ b_d cB cC cI cJ cZ oA rA σ_18)).length).eraseIdx 37) (er_C hq9) er_R er_n er_d (va_runSN (As := [.ref (rA 5 4), .int u_14.1]) (rest := [.int x_51]) ⟨hx, hb, hml, hown, hts⟩ (c_X11_at l dC dI cB cC cI cJ cZ cP H.size (rA 5 4) u_14.1 100 ((σ_18 5).2.1 4) (by decide)) ⟨va_cnB 2 hts (g_gA wq_407) rfl rfl rfl (nw_24 hN) (hts (.initialized RX11) wq_1) (by decide +kernel) ⟨Nat.le_of_ble_eq_true rfl, Nat.le_of_ble_eq_true rfl⟩, (hts (.static yX11_at) wq_406), trivial⟩ (g_preS g_bl0 hK hPc hDc hS hE hFc g_to0) rfl rfl hl.1 rfl (lv_room (Nat.le_of_ble_eq_true rfl)) dX4_nameInBody_120 ⟨Nat.le_of_ble_eq_true rfl, Nat.le_of_ble_eq_true rfl⟩) (fun r9 u9 H locs hw9 hP' hD' hS => ?_)
        clear hPc hDc hFc hD'
        have hP : va_P (dC, dI) vwCl (b_m cB cC cI cJ cZ oA rA σ_18 ++ b_w cB cC cI cJ cZ oA rA σ_18 ++ b_s cB cC cI cJ cZ oA rA σ_18 ++ b_c cB cC cI cJ cZ oA rA σ_18 ++ b_t cB cC cI cJ cZ oA rA σ_18 ++ b_d cB cC cI cJ cZ oA rA σ_18) H := er_I hP' hq9
        clear hP' hq9
        subst hw9
        obtain ⟨x_53, ex_53, hF_54⟩ := bnd_e hF_52
        clear hF_52
        refine m_top ex_53 ?_
        refine lv_icmp_ne (tgt := 130) hx hb dX4_nameInBody_123 (by decide) (fun c_55 => ?_) (fun c_55 => ?_)
        · have hF_57 := ineg c_55 hF_54
          clear hF_54
          exact Jj_46  σ_18 hF_57 _ _ hP hS ls (lv_sub hl [2, 3, 1, 0] rfl)
        · have hF_56 := ipos c_55 hF_54
          clear hF_54
          refine lv_iconst (v := 1) hx hb dX4_nameInBody_126 (by decide +kernel) ?_
          refine lv_goto (tgt := 131) hx hb dX4_nameInBody_127 (by decide) ?_
          exact Jj_42 1 σ_18 hF_56 _ _ hP hS ls (lv_sub hl [2, 3, 1, 0] rfl)
    have hF_59 := ineg c_38 hF_23
    clear hF_23
    by_cases c_60 : u_16.1 = 61
    · have hF_61 := ipos c_60 hF_59
      clear hF_59
      refine lv_lookup (off := 93) (tgt := 151) hx hb dX4_nameInBody_58 (by decide +kernel) (by rw [c_60]; decide +kernel) (by decide) ?_
      refine lv_iload_n hx hb dX4_nameInBody_151 rfl (lv_at hl 1 rfl) ?_
      refine lv_iconst (v := 4) hx hb dX4_nameInBody_152 (by decide +kernel) ?_
      obtain ⟨j_64, ej_64, hF_65⟩ := bnd_e hF_61
      clear hF_61
      have Jj_64 : ∀ (t_62 : Int32) (σ_63 : HS), j_64 t_62 σ_63 = some res → ∀ (H : Heap) (locs : List Loc), va_P (dC, dI) vwCl (b_m cB cC cI cJ cZ oA rA σ_63 ++ b_w cB cC cI cJ cZ oA rA σ_63 ++ b_s cB cC cI cJ cZ oA rA σ_63 ++ b_c cB cC cI cJ cZ oA rA σ_63 ++ b_t cB cC cI cJ cZ oA rA σ_63 ++ b_d cB cC cI cJ cZ oA rA σ_63) H → va_S A s.heap H locs → ∀ ls : Array Slot, lv_has ls 5 [(0, .ref (oA 3)), (1, .int p0), (2, .int u_12.1), (3, .int u_14.1)] → W p l e (headSpec (g_ws yX4_nameInBody cX4_nameInBody 5 none) { frames := 5, cells := 0, slots := 0, locals := 124 }).room s m ([.ref (oA 3), .int p0] : List Value).toArray below meth c H locs 0 0 (MQ below (va_Qv (fun (_ : Unit) => True) (g_Bo (dC, dI) A (fun (_ : Unit) => (b_m cB cC cI cJ cZ oA rA res.2 ++ b_w cB cC cI cJ cZ oA rA res.2 ++ b_s cB cC cI cJ cZ oA rA res.2 ++ b_c cB cC cI cJ cZ oA rA res.2 ++ b_t cB cC cI cJ cZ oA rA res.2 ++ b_d cB cC cI cJ cZ oA rA res.2))) A) ([.ref (oA 3), .int p0] : List Value).toArray s 0 0 A) (F0 m 167 ls [.int t_62]) := by
        intro t_62 σ_63 hF0 H locs hP hS ls hl
        subst ej_64
        have hF_66 := hF0
        clear hF0
        refine lv_istore (lv' := [(4, .int t_62), (0, .ref (oA 3)), (1, .int p0), (2, .int u_12.1), (3, .int u_14.1)]) hx hb dX4_nameInBody_167 hl (by decide) rfl (fun ls hl => ?_)
        refine lv_goto (tgt := 200) hx hb dX4_nameInBody_169 (by decide) ?_
        exact Jj_22 t_62 σ_63 hF_66 _ _ hP hS ls (lv_sub hl [1, 2, 3, 4, 0] rfl)
      obtain ⟨j_68, ej_68, hF_69⟩ := bnd_e hF_65
      clear hF_65
      have Jj_68 : ∀  (σ_67 : HS), j_68  σ_67 = some res → ∀ (H : Heap) (locs : List Loc), va_P (dC, dI) vwCl (b_m cB cC cI cJ cZ oA rA σ_67 ++ b_w cB cC cI cJ cZ oA rA σ_67 ++ b_s cB cC cI cJ cZ oA rA σ_67 ++ b_c cB cC cI cJ cZ oA rA σ_67 ++ b_t cB cC cI cJ cZ oA rA σ_67 ++ b_d cB cC cI cJ cZ oA rA σ_67) H → va_S A s.heap H locs → ∀ ls : Array Slot, lv_has ls 5 [(0, .ref (oA 3)), (1, .int p0), (2, .int u_12.1), (3, .int u_14.1)] → W p l e (headSpec (g_ws yX4_nameInBody cX4_nameInBody 5 none) { frames := 5, cells := 0, slots := 0, locals := 124 }).room s m ([.ref (oA 3), .int p0] : List Value).toArray below meth c H locs 0 0 (MQ below (va_Qv (fun (_ : Unit) => True) (g_Bo (dC, dI) A (fun (_ : Unit) => (b_m cB cC cI cJ cZ oA rA res.2 ++ b_w cB cC cI cJ cZ oA rA res.2 ++ b_s cB cC cI cJ cZ oA rA res.2 ++ b_c cB cC cI cJ cZ oA rA res.2 ++ b_t cB cC cI cJ cZ oA rA res.2 ++ b_d cB cC cI cJ cZ oA rA res.2))) A) ([.ref (oA 3), .int p0] : List Value).toArray s 0 0 A) (F0 m 162 ls []) := by
        intro  σ_67 hF0 H locs hP hS ls hl
        subst ej_68
        have hF_70 := hF0
        clear hF0
        refine lv_iconst (v := 1) hx hb dX4_nameInBody_162 (by decide +kernel) ?_
        refine lv_goto (tgt := 167) hx hb dX4_nameInBody_163 (by decide) ?_
        exact Jj_64 1 σ_67 hF_70 _ _ hP hS ls (lv_sub hl [0, 1, 2, 3] rfl)
      refine lv_icmp_eq (tgt := 162) hx hb dX4_nameInBody_153 (by decide) (fun c_71 => ?_) (fun c_71 => ?_)
      · have hF_72 := ipos c_71 hF_69
        clear hF_69
        exact Jj_68  σ_18 hF_72 _ _ hP hS ls (lv_sub hl [2, 3, 1, 0] rfl)
      · have hF_73 := ineg c_71 hF_69
        clear hF_69
        refine lv_iload_n hx hb dX4_nameInBody_156 rfl (lv_at hl 1 rfl) ?_
        refine lv_bipush (v := 7) hx hb dX4_nameInBody_157 (by decide +kernel) ?_
        refine lv_icmp_ne (tgt := 166) hx hb dX4_nameInBody_159 (by decide) (fun c_74 => ?_) (fun c_74 => ?_)
        · have hF_76 := ineg c_74 hF_73
          clear hF_73
          refine lv_iconst (v := 0) hx hb dX4_nameInBody_166 (by decide +kernel) ?_
          exact Jj_64 0 σ_18 hF_76 _ _ hP hS ls (lv_sub hl [2, 3, 1, 0] rfl)
        · have hF_75 := ipos c_74 hF_73
          clear hF_73
          exact Jj_68  σ_18 hF_75 _ _ hP hS ls (lv_sub hl [2, 3, 1, 0] rfl)
    have hF_77 := ineg c_60 hF_59
    clear hF_59
    by_cases c_78 : u_16.1 = 91
    · have hF_79 := ipos c_78 hF_77
      clear hF_77
      refine lv_lookup (off := 78) (tgt := 136) hx hb dX4_nameInBody_58 (by decide +kernel) (by rw [c_78]; decide +kernel) (by decide) ?_
      refine lv_iload_n hx hb dX4_nameInBody_136 rfl (lv_at hl 1 rfl) ?_
      refine lv_iconst (v := 5) hx hb dX4_nameInBody_137 (by decide +kernel) ?_
      obtain ⟨j_82, ej_82, hF_83⟩ := bnd_e hF_79
      clear hF_79
      have Jj_82 : ∀ (t_80 : Int32) (σ_81 : HS), j_82 t_80 σ_81 = some res → ∀ (H : Heap) (locs : List Loc), va_P (dC, dI) vwCl (b_m cB cC cI cJ cZ oA rA σ_81 ++ b_w cB cC cI cJ cZ oA rA σ_81 ++ b_s cB cC cI cJ cZ oA rA σ_81 ++ b_c cB cC cI cJ cZ oA rA σ_81 ++ b_t cB cC cI cJ cZ oA rA σ_81 ++ b_d cB cC cI cJ cZ oA rA σ_81) H → va_S A s.heap H locs → ∀ ls : Array Slot, lv_has ls 5 [(0, .ref (oA 3)), (1, .int p0), (2, .int u_12.1), (3, .int u_14.1)] → W p l e (headSpec (g_ws yX4_nameInBody cX4_nameInBody 5 none) { frames := 5, cells := 0, slots := 0, locals := 124 }).room s m ([.ref (oA 3), .int p0] : List Value).toArray below meth c H locs 0 0 (MQ below (va_Qv (fun (_ : Unit) => True) (g_Bo (dC, dI) A (fun (_ : Unit) => (b_m cB cC cI cJ cZ oA rA res.2 ++ b_w cB cC cI cJ cZ oA rA res.2 ++ b_s cB cC cI cJ cZ oA rA res.2 ++ b_c cB cC cI cJ cZ oA rA res.2 ++ b_t cB cC cI cJ cZ oA rA res.2 ++ b_d cB cC cI cJ cZ oA rA res.2))) A) ([.ref (oA 3), .int p0] : List Value).toArray s 0 0 A) (F0 m 146 ls [.int t_80]) := by
        intro t_80 σ_81 hF0 H locs hP hS ls hl
        subst ej_82
        have hF_84 := hF0
        clear hF0
        refine lv_istore (lv' := [(4, .int t_80), (0, .ref (oA 3)), (1, .int p0), (2, .int u_12.1), (3, .int u_14.1)]) hx hb dX4_nameInBody_146 hl (by decide) rfl (fun ls hl => ?_)
        refine lv_goto (tgt := 200) hx hb dX4_nameInBody_148 (by decide) ?_
        exact Jj_22 t_80 σ_81 hF_84 _ _ hP hS ls (lv_sub hl [1, 2, 3, 4, 0] rfl)
      refine lv_icmp_ne (tgt := 145) hx hb dX4_nameInBody_138 (by decide) (fun c_85 => ?_) (fun c_85 => ?_)
      · have hF_87 := ineg c_85 hF_83
        clear hF_83
        refine lv_iconst (v := 0) hx hb dX4_nameInBody_145 (by decide +kernel) ?_
        exact Jj_82 0 σ_18 hF_87 _ _ hP hS ls (lv_sub hl [2, 3, 1, 0] rfl)
      · have hF_86 := ipos c_85 hF_83
        clear hF_83
        refine lv_iconst (v := 1) hx hb dX4_nameInBody_141 (by decide +kernel) ?_
        refine lv_goto (tgt := 146) hx hb dX4_nameInBody_142 (by decide) ?_
        exact Jj_82 1 σ_18 hF_86 _ _ hP hS ls (lv_sub hl [2, 3, 1, 0] rfl)
    have hF_88 := ineg c_78 hF_77
    clear hF_77
    refine lv_lookup (off := 114) (tgt := 172) hx hb dX4_nameInBody_58 (by decide +kernel) ((lv_osw (k := 40) c_38 (by decide +kernel)).trans ((lv_osw (k := 61) c_60 (by decide +kernel)).trans ((lv_osw (k := 91) c_78 (by decide +kernel)).trans rfl))) (by decide) ?_
    refine lv_iload_n hx hb dX4_nameInBody_172 rfl (lv_at hl 1 rfl) ?_
    refine lv_iconst (v := 1) hx hb dX4_nameInBody_173 (by decide +kernel) ?_
    obtain ⟨j_91, ej_91, hF_92⟩ := bnd_e hF_88
    clear hF_88
    have Jj_91 : ∀ (t_89 : Int32) (σ_90 : HS), j_91 t_89 σ_90 = some res → ∀ (H : Heap) (locs : List Loc), va_P (dC, dI) vwCl (b_m cB cC cI cJ cZ oA rA σ_90 ++ b_w cB cC cI cJ cZ oA rA σ_90 ++ b_s cB cC cI cJ cZ oA rA σ_90 ++ b_c cB cC cI cJ cZ oA rA σ_90 ++ b_t cB cC cI cJ cZ oA rA σ_90 ++ b_d cB cC cI cJ cZ oA rA σ_90) H → va_S A s.heap H locs → ∀ ls : Array Slot, lv_has ls 5 [(0, .ref (oA 3)), (1, .int p0), (2, .int u_12.1), (3, .int u_14.1)] → W p l e (headSpec (g_ws yX4_nameInBody cX4_nameInBody 5 none) { frames := 5, cells := 0, slots := 0, locals := 124 }).room s m ([.ref (oA 3), .int p0] : List Value).toArray below meth c H locs 0 0 (MQ below (va_Qv (fun (_ : Unit) => True) (g_Bo (dC, dI) A (fun (_ : Unit) => (b_m cB cC cI cJ cZ oA rA res.2 ++ b_w cB cC cI cJ cZ oA rA res.2 ++ b_s cB cC cI cJ cZ oA rA res.2 ++ b_c cB cC cI cJ cZ oA rA res.2 ++ b_t cB cC cI cJ cZ oA rA res.2 ++ b_d cB cC cI cJ cZ oA rA res.2))) A) ([.ref (oA 3), .int p0] : List Value).toArray s 0 0 A) (F0 m 198 ls [.int t_89]) := by
      intro t_89 σ_90 hF0 H locs hP hS ls hl
      subst ej_91
      have hF_93 := hF0
      clear hF0
      refine lv_istore (lv' := [(4, .int t_89), (0, .ref (oA 3)), (1, .int p0), (2, .int u_12.1), (3, .int u_14.1)]) hx hb dX4_nameInBody_198 hl (by decide) rfl (fun ls hl => ?_)
      exact Jj_22 t_89 σ_90 hF_93 _ _ hP hS ls (lv_sub hl [1, 2, 3, 4, 0] rfl)
    obtain ⟨j_95, ej_95, hF_96⟩ := bnd_e hF_92
    clear hF_92
    have Jj_95 : ∀  (σ_94 : HS), j_95  σ_94 = some res → ∀ (H : Heap) (locs : List Loc), va_P (dC, dI) vwCl (b_m cB cC cI cJ cZ oA rA σ_94 ++ b_w cB cC cI cJ cZ oA rA σ_94 ++ b_s cB cC cI cJ cZ oA rA σ_94 ++ b_c cB cC cI cJ cZ oA rA σ_94 ++ b_t cB cC cI cJ cZ oA rA σ_94 ++ b_d cB cC cI cJ cZ oA rA σ_94) H → va_S A s.heap H locs → ∀ ls : Array Slot, lv_has ls 5 [(0, .ref (oA 3)), (1, .int p0), (2, .int u_12.1), (3, .int u_14.1)] → W p l e (headSpec (g_ws yX4_nameInBody cX4_nameInBody 5 none) { frames := 5, cells := 0, slots := 0, locals := 124 }).room s m ([.ref (oA 3), .int p0] : List Value).toArray below meth c H locs 0 0 (MQ below (va_Qv (fun (_ : Unit) => True) (g_Bo (dC, dI) A (fun (_ : Unit) => (b_m cB cC cI cJ cZ oA rA res.2 ++ b_w cB cC cI cJ cZ oA rA res.2 ++ b_s cB cC cI cJ cZ oA rA res.2 ++ b_c cB cC cI cJ cZ oA rA res.2 ++ b_t cB cC cI cJ cZ oA rA res.2 ++ b_d cB cC cI cJ cZ oA rA res.2))) A) ([.ref (oA 3), .int p0] : List Value).toArray s 0 0 A) (F0 m 193 ls []) := by
      intro  σ_94 hF0 H locs hP hS ls hl
      subst ej_95
      have hF_97 := hF0
      clear hF0
      refine lv_iconst (v := 1) hx hb dX4_nameInBody_193 (by decide +kernel) ?_
      refine lv_goto (tgt := 198) hx hb dX4_nameInBody_194 (by decide) ?_
      exact Jj_91 1 σ_94 hF_97 _ _ hP hS ls (lv_sub hl [0, 1, 2, 3] rfl)
    refine lv_icmp_eq (tgt := 193) hx hb dX4_nameInBody_174 (by decide) (fun c_98 => ?_) (fun c_98 => ?_)
    · have hF_99 := ipos c_98 hF_96
      clear hF_96
      exact Jj_95  σ_18 hF_99 _ _ hP hS ls (lv_sub hl [2, 3, 1, 0] rfl)
    · have hF_100 := ineg c_98 hF_96
      clear hF_96
      refine lv_iload_n hx hb dX4_nameInBody_177 rfl (lv_at hl 1 rfl) ?_
      refine lv_iconst (v := 2) hx hb dX4_nameInBody_178 (by decide +kernel) ?_
      refine lv_icmp_eq (tgt := 193) hx hb dX4_nameInBody_179 (by decide) (fun c_101 => ?_) (fun c_101 => ?_)
      · have hF_102 := ipos c_101 hF_100
        clear hF_100
        exact Jj_95  σ_18 hF_102 _ _ hP hS ls (lv_sub hl [2, 3, 1, 0] rfl)
      · have hF_103 := ineg c_101 hF_100
        clear hF_100
        refine lv_iload_n hx hb dX4_nameInBody_182 rfl (lv_at hl 1 rfl) ?_
        refine lv_iconst (v := 4) hx hb dX4_nameInBody_183 (by decide +kernel) ?_
        refine lv_icmp_eq (tgt := 193) hx hb dX4_nameInBody_184 (by decide) (fun c_104 => ?_) (fun c_104 => ?_)
        · have hF_105 := ipos c_104 hF_103
          clear hF_103
          exact Jj_95  σ_18 hF_105 _ _ hP hS ls (lv_sub hl [2, 3, 1, 0] rfl)
        · have hF_106 := ineg c_104 hF_103
          clear hF_103
          refine lv_iload_n hx hb dX4_nameInBody_187 rfl (lv_at hl 1 rfl) ?_
          refine lv_bipush (v := 7) hx hb dX4_nameInBody_188 (by decide +kernel) ?_
          refine lv_icmp_ne (tgt := 197) hx hb dX4_nameInBody_190 (by decide) (fun c_107 => ?_) (fun c_107 => ?_)
          · have hF_109 := ineg c_107 hF_106
            clear hF_106
            refine lv_iconst (v := 0) hx hb dX4_nameInBody_197 (by decide +kernel) ?_
            exact Jj_91 0 σ_18 hF_109 _ _ hP hS ls (lv_sub hl [2, 3, 1, 0] rfl)
          · have hF_108 := ipos c_107 hF_106
            clear hF_106
            exact Jj_95  σ_18 hF_108 _ _ hP hS ls (lv_sub hl [2, 3, 1, 0] rfl)
  · have hF_6 := ipos c_5 hF_4
    clear hF_4
    refine lv_aload_n hx hb dX4_nameInBody_16 rfl (lv_at hl 0 rfl) ?_
    refine va_get (D := (dC, dI)) (ci := 4) (v := .ref (oA 1)) (C := RX4) (T := TX4) (N := 18) hx hb hts ii_X4 hown hK hP 0 rfl rfl 0 (by decide) (hts (.fieldLink RX4 32 "StoryHouse$Meanings" "words" "LStoryHouse$Words;") wq_86) (fun _ h9 => h9) rfl dX4_nameInBody_17 ?_
    refine va_get (D := (dC, dI)) (ci := 10) (v := .ref (rA 1 7)) (C := RX10) (T := TX10) (N := 12) hx hb hts ii_X10 hown hK hP 7 rfl rfl 7 (by decide) (hts (.fieldLink RX4 269 "StoryHouse$Words" "meanings" "[I") wq_57) (fun _ h9 => h9) rfl dX4_nameInBody_20 ?_
    refine lv_iload_n hx hb dX4_nameInBody_23 rfl (lv_at hl 1 rfl) ?_
    refine lv_ldcw (v := 458752) hx hb hown (hts (.constant RX4 272 (458752)) wq_765) dX4_nameInBody_24 ?_
    refine lv_aload_n hx hb dX4_nameInBody_27 rfl (lv_at hl 0 rfl) ?_
    refine va_get (D := (dC, dI)) (ci := 4) (v := .int ((σ_3 3).1 8)) (C := RX4) (T := TX4) (N := 18) hx hb hts ii_X4 hown hK hP 0 rfl rfl 8 (by decide) (hts (.fieldLink RX4 129 "StoryHouse$Meanings" "slots" "I") wq_94) (fun _ h9 => h9) rfl dX4_nameInBody_28 ?_
    refine lv_ior hx hb dX4_nameInBody_31 ?_
    obtain ⟨x_7, ex_7, hF_8⟩ := bnd_e hF_6
    clear hF_6
    refine m_top ex_7 ?_
    have hq9 : ((b_m cB cC cI cJ cZ oA rA σ_3 ++ b_w cB cC cI cJ cZ oA rA σ_3 ++ b_s cB cC cI cJ cZ oA rA σ_3 ++ b_c cB cC cI cJ cZ oA rA σ_3 ++ b_t cB cC cI cJ cZ oA rA σ_3 ++ b_d cB cC cI cJ cZ oA rA σ_3))[13]? = some (rA 1 7, .inl (cI, 16001, .inl ((σ_3 1).2.1 7))) := rfl
    have hPc := hP.sub (ws' := [(rA 1 7, .inl (cI, 16001, .inl ((σ_3 1).2.1 7)))]) [13] (pk_fm (er_C hq9))
    have hDc := (hDD σ_3).sub (ws' := [(rA 1 7, .inl (cI, 16001, .inl ((σ_3 1).2.1 7)))]) [13] (by decide +kernel) (er_C hq9)
    have hFc := va_free (wc := [(rA 1 7, .inl (cI, 16001, .inl ((σ_3 1).2.1 7)))]) (hDD σ_3) hS hA [13] (er_C hq9)
    refine g_ofv (wc := [(rA 1 7, .inl (cI, 16001, .inl ((σ_3 1).2.1 7)))]) (wr := (((b_m cB cC cI cJ cZ oA rA σ_3 ++ b_w cB cC cI cJ cZ oA rA σ_3 ++ b_s cB cC cI cJ cZ oA rA σ_3 ++ b_c cB cC cI cJ cZ oA rA σ_3 ++ b_t cB cC cI cJ cZ oA rA σ_3 ++ b_d cB cC cI cJ cZ oA rA σ_3)).eraseIdx 13)) hP (hDD σ_3) hS hFc [13] ((List.range ((b_m cB cC cI cJ cZ oA rA σ_3 ++ b_w cB cC cI cJ cZ oA rA σ_3 ++ b_s cB cC cI cJ cZ oA rA σ_3 ++ b_c cB cC cI cJ cZ oA rA σ_3 ++ b_t cB cC cI cJ cZ oA rA σ_3 ++ b_d cB cC cI cJ cZ oA rA σ_3)).length).eraseIdx 13) (er_C hq9) er_R er_n er_d (va_runSN (As := [.ref (rA 1 7), .int p0, .int x_7]) (rest := []) ⟨hx, hb, hml, hown, hts⟩ (c_X11_put l dC dI cB cC cI cJ cZ cP H.size (rA 1 7) p0 x_7 16001 ((σ_3 1).2.1 7) (by decide)) ⟨va_cnB 3 hts (g_gA wq_412) rfl rfl rfl (nw_23 hN) (hts (.initialized RX11) wq_1) (by decide +kernel) ⟨Nat.le_of_ble_eq_true rfl, Nat.le_of_ble_eq_true rfl⟩, (hts (.static yX11_put) wq_411), trivial⟩ (g_preS g_bl0 hK hPc hDc hS hE hFc g_to0) rfl rfl hl.1 rfl (lv_room (Nat.le_of_ble_eq_true rfl)) dX4_nameInBody_32 ⟨Nat.le_of_ble_eq_true rfl, Nat.le_of_ble_eq_true rfl⟩) (fun g9 H locs hw9 hP' hD' hS => ?_)
    clear hPc hDc hFc hD'
    obtain ⟨σ_9, eσ_9, hF_10⟩ := bnd_e hF_8
    clear hF_8
    subst hw9
    have hP : va_P (dC, dI) vwCl (b_m cB cC cI cJ cZ oA rA σ_9 ++ b_w cB cC cI cJ cZ oA rA σ_9 ++ b_s cB cC cI cJ cZ oA rA σ_9 ++ b_c cB cC cI cJ cZ oA rA σ_9 ++ b_t cB cC cI cJ cZ oA rA σ_9 ++ b_d cB cC cI cJ cZ oA rA σ_9) H := by rw [eσ_9]; exact cs_mwsctd_w_7 ▸ er_P hP' (er_lt hq9)
    clear hP' hq9
    have h9 := Option.some.inj hF_10
    subst h9
    exact W.vret hx hb hr (fun t ht hW => ⟨⟨(), rfl, trivial, m_end ht hP, hDD _⟩, hS.F ht⟩) hS.2.2 dX4_nameInBody_35
theorem dX4_bodyWord_0 : decode cX4_bodyWord 0 = .ok (.aload_n 0, 1) := by decide +kernel
theorem dX4_bodyWord_1 : decode cX4_bodyWord 1 = .ok (.getfield 32, 3) := by decide +kernel
theorem dX4_bodyWord_4 : decode cX4_bodyWord 4 = .ok (.iload_n 1, 1) := by decide +kernel
theorem dX4_bodyWord_5 : decode cX4_bodyWord 5 = .ok (.invokevirtual 116, 3) := by decide +kernel
theorem dX4_bodyWord_8 : decode cX4_bodyWord 8 = .ok (.istore_n 2, 1) := by decide +kernel
theorem dX4_bodyWord_9 : decode cX4_bodyWord 9 = .ok (.iload_n 2, 1) := by decide +kernel
theorem dX4_bodyWord_10 : decode cX4_bodyWord 10 = .ok (.iconst 2, 1) := by decide +kernel
theorem dX4_bodyWord_11 : decode cX4_bodyWord 11 = .ok (.if_icmp .ne 11, 3) := by decide +kernel
theorem dX4_bodyWord_14 : decode cX4_bodyWord 14 = .ok (.aload_n 0, 1) := by decide +kernel
theorem dX4_bodyWord_15 : decode cX4_bodyWord 15 = .ok (.iload_n 1, 1) := by decide +kernel
theorem dX4_bodyWord_16 : decode cX4_bodyWord 16 = .ok (.invokevirtual 266, 3) := by decide +kernel
theorem dX4_bodyWord_19 : decode cX4_bodyWord 19 = .ok (.goto 43, 3) := by decide +kernel
theorem dX4_bodyWord_22 : decode cX4_bodyWord 22 = .ok (.iload_n 2, 1) := by decide +kernel
theorem dX4_bodyWord_23 : decode cX4_bodyWord 23 = .ok (.sipush 251, 3) := by decide +kernel
theorem dX4_bodyWord_26 : decode cX4_bodyWord 26 = .ok (.if_icmp .ne 13, 3) := by decide +kernel
theorem dX4_bodyWord_29 : decode cX4_bodyWord 29 = .ok (.aload_n 0, 1) := by decide +kernel
theorem dX4_bodyWord_30 : decode cX4_bodyWord 30 = .ok (.getfield 63, 3) := by decide +kernel
theorem dX4_bodyWord_33 : decode cX4_bodyWord 33 = .ok (.sipush 235, 3) := by decide +kernel
theorem dX4_bodyWord_36 : decode cX4_bodyWord 36 = .ok (.if_icmp .ne 20, 3) := by decide +kernel
theorem dX4_bodyWord_39 : decode cX4_bodyWord 39 = .ok (.iload_n 2, 1) := by decide +kernel
theorem dX4_bodyWord_40 : decode cX4_bodyWord 40 = .ok (.sipush 252, 3) := by decide +kernel
theorem dX4_bodyWord_43 : decode cX4_bodyWord 43 = .ok (.if_icmp .ne 19, 3) := by decide +kernel
theorem dX4_bodyWord_46 : decode cX4_bodyWord 46 = .ok (.aload_n 0, 1) := by decide +kernel
theorem dX4_bodyWord_47 : decode cX4_bodyWord 47 = .ok (.getfield 63, 3) := by decide +kernel
theorem dX4_bodyWord_50 : decode cX4_bodyWord 50 = .ok (.sipush 235, 3) := by decide +kernel
theorem dX4_bodyWord_53 : decode cX4_bodyWord 53 = .ok (.if_icmp .ne 9, 3) := by decide +kernel
theorem dX4_bodyWord_56 : decode cX4_bodyWord 56 = .ok (.aload_n 0, 1) := by decide +kernel
theorem dX4_bodyWord_57 : decode cX4_bodyWord 57 = .ok (.iconst 3, 1) := by decide +kernel
theorem dX4_bodyWord_58 : decode cX4_bodyWord 58 = .ok (.iload_n 1, 1) := by decide +kernel
theorem dX4_bodyWord_59 : decode cX4_bodyWord 59 = .ok (.invokevirtual 84, 3) := by decide +kernel
theorem dX4_bodyWord_62 : decode cX4_bodyWord 62 = .ok (.return_, 1) := by decide +kernel
def F_X4_bodyWord (p0 : Int32) (Γ : HS) : HR :=
  (F_X10_kindOf p0 Γ).bind fun u_1 =>
  bnd (mrg (fun j => j == 1) Γ u_1.2) fun σ_3 =>
  if u_1.1 = 2 then (
    (F_X4_nameInBody p0 σ_3).bind fun u_7 =>
    some (0, u_7.2)
  ) else (
    bnd (fun  (σ_10 : HS) => (
      (F_X4_fail 3 p0 σ_10).bind fun u_14 =>
      some (0, u_14.2)
    ) : HS → HR) fun j_11 =>
    bnd (fun  (σ_16 : HS) => (
      if u_1.1 = 252 then (
        if ((σ_16 3).1 12) = 235 then (
          j_11  σ_16
        ) else (
          some (0, σ_16)
        )
      ) else (
        some (0, σ_16)
      )
    ) : HS → HR) fun j_17 =>
    if u_1.1 = 251 then (
      if ((σ_3 3).1 12) = 235 then (
        j_17  σ_3
      ) else (
        j_11  σ_3
      )
    ) else (
      j_17  σ_3
    )
  )
set_option maxHeartbeats 4000000 in
set_option maxRecDepth 100000 in
theorem k_X4_bodyWord (l : Launch) (dC : Nat → ClassId) (dI : Nat → Nat → Nat) (cB cC cI cJ cZ cP : ClassId) (oA : Nat → Nat) (rA : Nat → Nat → Nat) (sz : Nat)  (p0 : Int32) (Γ : HS) (res : Int32 × HS) (hF : F_X4_bodyWord p0 Γ = some res) : Met l yX4_bodyWord (g_ws yX4_bodyWord cX4_bodyWord 3 none) ({ frames := 6, cells := 0, slots := 0, locals := 148 }) (va_Pc [.ref (oA 3), .int p0] (g_B (dC, dI) [(cB, .byte), (cC, .char), (cI, .int), (cJ, .long), (cZ, .boolean), (cP, .object "StoryHouse$Play")] sz (b_m cB cC cI cJ cZ oA rA Γ ++ b_w cB cC cI cJ cZ oA rA Γ ++ b_s cB cC cI cJ cZ oA rA Γ ++ b_c cB cC cI cJ cZ oA rA Γ ++ b_t cB cC cI cJ cZ oA rA Γ ++ b_d cB cC cI cJ cZ oA rA Γ) g_0)) (va_Qv (fun (_ : Unit) => True) (g_Bo (dC, dI) (va_A (b_m cB cC cI cJ cZ oA rA Γ ++ b_w cB cC cI cJ cZ oA rA Γ ++ b_s cB cC cI cJ cZ oA rA Γ ++ b_c cB cC cI cJ cZ oA rA Γ ++ b_t cB cC cI cJ cZ oA rA Γ ++ b_d cB cC cI cJ cZ oA rA Γ) sz) (fun (_ : Unit) => (b_m cB cC cI cJ cZ oA rA res.2 ++ b_w cB cC cI cJ cZ oA rA res.2 ++ b_s cB cC cI cJ cZ oA rA res.2 ++ b_c cB cC cI cJ cZ oA rA res.2 ++ b_t cB cC cI cJ cZ oA rA res.2 ++ b_d cB cC cI cJ cZ oA rA res.2))) (va_A (b_m cB cC cI cJ cZ oA rA Γ ++ b_w cB cC cI cJ cZ oA rA Γ ++ b_s cB cC cI cJ cZ oA rA Γ ++ b_c cB cC cI cJ cZ oA rA Γ ++ b_t cB cC cI cJ cZ oA rA Γ ++ b_d cB cC cI cJ cZ oA rA Γ) sz)) 0 0 (va_A (b_m cB cC cI cJ cZ oA rA Γ ++ b_w cB cC cI cJ cZ oA rA Γ ++ b_s cB cC cI cJ cZ oA rA Γ ++ b_c cB cC cI cJ cZ oA rA Γ ++ b_t cB cC cI cJ cZ oA rA Γ ++ b_d cB cC cI cJ cZ oA rA Γ) sz) := by
  refine Met.ofW (cc := cX4_bodyWord) (maxL := 3) (ret := none) (by decide) rfl ?_
  intro p e s m args below meth c s₁ B hml hv
  obtain ⟨rfl, hsz, hP, hK, hD0, hE, hX⟩ := hv
  have hx := B.exec
  have hb := B.bytes
  have hr := B.returns
  have hts0 := atoms_spec (ws := g_ws yX4_bodyWord cX4_bodyWord 3 none) B.pre
  have hts : ∀ w ∈ lw_good, w.before ([.ref (oA 3), .int p0] : List Value).toArray s = true := fun w z => hts0 w (List.mem_cons_of_mem _ z)
  have hown : s.vm.findClass RX4 = some m.cls := findClass_of_methodNamed B.named
  have hlocks := B.notSynchronized
  subst hsz
  have hD1 := hD0.self (sz := s.heap.size)
  generalize hAe : va_A (b_m cB cC cI cJ cZ oA rA Γ ++ b_w cB cC cI cJ cZ oA rA Γ ++ b_s cB cC cI cJ cZ oA rA Γ ++ b_c cB cC cI cJ cZ oA rA Γ ++ b_t cB cC cI cJ cZ oA rA Γ ++ b_d cB cC cI cJ cZ oA rA Γ) s.heap.size = A at hD1 hE hX ⊢
  have hA : ∀ q : Nat, s.heap.size ≤ q → A q := fun q z => by rw [← hAe]; exact Or.inr z
  have hDD : ∀ Γ : HS, va_D A (b_m cB cC cI cJ cZ oA rA Γ ++ b_w cB cC cI cJ cZ oA rA Γ ++ b_s cB cC cI cJ cZ oA rA Γ ++ b_c cB cC cI cJ cZ oA rA Γ ++ b_t cB cC cI cJ cZ oA rA Γ ++ b_d cB cC cI cJ cZ oA rA Γ) := fun Γ9 => va_D_fst (ws := (b_m cB cC cI cJ cZ oA rA Γ ++ b_w cB cC cI cJ cZ oA rA Γ ++ b_s cB cC cI cJ cZ oA rA Γ ++ b_c cB cC cI cJ cZ oA rA Γ ++ b_t cB cC cI cJ cZ oA rA Γ ++ b_d cB cC cI cJ cZ oA rA Γ)) (ws' := (b_m cB cC cI cJ cZ oA rA Γ9 ++ b_w cB cC cI cJ cZ oA rA Γ9 ++ b_s cB cC cI cJ cZ oA rA Γ9 ++ b_c cB cC cI cJ cZ oA rA Γ9 ++ b_t cB cC cI cJ cZ oA rA Γ9 ++ b_d cB cC cI cJ cZ oA rA Γ9)) rfl hD1
  have hN := hE.1
  have hS : va_S A s.heap s.heap [] := va_S.rf
  have hl := lv_entry ([.ref (oA 3), .int p0]) (n := 3) (Nat.le_of_ble_eq_true rfl)
  rw [lg_entry_eq]
  generalize (lg_sl ([.ref (oA 3), .int p0]) ++ List.replicate (3 - (lg_sl ([.ref (oA 3), .int p0])).length) Slot.unset).toArray = ls at hl ⊢
  have hl : lv_has ls 3 [(0, .ref (oA 3)), (1, .int p0)] := hl
  unfold F_X4_bodyWord at hF
  refine lv_aload_n hx hb dX4_bodyWord_0 rfl (lv_at hl 0 rfl) ?_
  refine va_get (D := (dC, dI)) (ci := 4) (v := .ref (oA 1)) (C := RX4) (T := TX4) (N := 18) hx hb hts ii_X4 hown hK hP 0 rfl rfl 0 (by decide) (hts (.fieldLink RX4 32 "StoryHouse$Meanings" "words" "LStoryHouse$Words;") wq_86) (fun _ h9 => h9) rfl dX4_bodyWord_1 ?_
  refine lv_iload_n hx hb dX4_bodyWord_4 rfl (lv_at hl 1 rfl) ?_
  obtain ⟨u_1, hu_1, hF_2⟩ := Option.bind_eq_some_iff.mp hF
  clear hF
  have hPc := bx_P (bs := [b_m cB cC cI cJ cZ oA rA Γ, b_w cB cC cI cJ cZ oA rA Γ, b_s cB cC cI cJ cZ oA rA Γ, b_c cB cC cI cJ cZ oA rA Γ, b_t cB cC cI cJ cZ oA rA Γ, b_d cB cC cI cJ cZ oA rA Γ]) (bs' := [b_w cB cC cI cJ cZ oA rA Γ]) (ws' := (b_w cB cC cI cJ cZ oA rA Γ)) hP fl_6 fl_1 [1] rfl
  have hDc := bx_D (bs := [b_m cB cC cI cJ cZ oA rA Γ, b_w cB cC cI cJ cZ oA rA Γ, b_s cB cC cI cJ cZ oA rA Γ, b_c cB cC cI cJ cZ oA rA Γ, b_t cB cC cI cJ cZ oA rA Γ, b_d cB cC cI cJ cZ oA rA Γ]) (bs' := [b_w cB cC cI cJ cZ oA rA Γ]) (ws' := (b_w cB cC cI cJ cZ oA rA Γ)) (hDD Γ) fl_6 fl_1 [1] (by decide +kernel) rfl
  have hFc := bx_F (bs := [b_m cB cC cI cJ cZ oA rA Γ, b_w cB cC cI cJ cZ oA rA Γ, b_s cB cC cI cJ cZ oA rA Γ, b_c cB cC cI cJ cZ oA rA Γ, b_t cB cC cI cJ cZ oA rA Γ, b_d cB cC cI cJ cZ oA rA Γ]) (bs' := [b_w cB cC cI cJ cZ oA rA Γ]) (wc := (b_w cB cC cI cJ cZ oA rA Γ)) (hDD Γ) hS hA fl_6 fl_1 [1] rfl
  refine g_ofi (wc := (b_w cB cC cI cJ cZ oA rA Γ)) (wr := (b_m cB cC cI cJ cZ oA rA Γ ++ b_s cB cC cI cJ cZ oA rA Γ ++ b_c cB cC cI cJ cZ oA rA Γ ++ b_t cB cC cI cJ cZ oA rA Γ ++ b_d cB cC cI cJ cZ oA rA Γ)) hP (hDD Γ) hS hFc (bx_ix [b_m cB cC cI cJ cZ oA rA Γ, b_w cB cC cI cJ cZ oA rA Γ, b_s cB cC cI cJ cZ oA rA Γ, b_c cB cC cI cJ cZ oA rA Γ, b_t cB cC cI cJ cZ oA rA Γ, b_d cB cC cI cJ cZ oA rA Γ] [1]) (bx_ix [b_m cB cC cI cJ cZ oA rA Γ, b_w cB cC cI cJ cZ oA rA Γ, b_s cB cC cI cJ cZ oA rA Γ, b_c cB cC cI cJ cZ oA rA Γ, b_t cB cC cI cJ cZ oA rA Γ, b_d cB cC cI cJ cZ oA rA Γ] [0, 2, 3, 4, 5]) (bx_C (bs := [b_m cB cC cI cJ cZ oA rA Γ, b_w cB cC cI cJ cZ oA rA Γ, b_s cB cC cI cJ cZ oA rA Γ, b_c cB cC cI cJ cZ oA rA Γ, b_t cB cC cI cJ cZ oA rA Γ, b_d cB cC cI cJ cZ oA rA Γ]) (bs' := [b_w cB cC cI cJ cZ oA rA Γ]) (is := [1]) fl_6 fl_1 rfl) (bx_C (bs := [b_m cB cC cI cJ cZ oA rA Γ, b_w cB cC cI cJ cZ oA rA Γ, b_s cB cC cI cJ cZ oA rA Γ, b_c cB cC cI cJ cZ oA rA Γ, b_t cB cC cI cJ cZ oA rA Γ, b_d cB cC cI cJ cZ oA rA Γ]) (bs' := [b_m cB cC cI cJ cZ oA rA Γ, b_s cB cC cI cJ cZ oA rA Γ, b_c cB cC cI cJ cZ oA rA Γ, b_t cB cC cI cJ cZ oA rA Γ, b_d cB cC cI cJ cZ oA rA Γ]) (is := [0, 2, 3, 4, 5]) fl_6 fl_5 rfl) (bx_n (by decide +kernel)) (bx_d (by decide +kernel)) (va_runV (As := [.int p0]) (rest := []) ⟨hx, hb, hml, hown, hts⟩ (k_X10_kindOf l dC dI cB cC cI cJ cZ cP oA rA s.heap.size  p0 Γ _ hu_1) (cwV 1 hts (g_gV wq_714 wq_543 wq_544 wq_2 wq_545) rfl rfl rfl (by decide +kernel) ⟨Nat.le_of_ble_eq_true rfl, Nat.le_of_ble_eq_true rfl⟩) (g_preV g_bl0 hK hPc hDc hS hE hFc g_to0 (q0 := 0) (ci := 10) rfl rfl) rfl rfl hl.1 rfl (lv_room (Nat.le_of_ble_eq_true rfl)) dX4_bodyWord_5 ⟨Nat.le_of_ble_eq_true rfl, Nat.le_of_ble_eq_true rfl⟩) (fun r9 u9 H locs hw9 hP' hD' hS => ?_)
  clear hPc hDc hFc
  subst hw9
  obtain ⟨σ_3, eσ_3, hF_4⟩ := bnd_e hF_2
  clear hF_2
  have hP : va_P (dC, dI) vwCl (b_m cB cC cI cJ cZ oA rA σ_3 ++ b_w cB cC cI cJ cZ oA rA σ_3 ++ b_s cB cC cI cJ cZ oA rA σ_3 ++ b_c cB cC cI cJ cZ oA rA σ_3 ++ b_t cB cC cI cJ cZ oA rA σ_3 ++ b_d cB cC cI cJ cZ oA rA σ_3) H := by rw [eσ_3]; exact bx_P (bs := [b_m cB cC cI cJ cZ oA rA Γ, b_s cB cC cI cJ cZ oA rA Γ, b_c cB cC cI cJ cZ oA rA Γ, b_t cB cC cI cJ cZ oA rA Γ, b_d cB cC cI cJ cZ oA rA Γ] ++ [b_w cB cC cI cJ cZ oA rA u_1.2]) (bs' := [b_m cB cC cI cJ cZ oA rA (mrg (fun j => j == 1) Γ u_1.2), b_w cB cC cI cJ cZ oA rA (mrg (fun j => j == 1) Γ u_1.2), b_s cB cC cI cJ cZ oA rA (mrg (fun j => j == 1) Γ u_1.2), b_c cB cC cI cJ cZ oA rA (mrg (fun j => j == 1) Γ u_1.2), b_t cB cC cI cJ cZ oA rA (mrg (fun j => j == 1) Γ u_1.2), b_d cB cC cI cJ cZ oA rA (mrg (fun j => j == 1) Γ u_1.2)]) hP' (fl_a fl_5 fl_1) fl_6 [0, 5, 1, 2, 3, 4] rfl
  clear hP' hD'
  refine lv_istore_n (lv' := [(2, .int u_1.1), (0, .ref (oA 3)), (1, .int p0)]) hx hb dX4_bodyWord_8 rfl hl (by decide) rfl (fun ls hl => ?_)
  refine lv_iload_n hx hb dX4_bodyWord_9 rfl (lv_at hl 0 rfl) ?_
  refine lv_iconst (v := 2) hx hb dX4_bodyWord_10 (by decide +kernel) ?_
  refine lv_icmp_ne (tgt := 22) hx hb dX4_bodyWord_11 (by decide) (fun c_5 => ?_) (fun c_5 => ?_)
  · have hF_9 := ineg c_5 hF_4
    clear hF_4
    refine lv_iload_n hx hb dX4_bodyWord_22 rfl (lv_at hl 0 rfl) ?_
    refine lv_sipush (v := 251) hx hb dX4_bodyWord_23 (by decide +kernel) ?_
    obtain ⟨j_11, ej_11, hF_12⟩ := bnd_e hF_9
    clear hF_9
    have Jj_11 : ∀  (σ_10 : HS), j_11  σ_10 = some res → ∀ (H : Heap) (locs : List Loc), va_P (dC, dI) vwCl (b_m cB cC cI cJ cZ oA rA σ_10 ++ b_w cB cC cI cJ cZ oA rA σ_10 ++ b_s cB cC cI cJ cZ oA rA σ_10 ++ b_c cB cC cI cJ cZ oA rA σ_10 ++ b_t cB cC cI cJ cZ oA rA σ_10 ++ b_d cB cC cI cJ cZ oA rA σ_10) H → va_S A s.heap H locs → ∀ ls : Array Slot, lv_has ls 3 [(0, .ref (oA 3)), (1, .int p0)] → W p l e (headSpec (g_ws yX4_bodyWord cX4_bodyWord 3 none) { frames := 6, cells := 0, slots := 0, locals := 148 }).room s m ([.ref (oA 3), .int p0] : List Value).toArray below meth c H locs 0 0 (MQ below (va_Qv (fun (_ : Unit) => True) (g_Bo (dC, dI) A (fun (_ : Unit) => (b_m cB cC cI cJ cZ oA rA res.2 ++ b_w cB cC cI cJ cZ oA rA res.2 ++ b_s cB cC cI cJ cZ oA rA res.2 ++ b_c cB cC cI cJ cZ oA rA res.2 ++ b_t cB cC cI cJ cZ oA rA res.2 ++ b_d cB cC cI cJ cZ oA rA res.2))) A) ([.ref (oA 3), .int p0] : List Value).toArray s 0 0 A) (F0 m 56 ls []) := by
      intro  σ_10 hF0 H locs hP hS ls hl
      subst ej_11
      have hF_13 := hF0
      clear hF0
      refine lv_aload_n hx hb dX4_bodyWord_56 rfl (lv_at hl 0 rfl) ?_
      refine lv_iconst (v := 3) hx hb dX4_bodyWord_57 (by decide +kernel) ?_
      refine lv_iload_n hx hb dX4_bodyWord_58 rfl (lv_at hl 1 rfl) ?_
      obtain ⟨u_14, hu_14, hF_15⟩ := Option.bind_eq_some_iff.mp hF_13
      clear hF_13
      have hPc := bx_P (bs := [b_m cB cC cI cJ cZ oA rA σ_10, b_w cB cC cI cJ cZ oA rA σ_10, b_s cB cC cI cJ cZ oA rA σ_10, b_c cB cC cI cJ cZ oA rA σ_10, b_t cB cC cI cJ cZ oA rA σ_10, b_d cB cC cI cJ cZ oA rA σ_10]) (bs' := [b_m cB cC cI cJ cZ oA rA σ_10, b_w cB cC cI cJ cZ oA rA σ_10, b_s cB cC cI cJ cZ oA rA σ_10, b_c cB cC cI cJ cZ oA rA σ_10, b_t cB cC cI cJ cZ oA rA σ_10, b_d cB cC cI cJ cZ oA rA σ_10]) (ws' := (b_m cB cC cI cJ cZ oA rA σ_10 ++ b_w cB cC cI cJ cZ oA rA σ_10 ++ b_s cB cC cI cJ cZ oA rA σ_10 ++ b_c cB cC cI cJ cZ oA rA σ_10 ++ b_t cB cC cI cJ cZ oA rA σ_10 ++ b_d cB cC cI cJ cZ oA rA σ_10)) hP fl_6 fl_6 [0, 1, 2, 3, 4, 5] rfl
      have hDc := bx_D (bs := [b_m cB cC cI cJ cZ oA rA σ_10, b_w cB cC cI cJ cZ oA rA σ_10, b_s cB cC cI cJ cZ oA rA σ_10, b_c cB cC cI cJ cZ oA rA σ_10, b_t cB cC cI cJ cZ oA rA σ_10, b_d cB cC cI cJ cZ oA rA σ_10]) (bs' := [b_m cB cC cI cJ cZ oA rA σ_10, b_w cB cC cI cJ cZ oA rA σ_10, b_s cB cC cI cJ cZ oA rA σ_10, b_c cB cC cI cJ cZ oA rA σ_10, b_t cB cC cI cJ cZ oA rA σ_10, b_d cB cC cI cJ cZ oA rA σ_10]) (ws' := (b_m cB cC cI cJ cZ oA rA σ_10 ++ b_w cB cC cI cJ cZ oA rA σ_10 ++ b_s cB cC cI cJ cZ oA rA σ_10 ++ b_c cB cC cI cJ cZ oA rA σ_10 ++ b_t cB cC cI cJ cZ oA rA σ_10 ++ b_d cB cC cI cJ cZ oA rA σ_10)) (hDD σ_10) fl_6 fl_6 [0, 1, 2, 3, 4, 5] (by decide +kernel) rfl
      have hFc := bx_F (bs := [b_m cB cC cI cJ cZ oA rA σ_10, b_w cB cC cI cJ cZ oA rA σ_10, b_s cB cC cI cJ cZ oA rA σ_10, b_c cB cC cI cJ cZ oA rA σ_10, b_t cB cC cI cJ cZ oA rA σ_10, b_d cB cC cI cJ cZ oA rA σ_10]) (bs' := [b_m cB cC cI cJ cZ oA rA σ_10, b_w cB cC cI cJ cZ oA rA σ_10, b_s cB cC cI cJ cZ oA rA σ_10, b_c cB cC cI cJ cZ oA rA σ_10, b_t cB cC cI cJ cZ oA rA σ_10, b_d cB cC cI cJ cZ oA rA σ_10]) (wc := (b_m cB cC cI cJ cZ oA rA σ_10 ++ b_w cB cC cI cJ cZ oA rA σ_10 ++ b_s cB cC cI cJ cZ oA rA σ_10 ++ b_c cB cC cI cJ cZ oA rA σ_10 ++ b_t cB cC cI cJ cZ oA rA σ_10 ++ b_d cB cC cI cJ cZ oA rA σ_10)) (hDD σ_10) hS hA fl_6 fl_6 [0, 1, 2, 3, 4, 5] rfl
      refine g_ofv (wc := (b_m cB cC cI cJ cZ oA rA σ_10 ++ b_w cB cC cI cJ cZ oA rA σ_10 ++ b_s cB cC cI cJ cZ oA rA σ_10 ++ b_c cB cC cI cJ cZ oA rA σ_10 ++ b_t cB cC cI cJ cZ oA rA σ_10 ++ b_d cB cC cI cJ cZ oA rA σ_10)) (wr := ([] : va_W)) hP (hDD σ_10) hS hFc (bx_ix [b_m cB cC cI cJ cZ oA rA σ_10, b_w cB cC cI cJ cZ oA rA σ_10, b_s cB cC cI cJ cZ oA rA σ_10, b_c cB cC cI cJ cZ oA rA σ_10, b_t cB cC cI cJ cZ oA rA σ_10, b_d cB cC cI cJ cZ oA rA σ_10] [0, 1, 2, 3, 4, 5]) (bx_ix [b_m cB cC cI cJ cZ oA rA σ_10, b_w cB cC cI cJ cZ oA rA σ_10, b_s cB cC cI cJ cZ oA rA σ_10, b_c cB cC cI cJ cZ oA rA σ_10, b_t cB cC cI cJ cZ oA rA σ_10, b_d cB cC cI cJ cZ oA rA σ_10] []) (bx_C (bs := [b_m cB cC cI cJ cZ oA rA σ_10, b_w cB cC cI cJ cZ oA rA σ_10, b_s cB cC cI cJ cZ oA rA σ_10, b_c cB cC cI cJ cZ oA rA σ_10, b_t cB cC cI cJ cZ oA rA σ_10, b_d cB cC cI cJ cZ oA rA σ_10]) (bs' := [b_m cB cC cI cJ cZ oA rA σ_10, b_w cB cC cI cJ cZ oA rA σ_10, b_s cB cC cI cJ cZ oA rA σ_10, b_c cB cC cI cJ cZ oA rA σ_10, b_t cB cC cI cJ cZ oA rA σ_10, b_d cB cC cI cJ cZ oA rA σ_10]) (is := [0, 1, 2, 3, 4, 5]) fl_6 fl_6 rfl) (bx_C (bs := [b_m cB cC cI cJ cZ oA rA σ_10, b_w cB cC cI cJ cZ oA rA σ_10, b_s cB cC cI cJ cZ oA rA σ_10, b_c cB cC cI cJ cZ oA rA σ_10, b_t cB cC cI cJ cZ oA rA σ_10, b_d cB cC cI cJ cZ oA rA σ_10]) (bs' := []) (is := []) fl_6 fl_0 rfl) (bx_n (by decide +kernel)) (bx_d (by decide +kernel)) (va_runV (As := [.int 3, .int p0]) (rest := []) ⟨hx, hb, hml, hown, hts⟩ (k_X4_fail l dC dI cB cC cI cJ cZ cP oA rA H.size  3 p0 σ_10 _ hu_14) (cwV 2 hts (g_gV wq_725 wq_726 wq_2037 wq_4 wq_727) rfl rfl rfl (by decide +kernel) ⟨Nat.le_of_ble_eq_true rfl, Nat.le_of_ble_eq_true rfl⟩) (g_preV g_bl0 hK hPc hDc hS hE hFc g_to0 (q0 := 0) (ci := 4) rfl rfl) rfl rfl hl.1 rfl (lv_room (Nat.le_of_ble_eq_true rfl)) dX4_bodyWord_59 ⟨Nat.le_of_ble_eq_true rfl, Nat.le_of_ble_eq_true rfl⟩) (fun u9 H locs hw9 hP' hD' hS => ?_)
      clear hPc hDc hFc
      have hP : va_P (dC, dI) vwCl (b_m cB cC cI cJ cZ oA rA u_14.2 ++ b_w cB cC cI cJ cZ oA rA u_14.2 ++ b_s cB cC cI cJ cZ oA rA u_14.2 ++ b_c cB cC cI cJ cZ oA rA u_14.2 ++ b_t cB cC cI cJ cZ oA rA u_14.2 ++ b_d cB cC cI cJ cZ oA rA u_14.2) H := hP'
      clear hP' hD'
      have h9 := Option.some.inj hF_15
      subst h9
      exact W.vret hx hb hr (fun t ht hW => ⟨⟨(), rfl, trivial, m_end ht hP, hDD _⟩, hS.F ht⟩) hS.2.2 dX4_bodyWord_62
    obtain ⟨j_17, ej_17, hF_18⟩ := bnd_e hF_12
    clear hF_12
    have Jj_17 : ∀  (σ_16 : HS), j_17  σ_16 = some res → ∀ (H : Heap) (locs : List Loc), va_P (dC, dI) vwCl (b_m cB cC cI cJ cZ oA rA σ_16 ++ b_w cB cC cI cJ cZ oA rA σ_16 ++ b_s cB cC cI cJ cZ oA rA σ_16 ++ b_c cB cC cI cJ cZ oA rA σ_16 ++ b_t cB cC cI cJ cZ oA rA σ_16 ++ b_d cB cC cI cJ cZ oA rA σ_16) H → va_S A s.heap H locs → ∀ ls : Array Slot, lv_has ls 3 [(0, .ref (oA 3)), (1, .int p0), (2, .int u_1.1)] → W p l e (headSpec (g_ws yX4_bodyWord cX4_bodyWord 3 none) { frames := 6, cells := 0, slots := 0, locals := 148 }).room s m ([.ref (oA 3), .int p0] : List Value).toArray below meth c H locs 0 0 (MQ below (va_Qv (fun (_ : Unit) => True) (g_Bo (dC, dI) A (fun (_ : Unit) => (b_m cB cC cI cJ cZ oA rA res.2 ++ b_w cB cC cI cJ cZ oA rA res.2 ++ b_s cB cC cI cJ cZ oA rA res.2 ++ b_c cB cC cI cJ cZ oA rA res.2 ++ b_t cB cC cI cJ cZ oA rA res.2 ++ b_d cB cC cI cJ cZ oA rA res.2))) A) ([.ref (oA 3), .int p0] : List Value).toArray s 0 0 A) (F0 m 39 ls []) := by
      intro  σ_16 hF0 H locs hP hS ls hl
      subst ej_17
      have hF_19 := hF0
      clear hF0
      refine lv_iload_n hx hb dX4_bodyWord_39 rfl (lv_at hl 2 rfl) ?_
      refine lv_sipush (v := 252) hx hb dX4_bodyWord_40 (by decide +kernel) ?_
      refine lv_icmp_ne (tgt := 62) hx hb dX4_bodyWord_43 (by decide) (fun c_20 => ?_) (fun c_20 => ?_)
      · have hF_25 := ineg c_20 hF_19
        clear hF_19
        have h9 := Option.some.inj hF_25
        subst h9
        exact W.vret hx hb hr (fun t ht hW => ⟨⟨(), rfl, trivial, m_end ht hP, hDD _⟩, hS.F ht⟩) hS.2.2 dX4_bodyWord_62
      · have hF_21 := ipos c_20 hF_19
        clear hF_19
        refine lv_aload_n hx hb dX4_bodyWord_46 rfl (lv_at hl 0 rfl) ?_
        refine va_get (D := (dC, dI)) (ci := 4) (v := .int ((σ_16 3).1 12)) (C := RX4) (T := TX4) (N := 18) hx hb hts ii_X4 hown hK hP 0 rfl rfl 12 (by decide) (hts (.fieldLink RX4 63 "StoryHouse$Meanings" "routine" "I") wq_98) (fun _ h9 => h9) rfl dX4_bodyWord_47 ?_
        refine lv_sipush (v := 235) hx hb dX4_bodyWord_50 (by decide +kernel) ?_
        refine lv_icmp_ne (tgt := 62) hx hb dX4_bodyWord_53 (by decide) (fun c_22 => ?_) (fun c_22 => ?_)
        · have hF_24 := ineg c_22 hF_21
          clear hF_21
          have h9 := Option.some.inj hF_24
          subst h9
          exact W.vret hx hb hr (fun t ht hW => ⟨⟨(), rfl, trivial, m_end ht hP, hDD _⟩, hS.F ht⟩) hS.2.2 dX4_bodyWord_62
        · have hF_23 := ipos c_22 hF_21
          clear hF_21
          exact Jj_11  σ_16 hF_23 _ _ hP hS ls (lv_sub hl [0, 1] rfl)
    refine lv_icmp_ne (tgt := 39) hx hb dX4_bodyWord_26 (by decide) (fun c_26 => ?_) (fun c_26 => ?_)
    · have hF_31 := ineg c_26 hF_18
      clear hF_18
      exact Jj_17  σ_3 hF_31 _ _ hP hS ls (lv_sub hl [1, 2, 0] rfl)
    · have hF_27 := ipos c_26 hF_18
      clear hF_18
      refine lv_aload_n hx hb dX4_bodyWord_29 rfl (lv_at hl 1 rfl) ?_
      refine va_get (D := (dC, dI)) (ci := 4) (v := .int ((σ_3 3).1 12)) (C := RX4) (T := TX4) (N := 18) hx hb hts ii_X4 hown hK hP 0 rfl rfl 12 (by decide) (hts (.fieldLink RX4 63 "StoryHouse$Meanings" "routine" "I") wq_98) (fun _ h9 => h9) rfl dX4_bodyWord_30 ?_
      refine lv_sipush (v := 235) hx hb dX4_bodyWord_33 (by decide +kernel) ?_
      refine lv_icmp_ne (tgt := 56) hx hb dX4_bodyWord_36 (by decide) (fun c_28 => ?_) (fun c_28 => ?_)
      · have hF_30 := ineg c_28 hF_27
        clear hF_27
        exact Jj_11  σ_3 hF_30 _ _ hP hS ls (lv_sub hl [1, 2] rfl)
      · have hF_29 := ipos c_28 hF_27
        clear hF_27
        exact Jj_17  σ_3 hF_29 _ _ hP hS ls (lv_sub hl [1, 2, 0] rfl)
  · have hF_6 := ipos c_5 hF_4
    clear hF_4
    refine lv_aload_n hx hb dX4_bodyWord_14 rfl (lv_at hl 1 rfl) ?_
    refine lv_iload_n hx hb dX4_bodyWord_15 rfl (lv_at hl 2 rfl) ?_
    obtain ⟨u_7, hu_7, hF_8⟩ := Option.bind_eq_some_iff.mp hF_6
    clear hF_6
    have hPc := bx_P (bs := [b_m cB cC cI cJ cZ oA rA σ_3, b_w cB cC cI cJ cZ oA rA σ_3, b_s cB cC cI cJ cZ oA rA σ_3, b_c cB cC cI cJ cZ oA rA σ_3, b_t cB cC cI cJ cZ oA rA σ_3, b_d cB cC cI cJ cZ oA rA σ_3]) (bs' := [b_m cB cC cI cJ cZ oA rA σ_3, b_w cB cC cI cJ cZ oA rA σ_3, b_s cB cC cI cJ cZ oA rA σ_3, b_c cB cC cI cJ cZ oA rA σ_3, b_t cB cC cI cJ cZ oA rA σ_3, b_d cB cC cI cJ cZ oA rA σ_3]) (ws' := (b_m cB cC cI cJ cZ oA rA σ_3 ++ b_w cB cC cI cJ cZ oA rA σ_3 ++ b_s cB cC cI cJ cZ oA rA σ_3 ++ b_c cB cC cI cJ cZ oA rA σ_3 ++ b_t cB cC cI cJ cZ oA rA σ_3 ++ b_d cB cC cI cJ cZ oA rA σ_3)) hP fl_6 fl_6 [0, 1, 2, 3, 4, 5] rfl
    have hDc := bx_D (bs := [b_m cB cC cI cJ cZ oA rA σ_3, b_w cB cC cI cJ cZ oA rA σ_3, b_s cB cC cI cJ cZ oA rA σ_3, b_c cB cC cI cJ cZ oA rA σ_3, b_t cB cC cI cJ cZ oA rA σ_3, b_d cB cC cI cJ cZ oA rA σ_3]) (bs' := [b_m cB cC cI cJ cZ oA rA σ_3, b_w cB cC cI cJ cZ oA rA σ_3, b_s cB cC cI cJ cZ oA rA σ_3, b_c cB cC cI cJ cZ oA rA σ_3, b_t cB cC cI cJ cZ oA rA σ_3, b_d cB cC cI cJ cZ oA rA σ_3]) (ws' := (b_m cB cC cI cJ cZ oA rA σ_3 ++ b_w cB cC cI cJ cZ oA rA σ_3 ++ b_s cB cC cI cJ cZ oA rA σ_3 ++ b_c cB cC cI cJ cZ oA rA σ_3 ++ b_t cB cC cI cJ cZ oA rA σ_3 ++ b_d cB cC cI cJ cZ oA rA σ_3)) (hDD σ_3) fl_6 fl_6 [0, 1, 2, 3, 4, 5] (by decide +kernel) rfl
    have hFc := bx_F (bs := [b_m cB cC cI cJ cZ oA rA σ_3, b_w cB cC cI cJ cZ oA rA σ_3, b_s cB cC cI cJ cZ oA rA σ_3, b_c cB cC cI cJ cZ oA rA σ_3, b_t cB cC cI cJ cZ oA rA σ_3, b_d cB cC cI cJ cZ oA rA σ_3]) (bs' := [b_m cB cC cI cJ cZ oA rA σ_3, b_w cB cC cI cJ cZ oA rA σ_3, b_s cB cC cI cJ cZ oA rA σ_3, b_c cB cC cI cJ cZ oA rA σ_3, b_t cB cC cI cJ cZ oA rA σ_3, b_d cB cC cI cJ cZ oA rA σ_3]) (wc := (b_m cB cC cI cJ cZ oA rA σ_3 ++ b_w cB cC cI cJ cZ oA rA σ_3 ++ b_s cB cC cI cJ cZ oA rA σ_3 ++ b_c cB cC cI cJ cZ oA rA σ_3 ++ b_t cB cC cI cJ cZ oA rA σ_3 ++ b_d cB cC cI cJ cZ oA rA σ_3)) (hDD σ_3) hS hA fl_6 fl_6 [0, 1, 2, 3, 4, 5] rfl
    refine g_ofv (wc := (b_m cB cC cI cJ cZ oA rA σ_3 ++ b_w cB cC cI cJ cZ oA rA σ_3 ++ b_s cB cC cI cJ cZ oA rA σ_3 ++ b_c cB cC cI cJ cZ oA rA σ_3 ++ b_t cB cC cI cJ cZ oA rA σ_3 ++ b_d cB cC cI cJ cZ oA rA σ_3)) (wr := ([] : va_W)) hP (hDD σ_3) hS hFc (bx_ix [b_m cB cC cI cJ cZ oA rA σ_3, b_w cB cC cI cJ cZ oA rA σ_3, b_s cB cC cI cJ cZ oA rA σ_3, b_c cB cC cI cJ cZ oA rA σ_3, b_t cB cC cI cJ cZ oA rA σ_3, b_d cB cC cI cJ cZ oA rA σ_3] [0, 1, 2, 3, 4, 5]) (bx_ix [b_m cB cC cI cJ cZ oA rA σ_3, b_w cB cC cI cJ cZ oA rA σ_3, b_s cB cC cI cJ cZ oA rA σ_3, b_c cB cC cI cJ cZ oA rA σ_3, b_t cB cC cI cJ cZ oA rA σ_3, b_d cB cC cI cJ cZ oA rA σ_3] []) (bx_C (bs := [b_m cB cC cI cJ cZ oA rA σ_3, b_w cB cC cI cJ cZ oA rA σ_3, b_s cB cC cI cJ cZ oA rA σ_3, b_c cB cC cI cJ cZ oA rA σ_3, b_t cB cC cI cJ cZ oA rA σ_3, b_d cB cC cI cJ cZ oA rA σ_3]) (bs' := [b_m cB cC cI cJ cZ oA rA σ_3, b_w cB cC cI cJ cZ oA rA σ_3, b_s cB cC cI cJ cZ oA rA σ_3, b_c cB cC cI cJ cZ oA rA σ_3, b_t cB cC cI cJ cZ oA rA σ_3, b_d cB cC cI cJ cZ oA rA σ_3]) (is := [0, 1, 2, 3, 4, 5]) fl_6 fl_6 rfl) (bx_C (bs := [b_m cB cC cI cJ cZ oA rA σ_3, b_w cB cC cI cJ cZ oA rA σ_3, b_s cB cC cI cJ cZ oA rA σ_3, b_c cB cC cI cJ cZ oA rA σ_3, b_t cB cC cI cJ cZ oA rA σ_3, b_d cB cC cI cJ cZ oA rA σ_3]) (bs' := []) (is := []) fl_6 fl_0 rfl) (bx_n (by decide +kernel)) (bx_d (by decide +kernel)) (va_runV (As := [.int p0]) (rest := []) ⟨hx, hb, hml, hown, hts⟩ (k_X4_nameInBody l dC dI cB cC cI cJ cZ cP oA rA H.size  p0 σ_3 _ hu_7) (cwV 1 hts (g_gV wq_762 wq_763 wq_2049 wq_4 wq_764) rfl rfl rfl (by decide +kernel) ⟨Nat.le_of_ble_eq_true rfl, Nat.le_of_ble_eq_true rfl⟩) (g_preV g_bl0 hK hPc hDc hS hE hFc g_to0 (q0 := 0) (ci := 4) rfl rfl) rfl rfl hl.1 rfl (lv_room (Nat.le_of_ble_eq_true rfl)) dX4_bodyWord_16 ⟨Nat.le_of_ble_eq_true rfl, Nat.le_of_ble_eq_true rfl⟩) (fun u9 H locs hw9 hP' hD' hS => ?_)
    clear hPc hDc hFc
    have hP : va_P (dC, dI) vwCl (b_m cB cC cI cJ cZ oA rA u_7.2 ++ b_w cB cC cI cJ cZ oA rA u_7.2 ++ b_s cB cC cI cJ cZ oA rA u_7.2 ++ b_c cB cC cI cJ cZ oA rA u_7.2 ++ b_t cB cC cI cJ cZ oA rA u_7.2 ++ b_d cB cC cI cJ cZ oA rA u_7.2) H := hP'
    clear hP' hD'
    refine lv_goto (tgt := 62) hx hb dX4_bodyWord_19 (by decide) ?_
    have h9 := Option.some.inj hF_8
    subst h9
    exact W.vret hx hb hr (fun t ht hW => ⟨⟨(), rfl, trivial, m_end ht hP, hDD _⟩, hS.F ht⟩) hS.2.2 dX4_bodyWord_62
