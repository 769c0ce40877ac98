/-! methods of the class: what each does is its function -/
theorem dX4_tellVerb_0 : decode cX4_tellVerb 0 = .ok (.aload_n 0, 1) := by decide +kernel
theorem dX4_tellVerb_1 : decode cX4_tellVerb 1 = .ok (.iload_n 1, 1) := by decide +kernel
theorem dX4_tellVerb_2 : decode cX4_tellVerb 2 = .ok (.iconst 1, 1) := by decide +kernel
theorem dX4_tellVerb_3 : decode cX4_tellVerb 3 = .ok (.iadd, 1) := by decide +kernel
theorem dX4_tellVerb_4 : decode cX4_tellVerb 4 = .ok (.iconst 3, 1) := by decide +kernel
theorem dX4_tellVerb_5 : decode cX4_tellVerb 5 = .ok (.iconst 1, 1) := by decide +kernel
theorem dX4_tellVerb_6 : decode cX4_tellVerb 6 = .ok (.bipush 60, 2) := by decide +kernel
theorem dX4_tellVerb_8 : decode cX4_tellVerb 8 = .ok (.invokevirtual 138, 3) := by decide +kernel
theorem dX4_tellVerb_11 : decode cX4_tellVerb 11 = .ok (.aload_n 0, 1) := by decide +kernel
theorem dX4_tellVerb_12 : decode cX4_tellVerb 12 = .ok (.getfield 40, 3) := by decide +kernel
theorem dX4_tellVerb_15 : decode cX4_tellVerb 15 = .ok (.ifCond .ne 49, 3) := by decide +kernel
theorem dX4_tellVerb_18 : decode cX4_tellVerb 18 = .ok (.aload_n 0, 1) := by decide +kernel
theorem dX4_tellVerb_19 : decode cX4_tellVerb 19 = .ok (.iconst 0, 1) := by decide +kernel
theorem dX4_tellVerb_20 : decode cX4_tellVerb 20 = .ok (.putfield 142, 3) := by decide +kernel
theorem dX4_tellVerb_23 : decode cX4_tellVerb 23 = .ok (.aload_n 0, 1) := by decide +kernel
theorem dX4_tellVerb_24 : decode cX4_tellVerb 24 = .ok (.iload_n 1, 1) := by decide +kernel
theorem dX4_tellVerb_25 : decode cX4_tellVerb 25 = .ok (.iconst 2, 1) := by decide +kernel
theorem dX4_tellVerb_26 : decode cX4_tellVerb 26 = .ok (.iadd, 1) := by decide +kernel
theorem dX4_tellVerb_27 : decode cX4_tellVerb 27 = .ok (.invokevirtual 145, 3) := by decide +kernel
theorem dX4_tellVerb_30 : decode cX4_tellVerb 30 = .ok (.istore_n 2, 1) := by decide +kernel
theorem dX4_tellVerb_31 : decode cX4_tellVerb 31 = .ok (.aload_n 0, 1) := by decide +kernel
theorem dX4_tellVerb_32 : decode cX4_tellVerb 32 = .ok (.getfield 36, 3) := by decide +kernel
theorem dX4_tellVerb_35 : decode cX4_tellVerb 35 = .ok (.getfield 168, 3) := by decide +kernel
theorem dX4_tellVerb_38 : decode cX4_tellVerb 38 = .ok (.aload_n 0, 1) := by decide +kernel
theorem dX4_tellVerb_39 : decode cX4_tellVerb 39 = .ok (.getfield 36, 3) := by decide +kernel
theorem dX4_tellVerb_42 : decode cX4_tellVerb 42 = .ok (.getfield 165, 3) := by decide +kernel
theorem dX4_tellVerb_45 : decode cX4_tellVerb 45 = .ok (.iconst 1, 1) := by decide +kernel
theorem dX4_tellVerb_46 : decode cX4_tellVerb 46 = .ok (.invokestatic 122, 3) := by decide +kernel
theorem dX4_tellVerb_49 : decode cX4_tellVerb 49 = .ok (.aload_n 0, 1) := by decide +kernel
theorem dX4_tellVerb_50 : decode cX4_tellVerb 50 = .ok (.getfield 32, 3) := by decide +kernel
theorem dX4_tellVerb_53 : decode cX4_tellVerb 53 = .ok (.iload_n 2, 1) := by decide +kernel
theorem dX4_tellVerb_54 : decode cX4_tellVerb 54 = .ok (.invokevirtual 116, 3) := by decide +kernel
theorem dX4_tellVerb_57 : decode cX4_tellVerb 57 = .ok (.sipush 213, 3) := by decide +kernel
theorem dX4_tellVerb_60 : decode cX4_tellVerb 60 = .ok (.isub, 1) := by decide +kernel
theorem dX4_tellVerb_61 : decode cX4_tellVerb 61 = .ok (.invokestatic 112, 3) := by decide +kernel
theorem dX4_tellVerb_64 : decode cX4_tellVerb 64 = .ok (.return_, 1) := by decide +kernel
def F_X4_tellVerb (p0 : Int32) (Γ : HS) : HR :=
  (F_X4_tellItem (p0 + 1) 3 1 60 Γ).bind fun u_1 =>
  if ((u_1.2 3).1 16) = 0 then (
    bnd (cI' u_1.2 3 14 0) fun σ_5 =>
    (F_X4_countOwned (p0 + 2) σ_5).bind fun u_7 =>
    bnd ((g_at 7 ((u_7.2 4).2.1 0) 1)) fun (x_9 : Int32) =>
    (F_X10_kindOf u_7.1 u_7.2).bind fun u_11 =>
    bnd (mrg (fun j => j == 1) u_7.2 u_11.2) fun σ_13 =>
    bnd ((u_11.1 - 213)) fun (x_15 : Int32) =>
    bnd (cA' σ_13 4 7 (g_put 61 ((σ_13 4).2.1 7) x_9 x_15)) fun σ_17 =>
    some (0, σ_17)
  ) else (
    some (0, u_1.2)
  )
set_option maxHeartbeats 4000000 in
set_option maxRecDepth 100000 in
theorem k_X4_tellVerb (l : Launch) (dC : Nat → ClassId) (dI : Nat → Nat → Nat) (cB cC cI cJ cZ cP : ClassId) (oA : Nat → Nat) (rA : Nat → Nat → Nat) (sz : Nat)  (p0 : Int32) (Γ : HS) (res : Int32 × HS) (hF : F_X4_tellVerb p0 Γ = some res) : Met l yX4_tellVerb (g_ws yX4_tellVerb cX4_tellVerb 3 none) ({ frames := 6, cells := 0, slots := 0, locals := 149 }) (va_Pc [.ref (oA 3), .int p0] (g_B (dC, dI) [(cB, .byte), (cC, .char), (cI, .int), (cJ, .long), (cZ, .boolean), (cP, .object "StoryHouse$Play")] sz (b_m cB cC cI cJ cZ oA rA Γ ++ b_w cB cC cI cJ cZ oA rA Γ ++ b_s cB cC cI cJ cZ oA rA Γ ++ b_c cB cC cI cJ cZ oA rA Γ ++ b_t cB cC cI cJ cZ oA rA Γ ++ b_d cB cC cI cJ cZ oA rA Γ) g_0)) (va_Qv (fun (_ : Unit) => True) (g_Bo (dC, dI) (va_A (b_m cB cC cI cJ cZ oA rA Γ ++ b_w cB cC cI cJ cZ oA rA Γ ++ b_s cB cC cI cJ cZ oA rA Γ ++ b_c cB cC cI cJ cZ oA rA Γ ++ b_t cB cC cI cJ cZ oA rA Γ ++ b_d cB cC cI cJ cZ oA rA Γ) sz) (fun (_ : Unit) => (b_m cB cC cI cJ cZ oA rA res.2 ++ b_w cB cC cI cJ cZ oA rA res.2 ++ b_s cB cC cI cJ cZ oA rA res.2 ++ b_c cB cC cI cJ cZ oA rA res.2 ++ b_t cB cC cI cJ cZ oA rA res.2 ++ b_d cB cC cI cJ cZ oA rA res.2))) (va_A (b_m cB cC cI cJ cZ oA rA Γ ++ b_w cB cC cI cJ cZ oA rA Γ ++ b_s cB cC cI cJ cZ oA rA Γ ++ b_c cB cC cI cJ cZ oA rA Γ ++ b_t cB cC cI cJ cZ oA rA Γ ++ b_d cB cC cI cJ cZ oA rA Γ) sz)) 0 0 (va_A (b_m cB cC cI cJ cZ oA rA Γ ++ b_w cB cC cI cJ cZ oA rA Γ ++ b_s cB cC cI cJ cZ oA rA Γ ++ b_c cB cC cI cJ cZ oA rA Γ ++ b_t cB cC cI cJ cZ oA rA Γ ++ b_d cB cC cI cJ cZ oA rA Γ) sz) := by
  refine Met.ofW (cc := cX4_tellVerb) (maxL := 3) (ret := none) (by decide) rfl ?_
  intro p e s m args below meth c s₁ B hml hv
  obtain ⟨rfl, hsz, hP, hK, hD0, hE, hX⟩ := hv
  have hx := B.exec
  have hb := B.bytes
  have hr := B.returns
  have hts0 := atoms_spec (ws := g_ws yX4_tellVerb cX4_tellVerb 3 none) B.pre
  have hts : ∀ w ∈ lw_good, w.before ([.ref (oA 3), .int p0] : List Value).toArray s = true := fun w z => hts0 w (List.mem_cons_of_mem _ z)
  have hown : s.vm.findClass RX4 = some m.cls := findClass_of_methodNamed B.named
  have hlocks := B.notSynchronized
  subst hsz
  have hD1 := hD0.self (sz := s.heap.size)
  generalize hAe : va_A (b_m cB cC cI cJ cZ oA rA Γ ++ b_w cB cC cI cJ cZ oA rA Γ ++ b_s cB cC cI cJ cZ oA rA Γ ++ b_c cB cC cI cJ cZ oA rA Γ ++ b_t cB cC cI cJ cZ oA rA Γ ++ b_d cB cC cI cJ cZ oA rA Γ) s.heap.size = A at hD1 hE hX ⊢
  have hA : ∀ q : Nat, s.heap.size ≤ q → A q := fun q z => by rw [← hAe]; exact Or.inr z
  have hDD : ∀ Γ : HS, va_D A (b_m cB cC cI cJ cZ oA rA Γ ++ b_w cB cC cI cJ cZ oA rA Γ ++ b_s cB cC cI cJ cZ oA rA Γ ++ b_c cB cC cI cJ cZ oA rA Γ ++ b_t cB cC cI cJ cZ oA rA Γ ++ b_d cB cC cI cJ cZ oA rA Γ) := fun Γ9 => va_D_fst (ws := (b_m cB cC cI cJ cZ oA rA Γ ++ b_w cB cC cI cJ cZ oA rA Γ ++ b_s cB cC cI cJ cZ oA rA Γ ++ b_c cB cC cI cJ cZ oA rA Γ ++ b_t cB cC cI cJ cZ oA rA Γ ++ b_d cB cC cI cJ cZ oA rA Γ)) (ws' := (b_m cB cC cI cJ cZ oA rA Γ9 ++ b_w cB cC cI cJ cZ oA rA Γ9 ++ b_s cB cC cI cJ cZ oA rA Γ9 ++ b_c cB cC cI cJ cZ oA rA Γ9 ++ b_t cB cC cI cJ cZ oA rA Γ9 ++ b_d cB cC cI cJ cZ oA rA Γ9)) rfl hD1
  have hN := hE.1
  have hS : va_S A s.heap s.heap [] := va_S.rf
  have hl := lv_entry ([.ref (oA 3), .int p0]) (n := 3) (Nat.le_of_ble_eq_true rfl)
  rw [lg_entry_eq]
  generalize (lg_sl ([.ref (oA 3), .int p0]) ++ List.replicate (3 - (lg_sl ([.ref (oA 3), .int p0])).length) Slot.unset).toArray = ls at hl ⊢
  have hl : lv_has ls 3 [(0, .ref (oA 3)), (1, .int p0)] := hl
  unfold F_X4_tellVerb at hF
  refine lv_aload_n hx hb dX4_tellVerb_0 rfl (lv_at hl 0 rfl) ?_
  refine lv_iload_n hx hb dX4_tellVerb_1 rfl (lv_at hl 1 rfl) ?_
  refine lv_iconst (v := 1) hx hb dX4_tellVerb_2 (by decide +kernel) ?_
  refine lv_iadd hx hb dX4_tellVerb_3 ?_
  refine lv_iconst (v := 3) hx hb dX4_tellVerb_4 (by decide +kernel) ?_
  refine lv_iconst (v := 1) hx hb dX4_tellVerb_5 (by decide +kernel) ?_
  refine lv_bipush (v := 60) hx hb dX4_tellVerb_6 (by decide +kernel) ?_
  obtain ⟨u_1, hu_1, hF_2⟩ := Option.bind_eq_some_iff.mp hF
  clear hF
  have hPc := bx_P (bs := [b_m cB cC cI cJ cZ oA rA Γ, b_w cB cC cI cJ cZ oA rA Γ, b_s cB cC cI cJ cZ oA rA Γ, b_c cB cC cI cJ cZ oA rA Γ, b_t cB cC cI cJ cZ oA rA Γ, b_d cB cC cI cJ cZ oA rA Γ]) (bs' := [b_m cB cC cI cJ cZ oA rA Γ, b_w cB cC cI cJ cZ oA rA Γ, b_s cB cC cI cJ cZ oA rA Γ, b_c cB cC cI cJ cZ oA rA Γ, b_t cB cC cI cJ cZ oA rA Γ, b_d cB cC cI cJ cZ oA rA Γ]) (ws' := (b_m cB cC cI cJ cZ oA rA Γ ++ b_w cB cC cI cJ cZ oA rA Γ ++ b_s cB cC cI cJ cZ oA rA Γ ++ b_c cB cC cI cJ cZ oA rA Γ ++ b_t cB cC cI cJ cZ oA rA Γ ++ b_d cB cC cI cJ cZ oA rA Γ)) hP fl_6 fl_6 [0, 1, 2, 3, 4, 5] rfl
  have hDc := bx_D (bs := [b_m cB cC cI cJ cZ oA rA Γ, b_w cB cC cI cJ cZ oA rA Γ, b_s cB cC cI cJ cZ oA rA Γ, b_c cB cC cI cJ cZ oA rA Γ, b_t cB cC cI cJ cZ oA rA Γ, b_d cB cC cI cJ cZ oA rA Γ]) (bs' := [b_m cB cC cI cJ cZ oA rA Γ, b_w cB cC cI cJ cZ oA rA Γ, b_s cB cC cI cJ cZ oA rA Γ, b_c cB cC cI cJ cZ oA rA Γ, b_t cB cC cI cJ cZ oA rA Γ, b_d cB cC cI cJ cZ oA rA Γ]) (ws' := (b_m cB cC cI cJ cZ oA rA Γ ++ b_w cB cC cI cJ cZ oA rA Γ ++ b_s cB cC cI cJ cZ oA rA Γ ++ b_c cB cC cI cJ cZ oA rA Γ ++ b_t cB cC cI cJ cZ oA rA Γ ++ b_d cB cC cI cJ cZ oA rA Γ)) (hDD Γ) fl_6 fl_6 [0, 1, 2, 3, 4, 5] (by decide +kernel) rfl
  have hFc := bx_F (bs := [b_m cB cC cI cJ cZ oA rA Γ, b_w cB cC cI cJ cZ oA rA Γ, b_s cB cC cI cJ cZ oA rA Γ, b_c cB cC cI cJ cZ oA rA Γ, b_t cB cC cI cJ cZ oA rA Γ, b_d cB cC cI cJ cZ oA rA Γ]) (bs' := [b_m cB cC cI cJ cZ oA rA Γ, b_w cB cC cI cJ cZ oA rA Γ, b_s cB cC cI cJ cZ oA rA Γ, b_c cB cC cI cJ cZ oA rA Γ, b_t cB cC cI cJ cZ oA rA Γ, b_d cB cC cI cJ cZ oA rA Γ]) (wc := (b_m cB cC cI cJ cZ oA rA Γ ++ b_w cB cC cI cJ cZ oA rA Γ ++ b_s cB cC cI cJ cZ oA rA Γ ++ b_c cB cC cI cJ cZ oA rA Γ ++ b_t cB cC cI cJ cZ oA rA Γ ++ b_d cB cC cI cJ cZ oA rA Γ)) (hDD Γ) hS hA fl_6 fl_6 [0, 1, 2, 3, 4, 5] rfl
  refine g_ofv (wc := (b_m cB cC cI cJ cZ oA rA Γ ++ b_w cB cC cI cJ cZ oA rA Γ ++ b_s cB cC cI cJ cZ oA rA Γ ++ b_c cB cC cI cJ cZ oA rA Γ ++ b_t cB cC cI cJ cZ oA rA Γ ++ b_d cB cC cI cJ cZ oA rA Γ)) (wr := ([] : va_W)) hP (hDD Γ) hS hFc (bx_ix [b_m cB cC cI cJ cZ oA rA Γ, b_w cB cC cI cJ cZ oA rA Γ, b_s cB cC cI cJ cZ oA rA Γ, b_c cB cC cI cJ cZ oA rA Γ, b_t cB cC cI cJ cZ oA rA Γ, b_d cB cC cI cJ cZ oA rA Γ] [0, 1, 2, 3, 4, 5]) (bx_ix [b_m cB cC cI cJ cZ oA rA Γ, b_w cB cC cI cJ cZ oA rA Γ, b_s cB cC cI cJ cZ oA rA Γ, b_c cB cC cI cJ cZ oA rA Γ, b_t cB cC cI cJ cZ oA rA Γ, b_d cB cC cI cJ cZ oA rA Γ] []) (bx_C (bs := [b_m cB cC cI cJ cZ oA rA Γ, b_w cB cC cI cJ cZ oA rA Γ, b_s cB cC cI cJ cZ oA rA Γ, b_c cB cC cI cJ cZ oA rA Γ, b_t cB cC cI cJ cZ oA rA Γ, b_d cB cC cI cJ cZ oA rA Γ]) (bs' := [b_m cB cC cI cJ cZ oA rA Γ, b_w cB cC cI cJ cZ oA rA Γ, b_s cB cC cI cJ cZ oA rA Γ, b_c cB cC cI cJ cZ oA rA Γ, b_t cB cC cI cJ cZ oA rA Γ, b_d cB cC cI cJ cZ oA rA Γ]) (is := [0, 1, 2, 3, 4, 5]) fl_6 fl_6 rfl) (bx_C (bs := [b_m cB cC cI cJ cZ oA rA Γ, b_w cB cC cI cJ cZ oA rA Γ, b_s cB cC cI cJ cZ oA rA Γ, b_c cB cC cI cJ cZ oA rA Γ, b_t cB cC cI cJ cZ oA rA Γ, b_d cB cC cI cJ cZ oA rA Γ]) (bs' := []) (is := []) fl_6 fl_0 rfl) (bx_n (by decide +kernel)) (bx_d (by decide +kernel)) (va_runV (As := [.int (p0 + 1), .int 3, .int 1, .int 60]) (rest := []) ⟨hx, hb, hml, hown, hts⟩ (k_X4_tellItem l dC dI cB cC cI cJ cZ cP oA rA s.heap.size  (p0 + 1) 3 1 60 Γ _ hu_1) (cwV 4 hts (g_gV wq_722 wq_723 wq_2036 wq_4 wq_724) rfl rfl rfl (by decide +kernel) ⟨Nat.le_of_ble_eq_true rfl, Nat.le_of_ble_eq_true rfl⟩) (g_preV g_bl0 hK hPc hDc hS hE hFc g_to0 (q0 := 0) (ci := 4) rfl rfl) rfl rfl hl.1 rfl (lv_room (Nat.le_of_ble_eq_true rfl)) dX4_tellVerb_8 ⟨Nat.le_of_ble_eq_true rfl, Nat.le_of_ble_eq_true rfl⟩) (fun u9 H locs hw9 hP' hD' hS => ?_)
  clear hPc hDc hFc
  have hP : va_P (dC, dI) vwCl (b_m cB cC cI cJ cZ oA rA u_1.2 ++ b_w cB cC cI cJ cZ oA rA u_1.2 ++ b_s cB cC cI cJ cZ oA rA u_1.2 ++ b_c cB cC cI cJ cZ oA rA u_1.2 ++ b_t cB cC cI cJ cZ oA rA u_1.2 ++ b_d cB cC cI cJ cZ oA rA u_1.2) H := hP'
  clear hP' hD'
  refine lv_aload_n hx hb dX4_tellVerb_11 rfl (lv_at hl 0 rfl) ?_
  refine va_get (D := (dC, dI)) (ci := 4) (v := .int ((u_1.2 3).1 16)) (C := RX4) (T := TX4) (N := 18) hx hb hts ii_X4 hown hK hP 0 rfl rfl 16 (by decide) (hts (.fieldLink RX4 40 "StoryHouse$Meanings" "fault" "I") wq_102) (fun _ h9 => h9) rfl dX4_tellVerb_12 ?_
  refine lv_if_ne (tgt := 64) hx hb dX4_tellVerb_15 (by decide) (fun c_3 => ?_) (fun c_3 => ?_)
  · have hF_19 := ineg c_3 hF_2
    clear hF_2
    have h9 := Option.some.inj hF_19
    subst h9
    exact W.vret hx hb hr (fun t ht hW => ⟨⟨(), rfl, trivial, m_end ht hP, hDD _⟩, hS.F ht⟩) hS.2.2 dX4_tellVerb_64
  · have hF_4 := ipos c_3 hF_2
    clear hF_2
    refine lv_aload_n hx hb dX4_tellVerb_18 rfl (lv_at hl 0 rfl) ?_
    refine lv_iconst (v := 0) hx hb dX4_tellVerb_19 (by decide +kernel) ?_
    obtain ⟨σ_5, eσ_5, hF_6⟩ := bnd_e hF_4
    clear hF_4
    refine va_put (D := (dC, dI)) (ci := 4) (v := .int 0) (ty := .int) (C := RX4) (T := TX4) (N := 18) hx hb hts ii_X4 tyX4 tyX4_ok nmX4 hown hK hP (hDD _) hS 0 rfl rfl 14 (by decide) (hts (.fieldLink RX4 142 "StoryHouse$Meanings" "owned" "I") wq_100) (fun _ h9 => h9) rfl (by decide +kernel) rfl rfl (Nat.le_of_ble_eq_true rfl) dX4_tellVerb_20 (fun H locs hP' _ hS => ?_)
    have hP : va_P (dC, dI) vwCl (b_m cB cC cI cJ cZ oA rA σ_5 ++ b_w cB cC cI cJ cZ oA rA σ_5 ++ b_s cB cC cI cJ cZ oA rA σ_5 ++ b_c cB cC cI cJ cZ oA rA σ_5 ++ b_t cB cC cI cJ cZ oA rA σ_5 ++ b_d cB cC cI cJ cZ oA rA σ_5) H := by rw [eσ_5]; exact cs_mwsctd_m_14 ▸ hP'
    clear hP'
    refine lv_aload_n hx hb dX4_tellVerb_23 rfl (lv_at hl 0 rfl) ?_
    refine lv_iload_n hx hb dX4_tellVerb_24 rfl (lv_at hl 1 rfl) ?_
    refine lv_iconst (v := 2) hx hb dX4_tellVerb_25 (by decide +kernel) ?_
    refine lv_iadd hx hb dX4_tellVerb_26 ?_
    obtain ⟨u_7, hu_7, hF_8⟩ := Option.bind_eq_some_iff.mp hF_6
    clear hF_6
    have hPc := bx_P (bs := [b_m cB cC cI cJ cZ oA rA σ_5, b_w cB cC cI cJ cZ oA rA σ_5, b_s cB cC cI cJ cZ oA rA σ_5, b_c cB cC cI cJ cZ oA rA σ_5, b_t cB cC cI cJ cZ oA rA σ_5, b_d cB cC cI cJ cZ oA rA σ_5]) (bs' := [b_m cB cC cI cJ cZ oA rA σ_5, b_w cB cC cI cJ cZ oA rA σ_5, b_s cB cC cI cJ cZ oA rA σ_5, b_c cB cC cI cJ cZ oA rA σ_5, b_t cB cC cI cJ cZ oA rA σ_5, b_d cB cC cI cJ cZ oA rA σ_5]) (ws' := (b_m cB cC cI cJ cZ oA rA σ_5 ++ b_w cB cC cI cJ cZ oA rA σ_5 ++ b_s cB cC cI cJ cZ oA rA σ_5 ++ b_c cB cC cI cJ cZ oA rA σ_5 ++ b_t cB cC cI cJ cZ oA rA σ_5 ++ b_d cB cC cI cJ cZ oA rA σ_5)) hP fl_6 fl_6 [0, 1, 2, 3, 4, 5] rfl
    have hDc := bx_D (bs := [b_m cB cC cI cJ cZ oA rA σ_5, b_w cB cC cI cJ cZ oA rA σ_5, b_s cB cC cI cJ cZ oA rA σ_5, b_c cB cC cI cJ cZ oA rA σ_5, b_t cB cC cI cJ cZ oA rA σ_5, b_d cB cC cI cJ cZ oA rA σ_5]) (bs' := [b_m cB cC cI cJ cZ oA rA σ_5, b_w cB cC cI cJ cZ oA rA σ_5, b_s cB cC cI cJ cZ oA rA σ_5, b_c cB cC cI cJ cZ oA rA σ_5, b_t cB cC cI cJ cZ oA rA σ_5, b_d cB cC cI cJ cZ oA rA σ_5]) (ws' := (b_m cB cC cI cJ cZ oA rA σ_5 ++ b_w cB cC cI cJ cZ oA rA σ_5 ++ b_s cB cC cI cJ cZ oA rA σ_5 ++ b_c cB cC cI cJ cZ oA rA σ_5 ++ b_t cB cC cI cJ cZ oA rA σ_5 ++ b_d cB cC cI cJ cZ oA rA σ_5)) (hDD σ_5) fl_6 fl_6 [0, 1, 2, 3, 4, 5] (by decide +kernel) rfl
    have hFc := bx_F (bs := [b_m cB cC cI cJ cZ oA rA σ_5, b_w cB cC cI cJ cZ oA rA σ_5, b_s cB cC cI cJ cZ oA rA σ_5, b_c cB cC cI cJ cZ oA rA σ_5, b_t cB cC cI cJ cZ oA rA σ_5, b_d cB cC cI cJ cZ oA rA σ_5]) (bs' := [b_m cB cC cI cJ cZ oA rA σ_5, b_w cB cC cI cJ cZ oA rA σ_5, b_s cB cC cI cJ cZ oA rA σ_5, b_c cB cC cI cJ cZ oA rA σ_5, b_t cB cC cI cJ cZ oA rA σ_5, b_d cB cC cI cJ cZ oA rA σ_5]) (wc := (b_m cB cC cI cJ cZ oA rA σ_5 ++ b_w cB cC cI cJ cZ oA rA σ_5 ++ b_s cB cC cI cJ cZ oA rA σ_5 ++ b_c cB cC cI cJ cZ oA rA σ_5 ++ b_t cB cC cI cJ cZ oA rA σ_5 ++ b_d cB cC cI cJ cZ oA rA σ_5)) (hDD σ_5) hS hA fl_6 fl_6 [0, 1, 2, 3, 4, 5] rfl
    refine g_ofi (wc := (b_m cB cC cI cJ cZ oA rA σ_5 ++ b_w cB cC cI cJ cZ oA rA σ_5 ++ b_s cB cC cI cJ cZ oA rA σ_5 ++ b_c cB cC cI cJ cZ oA rA σ_5 ++ b_t cB cC cI cJ cZ oA rA σ_5 ++ b_d cB cC cI cJ cZ oA rA σ_5)) (wr := ([] : va_W)) hP (hDD σ_5) hS hFc (bx_ix [b_m cB cC cI cJ cZ oA rA σ_5, b_w cB cC cI cJ cZ oA rA σ_5, b_s cB cC cI cJ cZ oA rA σ_5, b_c cB cC cI cJ cZ oA rA σ_5, b_t cB cC cI cJ cZ oA rA σ_5, b_d cB cC cI cJ cZ oA rA σ_5] [0, 1, 2, 3, 4, 5]) (bx_ix [b_m cB cC cI cJ cZ oA rA σ_5, b_w cB cC cI cJ cZ oA rA σ_5, b_s cB cC cI cJ cZ oA rA σ_5, b_c cB cC cI cJ cZ oA rA σ_5, b_t cB cC cI cJ cZ oA rA σ_5, b_d cB cC cI cJ cZ oA rA σ_5] []) (bx_C (bs := [b_m cB cC cI cJ cZ oA rA σ_5, b_w cB cC cI cJ cZ oA rA σ_5, b_s cB cC cI cJ cZ oA rA σ_5, b_c cB cC cI cJ cZ oA rA σ_5, b_t cB cC cI cJ cZ oA rA σ_5, b_d cB cC cI cJ cZ oA rA σ_5]) (bs' := [b_m cB cC cI cJ cZ oA rA σ_5, b_w cB cC cI cJ cZ oA rA σ_5, b_s cB cC cI cJ cZ oA rA σ_5, b_c cB cC cI cJ cZ oA rA σ_5, b_t cB cC cI cJ cZ oA rA σ_5, b_d cB cC cI cJ cZ oA rA σ_5]) (is := [0, 1, 2, 3, 4, 5]) fl_6 fl_6 rfl) (bx_C (bs := [b_m cB cC cI cJ cZ oA rA σ_5, b_w cB cC cI cJ cZ oA rA σ_5, b_s cB cC cI cJ cZ oA rA σ_5, b_c cB cC cI cJ cZ oA rA σ_5, b_t cB cC cI cJ cZ oA rA σ_5, b_d cB cC cI cJ cZ oA rA σ_5]) (bs' := []) (is := []) fl_6 fl_0 rfl) (bx_n (by decide +kernel)) (bx_d (by decide +kernel)) (va_runV (As := [.int (p0 + 2)]) (rest := []) ⟨hx, hb, hml, hown, hts⟩ (k_X4_countOwned l dC dI cB cC cI cJ cZ cP oA rA H.size  (p0 + 2) σ_5 _ hu_7) (cwV 1 hts (g_gV wq_729 wq_730 wq_2038 wq_4 wq_731) rfl rfl rfl (by decide +kernel) ⟨Nat.le_of_ble_eq_true rfl, Nat.le_of_ble_eq_true rfl⟩) (g_preV g_bl0 hK hPc hDc hS hE hFc g_to0 (q0 := 0) (ci := 4) rfl rfl) rfl rfl hl.1 rfl (lv_room (Nat.le_of_ble_eq_true rfl)) dX4_tellVerb_27 ⟨Nat.le_of_ble_eq_true rfl, Nat.le_of_ble_eq_true rfl⟩) (fun r9 u9 H locs hw9 hP' hD' hS => ?_)
    clear hPc hDc hFc
    subst hw9
    have hP : va_P (dC, dI) vwCl (b_m cB cC cI cJ cZ oA rA u_7.2 ++ b_w cB cC cI cJ cZ oA rA u_7.2 ++ b_s cB cC cI cJ cZ oA rA u_7.2 ++ b_c cB cC cI cJ cZ oA rA u_7.2 ++ b_t cB cC cI cJ cZ oA rA u_7.2 ++ b_d cB cC cI cJ cZ oA rA u_7.2) H := hP'
    clear hP' hD'
    refine lv_istore_n (lv' := [(2, .int u_7.1), (0, .ref (oA 3)), (1, .int p0)]) hx hb dX4_tellVerb_30 rfl hl (by decide) rfl (fun ls hl => ?_)
    refine lv_aload_n hx hb dX4_tellVerb_31 rfl (lv_at hl 1 rfl) ?_
    refine va_get (D := (dC, dI)) (ci := 4) (v := .ref (oA 4)) (C := RX4) (T := TX4) (N := 18) hx hb hts ii_X4 hown hK hP 0 rfl rfl 1 (by decide) (hts (.fieldLink RX4 36 "StoryHouse$Meanings" "story" "LStoryHouse$Story;") wq_87) (fun _ h9 => h9) rfl dX4_tellVerb_32 ?_
    refine va_get (D := (dC, dI)) (ci := 7) (v := .ref (rA 4 7)) (C := RX7) (T := TX7) (N := 19) hx hb hts ii_X7 hown hK hP 16 rfl rfl 7 (by decide) (hts (.fieldLink RX4 168 "StoryHouse$Story" "forms" "[I") wq_171) (fun _ h9 => h9) rfl dX4_tellVerb_35 ?_
    refine lv_aload_n hx hb dX4_tellVerb_38 rfl (lv_at hl 1 rfl) ?_
    refine va_get (D := (dC, dI)) (ci := 4) (v := .ref (oA 4)) (C := RX4) (T := TX4) (N := 18) hx hb hts ii_X4 hown hK hP 0 rfl rfl 1 (by decide) (hts (.fieldLink RX4 36 "StoryHouse$Meanings" "story" "LStoryHouse$Story;") wq_87) (fun _ h9 => h9) rfl dX4_tellVerb_39 ?_
    refine va_get (D := (dC, dI)) (ci := 7) (v := .ref (rA 4 0)) (C := RX7) (T := TX7) (N := 19) hx hb hts ii_X7 hown hK hP 16 rfl rfl 0 (by decide) (hts (.fieldLink RX4 165 "StoryHouse$Story" "counts" "[I") wq_154) (fun _ h9 => h9) rfl dX4_tellVerb_42 ?_
    refine lv_iconst (v := 1) hx hb dX4_tellVerb_45 (by decide +kernel) ?_
    have hq9 : ((b_m cB cC cI cJ cZ oA rA u_7.2 ++ b_w cB cC cI cJ cZ oA rA u_7.2 ++ b_s cB cC cI cJ cZ oA rA u_7.2 ++ b_c cB cC cI cJ cZ oA rA u_7.2 ++ b_t cB cC cI cJ cZ oA rA u_7.2 ++ b_d cB cC cI cJ cZ oA rA u_7.2))[17]? = some (rA 4 0, .inl (cI, 7, .inl ((u_7.2 4).2.1 0))) := rfl
    have hPc := hP.sub (ws' := [(rA 4 0, .inl (cI, 7, .inl ((u_7.2 4).2.1 0)))]) [17] (pk_fm (er_C hq9))
    have hDc := (hDD u_7.2).sub (ws' := [(rA 4 0, .inl (cI, 7, .inl ((u_7.2 4).2.1 0)))]) [17] (by decide +kernel) (er_C hq9)
    have hFc := va_free (wc := [(rA 4 0, .inl (cI, 7, .inl ((u_7.2 4).2.1 0)))]) (hDD u_7.2) hS hA [17] (er_C hq9)
    refine g_ofi (wc := [(rA 4 0, .inl (cI, 7, .inl ((u_7.2 4).2.1 0)))]) (wr := (((b_m cB cC cI cJ cZ oA rA u_7.2 ++ b_w cB cC cI cJ cZ oA rA u_7.2 ++ b_s cB cC cI cJ cZ oA rA u_7.2 ++ b_c cB cC cI cJ cZ oA rA u_7.2 ++ b_t cB cC cI cJ cZ oA rA u_7.2 ++ b_d cB cC cI cJ cZ oA rA u_7.2)).eraseIdx 17)) hP (hDD u_7.2) hS hFc [17] ((List.range ((b_m cB cC cI cJ cZ oA rA u_7.2 ++ b_w cB cC cI cJ cZ oA rA u_7.2 ++ b_s cB cC cI cJ cZ oA rA u_7.2 ++ b_c cB cC cI cJ cZ oA rA u_7.2 ++ b_t cB cC cI cJ cZ oA rA u_7.2 ++ b_d cB cC cI cJ cZ oA rA u_7.2)).length).eraseIdx 17) (er_C hq9) er_R er_n er_d (va_runSN (As := [.ref (rA 4 0), .int 1]) (rest := [.ref (rA 4 7)]) ⟨hx, hb, hml, hown, hts⟩ (c_X11_at l dC dI cB cC cI cJ cZ cP H.size (rA 4 0) 1 7 ((u_7.2 4).2.1 0) (by decide)) ⟨va_cnB 2 hts (g_gA wq_407) rfl rfl rfl (nw_24 hN) (hts (.initialized RX11) wq_1) (by decide +kernel) ⟨Nat.le_of_ble_eq_true rfl, Nat.le_of_ble_eq_true rfl⟩, (hts (.static yX11_at) wq_406), trivial⟩ (g_preS g_bl0 hK hPc hDc hS hE hFc g_to0) rfl rfl hl.1 rfl (lv_room (Nat.le_of_ble_eq_true rfl)) dX4_tellVerb_46 ⟨Nat.le_of_ble_eq_true rfl, Nat.le_of_ble_eq_true rfl⟩) (fun r9 u9 H locs hw9 hP' hD' hS => ?_)
    clear hPc hDc hFc hD'
    have hP : va_P (dC, dI) vwCl (b_m cB cC cI cJ cZ oA rA u_7.2 ++ b_w cB cC cI cJ cZ oA rA u_7.2 ++ b_s cB cC cI cJ cZ oA rA u_7.2 ++ b_c cB cC cI cJ cZ oA rA u_7.2 ++ b_t cB cC cI cJ cZ oA rA u_7.2 ++ b_d cB cC cI cJ cZ oA rA u_7.2) H := er_I hP' hq9
    clear hP' hq9
    subst hw9
    obtain ⟨x_9, ex_9, hF_10⟩ := bnd_e hF_8
    clear hF_8
    refine m_top ex_9 ?_
    refine lv_aload_n hx hb dX4_tellVerb_49 rfl (lv_at hl 1 rfl) ?_
    refine va_get (D := (dC, dI)) (ci := 4) (v := .ref (oA 1)) (C := RX4) (T := TX4) (N := 18) hx hb hts ii_X4 hown hK hP 0 rfl rfl 0 (by decide) (hts (.fieldLink RX4 32 "StoryHouse$Meanings" "words" "LStoryHouse$Words;") wq_86) (fun _ h9 => h9) rfl dX4_tellVerb_50 ?_
    refine lv_iload_n hx hb dX4_tellVerb_53 rfl (lv_at hl 0 rfl) ?_
    obtain ⟨u_11, hu_11, hF_12⟩ := Option.bind_eq_some_iff.mp hF_10
    clear hF_10
    have hPc := bx_P (bs := [b_m cB cC cI cJ cZ oA rA u_7.2, b_w cB cC cI cJ cZ oA rA u_7.2, b_s cB cC cI cJ cZ oA rA u_7.2, b_c cB cC cI cJ cZ oA rA u_7.2, b_t cB cC cI cJ cZ oA rA u_7.2, b_d cB cC cI cJ cZ oA rA u_7.2]) (bs' := [b_w cB cC cI cJ cZ oA rA u_7.2]) (ws' := (b_w cB cC cI cJ cZ oA rA u_7.2)) hP fl_6 fl_1 [1] rfl
    have hDc := bx_D (bs := [b_m cB cC cI cJ cZ oA rA u_7.2, b_w cB cC cI cJ cZ oA rA u_7.2, b_s cB cC cI cJ cZ oA rA u_7.2, b_c cB cC cI cJ cZ oA rA u_7.2, b_t cB cC cI cJ cZ oA rA u_7.2, b_d cB cC cI cJ cZ oA rA u_7.2]) (bs' := [b_w cB cC cI cJ cZ oA rA u_7.2]) (ws' := (b_w cB cC cI cJ cZ oA rA u_7.2)) (hDD u_7.2) fl_6 fl_1 [1] (by decide +kernel) rfl
    have hFc := bx_F (bs := [b_m cB cC cI cJ cZ oA rA u_7.2, b_w cB cC cI cJ cZ oA rA u_7.2, b_s cB cC cI cJ cZ oA rA u_7.2, b_c cB cC cI cJ cZ oA rA u_7.2, b_t cB cC cI cJ cZ oA rA u_7.2, b_d cB cC cI cJ cZ oA rA u_7.2]) (bs' := [b_w cB cC cI cJ cZ oA rA u_7.2]) (wc := (b_w cB cC cI cJ cZ oA rA u_7.2)) (hDD u_7.2) hS hA fl_6 fl_1 [1] rfl
    refine g_ofi (wc := (b_w cB cC cI cJ cZ oA rA u_7.2)) (wr := (b_m cB cC cI cJ cZ oA rA u_7.2 ++ b_s cB cC cI cJ cZ oA rA u_7.2 ++ b_c cB cC cI cJ cZ oA rA u_7.2 ++ b_t cB cC cI cJ cZ oA rA u_7.2 ++ b_d cB cC cI cJ cZ oA rA u_7.2)) hP (hDD u_7.2) hS hFc (bx_ix [b_m cB cC cI cJ cZ oA rA u_7.2, b_w cB cC cI cJ cZ oA rA u_7.2, b_s cB cC cI cJ cZ oA rA u_7.2, b_c cB cC cI cJ cZ oA rA u_7.2, b_t cB cC cI cJ cZ oA rA u_7.2, b_d cB cC cI cJ cZ oA rA u_7.2] [1]) (bx_ix [b_m cB cC cI cJ cZ oA rA u_7.2, b_w cB cC cI cJ cZ oA rA u_7.2, b_s cB cC cI cJ cZ oA rA u_7.2, b_c cB cC cI cJ cZ oA rA u_7.2, b_t cB cC cI cJ cZ oA rA u_7.2, b_d cB cC cI cJ cZ oA rA u_7.2] [0, 2, 3, 4, 5]) (bx_C (bs := [b_m cB cC cI cJ cZ oA rA u_7.2, b_w cB cC cI cJ cZ oA rA u_7.2, b_s cB cC cI cJ cZ oA rA u_7.2, b_c cB cC cI cJ cZ oA rA u_7.2, b_t cB cC cI cJ cZ oA rA u_7.2, b_d cB cC cI cJ cZ oA rA u_7.2]) (bs' := [b_w cB cC cI cJ cZ oA rA u_7.2]) (is := [1]) fl_6 fl_1 rfl) (bx_C (bs := [b_m cB cC cI cJ cZ oA rA u_7.2, b_w cB cC cI cJ cZ oA rA u_7.2, b_s cB cC cI cJ cZ oA rA u_7.2, b_c cB cC cI cJ cZ oA rA u_7.2, b_t cB cC cI cJ cZ oA rA u_7.2, b_d cB cC cI cJ cZ oA rA u_7.2]) (bs' := [b_m cB cC cI cJ cZ oA rA u_7.2, b_s cB cC cI cJ cZ oA rA u_7.2, b_c cB cC cI cJ cZ oA rA u_7.2, b_t cB cC cI cJ cZ oA rA u_7.2, b_d cB cC cI cJ cZ oA rA u_7.2]) (is := [0, 2, 3, 4, 5]) fl_6 fl_5 rfl) (bx_n (by decide +kernel)) (bx_d (by decide +kernel)) (va_runV (As := [.int u_7.1]) (rest := [.int x_9, .ref (rA 4 7)]) ⟨hx, hb, hml, hown, hts⟩ (k_X10_kindOf l dC dI cB cC cI cJ cZ cP oA rA H.size  u_7.1 u_7.2 _ hu_11) (cwV 1 hts (g_gV wq_714 wq_543 wq_544 wq_2 wq_545) rfl rfl rfl (by decide +kernel) ⟨Nat.le_of_ble_eq_true rfl, Nat.le_of_ble_eq_true rfl⟩) (g_preV g_bl0 hK hPc hDc hS hE hFc g_to0 (q0 := 0) (ci := 10) rfl rfl) rfl rfl hl.1 rfl (lv_room (Nat.le_of_ble_eq_true rfl)) dX4_tellVerb_54 ⟨Nat.le_of_ble_eq_true rfl, Nat.le_of_ble_eq_true rfl⟩) (fun r9 u9 H locs hw9 hP' hD' hS => ?_)
    clear hPc hDc hFc
    subst hw9
    obtain ⟨σ_13, eσ_13, hF_14⟩ := bnd_e hF_12
    clear hF_12
    have hP : va_P (dC, dI) vwCl (b_m cB cC cI cJ cZ oA rA σ_13 ++ b_w cB cC cI cJ cZ oA rA σ_13 ++ b_s cB cC cI cJ cZ oA rA σ_13 ++ b_c cB cC cI cJ cZ oA rA σ_13 ++ b_t cB cC cI cJ cZ oA rA σ_13 ++ b_d cB cC cI cJ cZ oA rA σ_13) H := by rw [eσ_13]; exact bx_P (bs := [b_m cB cC cI cJ cZ oA rA u_7.2, b_s cB cC cI cJ cZ oA rA u_7.2, b_c cB cC cI cJ cZ oA rA u_7.2, b_t cB cC cI cJ cZ oA rA u_7.2, b_d cB cC cI cJ cZ oA rA u_7.2] ++ [b_w cB cC cI cJ cZ oA rA u_11.2]) (bs' := [b_m cB cC cI cJ cZ oA rA (mrg (fun j => j == 1) u_7.2 u_11.2), b_w cB cC cI cJ cZ oA rA (mrg (fun j => j == 1) u_7.2 u_11.2), b_s cB cC cI cJ cZ oA rA (mrg (fun j => j == 1) u_7.2 u_11.2), b_c cB cC cI cJ cZ oA rA (mrg (fun j => j == 1) u_7.2 u_11.2), b_t cB cC cI cJ cZ oA rA (mrg (fun j => j == 1) u_7.2 u_11.2), b_d cB cC cI cJ cZ oA rA (mrg (fun j => j == 1) u_7.2 u_11.2)]) hP' (fl_a fl_5 fl_1) fl_6 [0, 5, 1, 2, 3, 4] rfl
    clear hP' hD'
    refine lv_sipush (v := 213) hx hb dX4_tellVerb_57 (by decide +kernel) ?_
    refine lv_isub hx hb dX4_tellVerb_60 ?_
    obtain ⟨x_15, ex_15, hF_16⟩ := bnd_e hF_14
    clear hF_14
    refine m_top ex_15 ?_
    have hq9 : ((b_m cB cC cI cJ cZ oA rA σ_13 ++ b_w cB cC cI cJ cZ oA rA σ_13 ++ b_s cB cC cI cJ cZ oA rA σ_13 ++ b_c cB cC cI cJ cZ oA rA σ_13 ++ b_t cB cC cI cJ cZ oA rA σ_13 ++ b_d cB cC cI cJ cZ oA rA σ_13))[24]? = some (rA 4 7, .inl (cI, 61, .inl ((σ_13 4).2.1 7))) := rfl
    have hPc := hP.sub (ws' := [(rA 4 7, .inl (cI, 61, .inl ((σ_13 4).2.1 7)))]) [24] (pk_fm (er_C hq9))
    have hDc := (hDD σ_13).sub (ws' := [(rA 4 7, .inl (cI, 61, .inl ((σ_13 4).2.1 7)))]) [24] (by decide +kernel) (er_C hq9)
    have hFc := va_free (wc := [(rA 4 7, .inl (cI, 61, .inl ((σ_13 4).2.1 7)))]) (hDD σ_13) hS hA [24] (er_C hq9)
    refine g_ofv (wc := [(rA 4 7, .inl (cI, 61, .inl ((σ_13 4).2.1 7)))]) (wr := (((b_m cB cC cI cJ cZ oA rA σ_13 ++ b_w cB cC cI cJ cZ oA rA σ_13 ++ b_s cB cC cI cJ cZ oA rA σ_13 ++ b_c cB cC cI cJ cZ oA rA σ_13 ++ b_t cB cC cI cJ cZ oA rA σ_13 ++ b_d cB cC cI cJ cZ oA rA σ_13)).eraseIdx 24)) hP (hDD σ_13) hS hFc [24] ((List.range ((b_m cB cC cI cJ cZ oA rA σ_13 ++ b_w cB cC cI cJ cZ oA rA σ_13 ++ b_s cB cC cI cJ cZ oA rA σ_13 ++ b_c cB cC cI cJ cZ oA rA σ_13 ++ b_t cB cC cI cJ cZ oA rA σ_13 ++ b_d cB cC cI cJ cZ oA rA σ_13)).length).eraseIdx 24) (er_C hq9) er_R er_n er_d (va_runSN (As := [.ref (rA 4 7), .int x_9, .int x_15]) (rest := []) ⟨hx, hb, hml, hown, hts⟩ (c_X11_put l dC dI cB cC cI cJ cZ cP H.size (rA 4 7) x_9 x_15 61 ((σ_13 4).2.1 7) (by decide)) ⟨va_cnB 3 hts (g_gA wq_412) rfl rfl rfl (nw_23 hN) (hts (.initialized RX11) wq_1) (by decide +kernel) ⟨Nat.le_of_ble_eq_true rfl, Nat.le_of_ble_eq_true rfl⟩, (hts (.static yX11_put) wq_411), trivial⟩ (g_preS g_bl0 hK hPc hDc hS hE hFc g_to0) rfl rfl hl.1 rfl (lv_room (Nat.le_of_ble_eq_true rfl)) dX4_tellVerb_61 ⟨Nat.le_of_ble_eq_true rfl, Nat.le_of_ble_eq_true rfl⟩) (fun g9 H locs hw9 hP' hD' hS => ?_)
    clear hPc hDc hFc hD'
    obtain ⟨σ_17, eσ_17, hF_18⟩ := bnd_e hF_16
    clear hF_16
    subst hw9
    have hP : va_P (dC, dI) vwCl (b_m cB cC cI cJ cZ oA rA σ_17 ++ b_w cB cC cI cJ cZ oA rA σ_17 ++ b_s cB cC cI cJ cZ oA rA σ_17 ++ b_c cB cC cI cJ cZ oA rA σ_17 ++ b_t cB cC cI cJ cZ oA rA σ_17 ++ b_d cB cC cI cJ cZ oA rA σ_17) H := by rw [eσ_17]; exact cs_mwsctd_s_7 ▸ er_P hP' (er_lt hq9)
    clear hP' hq9
    have h9 := Option.some.inj hF_18
    subst h9
    exact W.vret hx hb hr (fun t ht hW => ⟨⟨(), rfl, trivial, m_end ht hP, hDD _⟩, hS.F ht⟩) hS.2.2 dX4_tellVerb_64
theorem dX4_tellWord_0 : decode cX4_tellWord 0 = .ok (.aload_n 0, 1) := by decide +kernel
theorem dX4_tellWord_1 : decode cX4_tellWord 1 = .ok (.getfield 32, 3) := by decide +kernel
theorem dX4_tellWord_4 : decode cX4_tellWord 4 = .ok (.iload_n 1, 1) := by decide +kernel
theorem dX4_tellWord_5 : decode cX4_tellWord 5 = .ok (.invokevirtual 116, 3) := by decide +kernel
theorem dX4_tellWord_8 : decode cX4_tellWord 8 = .ok (.tableswitch 198 230 242 #[68, 82, 112, 120, 134, 142, 150, 162, 198, 198, 101, 198, 174], 68) := by decide +kernel
theorem dX4_tellWord_76 : decode cX4_tellWord 76 = .ok (.aload_n 0, 1) := by decide +kernel
theorem dX4_tellWord_77 : decode cX4_tellWord 77 = .ok (.iload_n 1, 1) := by decide +kernel
theorem dX4_tellWord_78 : decode cX4_tellWord 78 = .ok (.iconst 1, 1) := by decide +kernel
theorem dX4_tellWord_79 : decode cX4_tellWord 79 = .ok (.iadd, 1) := by decide +kernel
theorem dX4_tellWord_80 : decode cX4_tellWord 80 = .ok (.iconst 1, 1) := by decide +kernel
theorem dX4_tellWord_81 : decode cX4_tellWord 81 = .ok (.iconst 0, 1) := by decide +kernel
theorem dX4_tellWord_82 : decode cX4_tellWord 82 = .ok (.bipush 120, 2) := by decide +kernel
theorem dX4_tellWord_84 : decode cX4_tellWord 84 = .ok (.invokevirtual 138, 3) := by decide +kernel
theorem dX4_tellWord_87 : decode cX4_tellWord 87 = .ok (.goto 119, 3) := by decide +kernel
theorem dX4_tellWord_90 : decode cX4_tellWord 90 = .ok (.aload_n 0, 1) := by decide +kernel
theorem dX4_tellWord_91 : decode cX4_tellWord 91 = .ok (.iload_n 1, 1) := by decide +kernel
theorem dX4_tellWord_92 : decode cX4_tellWord 92 = .ok (.iconst 1, 1) := by decide +kernel
theorem dX4_tellWord_93 : decode cX4_tellWord 93 = .ok (.iadd, 1) := by decide +kernel
theorem dX4_tellWord_94 : decode cX4_tellWord 94 = .ok (.iconst 2, 1) := by decide +kernel
theorem dX4_tellWord_95 : decode cX4_tellWord 95 = .ok (.iconst 0, 1) := by decide +kernel
theorem dX4_tellWord_96 : decode cX4_tellWord 96 = .ok (.bipush 120, 2) := by decide +kernel
theorem dX4_tellWord_98 : decode cX4_tellWord 98 = .ok (.invokevirtual 138, 3) := by decide +kernel
theorem dX4_tellWord_101 : decode cX4_tellWord 101 = .ok (.aload_n 0, 1) := by decide +kernel
theorem dX4_tellWord_102 : decode cX4_tellWord 102 = .ok (.iconst 0, 1) := by decide +kernel
theorem dX4_tellWord_103 : decode cX4_tellWord 103 = .ok (.putfield 142, 3) := by decide +kernel
theorem dX4_tellWord_106 : decode cX4_tellWord 106 = .ok (.goto 100, 3) := by decide +kernel
theorem dX4_tellWord_109 : decode cX4_tellWord 109 = .ok (.aload_n 0, 1) := by decide +kernel
theorem dX4_tellWord_110 : decode cX4_tellWord 110 = .ok (.iload_n 1, 1) := by decide +kernel
theorem dX4_tellWord_111 : decode cX4_tellWord 111 = .ok (.iconst 1, 1) := by decide +kernel
theorem dX4_tellWord_112 : decode cX4_tellWord 112 = .ok (.iadd, 1) := by decide +kernel
theorem dX4_tellWord_113 : decode cX4_tellWord 113 = .ok (.invokevirtual 145, 3) := by decide +kernel
theorem dX4_tellWord_116 : decode cX4_tellWord 116 = .ok (.pop, 1) := by decide +kernel
theorem dX4_tellWord_117 : decode cX4_tellWord 117 = .ok (.goto 89, 3) := by decide +kernel
theorem dX4_tellWord_120 : decode cX4_tellWord 120 = .ok (.aload_n 0, 1) := by decide +kernel
theorem dX4_tellWord_121 : decode cX4_tellWord 121 = .ok (.iload_n 1, 1) := by decide +kernel
theorem dX4_tellWord_122 : decode cX4_tellWord 122 = .ok (.invokevirtual 148, 3) := by decide +kernel
theorem dX4_tellWord_125 : decode cX4_tellWord 125 = .ok (.goto 81, 3) := by decide +kernel
theorem dX4_tellWord_128 : decode cX4_tellWord 128 = .ok (.aload_n 0, 1) := by decide +kernel
theorem dX4_tellWord_129 : decode cX4_tellWord 129 = .ok (.iload_n 1, 1) := by decide +kernel
theorem dX4_tellWord_130 : decode cX4_tellWord 130 = .ok (.iconst 1, 1) := by decide +kernel
theorem dX4_tellWord_131 : decode cX4_tellWord 131 = .ok (.iadd, 1) := by decide +kernel
theorem dX4_tellWord_132 : decode cX4_tellWord 132 = .ok (.iconst 4, 1) := by decide +kernel
theorem dX4_tellWord_133 : decode cX4_tellWord 133 = .ok (.iconst 2, 1) := by decide +kernel
theorem dX4_tellWord_134 : decode cX4_tellWord 134 = .ok (.bipush 100, 2) := by decide +kernel
theorem dX4_tellWord_136 : decode cX4_tellWord 136 = .ok (.invokevirtual 138, 3) := by decide +kernel
theorem dX4_tellWord_139 : decode cX4_tellWord 139 = .ok (.goto 67, 3) := by decide +kernel
theorem dX4_tellWord_142 : decode cX4_tellWord 142 = .ok (.aload_n 0, 1) := by decide +kernel
theorem dX4_tellWord_143 : decode cX4_tellWord 143 = .ok (.iload_n 1, 1) := by decide +kernel
theorem dX4_tellWord_144 : decode cX4_tellWord 144 = .ok (.invokevirtual 151, 3) := by decide +kernel
theorem dX4_tellWord_147 : decode cX4_tellWord 147 = .ok (.goto 59, 3) := by decide +kernel
theorem dX4_tellWord_150 : decode cX4_tellWord 150 = .ok (.aload_n 0, 1) := by decide +kernel
theorem dX4_tellWord_151 : decode cX4_tellWord 151 = .ok (.iload_n 1, 1) := by decide +kernel
theorem dX4_tellWord_152 : decode cX4_tellWord 152 = .ok (.invokevirtual 154, 3) := by decide +kernel
theorem dX4_tellWord_155 : decode cX4_tellWord 155 = .ok (.goto 51, 3) := by decide +kernel
theorem dX4_tellWord_158 : decode cX4_tellWord 158 = .ok (.aload_n 0, 1) := by decide +kernel
theorem dX4_tellWord_159 : decode cX4_tellWord 159 = .ok (.iload_n 1, 1) := by decide +kernel
theorem dX4_tellWord_160 : decode cX4_tellWord 160 = .ok (.iconst 5, 1) := by decide +kernel
theorem dX4_tellWord_161 : decode cX4_tellWord 161 = .ok (.sipush 200, 3) := by decide +kernel
theorem dX4_tellWord_164 : decode cX4_tellWord 164 = .ok (.invokevirtual 157, 3) := by decide +kernel
theorem dX4_tellWord_167 : decode cX4_tellWord 167 = .ok (.goto 39, 3) := by decide +kernel
theorem dX4_tellWord_170 : decode cX4_tellWord 170 = .ok (.aload_n 0, 1) := by decide +kernel
theorem dX4_tellWord_171 : decode cX4_tellWord 171 = .ok (.iload_n 1, 1) := by decide +kernel
theorem dX4_tellWord_172 : decode cX4_tellWord 172 = .ok (.bipush 6, 2) := by decide +kernel
theorem dX4_tellWord_174 : decode cX4_tellWord 174 = .ok (.bipush 20, 2) := by decide +kernel
theorem dX4_tellWord_176 : decode cX4_tellWord 176 = .ok (.invokevirtual 157, 3) := by decide +kernel
theorem dX4_tellWord_179 : decode cX4_tellWord 179 = .ok (.goto 27, 3) := by decide +kernel
theorem dX4_tellWord_182 : decode cX4_tellWord 182 = .ok (.aload_n 0, 1) := by decide +kernel
theorem dX4_tellWord_183 : decode cX4_tellWord 183 = .ok (.iload_n 1, 1) := by decide +kernel
theorem dX4_tellWord_184 : decode cX4_tellWord 184 = .ok (.iconst 1, 1) := by decide +kernel
theorem dX4_tellWord_185 : decode cX4_tellWord 185 = .ok (.iadd, 1) := by decide +kernel
theorem dX4_tellWord_186 : decode cX4_tellWord 186 = .ok (.aload_n 0, 1) := by decide +kernel
theorem dX4_tellWord_187 : decode cX4_tellWord 187 = .ok (.getfield 129, 3) := by decide +kernel
theorem dX4_tellWord_190 : decode cX4_tellWord 190 = .ok (.bipush 14, 2) := by decide +kernel
theorem dX4_tellWord_192 : decode cX4_tellWord 192 = .ok (.if_icmp .ge 7, 3) := by decide +kernel
theorem dX4_tellWord_195 : decode cX4_tellWord 195 = .ok (.iconst 1, 1) := by decide +kernel
theorem dX4_tellWord_196 : decode cX4_tellWord 196 = .ok (.goto 4, 3) := by decide +kernel
theorem dX4_tellWord_199 : decode cX4_tellWord 199 = .ok (.iconst 0, 1) := by decide +kernel
theorem dX4_tellWord_200 : decode cX4_tellWord 200 = .ok (.invokevirtual 161, 3) := by decide +kernel
theorem dX4_tellWord_203 : decode cX4_tellWord 203 = .ok (.goto 3, 3) := by decide +kernel
theorem dX4_tellWord_206 : decode cX4_tellWord 206 = .ok (.return_, 1) := by decide +kernel
def F_X4_tellWord (p0 : Int32) (Γ : HS) : HR :=
  (F_X10_kindOf p0 Γ).bind fun u_1 =>
  bnd (mrg (fun j => j == 1) Γ u_1.2) fun σ_3 =>
  if u_1.1 = 230 then (
    (F_X4_tellItem (p0 + 1) 1 0 120 σ_3).bind fun u_7 =>
    some (0, u_7.2)
  ) else
  if u_1.1 = 231 then (
    (F_X4_tellItem (p0 + 1) 2 0 120 σ_3).bind fun u_12 =>
    bnd (cI' u_12.2 3 14 0) fun σ_14 =>
    some (0, σ_14)
  ) else
  if u_1.1 = 232 then (
    (F_X4_tellVerb p0 σ_3).bind fun u_19 =>
    some (0, u_19.2)
  ) else
  if u_1.1 = 233 then (
    (F_X4_tellItem (p0 + 1) 4 2 100 σ_3).bind fun u_24 =>
    some (0, u_24.2)
  ) else
  if u_1.1 = 234 then (
    (F_X4_tellArray p0 σ_3).bind fun u_29 =>
    some (0, u_29.2)
  ) else
  if u_1.1 = 235 then (
    (F_X4_tellDef p0 σ_3).bind fun u_34 =>
    some (0, u_34.2)
  ) else
  if u_1.1 = 236 then (
    (F_X4_tellRule p0 5 200 σ_3).bind fun u_39 =>
    some (0, u_39.2)
  ) else
  if u_1.1 = 237 then (
    (F_X4_tellRule p0 6 20 σ_3).bind fun u_44 =>
    some (0, u_44.2)
  ) else
  if u_1.1 = 240 then (
    (F_X4_countOwned (p0 + 1) σ_3).bind fun u_49 =>
    some (0, u_49.2)
  ) else
  if u_1.1 = 242 then (
    bnd (fun (t_54 : Int32) (σ_55 : HS) => (
      (F_X4_tellLocal (p0 + 1) t_54 σ_55).bind fun u_59 =>
      some (0, u_59.2)
    ) : Int32 → HS → HR) fun j_56 =>
    if 14 ≤ ((σ_3 3).1 8) then (
      j_56 0 σ_3
    ) else (
      j_56 1 σ_3
    )
  ) else
  (
    some (0, σ_3)
  )
set_option maxHeartbeats 4000000 in
set_option maxRecDepth 100000 in
theorem k_X4_tellWord (l : Launch) (dC : Nat → ClassId) (dI : Nat → Nat → Nat) (cB cC cI cJ cZ cP : ClassId) (oA : Nat → Nat) (rA : Nat → Nat → Nat) (sz : Nat)  (p0 : Int32) (Γ : HS) (res : Int32 × HS) (hF : F_X4_tellWord p0 Γ = some res) : Met l yX4_tellWord (g_ws yX4_tellWord cX4_tellWord 2 none) ({ frames := 7, cells := 0, slots := 0, locals := 173 }) (va_Pc [.ref (oA 3), .int p0] (g_B (dC, dI) [(cB, .byte), (cC, .char), (cI, .int), (cJ, .long), (cZ, .boolean), (cP, .object "StoryHouse$Play")] sz (b_m cB cC cI cJ cZ oA rA Γ ++ b_w cB cC cI cJ cZ oA rA Γ ++ b_s cB cC cI cJ cZ oA rA Γ ++ b_c cB cC cI cJ cZ oA rA Γ ++ b_t cB cC cI cJ cZ oA rA Γ ++ b_d cB cC cI cJ cZ oA rA Γ) g_0)) (va_Qv (fun (_ : Unit) => True) (g_Bo (dC, dI) (va_A (b_m cB cC cI cJ cZ oA rA Γ ++ b_w cB cC cI cJ cZ oA rA Γ ++ b_s cB cC cI cJ cZ oA rA Γ ++ b_c cB cC cI cJ cZ oA rA Γ ++ b_t cB cC cI cJ cZ oA rA Γ ++ b_d cB cC cI cJ cZ oA rA Γ) sz) (fun (_ : Unit) => (b_m cB cC cI cJ cZ oA rA res.2 ++ b_w cB cC cI cJ cZ oA rA res.2 ++ b_s cB cC cI cJ cZ oA rA res.2 ++ b_c cB cC cI cJ cZ oA rA res.2 ++ b_t cB cC cI cJ cZ oA rA res.2 ++ b_d cB cC cI cJ cZ oA rA res.2))) (va_A (b_m cB cC cI cJ cZ oA rA Γ ++ b_w cB cC cI cJ cZ oA rA Γ ++ b_s cB cC cI cJ cZ oA rA Γ ++ b_c cB cC cI cJ cZ oA rA Γ ++ b_t cB cC cI cJ cZ oA rA Γ ++ b_d cB cC cI cJ cZ oA rA Γ) sz)) 0 0 (va_A (b_m cB cC cI cJ cZ oA rA Γ ++ b_w cB cC cI cJ cZ oA rA Γ ++ b_s cB cC cI cJ cZ oA rA Γ ++ b_c cB cC cI cJ cZ oA rA Γ ++ b_t cB cC cI cJ cZ oA rA Γ ++ b_d cB cC cI cJ cZ oA rA Γ) sz) := by
  refine Met.ofW (cc := cX4_tellWord) (maxL := 2) (ret := none) (by decide) rfl ?_
  intro p e s m args below meth c s₁ B hml hv
  obtain ⟨rfl, hsz, hP, hK, hD0, hE, hX⟩ := hv
  have hx := B.exec
  have hb := B.bytes
  have hr := B.returns
  have hts0 := atoms_spec (ws := g_ws yX4_tellWord cX4_tellWord 2 none) B.pre
  have hts : ∀ w ∈ lw_good, w.before ([.ref (oA 3), .int p0] : List Value).toArray s = true := fun w z => hts0 w (List.mem_cons_of_mem _ z)
  have hown : s.vm.findClass RX4 = some m.cls := findClass_of_methodNamed B.named
  have hlocks := B.notSynchronized
  subst hsz
  have hD1 := hD0.self (sz := s.heap.size)
  generalize hAe : va_A (b_m cB cC cI cJ cZ oA rA Γ ++ b_w cB cC cI cJ cZ oA rA Γ ++ b_s cB cC cI cJ cZ oA rA Γ ++ b_c cB cC cI cJ cZ oA rA Γ ++ b_t cB cC cI cJ cZ oA rA Γ ++ b_d cB cC cI cJ cZ oA rA Γ) s.heap.size = A at hD1 hE hX ⊢
  have hA : ∀ q : Nat, s.heap.size ≤ q → A q := fun q z => by rw [← hAe]; exact Or.inr z
  have hDD : ∀ Γ : HS, va_D A (b_m cB cC cI cJ cZ oA rA Γ ++ b_w cB cC cI cJ cZ oA rA Γ ++ b_s cB cC cI cJ cZ oA rA Γ ++ b_c cB cC cI cJ cZ oA rA Γ ++ b_t cB cC cI cJ cZ oA rA Γ ++ b_d cB cC cI cJ cZ oA rA Γ) := fun Γ9 => va_D_fst (ws := (b_m cB cC cI cJ cZ oA rA Γ ++ b_w cB cC cI cJ cZ oA rA Γ ++ b_s cB cC cI cJ cZ oA rA Γ ++ b_c cB cC cI cJ cZ oA rA Γ ++ b_t cB cC cI cJ cZ oA rA Γ ++ b_d cB cC cI cJ cZ oA rA Γ)) (ws' := (b_m cB cC cI cJ cZ oA rA Γ9 ++ b_w cB cC cI cJ cZ oA rA Γ9 ++ b_s cB cC cI cJ cZ oA rA Γ9 ++ b_c cB cC cI cJ cZ oA rA Γ9 ++ b_t cB cC cI cJ cZ oA rA Γ9 ++ b_d cB cC cI cJ cZ oA rA Γ9)) rfl hD1
  have hN := hE.1
  have hS : va_S A s.heap s.heap [] := va_S.rf
  have hl := lv_entry ([.ref (oA 3), .int p0]) (n := 2) (Nat.le_of_ble_eq_true rfl)
  rw [lg_entry_eq]
  generalize (lg_sl ([.ref (oA 3), .int p0]) ++ List.replicate (2 - (lg_sl ([.ref (oA 3), .int p0])).length) Slot.unset).toArray = ls at hl ⊢
  have hl : lv_has ls 2 [(0, .ref (oA 3)), (1, .int p0)] := hl
  unfold F_X4_tellWord at hF
  refine lv_aload_n hx hb dX4_tellWord_0 rfl (lv_at hl 0 rfl) ?_
  refine va_get (D := (dC, dI)) (ci := 4) (v := .ref (oA 1)) (C := RX4) (T := TX4) (N := 18) hx hb hts ii_X4 hown hK hP 0 rfl rfl 0 (by decide) (hts (.fieldLink RX4 32 "StoryHouse$Meanings" "words" "LStoryHouse$Words;") wq_86) (fun _ h9 => h9) rfl dX4_tellWord_1 ?_
  refine lv_iload_n hx hb dX4_tellWord_4 rfl (lv_at hl 1 rfl) ?_
  obtain ⟨u_1, hu_1, hF_2⟩ := Option.bind_eq_some_iff.mp hF
  clear hF
  have hPc := bx_P (bs := [b_m cB cC cI cJ cZ oA rA Γ, b_w cB cC cI cJ cZ oA rA Γ, b_s cB cC cI cJ cZ oA rA Γ, b_c cB cC cI cJ cZ oA rA Γ, b_t cB cC cI cJ cZ oA rA Γ, b_d cB cC cI cJ cZ oA rA Γ]) (bs' := [b_w cB cC cI cJ cZ oA rA Γ]) (ws' := (b_w cB cC cI cJ cZ oA rA Γ)) hP fl_6 fl_1 [1] rfl
  have hDc := bx_D (bs := [b_m cB cC cI cJ cZ oA rA Γ, b_w cB cC cI cJ cZ oA rA Γ, b_s cB cC cI cJ cZ oA rA Γ, b_c cB cC cI cJ cZ oA rA Γ, b_t cB cC cI cJ cZ oA rA Γ, b_d cB cC cI cJ cZ oA rA Γ]) (bs' := [b_w cB cC cI cJ cZ oA rA Γ]) (ws' := (b_w cB cC cI cJ cZ oA rA Γ)) (hDD Γ) fl_6 fl_1 [1] (by decide +kernel) rfl
  have hFc := bx_F (bs := [b_m cB cC cI cJ cZ oA rA Γ, b_w cB cC cI cJ cZ oA rA Γ, b_s cB cC cI cJ cZ oA rA Γ, b_c cB cC cI cJ cZ oA rA Γ, b_t cB cC cI cJ cZ oA rA Γ, b_d cB cC cI cJ cZ oA rA Γ]) (bs' := [b_w cB cC cI cJ cZ oA rA Γ]) (wc := (b_w cB cC cI cJ cZ oA rA Γ)) (hDD Γ) hS hA fl_6 fl_1 [1] rfl
  refine g_ofi (wc := (b_w cB cC cI cJ cZ oA rA Γ)) (wr := (b_m cB cC cI cJ cZ oA rA Γ ++ b_s cB cC cI cJ cZ oA rA Γ ++ b_c cB cC cI cJ cZ oA rA Γ ++ b_t cB cC cI cJ cZ oA rA Γ ++ b_d cB cC cI cJ cZ oA rA Γ)) hP (hDD Γ) hS hFc (bx_ix [b_m cB cC cI cJ cZ oA rA Γ, b_w cB cC cI cJ cZ oA rA Γ, b_s cB cC cI cJ cZ oA rA Γ, b_c cB cC cI cJ cZ oA rA Γ, b_t cB cC cI cJ cZ oA rA Γ, b_d cB cC cI cJ cZ oA rA Γ] [1]) (bx_ix [b_m cB cC cI cJ cZ oA rA Γ, b_w cB cC cI cJ cZ oA rA Γ, b_s cB cC cI cJ cZ oA rA Γ, b_c cB cC cI cJ cZ oA rA Γ, b_t cB cC cI cJ cZ oA rA Γ, b_d cB cC cI cJ cZ oA rA Γ] [0, 2, 3, 4, 5]) (bx_C (bs := [b_m cB cC cI cJ cZ oA rA Γ, b_w cB cC cI cJ cZ oA rA Γ, b_s cB cC cI cJ cZ oA rA Γ, b_c cB cC cI cJ cZ oA rA Γ, b_t cB cC cI cJ cZ oA rA Γ, b_d cB cC cI cJ cZ oA rA Γ]) (bs' := [b_w cB cC cI cJ cZ oA rA Γ]) (is := [1]) fl_6 fl_1 rfl) (bx_C (bs := [b_m cB cC cI cJ cZ oA rA Γ, b_w cB cC cI cJ cZ oA rA Γ, b_s cB cC cI cJ cZ oA rA Γ, b_c cB cC cI cJ cZ oA rA Γ, b_t cB cC cI cJ cZ oA rA Γ, b_d cB cC cI cJ cZ oA rA Γ]) (bs' := [b_m cB cC cI cJ cZ oA rA Γ, b_s cB cC cI cJ cZ oA rA Γ, b_c cB cC cI cJ cZ oA rA Γ, b_t cB cC cI cJ cZ oA rA Γ, b_d cB cC cI cJ cZ oA rA Γ]) (is := [0, 2, 3, 4, 5]) fl_6 fl_5 rfl) (bx_n (by decide +kernel)) (bx_d (by decide +kernel)) (va_runV (As := [.int p0]) (rest := []) ⟨hx, hb, hml, hown, hts⟩ (k_X10_kindOf l dC dI cB cC cI cJ cZ cP oA rA s.heap.size  p0 Γ _ hu_1) (cwV 1 hts (g_gV wq_714 wq_543 wq_544 wq_2 wq_545) rfl rfl rfl (by decide +kernel) ⟨Nat.le_of_ble_eq_true rfl, Nat.le_of_ble_eq_true rfl⟩) (g_preV g_bl0 hK hPc hDc hS hE hFc g_to0 (q0 := 0) (ci := 10) rfl rfl) rfl rfl hl.1 rfl (lv_room (Nat.le_of_ble_eq_true rfl)) dX4_tellWord_5 ⟨Nat.le_of_ble_eq_true rfl, Nat.le_of_ble_eq_true rfl⟩) (fun r9 u9 H locs hw9 hP' hD' hS => ?_)
  clear hPc hDc hFc
  subst hw9
  obtain ⟨σ_3, eσ_3, hF_4⟩ := bnd_e hF_2
  clear hF_2
  have hP : va_P (dC, dI) vwCl (b_m cB cC cI cJ cZ oA rA σ_3 ++ b_w cB cC cI cJ cZ oA rA σ_3 ++ b_s cB cC cI cJ cZ oA rA σ_3 ++ b_c cB cC cI cJ cZ oA rA σ_3 ++ b_t cB cC cI cJ cZ oA rA σ_3 ++ b_d cB cC cI cJ cZ oA rA σ_3) H := by rw [eσ_3]; exact bx_P (bs := [b_m cB cC cI cJ cZ oA rA Γ, b_s cB cC cI cJ cZ oA rA Γ, b_c cB cC cI cJ cZ oA rA Γ, b_t cB cC cI cJ cZ oA rA Γ, b_d cB cC cI cJ cZ oA rA Γ] ++ [b_w cB cC cI cJ cZ oA rA u_1.2]) (bs' := [b_m cB cC cI cJ cZ oA rA (mrg (fun j => j == 1) Γ u_1.2), b_w cB cC cI cJ cZ oA rA (mrg (fun j => j == 1) Γ u_1.2), b_s cB cC cI cJ cZ oA rA (mrg (fun j => j == 1) Γ u_1.2), b_c cB cC cI cJ cZ oA rA (mrg (fun j => j == 1) Γ u_1.2), b_t cB cC cI cJ cZ oA rA (mrg (fun j => j == 1) Γ u_1.2), b_d cB cC cI cJ cZ oA rA (mrg (fun j => j == 1) Γ u_1.2)]) hP' (fl_a fl_5 fl_1) fl_6 [0, 5, 1, 2, 3, 4] rfl
  clear hP' hD'
  by_cases c_5 : u_1.1 = 230
  · have hF_6 := ipos c_5 hF_4
    clear hF_4
    refine lv_tableIn (off := 68) (tgt := 76) hx hb dX4_tellWord_8 (by rw [c_5]; decide +kernel) (by rw [c_5]; decide +kernel) (by rw [c_5]; decide +kernel) (by decide) ?_
    refine lv_aload_n hx hb dX4_tellWord_76 rfl (lv_at hl 0 rfl) ?_
    refine lv_iload_n hx hb dX4_tellWord_77 rfl (lv_at hl 1 rfl) ?_
    refine lv_iconst (v := 1) hx hb dX4_tellWord_78 (by decide +kernel) ?_
    refine lv_iadd hx hb dX4_tellWord_79 ?_
    refine lv_iconst (v := 1) hx hb dX4_tellWord_80 (by decide +kernel) ?_
    refine lv_iconst (v := 0) hx hb dX4_tellWord_81 (by decide +kernel) ?_
    refine lv_bipush (v := 120) hx hb dX4_tellWord_82 (by decide +kernel) ?_
    obtain ⟨u_7, hu_7, hF_8⟩ := Option.bind_eq_some_iff.mp hF_6
    clear hF_6
    have hPc := bx_P (bs := [b_m cB cC cI cJ cZ oA rA σ_3, b_w cB cC cI cJ cZ oA rA σ_3, b_s cB cC cI cJ cZ oA rA σ_3, b_c cB cC cI cJ cZ oA rA σ_3, b_t cB cC cI cJ cZ oA rA σ_3, b_d cB cC cI cJ cZ oA rA σ_3]) (bs' := [b_m cB cC cI cJ cZ oA rA σ_3, b_w cB cC cI cJ cZ oA rA σ_3, b_s cB cC cI cJ cZ oA rA σ_3, b_c cB cC cI cJ cZ oA rA σ_3, b_t cB cC cI cJ cZ oA rA σ_3, b_d cB cC cI cJ cZ oA rA σ_3]) (ws' := (b_m cB cC cI cJ cZ oA rA σ_3 ++ b_w cB cC cI cJ cZ oA rA σ_3 ++ b_s cB cC cI cJ cZ oA rA σ_3 ++ b_c cB cC cI cJ cZ oA rA σ_3 ++ b_t cB cC cI cJ cZ oA rA σ_3 ++ b_d cB cC cI cJ cZ oA rA σ_3)) hP fl_6 fl_6 [0, 1, 2, 3, 4, 5] rfl
    have hDc := bx_D (bs := [b_m cB cC cI cJ cZ oA rA σ_3, b_w cB cC cI cJ cZ oA rA σ_3, b_s cB cC cI cJ cZ oA rA σ_3, b_c cB cC cI cJ cZ oA rA σ_3, b_t cB cC cI cJ cZ oA rA σ_3, b_d cB cC cI cJ cZ oA rA σ_3]) (bs' := [b_m cB cC cI cJ cZ oA rA σ_3, b_w cB cC cI cJ cZ oA rA σ_3, b_s cB cC cI cJ cZ oA rA σ_3, b_c cB cC cI cJ cZ oA rA σ_3, b_t cB cC cI cJ cZ oA rA σ_3, b_d cB cC cI cJ cZ oA rA σ_3]) (ws' := (b_m cB cC cI cJ cZ oA rA σ_3 ++ b_w cB cC cI cJ cZ oA rA σ_3 ++ b_s cB cC cI cJ cZ oA rA σ_3 ++ b_c cB cC cI cJ cZ oA rA σ_3 ++ b_t cB cC cI cJ cZ oA rA σ_3 ++ b_d cB cC cI cJ cZ oA rA σ_3)) (hDD σ_3) fl_6 fl_6 [0, 1, 2, 3, 4, 5] (by decide +kernel) rfl
    have hFc := bx_F (bs := [b_m cB cC cI cJ cZ oA rA σ_3, b_w cB cC cI cJ cZ oA rA σ_3, b_s cB cC cI cJ cZ oA rA σ_3, b_c cB cC cI cJ cZ oA rA σ_3, b_t cB cC cI cJ cZ oA rA σ_3, b_d cB cC cI cJ cZ oA rA σ_3]) (bs' := [b_m cB cC cI cJ cZ oA rA σ_3, b_w cB cC cI cJ cZ oA rA σ_3, b_s cB cC cI cJ cZ oA rA σ_3, b_c cB cC cI cJ cZ oA rA σ_3, b_t cB cC cI cJ cZ oA rA σ_3, b_d cB cC cI cJ cZ oA rA σ_3]) (wc := (b_m cB cC cI cJ cZ oA rA σ_3 ++ b_w cB cC cI cJ cZ oA rA σ_3 ++ b_s cB cC cI cJ cZ oA rA σ_3 ++ b_c cB cC cI cJ cZ oA rA σ_3 ++ b_t cB cC cI cJ cZ oA rA σ_3 ++ b_d cB cC cI cJ cZ oA rA σ_3)) (hDD σ_3) hS hA fl_6 fl_6 [0, 1, 2, 3, 4, 5] rfl
    refine g_ofv (wc := (b_m cB cC cI cJ cZ oA rA σ_3 ++ b_w cB cC cI cJ cZ oA rA σ_3 ++ b_s cB cC cI cJ cZ oA rA σ_3 ++ b_c cB cC cI cJ cZ oA rA σ_3 ++ b_t cB cC cI cJ cZ oA rA σ_3 ++ b_d cB cC cI cJ cZ oA rA σ_3)) (wr := ([] : va_W)) hP (hDD σ_3) hS hFc (bx_ix [b_m cB cC cI cJ cZ oA rA σ_3, b_w cB cC cI cJ cZ oA rA σ_3, b_s cB cC cI cJ cZ oA rA σ_3, b_c cB cC cI cJ cZ oA rA σ_3, b_t cB cC cI cJ cZ oA rA σ_3, b_d cB cC cI cJ cZ oA rA σ_3] [0, 1, 2, 3, 4, 5]) (bx_ix [b_m cB cC cI cJ cZ oA rA σ_3, b_w cB cC cI cJ cZ oA rA σ_3, b_s cB cC cI cJ cZ oA rA σ_3, b_c cB cC cI cJ cZ oA rA σ_3, b_t cB cC cI cJ cZ oA rA σ_3, b_d cB cC cI cJ cZ oA rA σ_3] []) (bx_C (bs := [b_m cB cC cI cJ cZ oA rA σ_3, b_w cB cC cI cJ cZ oA rA σ_3, b_s cB cC cI cJ cZ oA rA σ_3, b_c cB cC cI cJ cZ oA rA σ_3, b_t cB cC cI cJ cZ oA rA σ_3, b_d cB cC cI cJ cZ oA rA σ_3]) (bs' := [b_m cB cC cI cJ cZ oA rA σ_3, b_w cB cC cI cJ cZ oA rA σ_3, b_s cB cC cI cJ cZ oA rA σ_3, b_c cB cC cI cJ cZ oA rA σ_3, b_t cB cC cI cJ cZ oA rA σ_3, b_d cB cC cI cJ cZ oA rA σ_3]) (is := [0, 1, 2, 3, 4, 5]) fl_6 fl_6 rfl) (bx_C (bs := [b_m cB cC cI cJ cZ oA rA σ_3, b_w cB cC cI cJ cZ oA rA σ_3, b_s cB cC cI cJ cZ oA rA σ_3, b_c cB cC cI cJ cZ oA rA σ_3, b_t cB cC cI cJ cZ oA rA σ_3, b_d cB cC cI cJ cZ oA rA σ_3]) (bs' := []) (is := []) fl_6 fl_0 rfl) (bx_n (by decide +kernel)) (bx_d (by decide +kernel)) (va_runV (As := [.int (p0 + 1), .int 1, .int 0, .int 120]) (rest := []) ⟨hx, hb, hml, hown, hts⟩ (k_X4_tellItem l dC dI cB cC cI cJ cZ cP oA rA H.size  (p0 + 1) 1 0 120 σ_3 _ hu_7) (cwV 4 hts (g_gV wq_722 wq_723 wq_2036 wq_4 wq_724) rfl rfl rfl (by decide +kernel) ⟨Nat.le_of_ble_eq_true rfl, Nat.le_of_ble_eq_true rfl⟩) (g_preV g_bl0 hK hPc hDc hS hE hFc g_to0 (q0 := 0) (ci := 4) rfl rfl) rfl rfl hl.1 rfl (lv_room (Nat.le_of_ble_eq_true rfl)) dX4_tellWord_84 ⟨Nat.le_of_ble_eq_true rfl, Nat.le_of_ble_eq_true rfl⟩) (fun u9 H locs hw9 hP' hD' hS => ?_)
    clear hPc hDc hFc
    have hP : va_P (dC, dI) vwCl (b_m cB cC cI cJ cZ oA rA u_7.2 ++ b_w cB cC cI cJ cZ oA rA u_7.2 ++ b_s cB cC cI cJ cZ oA rA u_7.2 ++ b_c cB cC cI cJ cZ oA rA u_7.2 ++ b_t cB cC cI cJ cZ oA rA u_7.2 ++ b_d cB cC cI cJ cZ oA rA u_7.2) H := hP'
    clear hP' hD'
    refine lv_goto (tgt := 206) hx hb dX4_tellWord_87 (by decide) ?_
    have h9 := Option.some.inj hF_8
    subst h9
    exact W.vret hx hb hr (fun t ht hW => ⟨⟨(), rfl, trivial, m_end ht hP, hDD _⟩, hS.F ht⟩) hS.2.2 dX4_tellWord_206
  have hF_9 := ineg c_5 hF_4
  clear hF_4
  by_cases c_10 : u_1.1 = 231
  · have hF_11 := ipos c_10 hF_9
    clear hF_9
    refine lv_tableIn (off := 82) (tgt := 90) hx hb dX4_tellWord_8 (by rw [c_10]; decide +kernel) (by rw [c_10]; decide +kernel) (by rw [c_10]; decide +kernel) (by decide) ?_
    refine lv_aload_n hx hb dX4_tellWord_90 rfl (lv_at hl 0 rfl) ?_
    refine lv_iload_n hx hb dX4_tellWord_91 rfl (lv_at hl 1 rfl) ?_
    refine lv_iconst (v := 1) hx hb dX4_tellWord_92 (by decide +kernel) ?_
    refine lv_iadd hx hb dX4_tellWord_93 ?_
    refine lv_iconst (v := 2) hx hb dX4_tellWord_94 (by decide +kernel) ?_
    refine lv_iconst (v := 0) hx hb dX4_tellWord_95 (by decide +kernel) ?_
    refine lv_bipush (v := 120) hx hb dX4_tellWord_96 (by decide +kernel) ?_
    obtain ⟨u_12, hu_12, hF_13⟩ := Option.bind_eq_some_iff.mp hF_11
    clear hF_11
    have hPc := bx_P (bs := [b_m cB cC cI cJ cZ oA rA σ_3, b_w cB cC cI cJ cZ oA rA σ_3, b_s cB cC cI cJ cZ oA rA σ_3, b_c cB cC cI cJ cZ oA rA σ_3, b_t cB cC cI cJ cZ oA rA σ_3, b_d cB cC cI cJ cZ oA rA σ_3]) (bs' := [b_m cB cC cI cJ cZ oA rA σ_3, b_w cB cC cI cJ cZ oA rA σ_3, b_s cB cC cI cJ cZ oA rA σ_3, b_c cB cC cI cJ cZ oA rA σ_3, b_t cB cC cI cJ cZ oA rA σ_3, b_d cB cC cI cJ cZ oA rA σ_3]) (ws' := (b_m cB cC cI cJ cZ oA rA σ_3 ++ b_w cB cC cI cJ cZ oA rA σ_3 ++ b_s cB cC cI cJ cZ oA rA σ_3 ++ b_c cB cC cI cJ cZ oA rA σ_3 ++ b_t cB cC cI cJ cZ oA rA σ_3 ++ b_d cB cC cI cJ cZ oA rA σ_3)) hP fl_6 fl_6 [0, 1, 2, 3, 4, 5] rfl
    have hDc := bx_D (bs := [b_m cB cC cI cJ cZ oA rA σ_3, b_w cB cC cI cJ cZ oA rA σ_3, b_s cB cC cI cJ cZ oA rA σ_3, b_c cB cC cI cJ cZ oA rA σ_3, b_t cB cC cI cJ cZ oA rA σ_3, b_d cB cC cI cJ cZ oA rA σ_3]) (bs' := [b_m cB cC cI cJ cZ oA rA σ_3, b_w cB cC cI cJ cZ oA rA σ_3, b_s cB cC cI cJ cZ oA rA σ_3, b_c cB cC cI cJ cZ oA rA σ_3, b_t cB cC cI cJ cZ oA rA σ_3, b_d cB cC cI cJ cZ oA rA σ_3]) (ws' := (b_m cB cC cI cJ cZ oA rA σ_3 ++ b_w cB cC cI cJ cZ oA rA σ_3 ++ b_s cB cC cI cJ cZ oA rA σ_3 ++ b_c cB cC cI cJ cZ oA rA σ_3 ++ b_t cB cC cI cJ cZ oA rA σ_3 ++ b_d cB cC cI cJ cZ oA rA σ_3)) (hDD σ_3) fl_6 fl_6 [0, 1, 2, 3, 4, 5] (by decide +kernel) rfl
    have hFc := bx_F (bs := [b_m cB cC cI cJ cZ oA rA σ_3, b_w cB cC cI cJ cZ oA rA σ_3, b_s cB cC cI cJ cZ oA rA σ_3, b_c cB cC cI cJ cZ oA rA σ_3, b_t cB cC cI cJ cZ oA rA σ_3, b_d cB cC cI cJ cZ oA rA σ_3]) (bs' := [b_m cB cC cI cJ cZ oA rA σ_3, b_w cB cC cI cJ cZ oA rA σ_3, b_s cB cC cI cJ cZ oA rA σ_3, b_c cB cC cI cJ cZ oA rA σ_3, b_t cB cC cI cJ cZ oA rA σ_3, b_d cB cC cI cJ cZ oA rA σ_3]) (wc := (b_m cB cC cI cJ cZ oA rA σ_3 ++ b_w cB cC cI cJ cZ oA rA σ_3 ++ b_s cB cC cI cJ cZ oA rA σ_3 ++ b_c cB cC cI cJ cZ oA rA σ_3 ++ b_t cB cC cI cJ cZ oA rA σ_3 ++ b_d cB cC cI cJ cZ oA rA σ_3)) (hDD σ_3) hS hA fl_6 fl_6 [0, 1, 2, 3, 4, 5] rfl
    refine g_ofv (wc := (b_m cB cC cI cJ cZ oA rA σ_3 ++ b_w cB cC cI cJ cZ oA rA σ_3 ++ b_s cB cC cI cJ cZ oA rA σ_3 ++ b_c cB cC cI cJ cZ oA rA σ_3 ++ b_t cB cC cI cJ cZ oA rA σ_3 ++ b_d cB cC cI cJ cZ oA rA σ_3)) (wr := ([] : va_W)) hP (hDD σ_3) hS hFc (bx_ix [b_m cB cC cI cJ cZ oA rA σ_3, b_w cB cC cI cJ cZ oA rA σ_3, b_s cB cC cI cJ cZ oA rA σ_3, b_c cB cC cI cJ cZ oA rA σ_3, b_t cB cC cI cJ cZ oA rA σ_3, b_d cB cC cI cJ cZ oA rA σ_3] [0, 1, 2, 3, 4, 5]) (bx_ix [b_m cB cC cI cJ cZ oA rA σ_3, b_w cB cC cI cJ cZ oA rA σ_3, b_s cB cC cI cJ cZ oA rA σ_3, b_c cB cC cI cJ cZ oA rA σ_3, b_t cB cC cI cJ cZ oA rA σ_3, b_d cB cC cI cJ cZ oA rA σ_3] []) (bx_C (bs := [b_m cB cC cI cJ cZ oA rA σ_3, b_w cB cC cI cJ cZ oA rA σ_3, b_s cB cC cI cJ cZ oA rA σ_3, b_c cB cC cI cJ cZ oA rA σ_3, b_t cB cC cI cJ cZ oA rA σ_3, b_d cB cC cI cJ cZ oA rA σ_3]) (bs' := [b_m cB cC cI cJ cZ oA rA σ_3, b_w cB cC cI cJ cZ oA rA σ_3, b_s cB cC cI cJ cZ oA rA σ_3, b_c cB cC cI cJ cZ oA rA σ_3, b_t cB cC cI cJ cZ oA rA σ_3, b_d cB cC cI cJ cZ oA rA σ_3]) (is := [0, 1, 2, 3, 4, 5]) fl_6 fl_6 rfl) (bx_C (bs := [b_m cB cC cI cJ cZ oA rA σ_3, b_w cB cC cI cJ cZ oA rA σ_3, b_s cB cC cI cJ cZ oA rA σ_3, b_c cB cC cI cJ cZ oA rA σ_3, b_t cB cC cI cJ cZ oA rA σ_3, b_d cB cC cI cJ cZ oA rA σ_3]) (bs' := []) (is := []) fl_6 fl_0 rfl) (bx_n (by decide +kernel)) (bx_d (by decide +kernel)) (va_runV (As := [.int (p0 + 1), .int 2, .int 0, .int 120]) (rest := []) ⟨hx, hb, hml, hown, hts⟩ (k_X4_tellItem l dC dI cB cC cI cJ cZ cP oA rA H.size  (p0 + 1) 2 0 120 σ_3 _ hu_12) (cwV 4 hts (g_gV wq_722 wq_723 wq_2036 wq_4 wq_724) rfl rfl rfl (by decide +kernel) ⟨Nat.le_of_ble_eq_true rfl, Nat.le_of_ble_eq_true rfl⟩) (g_preV g_bl0 hK hPc hDc hS hE hFc g_to0 (q0 := 0) (ci := 4) rfl rfl) rfl rfl hl.1 rfl (lv_room (Nat.le_of_ble_eq_true rfl)) dX4_tellWord_98 ⟨Nat.le_of_ble_eq_true rfl, Nat.le_of_ble_eq_true rfl⟩) (fun u9 H locs hw9 hP' hD' hS => ?_)
    clear hPc hDc hFc
    have hP : va_P (dC, dI) vwCl (b_m cB cC cI cJ cZ oA rA u_12.2 ++ b_w cB cC cI cJ cZ oA rA u_12.2 ++ b_s cB cC cI cJ cZ oA rA u_12.2 ++ b_c cB cC cI cJ cZ oA rA u_12.2 ++ b_t cB cC cI cJ cZ oA rA u_12.2 ++ b_d cB cC cI cJ cZ oA rA u_12.2) H := hP'
    clear hP' hD'
    refine lv_aload_n hx hb dX4_tellWord_101 rfl (lv_at hl 0 rfl) ?_
    refine lv_iconst (v := 0) hx hb dX4_tellWord_102 (by decide +kernel) ?_
    obtain ⟨σ_14, eσ_14, hF_15⟩ := bnd_e hF_13
    clear hF_13
    refine va_put (D := (dC, dI)) (ci := 4) (v := .int 0) (ty := .int) (C := RX4) (T := TX4) (N := 18) hx hb hts ii_X4 tyX4 tyX4_ok nmX4 hown hK hP (hDD _) hS 0 rfl rfl 14 (by decide) (hts (.fieldLink RX4 142 "StoryHouse$Meanings" "owned" "I") wq_100) (fun _ h9 => h9) rfl (by decide +kernel) rfl rfl (Nat.le_of_ble_eq_true rfl) dX4_tellWord_103 (fun H locs hP' _ hS => ?_)
    have hP : va_P (dC, dI) vwCl (b_m cB cC cI cJ cZ oA rA σ_14 ++ b_w cB cC cI cJ cZ oA rA σ_14 ++ b_s cB cC cI cJ cZ oA rA σ_14 ++ b_c cB cC cI cJ cZ oA rA σ_14 ++ b_t cB cC cI cJ cZ oA rA σ_14 ++ b_d cB cC cI cJ cZ oA rA σ_14) H := by rw [eσ_14]; exact cs_mwsctd_m_14 ▸ hP'
    clear hP'
    refine lv_goto (tgt := 206) hx hb dX4_tellWord_106 (by decide) ?_
    have h9 := Option.some.inj hF_15
    subst h9
    exact W.vret hx hb hr (fun t ht hW => ⟨⟨(), rfl, trivial, m_end ht hP, hDD _⟩, hS.F ht⟩) hS.2.2 dX4_tellWord_206
  have hF_16 := ineg c_10 hF_9
  clear hF_9
  by_cases c_17 : u_1.1 = 232
  · have hF_18 := ipos c_17 hF_16
    clear hF_16
    refine lv_tableIn (off := 112) (tgt := 120) hx hb dX4_tellWord_8 (by rw [c_17]; decide +kernel) (by rw [c_17]; decide +kernel) (by rw [c_17]; decide +kernel) (by decide) ?_
    refine lv_aload_n hx hb dX4_tellWord_120 rfl (lv_at hl 0 rfl) ?_
    refine lv_iload_n hx hb dX4_tellWord_121 rfl (lv_at hl 1 rfl) ?_
    obtain ⟨u_19, hu_19, hF_20⟩ := Option.bind_eq_some_iff.mp hF_18
    clear hF_18
    have hPc := bx_P (bs := [b_m cB cC cI cJ cZ oA rA σ_3, b_w cB cC cI cJ cZ oA rA σ_3, b_s cB cC cI cJ cZ oA rA σ_3, b_c cB cC cI cJ cZ oA rA σ_3, b_t cB cC cI cJ cZ oA rA σ_3, b_d cB cC cI cJ cZ oA rA σ_3]) (bs' := [b_m cB cC cI cJ cZ oA rA σ_3, b_w cB cC cI cJ cZ oA rA σ_3, b_s cB cC cI cJ cZ oA rA σ_3, b_c cB cC cI cJ cZ oA rA σ_3, b_t cB cC cI cJ cZ oA rA σ_3, b_d cB cC cI cJ cZ oA rA σ_3]) (ws' := (b_m cB cC cI cJ cZ oA rA σ_3 ++ b_w cB cC cI cJ cZ oA rA σ_3 ++ b_s cB cC cI cJ cZ oA rA σ_3 ++ b_c cB cC cI cJ cZ oA rA σ_3 ++ b_t cB cC cI cJ cZ oA rA σ_3 ++ b_d cB cC cI cJ cZ oA rA σ_3)) hP fl_6 fl_6 [0, 1, 2, 3, 4, 5] rfl
    have hDc := bx_D (bs := [b_m cB cC cI cJ cZ oA rA σ_3, b_w cB cC cI cJ cZ oA rA σ_3, b_s cB cC cI cJ cZ oA rA σ_3, b_c cB cC cI cJ cZ oA rA σ_3, b_t cB cC cI cJ cZ oA rA σ_3, b_d cB cC cI cJ cZ oA rA σ_3]) (bs' := [b_m cB cC cI cJ cZ oA rA σ_3, b_w cB cC cI cJ cZ oA rA σ_3, b_s cB cC cI cJ cZ oA rA σ_3, b_c cB cC cI cJ cZ oA rA σ_3, b_t cB cC cI cJ cZ oA rA σ_3, b_d cB cC cI cJ cZ oA rA σ_3]) (ws' := (b_m cB cC cI cJ cZ oA rA σ_3 ++ b_w cB cC cI cJ cZ oA rA σ_3 ++ b_s cB cC cI cJ cZ oA rA σ_3 ++ b_c cB cC cI cJ cZ oA rA σ_3 ++ b_t cB cC cI cJ cZ oA rA σ_3 ++ b_d cB cC cI cJ cZ oA rA σ_3)) (hDD σ_3) fl_6 fl_6 [0, 1, 2, 3, 4, 5] (by decide +kernel) rfl
    have hFc := bx_F (bs := [b_m cB cC cI cJ cZ oA rA σ_3, b_w cB cC cI cJ cZ oA rA σ_3, b_s cB cC cI cJ cZ oA rA σ_3, b_c cB cC cI cJ cZ oA rA σ_3, b_t cB cC cI cJ cZ oA rA σ_3, b_d cB cC cI cJ cZ oA rA σ_3]) (bs' := [b_m cB cC cI cJ cZ oA rA σ_3, b_w cB cC cI cJ cZ oA rA σ_3, b_s cB cC cI cJ cZ oA rA σ_3, b_c cB cC cI cJ cZ oA rA σ_3, b_t cB cC cI cJ cZ oA rA σ_3, b_d cB cC cI cJ cZ oA rA σ_3]) (wc := (b_m cB cC cI cJ cZ oA rA σ_3 ++ b_w cB cC cI cJ cZ oA rA σ_3 ++ b_s cB cC cI cJ cZ oA rA σ_3 ++ b_c cB cC cI cJ cZ oA rA σ_3 ++ b_t cB cC cI cJ cZ oA rA σ_3 ++ b_d cB cC cI cJ cZ oA rA σ_3)) (hDD σ_3) hS hA fl_6 fl_6 [0, 1, 2, 3, 4, 5] rfl
    refine g_ofv (wc := (b_m cB cC cI cJ cZ oA rA σ_3 ++ b_w cB cC cI cJ cZ oA rA σ_3 ++ b_s cB cC cI cJ cZ oA rA σ_3 ++ b_c cB cC cI cJ cZ oA rA σ_3 ++ b_t cB cC cI cJ cZ oA rA σ_3 ++ b_d cB cC cI cJ cZ oA rA σ_3)) (wr := ([] : va_W)) hP (hDD σ_3) hS hFc (bx_ix [b_m cB cC cI cJ cZ oA rA σ_3, b_w cB cC cI cJ cZ oA rA σ_3, b_s cB cC cI cJ cZ oA rA σ_3, b_c cB cC cI cJ cZ oA rA σ_3, b_t cB cC cI cJ cZ oA rA σ_3, b_d cB cC cI cJ cZ oA rA σ_3] [0, 1, 2, 3, 4, 5]) (bx_ix [b_m cB cC cI cJ cZ oA rA σ_3, b_w cB cC cI cJ cZ oA rA σ_3, b_s cB cC cI cJ cZ oA rA σ_3, b_c cB cC cI cJ cZ oA rA σ_3, b_t cB cC cI cJ cZ oA rA σ_3, b_d cB cC cI cJ cZ oA rA σ_3] []) (bx_C (bs := [b_m cB cC cI cJ cZ oA rA σ_3, b_w cB cC cI cJ cZ oA rA σ_3, b_s cB cC cI cJ cZ oA rA σ_3, b_c cB cC cI cJ cZ oA rA σ_3, b_t cB cC cI cJ cZ oA rA σ_3, b_d cB cC cI cJ cZ oA rA σ_3]) (bs' := [b_m cB cC cI cJ cZ oA rA σ_3, b_w cB cC cI cJ cZ oA rA σ_3, b_s cB cC cI cJ cZ oA rA σ_3, b_c cB cC cI cJ cZ oA rA σ_3, b_t cB cC cI cJ cZ oA rA σ_3, b_d cB cC cI cJ cZ oA rA σ_3]) (is := [0, 1, 2, 3, 4, 5]) fl_6 fl_6 rfl) (bx_C (bs := [b_m cB cC cI cJ cZ oA rA σ_3, b_w cB cC cI cJ cZ oA rA σ_3, b_s cB cC cI cJ cZ oA rA σ_3, b_c cB cC cI cJ cZ oA rA σ_3, b_t cB cC cI cJ cZ oA rA σ_3, b_d cB cC cI cJ cZ oA rA σ_3]) (bs' := []) (is := []) fl_6 fl_0 rfl) (bx_n (by decide +kernel)) (bx_d (by decide +kernel)) (va_runV (As := [.int p0]) (rest := []) ⟨hx, hb, hml, hown, hts⟩ (k_X4_tellVerb l dC dI cB cC cI cJ cZ cP oA rA H.size  p0 σ_3 _ hu_19) (cwV 1 hts (g_gV wq_732 wq_733 wq_2039 wq_4 wq_734) rfl rfl rfl (by decide +kernel) ⟨Nat.le_of_ble_eq_true rfl, Nat.le_of_ble_eq_true rfl⟩) (g_preV g_bl0 hK hPc hDc hS hE hFc g_to0 (q0 := 0) (ci := 4) rfl rfl) rfl rfl hl.1 rfl (lv_room (Nat.le_of_ble_eq_true rfl)) dX4_tellWord_122 ⟨Nat.le_of_ble_eq_true rfl, Nat.le_of_ble_eq_true rfl⟩) (fun u9 H locs hw9 hP' hD' hS => ?_)
    clear hPc hDc hFc
    have hP : va_P (dC, dI) vwCl (b_m cB cC cI cJ cZ oA rA u_19.2 ++ b_w cB cC cI cJ cZ oA rA u_19.2 ++ b_s cB cC cI cJ cZ oA rA u_19.2 ++ b_c cB cC cI cJ cZ oA rA u_19.2 ++ b_t cB cC cI cJ cZ oA rA u_19.2 ++ b_d cB cC cI cJ cZ oA rA u_19.2) H := hP'
    clear hP' hD'
    refine lv_goto (tgt := 206) hx hb dX4_tellWord_125 (by decide) ?_
    have h9 := Option.some.inj hF_20
    subst h9
    exact W.vret hx hb hr (fun t ht hW => ⟨⟨(), rfl, trivial, m_end ht hP, hDD _⟩, hS.F ht⟩) hS.2.2 dX4_tellWord_206
  have hF_21 := ineg c_17 hF_16
  clear hF_16
  by_cases c_22 : u_1.1 = 233
  · have hF_23 := ipos c_22 hF_21
    clear hF_21
    refine lv_tableIn (off := 120) (tgt := 128) hx hb dX4_tellWord_8 (by rw [c_22]; decide +kernel) (by rw [c_22]; decide +kernel) (by rw [c_22]; decide +kernel) (by decide) ?_
    refine lv_aload_n hx hb dX4_tellWord_128 rfl (lv_at hl 0 rfl) ?_
    refine lv_iload_n hx hb dX4_tellWord_129 rfl (lv_at hl 1 rfl) ?_
    refine lv_iconst (v := 1) hx hb dX4_tellWord_130 (by decide +kernel) ?_
    refine lv_iadd hx hb dX4_tellWord_131 ?_
    refine lv_iconst (v := 4) hx hb dX4_tellWord_132 (by decide +kernel) ?_
    refine lv_iconst (v := 2) hx hb dX4_tellWord_133 (by decide +kernel) ?_
    refine lv_bipush (v := 100) hx hb dX4_tellWord_134 (by decide +kernel) ?_
    obtain ⟨u_24, hu_24, hF_25⟩ := Option.bind_eq_some_iff.mp hF_23
    clear hF_23
    have hPc := bx_P (bs := [b_m cB cC cI cJ cZ oA rA σ_3, b_w cB cC cI cJ cZ oA rA σ_3, b_s cB cC cI cJ cZ oA rA σ_3, b_c cB cC cI cJ cZ oA rA σ_3, b_t cB cC cI cJ cZ oA rA σ_3, b_d cB cC cI cJ cZ oA rA σ_3]) (bs' := [b_m cB cC cI cJ cZ oA rA σ_3, b_w cB cC cI cJ cZ oA rA σ_3, b_s cB cC cI cJ cZ oA rA σ_3, b_c cB cC cI cJ cZ oA rA σ_3, b_t cB cC cI cJ cZ oA rA σ_3, b_d cB cC cI cJ cZ oA rA σ_3]) (ws' := (b_m cB cC cI cJ cZ oA rA σ_3 ++ b_w cB cC cI cJ cZ oA rA σ_3 ++ b_s cB cC cI cJ cZ oA rA σ_3 ++ b_c cB cC cI cJ cZ oA rA σ_3 ++ b_t cB cC cI cJ cZ oA rA σ_3 ++ b_d cB cC cI cJ cZ oA rA σ_3)) hP fl_6 fl_6 [0, 1, 2, 3, 4, 5] rfl
    have hDc := bx_D (bs := [b_m cB cC cI cJ cZ oA rA σ_3, b_w cB cC cI cJ cZ oA rA σ_3, b_s cB cC cI cJ cZ oA rA σ_3, b_c cB cC cI cJ cZ oA rA σ_3, b_t cB cC cI cJ cZ oA rA σ_3, b_d cB cC cI cJ cZ oA rA σ_3]) (bs' := [b_m cB cC cI cJ cZ oA rA σ_3, b_w cB cC cI cJ cZ oA rA σ_3, b_s cB cC cI cJ cZ oA rA σ_3, b_c cB cC cI cJ cZ oA rA σ_3, b_t cB cC cI cJ cZ oA rA σ_3, b_d cB cC cI cJ cZ oA rA σ_3]) (ws' := (b_m cB cC cI cJ cZ oA rA σ_3 ++ b_w cB cC cI cJ cZ oA rA σ_3 ++ b_s cB cC cI cJ cZ oA rA σ_3 ++ b_c cB cC cI cJ cZ oA rA σ_3 ++ b_t cB cC cI cJ cZ oA rA σ_3 ++ b_d cB cC cI cJ cZ oA rA σ_3)) (hDD σ_3) fl_6 fl_6 [0, 1, 2, 3, 4, 5] (by decide +kernel) rfl
    have hFc := bx_F (bs := [b_m cB cC cI cJ cZ oA rA σ_3, b_w cB cC cI cJ cZ oA rA σ_3, b_s cB cC cI cJ cZ oA rA σ_3, b_c cB cC cI cJ cZ oA rA σ_3, b_t cB cC cI cJ cZ oA rA σ_3, b_d cB cC cI cJ cZ oA rA σ_3]) (bs' := [b_m cB cC cI cJ cZ oA rA σ_3, b_w cB cC cI cJ cZ oA rA σ_3, b_s cB cC cI cJ cZ oA rA σ_3, b_c cB cC cI cJ cZ oA rA σ_3, b_t cB cC cI cJ cZ oA rA σ_3, b_d cB cC cI cJ cZ oA rA σ_3]) (wc := (b_m cB cC cI cJ cZ oA rA σ_3 ++ b_w cB cC cI cJ cZ oA rA σ_3 ++ b_s cB cC cI cJ cZ oA rA σ_3 ++ b_c cB cC cI cJ cZ oA rA σ_3 ++ b_t cB cC cI cJ cZ oA rA σ_3 ++ b_d cB cC cI cJ cZ oA rA σ_3)) (hDD σ_3) hS hA fl_6 fl_6 [0, 1, 2, 3, 4, 5] rfl
    refine g_ofv (wc := (b_m cB cC cI cJ cZ oA rA σ_3 ++ b_w cB cC cI cJ cZ oA rA σ_3 ++ b_s cB cC cI cJ cZ oA rA σ_3 ++ b_c cB cC cI cJ cZ oA rA σ_3 ++ b_t cB cC cI cJ cZ oA rA σ_3 ++ b_d cB cC cI cJ cZ oA rA σ_3)) (wr := ([] : va_W)) hP (hDD σ_3) hS hFc (bx_ix [b_m cB cC cI cJ cZ oA rA σ_3, b_w cB cC cI cJ cZ oA rA σ_3, b_s cB cC cI cJ cZ oA rA σ_3, b_c cB cC cI cJ cZ oA rA σ_3, b_t cB cC cI cJ cZ oA rA σ_3, b_d cB cC cI cJ cZ oA rA σ_3] [0, 1, 2, 3, 4, 5]) (bx_ix [b_m cB cC cI cJ cZ oA rA σ_3, b_w cB cC cI cJ cZ oA rA σ_3, b_s cB cC cI cJ cZ oA rA σ_3, b_c cB cC cI cJ cZ oA rA σ_3, b_t cB cC cI cJ cZ oA rA σ_3, b_d cB cC cI cJ cZ oA rA σ_3] []) (bx_C (bs := [b_m cB cC cI cJ cZ oA rA σ_3, b_w cB cC cI cJ cZ oA rA σ_3, b_s cB cC cI cJ cZ oA rA σ_3, b_c cB cC cI cJ cZ oA rA σ_3, b_t cB cC cI cJ cZ oA rA σ_3, b_d cB cC cI cJ cZ oA rA σ_3]) (bs' := [b_m cB cC cI cJ cZ oA rA σ_3, b_w cB cC cI cJ cZ oA rA σ_3, b_s cB cC cI cJ cZ oA rA σ_3, b_c cB cC cI cJ cZ oA rA σ_3, b_t cB cC cI cJ cZ oA rA σ_3, b_d cB cC cI cJ cZ oA rA σ_3]) (is := [0, 1, 2, 3, 4, 5]) fl_6 fl_6 rfl) (bx_C (bs := [b_m cB cC cI cJ cZ oA rA σ_3, b_w cB cC cI cJ cZ oA rA σ_3, b_s cB cC cI cJ cZ oA rA σ_3, b_c cB cC cI cJ cZ oA rA σ_3, b_t cB cC cI cJ cZ oA rA σ_3, b_d cB cC cI cJ cZ oA rA σ_3]) (bs' := []) (is := []) fl_6 fl_0 rfl) (bx_n (by decide +kernel)) (bx_d (by decide +kernel)) (va_runV (As := [.int (p0 + 1), .int 4, .int 2, .int 100]) (rest := []) ⟨hx, hb, hml, hown, hts⟩ (k_X4_tellItem l dC dI cB cC cI cJ cZ cP oA rA H.size  (p0 + 1) 4 2 100 σ_3 _ hu_24) (cwV 4 hts (g_gV wq_722 wq_723 wq_2036 wq_4 wq_724) rfl rfl rfl (by decide +kernel) ⟨Nat.le_of_ble_eq_true rfl, Nat.le_of_ble_eq_true rfl⟩) (g_preV g_bl0 hK hPc hDc hS hE hFc g_to0 (q0 := 0) (ci := 4) rfl rfl) rfl rfl hl.1 rfl (lv_room (Nat.le_of_ble_eq_true rfl)) dX4_tellWord_136 ⟨Nat.le_of_ble_eq_true rfl, Nat.le_of_ble_eq_true rfl⟩) (fun u9 H locs hw9 hP' hD' hS => ?_)
    clear hPc hDc hFc
    have hP : va_P (dC, dI) vwCl (b_m cB cC cI cJ cZ oA rA u_24.2 ++ b_w cB cC cI cJ cZ oA rA u_24.2 ++ b_s cB cC cI cJ cZ oA rA u_24.2 ++ b_c cB cC cI cJ cZ oA rA u_24.2 ++ b_t cB cC cI cJ cZ oA rA u_24.2 ++ b_d cB cC cI cJ cZ oA rA u_24.2) H := hP'
    clear hP' hD'
    refine lv_goto (tgt := 206) hx hb dX4_tellWord_139 (by decide) ?_
    have h9 := Option.some.inj hF_25
    subst h9
    exact W.vret hx hb hr (fun t ht hW => ⟨⟨(), rfl, trivial, m_end ht hP, hDD _⟩, hS.F ht⟩) hS.2.2 dX4_tellWord_206
  have hF_26 := ineg c_22 hF_21
  clear hF_21
  by_cases c_27 : u_1.1 = 234
  · have hF_28 := ipos c_27 hF_26
    clear hF_26
    refine lv_tableIn (off := 134) (tgt := 142) hx hb dX4_tellWord_8 (by rw [c_27]; decide +kernel) (by rw [c_27]; decide +kernel) (by rw [c_27]; decide +kernel) (by decide) ?_
    refine lv_aload_n hx hb dX4_tellWord_142 rfl (lv_at hl 0 rfl) ?_
    refine lv_iload_n hx hb dX4_tellWord_143 rfl (lv_at hl 1 rfl) ?_
    obtain ⟨u_29, hu_29, hF_30⟩ := Option.bind_eq_some_iff.mp hF_28
    clear hF_28
    have hPc := bx_P (bs := [b_m cB cC cI cJ cZ oA rA σ_3, b_w cB cC cI cJ cZ oA rA σ_3, b_s cB cC cI cJ cZ oA rA σ_3, b_c cB cC cI cJ cZ oA rA σ_3, b_t cB cC cI cJ cZ oA rA σ_3, b_d cB cC cI cJ cZ oA rA σ_3]) (bs' := [b_m cB cC cI cJ cZ oA rA σ_3, b_w cB cC cI cJ cZ oA rA σ_3, b_s cB cC cI cJ cZ oA rA σ_3, b_c cB cC cI cJ cZ oA rA σ_3, b_t cB cC cI cJ cZ oA rA σ_3, b_d cB cC cI cJ cZ oA rA σ_3]) (ws' := (b_m cB cC cI cJ cZ oA rA σ_3 ++ b_w cB cC cI cJ cZ oA rA σ_3 ++ b_s cB cC cI cJ cZ oA rA σ_3 ++ b_c cB cC cI cJ cZ oA rA σ_3 ++ b_t cB cC cI cJ cZ oA rA σ_3 ++ b_d cB cC cI cJ cZ oA rA σ_3)) hP fl_6 fl_6 [0, 1, 2, 3, 4, 5] rfl
    have hDc := bx_D (bs := [b_m cB cC cI cJ cZ oA rA σ_3, b_w cB cC cI cJ cZ oA rA σ_3, b_s cB cC cI cJ cZ oA rA σ_3, b_c cB cC cI cJ cZ oA rA σ_3, b_t cB cC cI cJ cZ oA rA σ_3, b_d cB cC cI cJ cZ oA rA σ_3]) (bs' := [b_m cB cC cI cJ cZ oA rA σ_3, b_w cB cC cI cJ cZ oA rA σ_3, b_s cB cC cI cJ cZ oA rA σ_3, b_c cB cC cI cJ cZ oA rA σ_3, b_t cB cC cI cJ cZ oA rA σ_3, b_d cB cC cI cJ cZ oA rA σ_3]) (ws' := (b_m cB cC cI cJ cZ oA rA σ_3 ++ b_w cB cC cI cJ cZ oA rA σ_3 ++ b_s cB cC cI cJ cZ oA rA σ_3 ++ b_c cB cC cI cJ cZ oA rA σ_3 ++ b_t cB cC cI cJ cZ oA rA σ_3 ++ b_d cB cC cI cJ cZ oA rA σ_3)) (hDD σ_3) fl_6 fl_6 [0, 1, 2, 3, 4, 5] (by decide +kernel) rfl
    have hFc := bx_F (bs := [b_m cB cC cI cJ cZ oA rA σ_3, b_w cB cC cI cJ cZ oA rA σ_3, b_s cB cC cI cJ cZ oA rA σ_3, b_c cB cC cI cJ cZ oA rA σ_3, b_t cB cC cI cJ cZ oA rA σ_3, b_d cB cC cI cJ cZ oA rA σ_3]) (bs' := [b_m cB cC cI cJ cZ oA rA σ_3, b_w cB cC cI cJ cZ oA rA σ_3, b_s cB cC cI cJ cZ oA rA σ_3, b_c cB cC cI cJ cZ oA rA σ_3, b_t cB cC cI cJ cZ oA rA σ_3, b_d cB cC cI cJ cZ oA rA σ_3]) (wc := (b_m cB cC cI cJ cZ oA rA σ_3 ++ b_w cB cC cI cJ cZ oA rA σ_3 ++ b_s cB cC cI cJ cZ oA rA σ_3 ++ b_c cB cC cI cJ cZ oA rA σ_3 ++ b_t cB cC cI cJ cZ oA rA σ_3 ++ b_d cB cC cI cJ cZ oA rA σ_3)) (hDD σ_3) hS hA fl_6 fl_6 [0, 1, 2, 3, 4, 5] rfl
    refine g_ofv (wc := (b_m cB cC cI cJ cZ oA rA σ_3 ++ b_w cB cC cI cJ cZ oA rA σ_3 ++ b_s cB cC cI cJ cZ oA rA σ_3 ++ b_c cB cC cI cJ cZ oA rA σ_3 ++ b_t cB cC cI cJ cZ oA rA σ_3 ++ b_d cB cC cI cJ cZ oA rA σ_3)) (wr := ([] : va_W)) hP (hDD σ_3) hS hFc (bx_ix [b_m cB cC cI cJ cZ oA rA σ_3, b_w cB cC cI cJ cZ oA rA σ_3, b_s cB cC cI cJ cZ oA rA σ_3, b_c cB cC cI cJ cZ oA rA σ_3, b_t cB cC cI cJ cZ oA rA σ_3, b_d cB cC cI cJ cZ oA rA σ_3] [0, 1, 2, 3, 4, 5]) (bx_ix [b_m cB cC cI cJ cZ oA rA σ_3, b_w cB cC cI cJ cZ oA rA σ_3, b_s cB cC cI cJ cZ oA rA σ_3, b_c cB cC cI cJ cZ oA rA σ_3, b_t cB cC cI cJ cZ oA rA σ_3, b_d cB cC cI cJ cZ oA rA σ_3] []) (bx_C (bs := [b_m cB cC cI cJ cZ oA rA σ_3, b_w cB cC cI cJ cZ oA rA σ_3, b_s cB cC cI cJ cZ oA rA σ_3, b_c cB cC cI cJ cZ oA rA σ_3, b_t cB cC cI cJ cZ oA rA σ_3, b_d cB cC cI cJ cZ oA rA σ_3]) (bs' := [b_m cB cC cI cJ cZ oA rA σ_3, b_w cB cC cI cJ cZ oA rA σ_3, b_s cB cC cI cJ cZ oA rA σ_3, b_c cB cC cI cJ cZ oA rA σ_3, b_t cB cC cI cJ cZ oA rA σ_3, b_d cB cC cI cJ cZ oA rA σ_3]) (is := [0, 1, 2, 3, 4, 5]) fl_6 fl_6 rfl) (bx_C (bs := [b_m cB cC cI cJ cZ oA rA σ_3, b_w cB cC cI cJ cZ oA rA σ_3, b_s cB cC cI cJ cZ oA rA σ_3, b_c cB cC cI cJ cZ oA rA σ_3, b_t cB cC cI cJ cZ oA rA σ_3, b_d cB cC cI cJ cZ oA rA σ_3]) (bs' := []) (is := []) fl_6 fl_0 rfl) (bx_n (by decide +kernel)) (bx_d (by decide +kernel)) (va_runV (As := [.int p0]) (rest := []) ⟨hx, hb, hml, hown, hts⟩ (k_X4_tellArray l dC dI cB cC cI cJ cZ cP oA rA H.size  p0 σ_3 _ hu_29) (cwV 1 hts (g_gV wq_735 wq_736 wq_2040 wq_4 wq_737) rfl rfl rfl (by decide +kernel) ⟨Nat.le_of_ble_eq_true rfl, Nat.le_of_ble_eq_true rfl⟩) (g_preV g_bl0 hK hPc hDc hS hE hFc g_to0 (q0 := 0) (ci := 4) rfl rfl) rfl rfl hl.1 rfl (lv_room (Nat.le_of_ble_eq_true rfl)) dX4_tellWord_144 ⟨Nat.le_of_ble_eq_true rfl, Nat.le_of_ble_eq_true rfl⟩) (fun u9 H locs hw9 hP' hD' hS => ?_)
    clear hPc hDc hFc
    have hP : va_P (dC, dI) vwCl (b_m cB cC cI cJ cZ oA rA u_29.2 ++ b_w cB cC cI cJ cZ oA rA u_29.2 ++ b_s cB cC cI cJ cZ oA rA u_29.2 ++ b_c cB cC cI cJ cZ oA rA u_29.2 ++ b_t cB cC cI cJ cZ oA rA u_29.2 ++ b_d cB cC cI cJ cZ oA rA u_29.2) H := hP'
    clear hP' hD'
    refine lv_goto (tgt := 206) hx hb dX4_tellWord_147 (by decide) ?_
    have h9 := Option.some.inj hF_30
    subst h9
    exact W.vret hx hb hr (fun t ht hW => ⟨⟨(), rfl, trivial, m_end ht hP, hDD _⟩, hS.F ht⟩) hS.2.2 dX4_tellWord_206
  have hF_31 := ineg c_27 hF_26
  clear hF_26
  by_cases c_32 : u_1.1 = 235
  · have hF_33 := ipos c_32 hF_31
    clear hF_31
    refine lv_tableIn (off := 142) (tgt := 150) hx hb dX4_tellWord_8 (by rw [c_32]; decide +kernel) (by rw [c_32]; decide +kernel) (by rw [c_32]; decide +kernel) (by decide) ?_
    refine lv_aload_n hx hb dX4_tellWord_150 rfl (lv_at hl 0 rfl) ?_
    refine lv_iload_n hx hb dX4_tellWord_151 rfl (lv_at hl 1 rfl) ?_
    obtain ⟨u_34, hu_34, hF_35⟩ := Option.bind_eq_some_iff.mp hF_33
    clear hF_33
    have hPc := bx_P (bs := [b_m cB cC cI cJ cZ oA rA σ_3, b_w cB cC cI cJ cZ oA rA σ_3, b_s cB cC cI cJ cZ oA rA σ_3, b_c cB cC cI cJ cZ oA rA σ_3, b_t cB cC cI cJ cZ oA rA σ_3, b_d cB cC cI cJ cZ oA rA σ_3]) (bs' := [b_m cB cC cI cJ cZ oA rA σ_3, b_w cB cC cI cJ cZ oA rA σ_3, b_s cB cC cI cJ cZ oA rA σ_3, b_c cB cC cI cJ cZ oA rA σ_3, b_t cB cC cI cJ cZ oA rA σ_3, b_d cB cC cI cJ cZ oA rA σ_3]) (ws' := (b_m cB cC cI cJ cZ oA rA σ_3 ++ b_w cB cC cI cJ cZ oA rA σ_3 ++ b_s cB cC cI cJ cZ oA rA σ_3 ++ b_c cB cC cI cJ cZ oA rA σ_3 ++ b_t cB cC cI cJ cZ oA rA σ_3 ++ b_d cB cC cI cJ cZ oA rA σ_3)) hP fl_6 fl_6 [0, 1, 2, 3, 4, 5] rfl
    have hDc := bx_D (bs := [b_m cB cC cI cJ cZ oA rA σ_3, b_w cB cC cI cJ cZ oA rA σ_3, b_s cB cC cI cJ cZ oA rA σ_3, b_c cB cC cI cJ cZ oA rA σ_3, b_t cB cC cI cJ cZ oA rA σ_3, b_d cB cC cI cJ cZ oA rA σ_3]) (bs' := [b_m cB cC cI cJ cZ oA rA σ_3, b_w cB cC cI cJ cZ oA rA σ_3, b_s cB cC cI cJ cZ oA rA σ_3, b_c cB cC cI cJ cZ oA rA σ_3, b_t cB cC cI cJ cZ oA rA σ_3, b_d cB cC cI cJ cZ oA rA σ_3]) (ws' := (b_m cB cC cI cJ cZ oA rA σ_3 ++ b_w cB cC cI cJ cZ oA rA σ_3 ++ b_s cB cC cI cJ cZ oA rA σ_3 ++ b_c cB cC cI cJ cZ oA rA σ_3 ++ b_t cB cC cI cJ cZ oA rA σ_3 ++ b_d cB cC cI cJ cZ oA rA σ_3)) (hDD σ_3) fl_6 fl_6 [0, 1, 2, 3, 4, 5] (by decide +kernel) rfl
    have hFc := bx_F (bs := [b_m cB cC cI cJ cZ oA rA σ_3, b_w cB cC cI cJ cZ oA rA σ_3, b_s cB cC cI cJ cZ oA rA σ_3, b_c cB cC cI cJ cZ oA rA σ_3, b_t cB cC cI cJ cZ oA rA σ_3, b_d cB cC cI cJ cZ oA rA σ_3]) (bs' := [b_m cB cC cI cJ cZ oA rA σ_3, b_w cB cC cI cJ cZ oA rA σ_3, b_s cB cC cI cJ cZ oA rA σ_3, b_c cB cC cI cJ cZ oA rA σ_3, b_t cB cC cI cJ cZ oA rA σ_3, b_d cB cC cI cJ cZ oA rA σ_3]) (wc := (b_m cB cC cI cJ cZ oA rA σ_3 ++ b_w cB cC cI cJ cZ oA rA σ_3 ++ b_s cB cC cI cJ cZ oA rA σ_3 ++ b_c cB cC cI cJ cZ oA rA σ_3 ++ b_t cB cC cI cJ cZ oA rA σ_3 ++ b_d cB cC cI cJ cZ oA rA σ_3)) (hDD σ_3) hS hA fl_6 fl_6 [0, 1, 2, 3, 4, 5] rfl
    refine g_ofv (wc := (b_m cB cC cI cJ cZ oA rA σ_3 ++ b_w cB cC cI cJ cZ oA rA σ_3 ++ b_s cB cC cI cJ cZ oA rA σ_3 ++ b_c cB cC cI cJ cZ oA rA σ_3 ++ b_t cB cC cI cJ cZ oA rA σ_3 ++ b_d cB cC cI cJ cZ oA rA σ_3)) (wr := ([] : va_W)) hP (hDD σ_3) hS hFc (bx_ix [b_m cB cC cI cJ cZ oA rA σ_3, b_w cB cC cI cJ cZ oA rA σ_3, b_s cB cC cI cJ cZ oA rA σ_3, b_c cB cC cI cJ cZ oA rA σ_3, b_t cB cC cI cJ cZ oA rA σ_3, b_d cB cC cI cJ cZ oA rA σ_3] [0, 1, 2, 3, 4, 5]) (bx_ix [b_m cB cC cI cJ cZ oA rA σ_3, b_w cB cC cI cJ cZ oA rA σ_3, b_s cB cC cI cJ cZ oA rA σ_3, b_c cB cC cI cJ cZ oA rA σ_3, b_t cB cC cI cJ cZ oA rA σ_3, b_d cB cC cI cJ cZ oA rA σ_3] []) (bx_C (bs := [b_m cB cC cI cJ cZ oA rA σ_3, b_w cB cC cI cJ cZ oA rA σ_3, b_s cB cC cI cJ cZ oA rA σ_3, b_c cB cC cI cJ cZ oA rA σ_3, b_t cB cC cI cJ cZ oA rA σ_3, b_d cB cC cI cJ cZ oA rA σ_3]) (bs' := [b_m cB cC cI cJ cZ oA rA σ_3, b_w cB cC cI cJ cZ oA rA σ_3, b_s cB cC cI cJ cZ oA rA σ_3, b_c cB cC cI cJ cZ oA rA σ_3, b_t cB cC cI cJ cZ oA rA σ_3, b_d cB cC cI cJ cZ oA rA σ_3]) (is := [0, 1, 2, 3, 4, 5]) fl_6 fl_6 rfl) (bx_C (bs := [b_m cB cC cI cJ cZ oA rA σ_3, b_w cB cC cI cJ cZ oA rA σ_3, b_s cB cC cI cJ cZ oA rA σ_3, b_c cB cC cI cJ cZ oA rA σ_3, b_t cB cC cI cJ cZ oA rA σ_3, b_d cB cC cI cJ cZ oA rA σ_3]) (bs' := []) (is := []) fl_6 fl_0 rfl) (bx_n (by decide +kernel)) (bx_d (by decide +kernel)) (va_runV (As := [.int p0]) (rest := []) ⟨hx, hb, hml, hown, hts⟩ (k_X4_tellDef l dC dI cB cC cI cJ cZ cP oA rA H.size  p0 σ_3 _ hu_34) (cwV 1 hts (g_gV wq_738 wq_739 wq_2041 wq_4 wq_740) rfl rfl rfl (by decide +kernel) ⟨Nat.le_of_ble_eq_true rfl, Nat.le_of_ble_eq_true rfl⟩) (g_preV g_bl0 hK hPc hDc hS hE hFc g_to0 (q0 := 0) (ci := 4) rfl rfl) rfl rfl hl.1 rfl (lv_room (Nat.le_of_ble_eq_true rfl)) dX4_tellWord_152 ⟨Nat.le_of_ble_eq_true rfl, Nat.le_of_ble_eq_true rfl⟩) (fun u9 H locs hw9 hP' hD' hS => ?_)
    clear hPc hDc hFc
    have hP : va_P (dC, dI) vwCl (b_m cB cC cI cJ cZ oA rA u_34.2 ++ b_w cB cC cI cJ cZ oA rA u_34.2 ++ b_s cB cC cI cJ cZ oA rA u_34.2 ++ b_c cB cC cI cJ cZ oA rA u_34.2 ++ b_t cB cC cI cJ cZ oA rA u_34.2 ++ b_d cB cC cI cJ cZ oA rA u_34.2) H := hP'
    clear hP' hD'
    refine lv_goto (tgt := 206) hx hb dX4_tellWord_155 (by decide) ?_
    have h9 := Option.some.inj hF_35
    subst h9
    exact W.vret hx hb hr (fun t ht hW => ⟨⟨(), rfl, trivial, m_end ht hP, hDD _⟩, hS.F ht⟩) hS.2.2 dX4_tellWord_206
  have hF_36 := ineg c_32 hF_31
  clear hF_31
  by_cases c_37 : u_1.1 = 236
  · have hF_38 := ipos c_37 hF_36
    clear hF_36
    refine lv_tableIn (off := 150) (tgt := 158) hx hb dX4_tellWord_8 (by rw [c_37]; decide +kernel) (by rw [c_37]; decide +kernel) (by rw [c_37]; decide +kernel) (by decide) ?_
    refine lv_aload_n hx hb dX4_tellWord_158 rfl (lv_at hl 0 rfl) ?_
    refine lv_iload_n hx hb dX4_tellWord_159 rfl (lv_at hl 1 rfl) ?_
    refine lv_iconst (v := 5) hx hb dX4_tellWord_160 (by decide +kernel) ?_
    refine lv_sipush (v := 200) hx hb dX4_tellWord_161 (by decide +kernel) ?_
    obtain ⟨u_39, hu_39, hF_40⟩ := Option.bind_eq_some_iff.mp hF_38
    clear hF_38
    have hPc := bx_P (bs := [b_m cB cC cI cJ cZ oA rA σ_3, b_w cB cC cI cJ cZ oA rA σ_3, b_s cB cC cI cJ cZ oA rA σ_3, b_c cB cC cI cJ cZ oA rA σ_3, b_t cB cC cI cJ cZ oA rA σ_3, b_d cB cC cI cJ cZ oA rA σ_3]) (bs' := [b_m cB cC cI cJ cZ oA rA σ_3, b_w cB cC cI cJ cZ oA rA σ_3, b_s cB cC cI cJ cZ oA rA σ_3, b_c cB cC cI cJ cZ oA rA σ_3, b_t cB cC cI cJ cZ oA rA σ_3, b_d cB cC cI cJ cZ oA rA σ_3]) (ws' := (b_m cB cC cI cJ cZ oA rA σ_3 ++ b_w cB cC cI cJ cZ oA rA σ_3 ++ b_s cB cC cI cJ cZ oA rA σ_3 ++ b_c cB cC cI cJ cZ oA rA σ_3 ++ b_t cB cC cI cJ cZ oA rA σ_3 ++ b_d cB cC cI cJ cZ oA rA σ_3)) hP fl_6 fl_6 [0, 1, 2, 3, 4, 5] rfl
    have hDc := bx_D (bs := [b_m cB cC cI cJ cZ oA rA σ_3, b_w cB cC cI cJ cZ oA rA σ_3, b_s cB cC cI cJ cZ oA rA σ_3, b_c cB cC cI cJ cZ oA rA σ_3, b_t cB cC cI cJ cZ oA rA σ_3, b_d cB cC cI cJ cZ oA rA σ_3]) (bs' := [b_m cB cC cI cJ cZ oA rA σ_3, b_w cB cC cI cJ cZ oA rA σ_3, b_s cB cC cI cJ cZ oA rA σ_3, b_c cB cC cI cJ cZ oA rA σ_3, b_t cB cC cI cJ cZ oA rA σ_3, b_d cB cC cI cJ cZ oA rA σ_3]) (ws' := (b_m cB cC cI cJ cZ oA rA σ_3 ++ b_w cB cC cI cJ cZ oA rA σ_3 ++ b_s cB cC cI cJ cZ oA rA σ_3 ++ b_c cB cC cI cJ cZ oA rA σ_3 ++ b_t cB cC cI cJ cZ oA rA σ_3 ++ b_d cB cC cI cJ cZ oA rA σ_3)) (hDD σ_3) fl_6 fl_6 [0, 1, 2, 3, 4, 5] (by decide +kernel) rfl
    have hFc := bx_F (bs := [b_m cB cC cI cJ cZ oA rA σ_3, b_w cB cC cI cJ cZ oA rA σ_3, b_s cB cC cI cJ cZ oA rA σ_3, b_c cB cC cI cJ cZ oA rA σ_3, b_t cB cC cI cJ cZ oA rA σ_3, b_d cB cC cI cJ cZ oA rA σ_3]) (bs' := [b_m cB cC cI cJ cZ oA rA σ_3, b_w cB cC cI cJ cZ oA rA σ_3, b_s cB cC cI cJ cZ oA rA σ_3, b_c cB cC cI cJ cZ oA rA σ_3, b_t cB cC cI cJ cZ oA rA σ_3, b_d cB cC cI cJ cZ oA rA σ_3]) (wc := (b_m cB cC cI cJ cZ oA rA σ_3 ++ b_w cB cC cI cJ cZ oA rA σ_3 ++ b_s cB cC cI cJ cZ oA rA σ_3 ++ b_c cB cC cI cJ cZ oA rA σ_3 ++ b_t cB cC cI cJ cZ oA rA σ_3 ++ b_d cB cC cI cJ cZ oA rA σ_3)) (hDD σ_3) hS hA fl_6 fl_6 [0, 1, 2, 3, 4, 5] rfl
    refine g_ofv (wc := (b_m cB cC cI cJ cZ oA rA σ_3 ++ b_w cB cC cI cJ cZ oA rA σ_3 ++ b_s cB cC cI cJ cZ oA rA σ_3 ++ b_c cB cC cI cJ cZ oA rA σ_3 ++ b_t cB cC cI cJ cZ oA rA σ_3 ++ b_d cB cC cI cJ cZ oA rA σ_3)) (wr := ([] : va_W)) hP (hDD σ_3) hS hFc (bx_ix [b_m cB cC cI cJ cZ oA rA σ_3, b_w cB cC cI cJ cZ oA rA σ_3, b_s cB cC cI cJ cZ oA rA σ_3, b_c cB cC cI cJ cZ oA rA σ_3, b_t cB cC cI cJ cZ oA rA σ_3, b_d cB cC cI cJ cZ oA rA σ_3] [0, 1, 2, 3, 4, 5]) (bx_ix [b_m cB cC cI cJ cZ oA rA σ_3, b_w cB cC cI cJ cZ oA rA σ_3, b_s cB cC cI cJ cZ oA rA σ_3, b_c cB cC cI cJ cZ oA rA σ_3, b_t cB cC cI cJ cZ oA rA σ_3, b_d cB cC cI cJ cZ oA rA σ_3] []) (bx_C (bs := [b_m cB cC cI cJ cZ oA rA σ_3, b_w cB cC cI cJ cZ oA rA σ_3, b_s cB cC cI cJ cZ oA rA σ_3, b_c cB cC cI cJ cZ oA rA σ_3, b_t cB cC cI cJ cZ oA rA σ_3, b_d cB cC cI cJ cZ oA rA σ_3]) (bs' := [b_m cB cC cI cJ cZ oA rA σ_3, b_w cB cC cI cJ cZ oA rA σ_3, b_s cB cC cI cJ cZ oA rA σ_3, b_c cB cC cI cJ cZ oA rA σ_3, b_t cB cC cI cJ cZ oA rA σ_3, b_d cB cC cI cJ cZ oA rA σ_3]) (is := [0, 1, 2, 3, 4, 5]) fl_6 fl_6 rfl) (bx_C (bs := [b_m cB cC cI cJ cZ oA rA σ_3, b_w cB cC cI cJ cZ oA rA σ_3, b_s cB cC cI cJ cZ oA rA σ_3, b_c cB cC cI cJ cZ oA rA σ_3, b_t cB cC cI cJ cZ oA rA σ_3, b_d cB cC cI cJ cZ oA rA σ_3]) (bs' := []) (is := []) fl_6 fl_0 rfl) (bx_n (by decide +kernel)) (bx_d (by decide +kernel)) (va_runV (As := [.int p0, .int 5, .int 200]) (rest := []) ⟨hx, hb, hml, hown, hts⟩ (k_X4_tellRule l dC dI cB cC cI cJ cZ cP oA rA H.size  p0 5 200 σ_3 _ hu_39) (cwV 3 hts (g_gV wq_750 wq_751 wq_2045 wq_4 wq_752) rfl rfl rfl (by decide +kernel) ⟨Nat.le_of_ble_eq_true rfl, Nat.le_of_ble_eq_true rfl⟩) (g_preV g_bl0 hK hPc hDc hS hE hFc g_to0 (q0 := 0) (ci := 4) rfl rfl) rfl rfl hl.1 rfl (lv_room (Nat.le_of_ble_eq_true rfl)) dX4_tellWord_164 ⟨Nat.le_of_ble_eq_true rfl, Nat.le_of_ble_eq_true rfl⟩) (fun u9 H locs hw9 hP' hD' hS => ?_)
    clear hPc hDc hFc
    have hP : va_P (dC, dI) vwCl (b_m cB cC cI cJ cZ oA rA u_39.2 ++ b_w cB cC cI cJ cZ oA rA u_39.2 ++ b_s cB cC cI cJ cZ oA rA u_39.2 ++ b_c cB cC cI cJ cZ oA rA u_39.2 ++ b_t cB cC cI cJ cZ oA rA u_39.2 ++ b_d cB cC cI cJ cZ oA rA u_39.2) H := hP'
    clear hP' hD'
    refine lv_goto (tgt := 206) hx hb dX4_tellWord_167 (by decide) ?_
    have h9 := Option.some.inj hF_40
    subst h9
    exact W.vret hx hb hr (fun t ht hW => ⟨⟨(), rfl, trivial, m_end ht hP, hDD _⟩, hS.F ht⟩) hS.2.2 dX4_tellWord_206
  have hF_41 := ineg c_37 hF_36
  clear hF_36
  by_cases c_42 : u_1.1 = 237
  · have hF_43 := ipos c_42 hF_41
    clear hF_41
    refine lv_tableIn (off := 162) (tgt := 170) hx hb dX4_tellWord_8 (by rw [c_42]; decide +kernel) (by rw [c_42]; decide +kernel) (by rw [c_42]; decide +kernel) (by decide) ?_
    refine lv_aload_n hx hb dX4_tellWord_170 rfl (lv_at hl 0 rfl) ?_
    refine lv_iload_n hx hb dX4_tellWord_171 rfl (lv_at hl 1 rfl) ?_
    refine lv_bipush (v := 6) hx hb dX4_tellWord_172 (by decide +kernel) ?_
    refine lv_bipush (v := 20) hx hb dX4_tellWord_174 (by decide +kernel) ?_
    obtain ⟨u_44, hu_44, hF_45⟩ := Option.bind_eq_some_iff.mp hF_43
    clear hF_43
    have hPc := bx_P (bs := [b_m cB cC cI cJ cZ oA rA σ_3, b_w cB cC cI cJ cZ oA rA σ_3, b_s cB cC cI cJ cZ oA rA σ_3, b_c cB cC cI cJ cZ oA rA σ_3, b_t cB cC cI cJ cZ oA rA σ_3, b_d cB cC cI cJ cZ oA rA σ_3]) (bs' := [b_m cB cC cI cJ cZ oA rA σ_3, b_w cB cC cI cJ cZ oA rA σ_3, b_s cB cC cI cJ cZ oA rA σ_3, b_c cB cC cI cJ cZ oA rA σ_3, b_t cB cC cI cJ cZ oA rA σ_3, b_d cB cC cI cJ cZ oA rA σ_3]) (ws' := (b_m cB cC cI cJ cZ oA rA σ_3 ++ b_w cB cC cI cJ cZ oA rA σ_3 ++ b_s cB cC cI cJ cZ oA rA σ_3 ++ b_c cB cC cI cJ cZ oA rA σ_3 ++ b_t cB cC cI cJ cZ oA rA σ_3 ++ b_d cB cC cI cJ cZ oA rA σ_3)) hP fl_6 fl_6 [0, 1, 2, 3, 4, 5] rfl
    have hDc := bx_D (bs := [b_m cB cC cI cJ cZ oA rA σ_3, b_w cB cC cI cJ cZ oA rA σ_3, b_s cB cC cI cJ cZ oA rA σ_3, b_c cB cC cI cJ cZ oA rA σ_3, b_t cB cC cI cJ cZ oA rA σ_3, b_d cB cC cI cJ cZ oA rA σ_3]) (bs' := [b_m cB cC cI cJ cZ oA rA σ_3, b_w cB cC cI cJ cZ oA rA σ_3, b_s cB cC cI cJ cZ oA rA σ_3, b_c cB cC cI cJ cZ oA rA σ_3, b_t cB cC cI cJ cZ oA rA σ_3, b_d cB cC cI cJ cZ oA rA σ_3]) (ws' := (b_m cB cC cI cJ cZ oA rA σ_3 ++ b_w cB cC cI cJ cZ oA rA σ_3 ++ b_s cB cC cI cJ cZ oA rA σ_3 ++ b_c cB cC cI cJ cZ oA rA σ_3 ++ b_t cB cC cI cJ cZ oA rA σ_3 ++ b_d cB cC cI cJ cZ oA rA σ_3)) (hDD σ_3) fl_6 fl_6 [0, 1, 2, 3, 4, 5] (by decide +kernel) rfl
    have hFc := bx_F (bs := [b_m cB cC cI cJ cZ oA rA σ_3, b_w cB cC cI cJ cZ oA rA σ_3, b_s cB cC cI cJ cZ oA rA σ_3, b_c cB cC cI cJ cZ oA rA σ_3, b_t cB cC cI cJ cZ oA rA σ_3, b_d cB cC cI cJ cZ oA rA σ_3]) (bs' := [b_m cB cC cI cJ cZ oA rA σ_3, b_w cB cC cI cJ cZ oA rA σ_3, b_s cB cC cI cJ cZ oA rA σ_3, b_c cB cC cI cJ cZ oA rA σ_3, b_t cB cC cI cJ cZ oA rA σ_3, b_d cB cC cI cJ cZ oA rA σ_3]) (wc := (b_m cB cC cI cJ cZ oA rA σ_3 ++ b_w cB cC cI cJ cZ oA rA σ_3 ++ b_s cB cC cI cJ cZ oA rA σ_3 ++ b_c cB cC cI cJ cZ oA rA σ_3 ++ b_t cB cC cI cJ cZ oA rA σ_3 ++ b_d cB cC cI cJ cZ oA rA σ_3)) (hDD σ_3) hS hA fl_6 fl_6 [0, 1, 2, 3, 4, 5] rfl
    refine g_ofv (wc := (b_m cB cC cI cJ cZ oA rA σ_3 ++ b_w cB cC cI cJ cZ oA rA σ_3 ++ b_s cB cC cI cJ cZ oA rA σ_3 ++ b_c cB cC cI cJ cZ oA rA σ_3 ++ b_t cB cC cI cJ cZ oA rA σ_3 ++ b_d cB cC cI cJ cZ oA rA σ_3)) (wr := ([] : va_W)) hP (hDD σ_3) hS hFc (bx_ix [b_m cB cC cI cJ cZ oA rA σ_3, b_w cB cC cI cJ cZ oA rA σ_3, b_s cB cC cI cJ cZ oA rA σ_3, b_c cB cC cI cJ cZ oA rA σ_3, b_t cB cC cI cJ cZ oA rA σ_3, b_d cB cC cI cJ cZ oA rA σ_3] [0, 1, 2, 3, 4, 5]) (bx_ix [b_m cB cC cI cJ cZ oA rA σ_3, b_w cB cC cI cJ cZ oA rA σ_3, b_s cB cC cI cJ cZ oA rA σ_3, b_c cB cC cI cJ cZ oA rA σ_3, b_t cB cC cI cJ cZ oA rA σ_3, b_d cB cC cI cJ cZ oA rA σ_3] []) (bx_C (bs := [b_m cB cC cI cJ cZ oA rA σ_3, b_w cB cC cI cJ cZ oA rA σ_3, b_s cB cC cI cJ cZ oA rA σ_3, b_c cB cC cI cJ cZ oA rA σ_3, b_t cB cC cI cJ cZ oA rA σ_3, b_d cB cC cI cJ cZ oA rA σ_3]) (bs' := [b_m cB cC cI cJ cZ oA rA σ_3, b_w cB cC cI cJ cZ oA rA σ_3, b_s cB cC cI cJ cZ oA rA σ_3, b_c cB cC cI cJ cZ oA rA σ_3, b_t cB cC cI cJ cZ oA rA σ_3, b_d cB cC cI cJ cZ oA rA σ_3]) (is := [0, 1, 2, 3, 4, 5]) fl_6 fl_6 rfl) (bx_C (bs := [b_m cB cC cI cJ cZ oA rA σ_3, b_w cB cC cI cJ cZ oA rA σ_3, b_s cB cC cI cJ cZ oA rA σ_3, b_c cB cC cI cJ cZ oA rA σ_3, b_t cB cC cI cJ cZ oA rA σ_3, b_d cB cC cI cJ cZ oA rA σ_3]) (bs' := []) (is := []) fl_6 fl_0 rfl) (bx_n (by decide +kernel)) (bx_d (by decide +kernel)) (va_runV (As := [.int p0, .int 6, .int 20]) (rest := []) ⟨hx, hb, hml, hown, hts⟩ (k_X4_tellRule l dC dI cB cC cI cJ cZ cP oA rA H.size  p0 6 20 σ_3 _ hu_44) (cwV 3 hts (g_gV wq_750 wq_751 wq_2045 wq_4 wq_752) rfl rfl rfl (by decide +kernel) ⟨Nat.le_of_ble_eq_true rfl, Nat.le_of_ble_eq_true rfl⟩) (g_preV g_bl0 hK hPc hDc hS hE hFc g_to0 (q0 := 0) (ci := 4) rfl rfl) rfl rfl hl.1 rfl (lv_room (Nat.le_of_ble_eq_true rfl)) dX4_tellWord_176 ⟨Nat.le_of_ble_eq_true rfl, Nat.le_of_ble_eq_true rfl⟩) (fun u9 H locs hw9 hP' hD' hS => ?_)
    clear hPc hDc hFc
    have hP : va_P (dC, dI) vwCl (b_m cB cC cI cJ cZ oA rA u_44.2 ++ b_w cB cC cI cJ cZ oA rA u_44.2 ++ b_s cB cC cI cJ cZ oA rA u_44.2 ++ b_c cB cC cI cJ cZ oA rA u_44.2 ++ b_t cB cC cI cJ cZ oA rA u_44.2 ++ b_d cB cC cI cJ cZ oA rA u_44.2) H := hP'
    clear hP' hD'
    refine lv_goto (tgt := 206) hx hb dX4_tellWord_179 (by decide) ?_
    have h9 := Option.some.inj hF_45
    subst h9
    exact W.vret hx hb hr (fun t ht hW => ⟨⟨(), rfl, trivial, m_end ht hP, hDD _⟩, hS.F ht⟩) hS.2.2 dX4_tellWord_206
  have hF_46 := ineg c_42 hF_41
  clear hF_41
  by_cases c_47 : u_1.1 = 240
  · have hF_48 := ipos c_47 hF_46
    clear hF_46
    refine lv_tableIn (off := 101) (tgt := 109) hx hb dX4_tellWord_8 (by rw [c_47]; decide +kernel) (by rw [c_47]; decide +kernel) (by rw [c_47]; decide +kernel) (by decide) ?_
    refine lv_aload_n hx hb dX4_tellWord_109 rfl (lv_at hl 0 rfl) ?_
    refine lv_iload_n hx hb dX4_tellWord_110 rfl (lv_at hl 1 rfl) ?_
    refine lv_iconst (v := 1) hx hb dX4_tellWord_111 (by decide +kernel) ?_
    refine lv_iadd hx hb dX4_tellWord_112 ?_
    obtain ⟨u_49, hu_49, hF_50⟩ := Option.bind_eq_some_iff.mp hF_48
    clear hF_48
    have hPc := bx_P (bs := [b_m cB cC cI cJ cZ oA rA σ_3, b_w cB cC cI cJ cZ oA rA σ_3, b_s cB cC cI cJ cZ oA rA σ_3, b_c cB cC cI cJ cZ oA rA σ_3, b_t cB cC cI cJ cZ oA rA σ_3, b_d cB cC cI cJ cZ oA rA σ_3]) (bs' := [b_m cB cC cI cJ cZ oA rA σ_3, b_w cB cC cI cJ cZ oA rA σ_3, b_s cB cC cI cJ cZ oA rA σ_3, b_c cB cC cI cJ cZ oA rA σ_3, b_t cB cC cI cJ cZ oA rA σ_3, b_d cB cC cI cJ cZ oA rA σ_3]) (ws' := (b_m cB cC cI cJ cZ oA rA σ_3 ++ b_w cB cC cI cJ cZ oA rA σ_3 ++ b_s cB cC cI cJ cZ oA rA σ_3 ++ b_c cB cC cI cJ cZ oA rA σ_3 ++ b_t cB cC cI cJ cZ oA rA σ_3 ++ b_d cB cC cI cJ cZ oA rA σ_3)) hP fl_6 fl_6 [0, 1, 2, 3, 4, 5] rfl
    have hDc := bx_D (bs := [b_m cB cC cI cJ cZ oA rA σ_3, b_w cB cC cI cJ cZ oA rA σ_3, b_s cB cC cI cJ cZ oA rA σ_3, b_c cB cC cI cJ cZ oA rA σ_3, b_t cB cC cI cJ cZ oA rA σ_3, b_d cB cC cI cJ cZ oA rA σ_3]) (bs' := [b_m cB cC cI cJ cZ oA rA σ_3, b_w cB cC cI cJ cZ oA rA σ_3, b_s cB cC cI cJ cZ oA rA σ_3, b_c cB cC cI cJ cZ oA rA σ_3, b_t cB cC cI cJ cZ oA rA σ_3, b_d cB cC cI cJ cZ oA rA σ_3]) (ws' := (b_m cB cC cI cJ cZ oA rA σ_3 ++ b_w cB cC cI cJ cZ oA rA σ_3 ++ b_s cB cC cI cJ cZ oA rA σ_3 ++ b_c cB cC cI cJ cZ oA rA σ_3 ++ b_t cB cC cI cJ cZ oA rA σ_3 ++ b_d cB cC cI cJ cZ oA rA σ_3)) (hDD σ_3) fl_6 fl_6 [0, 1, 2, 3, 4, 5] (by decide +kernel) rfl
    have hFc := bx_F (bs := [b_m cB cC cI cJ cZ oA rA σ_3, b_w cB cC cI cJ cZ oA rA σ_3, b_s cB cC cI cJ cZ oA rA σ_3, b_c cB cC cI cJ cZ oA rA σ_3, b_t cB cC cI cJ cZ oA rA σ_3, b_d cB cC cI cJ cZ oA rA σ_3]) (bs' := [b_m cB cC cI cJ cZ oA rA σ_3, b_w cB cC cI cJ cZ oA rA σ_3, b_s cB cC cI cJ cZ oA rA σ_3, b_c cB cC cI cJ cZ oA rA σ_3, b_t cB cC cI cJ cZ oA rA σ_3, b_d cB cC cI cJ cZ oA rA σ_3]) (wc := (b_m cB cC cI cJ cZ oA rA σ_3 ++ b_w cB cC cI cJ cZ oA rA σ_3 ++ b_s cB cC cI cJ cZ oA rA σ_3 ++ b_c cB cC cI cJ cZ oA rA σ_3 ++ b_t cB cC cI cJ cZ oA rA σ_3 ++ b_d cB cC cI cJ cZ oA rA σ_3)) (hDD σ_3) hS hA fl_6 fl_6 [0, 1, 2, 3, 4, 5] rfl
    refine g_ofi (wc := (b_m cB cC cI cJ cZ oA rA σ_3 ++ b_w cB cC cI cJ cZ oA rA σ_3 ++ b_s cB cC cI cJ cZ oA rA σ_3 ++ b_c cB cC cI cJ cZ oA rA σ_3 ++ b_t cB cC cI cJ cZ oA rA σ_3 ++ b_d cB cC cI cJ cZ oA rA σ_3)) (wr := ([] : va_W)) hP (hDD σ_3) hS hFc (bx_ix [b_m cB cC cI cJ cZ oA rA σ_3, b_w cB cC cI cJ cZ oA rA σ_3, b_s cB cC cI cJ cZ oA rA σ_3, b_c cB cC cI cJ cZ oA rA σ_3, b_t cB cC cI cJ cZ oA rA σ_3, b_d cB cC cI cJ cZ oA rA σ_3] [0, 1, 2, 3, 4, 5]) (bx_ix [b_m cB cC cI cJ cZ oA rA σ_3, b_w cB cC cI cJ cZ oA rA σ_3, b_s cB cC cI cJ cZ oA rA σ_3, b_c cB cC cI cJ cZ oA rA σ_3, b_t cB cC cI cJ cZ oA rA σ_3, b_d cB cC cI cJ cZ oA rA σ_3] []) (bx_C (bs := [b_m cB cC cI cJ cZ oA rA σ_3, b_w cB cC cI cJ cZ oA rA σ_3, b_s cB cC cI cJ cZ oA rA σ_3, b_c cB cC cI cJ cZ oA rA σ_3, b_t cB cC cI cJ cZ oA rA σ_3, b_d cB cC cI cJ cZ oA rA σ_3]) (bs' := [b_m cB cC cI cJ cZ oA rA σ_3, b_w cB cC cI cJ cZ oA rA σ_3, b_s cB cC cI cJ cZ oA rA σ_3, b_c cB cC cI cJ cZ oA rA σ_3, b_t cB cC cI cJ cZ oA rA σ_3, b_d cB cC cI cJ cZ oA rA σ_3]) (is := [0, 1, 2, 3, 4, 5]) fl_6 fl_6 rfl) (bx_C (bs := [b_m cB cC cI cJ cZ oA rA σ_3, b_w cB cC cI cJ cZ oA rA σ_3, b_s cB cC cI cJ cZ oA rA σ_3, b_c cB cC cI cJ cZ oA rA σ_3, b_t cB cC cI cJ cZ oA rA σ_3, b_d cB cC cI cJ cZ oA rA σ_3]) (bs' := []) (is := []) fl_6 fl_0 rfl) (bx_n (by decide +kernel)) (bx_d (by decide +kernel)) (va_runV (As := [.int (p0 + 1)]) (rest := []) ⟨hx, hb, hml, hown, hts⟩ (k_X4_countOwned l dC dI cB cC cI cJ cZ cP oA rA H.size  (p0 + 1) σ_3 _ hu_49) (cwV 1 hts (g_gV wq_729 wq_730 wq_2038 wq_4 wq_731) rfl rfl rfl (by decide +kernel) ⟨Nat.le_of_ble_eq_true rfl, Nat.le_of_ble_eq_true rfl⟩) (g_preV g_bl0 hK hPc hDc hS hE hFc g_to0 (q0 := 0) (ci := 4) rfl rfl) rfl rfl hl.1 rfl (lv_room (Nat.le_of_ble_eq_true rfl)) dX4_tellWord_113 ⟨Nat.le_of_ble_eq_true rfl, Nat.le_of_ble_eq_true rfl⟩) (fun r9 u9 H locs hw9 hP' hD' hS => ?_)
    clear hPc hDc hFc
    subst hw9
    have hP : va_P (dC, dI) vwCl (b_m cB cC cI cJ cZ oA rA u_49.2 ++ b_w cB cC cI cJ cZ oA rA u_49.2 ++ b_s cB cC cI cJ cZ oA rA u_49.2 ++ b_c cB cC cI cJ cZ oA rA u_49.2 ++ b_t cB cC cI cJ cZ oA rA u_49.2 ++ b_d cB cC cI cJ cZ oA rA u_49.2) H := hP'
    clear hP' hD'
    refine lv_pop hx hb dX4_tellWord_116 rfl ?_
    refine lv_goto (tgt := 206) hx hb dX4_tellWord_117 (by decide) ?_
    have h9 := Option.some.inj hF_50
    subst h9
    exact W.vret hx hb hr (fun t ht hW => ⟨⟨(), rfl, trivial, m_end ht hP, hDD _⟩, hS.F ht⟩) hS.2.2 dX4_tellWord_206
  have hF_51 := ineg c_47 hF_46
  clear hF_46
  by_cases c_52 : u_1.1 = 242
  · have hF_53 := ipos c_52 hF_51
    clear hF_51
    refine lv_tableIn (off := 174) (tgt := 182) hx hb dX4_tellWord_8 (by rw [c_52]; decide +kernel) (by rw [c_52]; decide +kernel) (by rw [c_52]; decide +kernel) (by decide) ?_
    refine lv_aload_n hx hb dX4_tellWord_182 rfl (lv_at hl 0 rfl) ?_
    refine lv_iload_n hx hb dX4_tellWord_183 rfl (lv_at hl 1 rfl) ?_
    refine lv_iconst (v := 1) hx hb dX4_tellWord_184 (by decide +kernel) ?_
    refine lv_iadd hx hb dX4_tellWord_185 ?_
    refine lv_aload_n hx hb dX4_tellWord_186 rfl (lv_at hl 0 rfl) ?_
    refine va_get (D := (dC, dI)) (ci := 4) (v := .int ((σ_3 3).1 8)) (C := RX4) (T := TX4) (N := 18) hx hb hts ii_X4 hown hK hP 0 rfl rfl 8 (by decide) (hts (.fieldLink RX4 129 "StoryHouse$Meanings" "slots" "I") wq_94) (fun _ h9 => h9) rfl dX4_tellWord_187 ?_
    refine lv_bipush (v := 14) hx hb dX4_tellWord_190 (by decide +kernel) ?_
    obtain ⟨j_56, ej_56, hF_57⟩ := bnd_e hF_53
    clear hF_53
    have Jj_56 : ∀ (t_54 : Int32) (σ_55 : HS), j_56 t_54 σ_55 = some res → ∀ (H : Heap) (locs : List Loc), va_P (dC, dI) vwCl (b_m cB cC cI cJ cZ oA rA σ_55 ++ b_w cB cC cI cJ cZ oA rA σ_55 ++ b_s cB cC cI cJ cZ oA rA σ_55 ++ b_c cB cC cI cJ cZ oA rA σ_55 ++ b_t cB cC cI cJ cZ oA rA σ_55 ++ b_d cB cC cI cJ cZ oA rA σ_55) H → va_S A s.heap H locs → ∀ ls : Array Slot, lv_has ls 2 [] → W p l e (headSpec (g_ws yX4_tellWord cX4_tellWord 2 none) { frames := 7, cells := 0, slots := 0, locals := 173 }).room s m ([.ref (oA 3), .int p0] : List Value).toArray below meth c H locs 0 0 (MQ below (va_Qv (fun (_ : Unit) => True) (g_Bo (dC, dI) A (fun (_ : Unit) => (b_m cB cC cI cJ cZ oA rA res.2 ++ b_w cB cC cI cJ cZ oA rA res.2 ++ b_s cB cC cI cJ cZ oA rA res.2 ++ b_c cB cC cI cJ cZ oA rA res.2 ++ b_t cB cC cI cJ cZ oA rA res.2 ++ b_d cB cC cI cJ cZ oA rA res.2))) A) ([.ref (oA 3), .int p0] : List Value).toArray s 0 0 A) (F0 m 200 ls [.int t_54, .int (p0 + 1), .ref (oA 3)]) := by
      intro t_54 σ_55 hF0 H locs hP hS ls hl
      subst ej_56
      have hF_58 := hF0
      clear hF0
      obtain ⟨u_59, hu_59, hF_60⟩ := Option.bind_eq_some_iff.mp hF_58
      clear hF_58
      have hPc := bx_P (bs := [b_m cB cC cI cJ cZ oA rA σ_55, b_w cB cC cI cJ cZ oA rA σ_55, b_s cB cC cI cJ cZ oA rA σ_55, b_c cB cC cI cJ cZ oA rA σ_55, b_t cB cC cI cJ cZ oA rA σ_55, b_d cB cC cI cJ cZ oA rA σ_55]) (bs' := [b_m cB cC cI cJ cZ oA rA σ_55, b_w cB cC cI cJ cZ oA rA σ_55, b_s cB cC cI cJ cZ oA rA σ_55, b_c cB cC cI cJ cZ oA rA σ_55, b_t cB cC cI cJ cZ oA rA σ_55, b_d cB cC cI cJ cZ oA rA σ_55]) (ws' := (b_m cB cC cI cJ cZ oA rA σ_55 ++ b_w cB cC cI cJ cZ oA rA σ_55 ++ b_s cB cC cI cJ cZ oA rA σ_55 ++ b_c cB cC cI cJ cZ oA rA σ_55 ++ b_t cB cC cI cJ cZ oA rA σ_55 ++ b_d cB cC cI cJ cZ oA rA σ_55)) hP fl_6 fl_6 [0, 1, 2, 3, 4, 5] rfl
      have hDc := bx_D (bs := [b_m cB cC cI cJ cZ oA rA σ_55, b_w cB cC cI cJ cZ oA rA σ_55, b_s cB cC cI cJ cZ oA rA σ_55, b_c cB cC cI cJ cZ oA rA σ_55, b_t cB cC cI cJ cZ oA rA σ_55, b_d cB cC cI cJ cZ oA rA σ_55]) (bs' := [b_m cB cC cI cJ cZ oA rA σ_55, b_w cB cC cI cJ cZ oA rA σ_55, b_s cB cC cI cJ cZ oA rA σ_55, b_c cB cC cI cJ cZ oA rA σ_55, b_t cB cC cI cJ cZ oA rA σ_55, b_d cB cC cI cJ cZ oA rA σ_55]) (ws' := (b_m cB cC cI cJ cZ oA rA σ_55 ++ b_w cB cC cI cJ cZ oA rA σ_55 ++ b_s cB cC cI cJ cZ oA rA σ_55 ++ b_c cB cC cI cJ cZ oA rA σ_55 ++ b_t cB cC cI cJ cZ oA rA σ_55 ++ b_d cB cC cI cJ cZ oA rA σ_55)) (hDD σ_55) fl_6 fl_6 [0, 1, 2, 3, 4, 5] (by decide +kernel) rfl
      have hFc := bx_F (bs := [b_m cB cC cI cJ cZ oA rA σ_55, b_w cB cC cI cJ cZ oA rA σ_55, b_s cB cC cI cJ cZ oA rA σ_55, b_c cB cC cI cJ cZ oA rA σ_55, b_t cB cC cI cJ cZ oA rA σ_55, b_d cB cC cI cJ cZ oA rA σ_55]) (bs' := [b_m cB cC cI cJ cZ oA rA σ_55, b_w cB cC cI cJ cZ oA rA σ_55, b_s cB cC cI cJ cZ oA rA σ_55, b_c cB cC cI cJ cZ oA rA σ_55, b_t cB cC cI cJ cZ oA rA σ_55, b_d cB cC cI cJ cZ oA rA σ_55]) (wc := (b_m cB cC cI cJ cZ oA rA σ_55 ++ b_w cB cC cI cJ cZ oA rA σ_55 ++ b_s cB cC cI cJ cZ oA rA σ_55 ++ b_c cB cC cI cJ cZ oA rA σ_55 ++ b_t cB cC cI cJ cZ oA rA σ_55 ++ b_d cB cC cI cJ cZ oA rA σ_55)) (hDD σ_55) hS hA fl_6 fl_6 [0, 1, 2, 3, 4, 5] rfl
      refine g_ofv (wc := (b_m cB cC cI cJ cZ oA rA σ_55 ++ b_w cB cC cI cJ cZ oA rA σ_55 ++ b_s cB cC cI cJ cZ oA rA σ_55 ++ b_c cB cC cI cJ cZ oA rA σ_55 ++ b_t cB cC cI cJ cZ oA rA σ_55 ++ b_d cB cC cI cJ cZ oA rA σ_55)) (wr := ([] : va_W)) hP (hDD σ_55) hS hFc (bx_ix [b_m cB cC cI cJ cZ oA rA σ_55, b_w cB cC cI cJ cZ oA rA σ_55, b_s cB cC cI cJ cZ oA rA σ_55, b_c cB cC cI cJ cZ oA rA σ_55, b_t cB cC cI cJ cZ oA rA σ_55, b_d cB cC cI cJ cZ oA rA σ_55] [0, 1, 2, 3, 4, 5]) (bx_ix [b_m cB cC cI cJ cZ oA rA σ_55, b_w cB cC cI cJ cZ oA rA σ_55, b_s cB cC cI cJ cZ oA rA σ_55, b_c cB cC cI cJ cZ oA rA σ_55, b_t cB cC cI cJ cZ oA rA σ_55, b_d cB cC cI cJ cZ oA rA σ_55] []) (bx_C (bs := [b_m cB cC cI cJ cZ oA rA σ_55, b_w cB cC cI cJ cZ oA rA σ_55, b_s cB cC cI cJ cZ oA rA σ_55, b_c cB cC cI cJ cZ oA rA σ_55, b_t cB cC cI cJ cZ oA rA σ_55, b_d cB cC cI cJ cZ oA rA σ_55]) (bs' := [b_m cB cC cI cJ cZ oA rA σ_55, b_w cB cC cI cJ cZ oA rA σ_55, b_s cB cC cI cJ cZ oA rA σ_55, b_c cB cC cI cJ cZ oA rA σ_55, b_t cB cC cI cJ cZ oA rA σ_55, b_d cB cC cI cJ cZ oA rA σ_55]) (is := [0, 1, 2, 3, 4, 5]) fl_6 fl_6 rfl) (bx_C (bs := [b_m cB cC cI cJ cZ oA rA σ_55, b_w cB cC cI cJ cZ oA rA σ_55, b_s cB cC cI cJ cZ oA rA σ_55, b_c cB cC cI cJ cZ oA rA σ_55, b_t cB cC cI cJ cZ oA rA σ_55, b_d cB cC cI cJ cZ oA rA σ_55]) (bs' := []) (is := []) fl_6 fl_0 rfl) (bx_n (by decide +kernel)) (bx_d (by decide +kernel)) (va_runV (As := [.int (p0 + 1), .int t_54]) (rest := []) ⟨hx, hb, hml, hown, hts⟩ (k_X4_tellLocal l dC dI cB cC cI cJ cZ cP oA rA H.size  (p0 + 1) t_54 σ_55 _ hu_59) (cwV 2 hts (g_gV wq_744 wq_745 wq_2043 wq_4 wq_746) rfl rfl rfl (by decide +kernel) ⟨Nat.le_of_ble_eq_true rfl, Nat.le_of_ble_eq_true rfl⟩) (g_preV g_bl0 hK hPc hDc hS hE hFc g_to0 (q0 := 0) (ci := 4) rfl rfl) rfl rfl hl.1 rfl (lv_room (Nat.le_of_ble_eq_true rfl)) dX4_tellWord_200 ⟨Nat.le_of_ble_eq_true rfl, Nat.le_of_ble_eq_true rfl⟩) (fun u9 H locs hw9 hP' hD' hS => ?_)
      clear hPc hDc hFc
      have hP : va_P (dC, dI) vwCl (b_m cB cC cI cJ cZ oA rA u_59.2 ++ b_w cB cC cI cJ cZ oA rA u_59.2 ++ b_s cB cC cI cJ cZ oA rA u_59.2 ++ b_c cB cC cI cJ cZ oA rA u_59.2 ++ b_t cB cC cI cJ cZ oA rA u_59.2 ++ b_d cB cC cI cJ cZ oA rA u_59.2) H := hP'
      clear hP' hD'
      refine lv_goto (tgt := 206) hx hb dX4_tellWord_203 (by decide) ?_
      have h9 := Option.some.inj hF_60
      subst h9
      exact W.vret hx hb hr (fun t ht hW => ⟨⟨(), rfl, trivial, m_end ht hP, hDD _⟩, hS.F ht⟩) hS.2.2 dX4_tellWord_206
    refine lv_icmp_ge (tgt := 199) hx hb dX4_tellWord_192 (by decide) (fun c_61 => ?_) (fun c_61 => ?_)
    · have hF_62 := ipos c_61 hF_57
      clear hF_57
      refine lv_iconst (v := 0) hx hb dX4_tellWord_199 (by decide +kernel) ?_
      exact Jj_56 0 σ_3 hF_62 _ _ hP hS ls (lv_sub hl [] rfl)
    · have hF_63 := ineg c_61 hF_57
      clear hF_57
      refine lv_iconst (v := 1) hx hb dX4_tellWord_195 (by decide +kernel) ?_
      refine lv_goto (tgt := 200) hx hb dX4_tellWord_196 (by decide) ?_
      exact Jj_56 1 σ_3 hF_63 _ _ hP hS ls (lv_sub hl [] rfl)
  have hF_64 := ineg c_52 hF_51
  clear hF_51
  refine m_tabD (lo := 230) (n := 13) (tgt := 206) hx hb dX4_tellWord_8 (by decide +kernel) (by decide) (fun j9 h9 e9 => by
      match j9, h9 with
      | 0, _ => exact absurd ((by rw [e9]; decide +kernel)) c_5
      | 1, _ => exact absurd ((by rw [e9]; decide +kernel)) c_10
      | 2, _ => exact absurd ((by rw [e9]; decide +kernel)) c_17
      | 3, _ => exact absurd ((by rw [e9]; decide +kernel)) c_22
      | 4, _ => exact absurd ((by rw [e9]; decide +kernel)) c_27
      | 5, _ => exact absurd ((by rw [e9]; decide +kernel)) c_32
      | 6, _ => exact absurd ((by rw [e9]; decide +kernel)) c_37
      | 7, _ => exact absurd ((by rw [e9]; decide +kernel)) c_42
      | 8, _ => rfl
      | 9, _ => rfl
      | 10, _ => exact absurd ((by rw [e9]; decide +kernel)) c_47
      | 11, _ => rfl
      | 12, _ => exact absurd ((by rw [e9]; decide +kernel)) c_52
      | n9 + 13, h9 => exact absurd h9 (by omega)) ?_
  have h9 := Option.some.inj hF_64
  subst h9
  exact W.vret hx hb hr (fun t ht hW => ⟨⟨(), rfl, trivial, m_end ht hP, hDD _⟩, hS.F ht⟩) hS.2.2 dX4_tellWord_206
theorem dX7_hasCircle_0 : decode cX7_hasCircle 0 = .ok (.iconst 1, 1) := by decide +kernel
theorem dX7_hasCircle_1 : decode cX7_hasCircle 1 = .ok (.istore_n 1, 1) := by decide +kernel
theorem dX7_hasCircle_2 : decode cX7_hasCircle 2 = .ok (.iload_n 1, 1) := by decide +kernel
theorem dX7_hasCircle_3 : decode cX7_hasCircle 3 = .ok (.bipush 120, 2) := by decide +kernel
theorem dX7_hasCircle_5 : decode cX7_hasCircle 5 = .ok (.if_icmp .gt 54, 3) := by decide +kernel
theorem dX7_hasCircle_8 : decode cX7_hasCircle 8 = .ok (.iload_n 1, 1) := by decide +kernel
theorem dX7_hasCircle_9 : decode cX7_hasCircle 9 = .ok (.aload_n 0, 1) := by decide +kernel
theorem dX7_hasCircle_10 : decode cX7_hasCircle 10 = .ok (.getfield 9, 3) := by decide +kernel
theorem dX7_hasCircle_13 : decode cX7_hasCircle 13 = .ok (.iconst 0, 1) := by decide +kernel
theorem dX7_hasCircle_14 : decode cX7_hasCircle 14 = .ok (.iaload, 1) := by decide +kernel
theorem dX7_hasCircle_15 : decode cX7_hasCircle 15 = .ok (.if_icmp .gt 44, 3) := by decide +kernel
theorem dX7_hasCircle_18 : decode cX7_hasCircle 18 = .ok (.iload_n 1, 1) := by decide +kernel
theorem dX7_hasCircle_19 : decode cX7_hasCircle 19 = .ok (.istore_n 2, 1) := by decide +kernel
theorem dX7_hasCircle_20 : decode cX7_hasCircle 20 = .ok (.iconst 0, 1) := by decide +kernel
theorem dX7_hasCircle_21 : decode cX7_hasCircle 21 = .ok (.istore_n 3, 1) := by decide +kernel
theorem dX7_hasCircle_22 : decode cX7_hasCircle 22 = .ok (.iload_n 3, 1) := by decide +kernel
theorem dX7_hasCircle_23 : decode cX7_hasCircle 23 = .ok (.bipush 120, 2) := by decide +kernel
theorem dX7_hasCircle_25 : decode cX7_hasCircle 25 = .ok (.if_icmp .gt 22, 3) := by decide +kernel
theorem dX7_hasCircle_28 : decode cX7_hasCircle 28 = .ok (.iload_n 2, 1) := by decide +kernel
theorem dX7_hasCircle_29 : decode cX7_hasCircle 29 = .ok (.ifCond .eq 18, 3) := by decide +kernel
theorem dX7_hasCircle_32 : decode cX7_hasCircle 32 = .ok (.aload_n 0, 1) := by decide +kernel
theorem dX7_hasCircle_33 : decode cX7_hasCircle 33 = .ok (.getfield 25, 3) := by decide +kernel
theorem dX7_hasCircle_36 : decode cX7_hasCircle 36 = .ok (.iload_n 2, 1) := by decide +kernel
theorem dX7_hasCircle_37 : decode cX7_hasCircle 37 = .ok (.invokestatic 155, 3) := by decide +kernel
theorem dX7_hasCircle_40 : decode cX7_hasCircle 40 = .ok (.istore_n 2, 1) := by decide +kernel
theorem dX7_hasCircle_41 : decode cX7_hasCircle 41 = .ok (.iinc 3 1, 3) := by decide +kernel
theorem dX7_hasCircle_44 : decode cX7_hasCircle 44 = .ok (.goto (-22), 3) := by decide +kernel
theorem dX7_hasCircle_47 : decode cX7_hasCircle 47 = .ok (.iload_n 2, 1) := by decide +kernel
theorem dX7_hasCircle_48 : decode cX7_hasCircle 48 = .ok (.ifCond .eq 5, 3) := by decide +kernel
theorem dX7_hasCircle_51 : decode cX7_hasCircle 51 = .ok (.iconst 1, 1) := by decide +kernel
theorem dX7_hasCircle_52 : decode cX7_hasCircle 52 = .ok (.ireturn, 1) := by decide +kernel
theorem dX7_hasCircle_53 : decode cX7_hasCircle 53 = .ok (.iinc 1 1, 3) := by decide +kernel
theorem dX7_hasCircle_56 : decode cX7_hasCircle 56 = .ok (.goto (-54), 3) := by decide +kernel
theorem dX7_hasCircle_59 : decode cX7_hasCircle 59 = .ok (.iconst 0, 1) := by decide +kernel
theorem dX7_hasCircle_60 : decode cX7_hasCircle 60 = .ok (.ireturn, 1) := by decide +kernel
def F_X7_hasCircle  (Γ : HS) : HR :=
  loopF (fun (again_2 : (Int32 × HS) → HR) (s_1 : Int32 × HS) => (
    if 120 < s_1.1 then (
      some (0, s_1.2)
    ) else (
      if ((s_1.2 4).2.1 0 (0 : Int32).toNatClampNeg) < s_1.1 then (
        some (0, s_1.2)
      ) else (
        loopF (fun (again_12 : (Int32 × Int32 × HS) → HR) (s_11 : Int32 × Int32 × HS) => (
          bnd (fun  (σ_15 : HS) => (
            if s_11.1 = 0 then (
              bnd (s_1.1 + 1) fun (x_21 : Int32) =>
              again_2 (x_21, σ_15)
            ) else (
              some (1, σ_15)
            )
          ) : HS → HR) fun j_16 =>
          if 120 < s_11.2.1 then (
            j_16  s_11.2.2
          ) else (
            if s_11.1 = 0 then (
              j_16  s_11.2.2
            ) else (
              bnd ((g_at 121 ((s_11.2.2 4).2.1 4) s_11.1)) fun (x_30 : Int32) =>
              bnd (s_11.2.1 + 1) fun (x_32 : Int32) =>
              again_12 (x_30, x_32, s_11.2.2)
            )
          )
        )) FU (s_1.1, 0, s_1.2)
      )
    )
  )) FU (1, Γ)
set_option maxHeartbeats 4000000 in
set_option maxRecDepth 100000 in
theorem k_X7_hasCircle (l : Launch) (dC : Nat → ClassId) (dI : Nat → Nat → Nat) (cB cC cI cJ cZ cP : ClassId) (oA : Nat → Nat) (rA : Nat → Nat → Nat) (sz : Nat)   (Γ : HS) (res : Int32 × HS) (hF : F_X7_hasCircle  Γ = some res) : Met l yX7_hasCircle (g_ws yX7_hasCircle cX7_hasCircle 4 (some .boolean)) ({ frames := 3, cells := 0, slots := 0, locals := 81 }) (va_Pc [.ref (oA 4)] (g_B (dC, dI) [(cB, .byte), (cC, .char), (cI, .int), (cJ, .long), (cZ, .boolean), (cP, .object "StoryHouse$Play")] sz (b_s cB cC cI cJ cZ oA rA Γ ++ b_c cB cC cI cJ cZ oA rA Γ ++ b_t cB cC cI cJ cZ oA rA Γ ++ b_d cB cC cI cJ cZ oA rA Γ) g_0)) (va_Qi (fun r (_ : Unit) => r = res.1) (g_Bo (dC, dI) (va_A (b_s cB cC cI cJ cZ oA rA Γ ++ b_c cB cC cI cJ cZ oA rA Γ ++ b_t cB cC cI cJ cZ oA rA Γ ++ b_d cB cC cI cJ cZ oA rA Γ) sz) (fun (_ : Unit) => (b_s cB cC cI cJ cZ oA rA res.2 ++ b_c cB cC cI cJ cZ oA rA res.2 ++ b_t cB cC cI cJ cZ oA rA res.2 ++ b_d cB cC cI cJ cZ oA rA res.2))) (va_A (b_s cB cC cI cJ cZ oA rA Γ ++ b_c cB cC cI cJ cZ oA rA Γ ++ b_t cB cC cI cJ cZ oA rA Γ ++ b_d cB cC cI cJ cZ oA rA Γ) sz)) 0 0 (va_A (b_s cB cC cI cJ cZ oA rA Γ ++ b_c cB cC cI cJ cZ oA rA Γ ++ b_t cB cC cI cJ cZ oA rA Γ ++ b_d cB cC cI cJ cZ oA rA Γ) sz) := by
  refine Met.ofW (cc := cX7_hasCircle) (maxL := 4) (ret := (some .boolean)) (by decide) rfl ?_
  intro p e s m args below meth c s₁ B hml hv
  obtain ⟨rfl, hsz, hP, hK, hD0, hE, hX⟩ := hv
  have hx := B.exec
  have hb := B.bytes
  have hr := B.returns
  have hts0 := atoms_spec (ws := g_ws yX7_hasCircle cX7_hasCircle 4 (some .boolean)) B.pre
  have hts : ∀ w ∈ lw_good, w.before ([.ref (oA 4)] : List Value).toArray s = true := fun w z => hts0 w (List.mem_cons_of_mem _ z)
  have hown : s.vm.findClass RX7 = some m.cls := findClass_of_methodNamed B.named
  have hlocks := B.notSynchronized
  subst hsz
  have hD1 := hD0.self (sz := s.heap.size)
  generalize hAe : va_A (b_s cB cC cI cJ cZ oA rA Γ ++ b_c cB cC cI cJ cZ oA rA Γ ++ b_t cB cC cI cJ cZ oA rA Γ ++ b_d cB cC cI cJ cZ oA rA Γ) s.heap.size = A at hD1 hE hX ⊢
  have hA : ∀ q : Nat, s.heap.size ≤ q → A q := fun q z => by rw [← hAe]; exact Or.inr z
  have hDD : ∀ Γ : HS, va_D A (b_s cB cC cI cJ cZ oA rA Γ ++ b_c cB cC cI cJ cZ oA rA Γ ++ b_t cB cC cI cJ cZ oA rA Γ ++ b_d cB cC cI cJ cZ oA rA Γ) := fun Γ9 => va_D_fst (ws := (b_s cB cC cI cJ cZ oA rA Γ ++ b_c cB cC cI cJ cZ oA rA Γ ++ b_t cB cC cI cJ cZ oA rA Γ ++ b_d cB cC cI cJ cZ oA rA Γ)) (ws' := (b_s cB cC cI cJ cZ oA rA Γ9 ++ b_c cB cC cI cJ cZ oA rA Γ9 ++ b_t cB cC cI cJ cZ oA rA Γ9 ++ b_d cB cC cI cJ cZ oA rA Γ9)) rfl hD1
  have hN := hE.1
  have hS : va_S A s.heap s.heap [] := va_S.rf
  have hl := lv_entry ([.ref (oA 4)]) (n := 4) (Nat.le_of_ble_eq_true rfl)
  rw [lg_entry_eq]
  generalize (lg_sl ([.ref (oA 4)]) ++ List.replicate (4 - (lg_sl ([.ref (oA 4)])).length) Slot.unset).toArray = ls at hl ⊢
  have hl : lv_has ls 4 [(0, .ref (oA 4))] := hl
  unfold F_X7_hasCircle at hF
  refine lv_iconst (v := 1) hx hb dX7_hasCircle_0 (by decide +kernel) ?_
  refine lv_istore_n (lv' := [(1, .int 1), (0, .ref (oA 4))]) hx hb dX7_hasCircle_1 rfl hl (by decide) rfl (fun ls hl => ?_)
  refine loopF_ind (P := fun (s_1 : Int32 × HS) => ∀ (H : Heap) (locs : List Loc), va_P (dC, dI) vwCl (b_s cB cC cI cJ cZ oA rA s_1.2 ++ b_c cB cC cI cJ cZ oA rA s_1.2 ++ b_t cB cC cI cJ cZ oA rA s_1.2 ++ b_d cB cC cI cJ cZ oA rA s_1.2) H → va_S A s.heap H locs → ∀ ls : Array Slot, lv_has ls 4 [(0, .ref (oA 4)), (1, .int s_1.1)] → W p l e (headSpec (g_ws yX7_hasCircle cX7_hasCircle 4 (some .boolean)) { frames := 3, cells := 0, slots := 0, locals := 81 }).room s m ([.ref (oA 4)] : List Value).toArray below meth c H locs 0 0 (MQ below (va_Qi (fun r (_ : Unit) => r = res.1) (g_Bo (dC, dI) A (fun (_ : Unit) => (b_s cB cC cI cJ cZ oA rA res.2 ++ b_c cB cC cI cJ cZ oA rA res.2 ++ b_t cB cC cI cJ cZ oA rA res.2 ++ b_d cB cC cI cJ cZ oA rA res.2))) A) ([.ref (oA 4)] : List Value).toArray s 0 0 A) (F0 m 2 ls [])) ?_ _ _ hF _ _ hP hS ls (lv_sub hl [1, 0] rfl)
  intro again_2 s_1 ih_3 hF_4
  intro H locs hP hS ls hl
  refine lv_iload_n hx hb dX7_hasCircle_2 rfl (lv_at hl 1 rfl) ?_
  refine lv_bipush (v := 120) hx hb dX7_hasCircle_3 (by decide +kernel) ?_
  refine lv_icmp_gt (tgt := 59) hx hb dX7_hasCircle_5 (by decide) (fun c_5 => ?_) (fun c_5 => ?_)
  · have hF_6 := ipos c_5 hF_4
    clear hF_4
    refine lv_iconst (v := 0) hx hb dX7_hasCircle_59 (by decide +kernel) ?_
    have h9 := Option.some.inj hF_6
    subst h9
    exact W.zret (v := 0) hx hb hr (by decide +kernel) (fun t ht hW => ⟨⟨0, (), rfl, rfl, m_end ht hP, hDD _⟩, hS.F ht⟩) hS.2.2 dX7_hasCircle_60
  · have hF_7 := ineg c_5 hF_4
    clear hF_4
    refine lv_iload_n hx hb dX7_hasCircle_8 rfl (lv_at hl 1 rfl) ?_
    refine lv_aload_n hx hb dX7_hasCircle_9 rfl (lv_at hl 0 rfl) ?_
    refine va_get (D := (dC, dI)) (ci := 7) (v := .ref (rA 4 0)) (C := RX7) (T := TX7) (N := 19) hx hb hts ii_X7 hown hK hP 0 rfl rfl 0 (by decide) (hts (.fieldLink RX7 9 "StoryHouse$Story" "counts" "[I") wq_152) (fun _ h9 => h9) rfl dX7_hasCircle_10 ?_
    refine lv_iconst (v := 0) hx hb dX7_hasCircle_13 (by decide +kernel) ?_
    refine va_iald (f := (s_1.2 4).2.1 0) hx hb hK hP 1 2 rfl rfl (vp_in_iff.mpr (by decide +kernel)) dX7_hasCircle_14 ?_
    refine lv_icmp_gt (tgt := 59) hx hb dX7_hasCircle_15 (by decide) (fun c_8 => ?_) (fun c_8 => ?_)
    · have hF_9 := ipos c_8 hF_7
      clear hF_7
      refine lv_iconst (v := 0) hx hb dX7_hasCircle_59 (by decide +kernel) ?_
      have h9 := Option.some.inj hF_9
      subst h9
      exact W.zret (v := 0) hx hb hr (by decide +kernel) (fun t ht hW => ⟨⟨0, (), rfl, rfl, m_end ht hP, hDD _⟩, hS.F ht⟩) hS.2.2 dX7_hasCircle_60
    · have hF_10 := ineg c_8 hF_7
      clear hF_7
      refine lv_iload_n hx hb dX7_hasCircle_18 rfl (lv_at hl 1 rfl) ?_
      refine lv_istore_n (lv' := [(2, .int s_1.1), (0, .ref (oA 4)), (1, .int s_1.1)]) hx hb dX7_hasCircle_19 rfl hl (by decide) rfl (fun ls hl => ?_)
      refine lv_iconst (v := 0) hx hb dX7_hasCircle_20 (by decide +kernel) ?_
      refine lv_istore_n (lv' := [(3, .int 0), (2, .int s_1.1), (0, .ref (oA 4)), (1, .int s_1.1)]) hx hb dX7_hasCircle_21 rfl hl (by decide) rfl (fun ls hl => ?_)
      refine loopF_ind (P := fun (s_11 : Int32 × Int32 × HS) => ∀ (H : Heap) (locs : List Loc), va_P (dC, dI) vwCl (b_s cB cC cI cJ cZ oA rA s_11.2.2 ++ b_c cB cC cI cJ cZ oA rA s_11.2.2 ++ b_t cB cC cI cJ cZ oA rA s_11.2.2 ++ b_d cB cC cI cJ cZ oA rA s_11.2.2) H → va_S A s.heap H locs → ∀ ls : Array Slot, lv_has ls 4 [(0, .ref (oA 4)), (1, .int s_1.1), (2, .int s_11.1), (3, .int s_11.2.1)] → W p l e (headSpec (g_ws yX7_hasCircle cX7_hasCircle 4 (some .boolean)) { frames := 3, cells := 0, slots := 0, locals := 81 }).room s m ([.ref (oA 4)] : List Value).toArray below meth c H locs 0 0 (MQ below (va_Qi (fun r (_ : Unit) => r = res.1) (g_Bo (dC, dI) A (fun (_ : Unit) => (b_s cB cC cI cJ cZ oA rA res.2 ++ b_c cB cC cI cJ cZ oA rA res.2 ++ b_t cB cC cI cJ cZ oA rA res.2 ++ b_d cB cC cI cJ cZ oA rA res.2))) A) ([.ref (oA 4)] : List Value).toArray s 0 0 A) (F0 m 22 ls [])) ?_ _ _ hF_10 _ _ hP hS ls (lv_sub hl [2, 3, 1, 0] rfl)
      intro again_12 s_11 ih_13 hF_14
      intro H locs hP hS ls hl
      refine lv_iload_n hx hb dX7_hasCircle_22 rfl (lv_at hl 3 rfl) ?_
      refine lv_bipush (v := 120) hx hb dX7_hasCircle_23 (by decide +kernel) ?_
      obtain ⟨j_16, ej_16, hF_17⟩ := bnd_e hF_14
      clear hF_14
      have Jj_16 : ∀  (σ_15 : HS), j_16  σ_15 = some res → ∀ (H : Heap) (locs : List Loc), va_P (dC, dI) vwCl (b_s cB cC cI cJ cZ oA rA σ_15 ++ b_c cB cC cI cJ cZ oA rA σ_15 ++ b_t cB cC cI cJ cZ oA rA σ_15 ++ b_d cB cC cI cJ cZ oA rA σ_15) H → va_S A s.heap H locs → ∀ ls : Array Slot, lv_has ls 4 [(0, .ref (oA 4)), (1, .int s_1.1), (2, .int s_11.1)] → W p l e (headSpec (g_ws yX7_hasCircle cX7_hasCircle 4 (some .boolean)) { frames := 3, cells := 0, slots := 0, locals := 81 }).room s m ([.ref (oA 4)] : List Value).toArray below meth c H locs 0 0 (MQ below (va_Qi (fun r (_ : Unit) => r = res.1) (g_Bo (dC, dI) A (fun (_ : Unit) => (b_s cB cC cI cJ cZ oA rA res.2 ++ b_c cB cC cI cJ cZ oA rA res.2 ++ b_t cB cC cI cJ cZ oA rA res.2 ++ b_d cB cC cI cJ cZ oA rA res.2))) A) ([.ref (oA 4)] : List Value).toArray s 0 0 A) (F0 m 47 ls []) := by
        intro  σ_15 hF0 H locs hP hS ls hl
        subst ej_16
        have hF_18 := hF0
        clear hF0
        refine lv_iload_n hx hb dX7_hasCircle_47 rfl (lv_at hl 2 rfl) ?_
        refine lv_if_eq (tgt := 53) hx hb dX7_hasCircle_48 (by decide) (fun c_19 => ?_) (fun c_19 => ?_)
        · have hF_20 := ipos c_19 hF_18
          clear hF_18
          obtain ⟨x_21, ex_21, hF_22⟩ := bnd_e hF_20
          clear hF_20
          refine lv_iinc (v := x_21) (lv' := [(1, .int x_21), (0, .ref (oA 4)), (2, .int s_11.1)]) hx hb dX7_hasCircle_53 hl (k := 1) rfl (by rw [ex_21]; rfl) (by decide) rfl (fun ls hl => ?_)
          refine lv_goto (tgt := 2) hx hb dX7_hasCircle_56 (by decide) ?_
          exact ih_3 (x_21, σ_15) hF_22 _ _ hP hS ls (lv_sub hl [1, 0] rfl)
        · have hF_23 := ineg c_19 hF_18
          clear hF_18
          refine lv_iconst (v := 1) hx hb dX7_hasCircle_51 (by decide +kernel) ?_
          have h9 := Option.some.inj hF_23
          subst h9
          exact W.zret (v := 1) hx hb hr (by decide +kernel) (fun t ht hW => ⟨⟨1, (), rfl, rfl, m_end ht hP, hDD _⟩, hS.F ht⟩) hS.2.2 dX7_hasCircle_52
      refine lv_icmp_gt (tgt := 47) hx hb dX7_hasCircle_25 (by decide) (fun c_24 => ?_) (fun c_24 => ?_)
      · have hF_25 := ipos c_24 hF_17
        clear hF_17
        exact Jj_16  s_11.2.2 hF_25 _ _ hP hS ls (lv_sub hl [0, 1, 2] rfl)
      · have hF_26 := ineg c_24 hF_17
        clear hF_17
        refine lv_iload_n hx hb dX7_hasCircle_28 rfl (lv_at hl 2 rfl) ?_
        refine lv_if_eq (tgt := 47) hx hb dX7_hasCircle_29 (by decide) (fun c_27 => ?_) (fun c_27 => ?_)
        · have hF_28 := ipos c_27 hF_26
          clear hF_26
          exact Jj_16  s_11.2.2 hF_28 _ _ hP hS ls (lv_sub hl [0, 1, 2] rfl)
        · have hF_29 := ineg c_27 hF_26
          clear hF_26
          refine lv_aload_n hx hb dX7_hasCircle_32 rfl (lv_at hl 0 rfl) ?_
          refine va_get (D := (dC, dI)) (ci := 7) (v := .ref (rA 4 4)) (C := RX7) (T := TX7) (N := 19) hx hb hts ii_X7 hown hK hP 0 rfl rfl 4 (by decide) (hts (.fieldLink RX7 25 "StoryHouse$Story" "starts" "[I") wq_162) (fun _ h9 => h9) rfl dX7_hasCircle_33 ?_
          refine lv_iload_n hx hb dX7_hasCircle_36 rfl (lv_at hl 2 rfl) ?_
          have hq9 : ((b_s cB cC cI cJ cZ oA rA s_11.2.2 ++ b_c cB cC cI cJ cZ oA rA s_11.2.2 ++ b_t cB cC cI cJ cZ oA rA s_11.2.2 ++ b_d cB cC cI cJ cZ oA rA s_11.2.2))[5]? = some (rA 4 4, .inl (cI, 121, .inl ((s_11.2.2 4).2.1 4))) := rfl
          have hPc := hP.sub (ws' := [(rA 4 4, .inl (cI, 121, .inl ((s_11.2.2 4).2.1 4)))]) [5] (pk_fm (er_C hq9))
          have hDc := (hDD s_11.2.2).sub (ws' := [(rA 4 4, .inl (cI, 121, .inl ((s_11.2.2 4).2.1 4)))]) [5] (by decide +kernel) (er_C hq9)
          have hFc := va_free (wc := [(rA 4 4, .inl (cI, 121, .inl ((s_11.2.2 4).2.1 4)))]) (hDD s_11.2.2) hS hA [5] (er_C hq9)
          refine g_ofi (wc := [(rA 4 4, .inl (cI, 121, .inl ((s_11.2.2 4).2.1 4)))]) (wr := (((b_s cB cC cI cJ cZ oA rA s_11.2.2 ++ b_c cB cC cI cJ cZ oA rA s_11.2.2 ++ b_t cB cC cI cJ cZ oA rA s_11.2.2 ++ b_d cB cC cI cJ cZ oA rA s_11.2.2)).eraseIdx 5)) hP (hDD s_11.2.2) hS hFc [5] ((List.range ((b_s cB cC cI cJ cZ oA rA s_11.2.2 ++ b_c cB cC cI cJ cZ oA rA s_11.2.2 ++ b_t cB cC cI cJ cZ oA rA s_11.2.2 ++ b_d cB cC cI cJ cZ oA rA s_11.2.2)).length).eraseIdx 5) (er_C hq9) er_R er_n er_d (va_runSN (As := [.ref (rA 4 4), .int s_11.1]) (rest := []) ⟨hx, hb, hml, hown, hts⟩ (c_X11_at l dC dI cB cC cI cJ cZ cP H.size (rA 4 4) s_11.1 121 ((s_11.2.2 4).2.1 4) (by decide)) ⟨va_cnB 2 hts (g_gA wq_407) rfl rfl rfl (nw_17 hN) (hts (.initialized RX11) wq_1) (by decide +kernel) ⟨Nat.le_of_ble_eq_true rfl, Nat.le_of_ble_eq_true rfl⟩, (hts (.static yX11_at) wq_406), trivial⟩ (g_preS g_bl0 hK hPc hDc hS hE hFc g_to0) rfl rfl hl.1 rfl (lv_room (Nat.le_of_ble_eq_true rfl)) dX7_hasCircle_37 ⟨Nat.le_of_ble_eq_true rfl, Nat.le_of_ble_eq_true rfl⟩) (fun r9 u9 H locs hw9 hP' hD' hS => ?_)
          clear hPc hDc hFc hD'
          have hP : va_P (dC, dI) vwCl (b_s cB cC cI cJ cZ oA rA s_11.2.2 ++ b_c cB cC cI cJ cZ oA rA s_11.2.2 ++ b_t cB cC cI cJ cZ oA rA s_11.2.2 ++ b_d cB cC cI cJ cZ oA rA s_11.2.2) H := er_I hP' hq9
          clear hP' hq9
          subst hw9
          obtain ⟨x_30, ex_30, hF_31⟩ := bnd_e hF_29
          clear hF_29
          refine m_top ex_30 ?_
          refine lv_istore_n (lv' := [(2, .int x_30), (0, .ref (oA 4)), (1, .int s_1.1), (3, .int s_11.2.1)]) hx hb dX7_hasCircle_40 rfl hl (by decide) rfl (fun ls hl => ?_)
          obtain ⟨x_32, ex_32, hF_33⟩ := bnd_e hF_31
          clear hF_31
          refine lv_iinc (v := x_32) (lv' := [(3, .int x_32), (2, .int x_30), (0, .ref (oA 4)), (1, .int s_1.1)]) hx hb dX7_hasCircle_41 hl (k := 3) rfl (by rw [ex_32]; rfl) (by decide) rfl (fun ls hl => ?_)
          refine lv_goto (tgt := 22) hx hb dX7_hasCircle_44 (by decide) ?_
          exact ih_13 (x_30, x_32, s_11.2.2) hF_33 _ _ hP hS ls (lv_sub hl [2, 3, 1, 0] rfl)
