/-! methods of the class: what each does is its function -/
theorem dX2_names_0 : decode cX2_names 0 = .ok (.aload_n 0, 1) := by decide +kernel
theorem dX2_names_1 : decode cX2_names 1 = .ok (.iconst 2, 1) := by decide +kernel
theorem dX2_names_2 : decode cX2_names 2 = .ok (.invokevirtual 120, 3) := by decide +kernel
theorem dX2_names_5 : decode cX2_names 5 = .ok (.iconst 1, 1) := by decide +kernel
theorem dX2_names_6 : decode cX2_names 6 = .ok (.istore_n 1, 1) := by decide +kernel
theorem dX2_names_7 : decode cX2_names 7 = .ok (.iload_n 1, 1) := by decide +kernel
theorem dX2_names_8 : decode cX2_names 8 = .ok (.aload_n 0, 1) := by decide +kernel
theorem dX2_names_9 : decode cX2_names 9 = .ok (.getfield 9, 3) := by decide +kernel
theorem dX2_names_12 : decode cX2_names 12 = .ok (.getfield 38, 3) := by decide +kernel
theorem dX2_names_15 : decode cX2_names 15 = .ok (.if_icmp .ge 23, 3) := by decide +kernel
theorem dX2_names_18 : decode cX2_names 18 = .ok (.aload_n 0, 1) := by decide +kernel
theorem dX2_names_19 : decode cX2_names 19 = .ok (.bipush 44, 2) := by decide +kernel
theorem dX2_names_21 : decode cX2_names 21 = .ok (.invokevirtual 126, 3) := by decide +kernel
theorem dX2_names_24 : decode cX2_names 24 = .ok (.ifCond .eq 14, 3) := by decide +kernel
theorem dX2_names_27 : decode cX2_names 27 = .ok (.aload_n 0, 1) := by decide +kernel
theorem dX2_names_28 : decode cX2_names 28 = .ok (.iconst 2, 1) := by decide +kernel
theorem dX2_names_29 : decode cX2_names 29 = .ok (.invokevirtual 120, 3) := by decide +kernel
theorem dX2_names_32 : decode cX2_names 32 = .ok (.iinc 1 1, 3) := by decide +kernel
theorem dX2_names_35 : decode cX2_names 35 = .ok (.goto (-28), 3) := by decide +kernel
theorem dX2_names_38 : decode cX2_names 38 = .ok (.iload_n 1, 1) := by decide +kernel
theorem dX2_names_39 : decode cX2_names 39 = .ok (.ireturn, 1) := by decide +kernel
def F_X2_names  (Γ : HS) : HR :=
  (F_X2_need 2 Γ).bind fun u_1 =>
  loopF (fun (again_4 : (Int32 × HS) → HR) (s_3 : Int32 × HS) => (
    if ((s_3.2 1).1 2) ≤ s_3.1 then (
      some (s_3.1, s_3.2)
    ) else (
      (F_X2_accept 44 s_3.2).bind fun u_10 =>
      if u_10.1 = 0 then (
        some (s_3.1, u_10.2)
      ) else (
        (F_X2_need 2 u_10.2).bind fun u_15 =>
        bnd (s_3.1 + 1) fun (x_17 : Int32) =>
        again_4 (x_17, u_15.2)
      )
    )
  )) FU (1, u_1.2)
set_option maxHeartbeats 4000000 in
set_option maxRecDepth 100000 in
theorem k_X2_names (l : Launch) (dC : Nat → ClassId) (dI : Nat → Nat → Nat) (cB cC cI cJ cZ cP : ClassId) (oA : Nat → Nat) (rA : Nat → Nat → Nat) (sz : Nat)   (Γ : HS) (res : Int32 × HS) (hF : F_X2_names  Γ = some res) : Met l yX2_names (g_ws yX2_names cX2_names 2 (some .int)) ({ frames := 3, cells := 0, slots := 0, locals := 82 }) (va_Pc [.ref (oA 2)] (g_B (dC, dI) [(cB, .byte), (cC, .char), (cI, .int), (cJ, .long), (cZ, .boolean), (cP, .object "StoryHouse$Play")] sz (b_g cB cC cI cJ cZ oA rA Γ ++ b_w cB cC cI cJ cZ oA rA Γ ++ b_c cB cC cI cJ cZ oA rA Γ) g_0)) (va_Qi (fun r (_ : Unit) => r = res.1) (g_Bo (dC, dI) (va_A (b_g cB cC cI cJ cZ oA rA Γ ++ b_w cB cC cI cJ cZ oA rA Γ ++ b_c cB cC cI cJ cZ oA rA Γ) sz) (fun (_ : Unit) => (b_g cB cC cI cJ cZ oA rA res.2 ++ b_w cB cC cI cJ cZ oA rA res.2 ++ b_c cB cC cI cJ cZ oA rA res.2))) (va_A (b_g cB cC cI cJ cZ oA rA Γ ++ b_w cB cC cI cJ cZ oA rA Γ ++ b_c cB cC cI cJ cZ oA rA Γ) sz)) 0 0 (va_A (b_g cB cC cI cJ cZ oA rA Γ ++ b_w cB cC cI cJ cZ oA rA Γ ++ b_c cB cC cI cJ cZ oA rA Γ) sz) := by
  refine Met.ofW (cc := cX2_names) (maxL := 2) (ret := (some .int)) (by decide) rfl ?_
  intro p e s m args below meth c s₁ B hml hv
  obtain ⟨rfl, hsz, hP, hK, hD0, hE, hX⟩ := hv
  have hx := B.exec
  have hb := B.bytes
  have hr := B.returns
  have hts0 := atoms_spec (ws := g_ws yX2_names cX2_names 2 (some .int)) B.pre
  have hts : ∀ w ∈ lw_good, w.before ([.ref (oA 2)] : List Value).toArray s = true := fun w z => hts0 w (List.mem_cons_of_mem _ z)
  have hown : s.vm.findClass RX2 = some m.cls := findClass_of_methodNamed B.named
  have hlocks := B.notSynchronized
  subst hsz
  have hD1 := hD0.self (sz := s.heap.size)
  generalize hAe : va_A (b_g cB cC cI cJ cZ oA rA Γ ++ b_w cB cC cI cJ cZ oA rA Γ ++ b_c cB cC cI cJ cZ oA rA Γ) s.heap.size = A at hD1 hE hX ⊢
  have hA : ∀ q : Nat, s.heap.size ≤ q → A q := fun q z => by rw [← hAe]; exact Or.inr z
  have hDD : ∀ Γ : HS, va_D A (b_g cB cC cI cJ cZ oA rA Γ ++ b_w cB cC cI cJ cZ oA rA Γ ++ b_c cB cC cI cJ cZ oA rA Γ) := fun Γ9 => va_D_fst (ws := (b_g cB cC cI cJ cZ oA rA Γ ++ b_w cB cC cI cJ cZ oA rA Γ ++ b_c cB cC cI cJ cZ oA rA Γ)) (ws' := (b_g cB cC cI cJ cZ oA rA Γ9 ++ b_w cB cC cI cJ cZ oA rA Γ9 ++ b_c cB cC cI cJ cZ oA rA Γ9)) rfl hD1
  have hN := hE.1
  have hS : va_S A s.heap s.heap [] := va_S.rf
  have hl := lv_entry ([.ref (oA 2)]) (n := 2) (Nat.le_of_ble_eq_true rfl)
  rw [lg_entry_eq]
  generalize (lg_sl ([.ref (oA 2)]) ++ List.replicate (2 - (lg_sl ([.ref (oA 2)])).length) Slot.unset).toArray = ls at hl ⊢
  have hl : lv_has ls 2 [(0, .ref (oA 2))] := hl
  unfold F_X2_names at hF
  refine lv_aload_n hx hb dX2_names_0 rfl (lv_at hl 0 rfl) ?_
  refine lv_iconst (v := 2) hx hb dX2_names_1 (by decide +kernel) ?_
  obtain ⟨u_1, hu_1, hF_2⟩ := Option.bind_eq_some_iff.mp hF
  clear hF
  have hPc := bx_P (bs := [b_g cB cC cI cJ cZ oA rA Γ, b_w cB cC cI cJ cZ oA rA Γ, b_c cB cC cI cJ cZ oA rA Γ]) (bs' := [b_g cB cC cI cJ cZ oA rA Γ, b_w cB cC cI cJ cZ oA rA Γ, b_c cB cC cI cJ cZ oA rA Γ]) (ws' := (b_g cB cC cI cJ cZ oA rA Γ ++ b_w cB cC cI cJ cZ oA rA Γ ++ b_c cB cC cI cJ cZ oA rA Γ)) hP fl_3 fl_3 [0, 1, 2] rfl
  have hDc := bx_D (bs := [b_g cB cC cI cJ cZ oA rA Γ, b_w cB cC cI cJ cZ oA rA Γ, b_c cB cC cI cJ cZ oA rA Γ]) (bs' := [b_g cB cC cI cJ cZ oA rA Γ, b_w cB cC cI cJ cZ oA rA Γ, b_c cB cC cI cJ cZ oA rA Γ]) (ws' := (b_g cB cC cI cJ cZ oA rA Γ ++ b_w cB cC cI cJ cZ oA rA Γ ++ b_c cB cC cI cJ cZ oA rA Γ)) (hDD Γ) fl_3 fl_3 [0, 1, 2] (by decide +kernel) rfl
  have hFc := bx_F (bs := [b_g cB cC cI cJ cZ oA rA Γ, b_w cB cC cI cJ cZ oA rA Γ, b_c cB cC cI cJ cZ oA rA Γ]) (bs' := [b_g cB cC cI cJ cZ oA rA Γ, b_w cB cC cI cJ cZ oA rA Γ, b_c cB cC cI cJ cZ oA rA Γ]) (wc := (b_g cB cC cI cJ cZ oA rA Γ ++ b_w cB cC cI cJ cZ oA rA Γ ++ b_c cB cC cI cJ cZ oA rA Γ)) (hDD Γ) hS hA fl_3 fl_3 [0, 1, 2] rfl
  refine g_ofv (wc := (b_g cB cC cI cJ cZ oA rA Γ ++ b_w cB cC cI cJ cZ oA rA Γ ++ b_c cB cC cI cJ cZ oA rA Γ)) (wr := ([] : va_W)) hP (hDD Γ) hS hFc (bx_ix [b_g cB cC cI cJ cZ oA rA Γ, b_w cB cC cI cJ cZ oA rA Γ, b_c cB cC cI cJ cZ oA rA Γ] [0, 1, 2]) (bx_ix [b_g cB cC cI cJ cZ oA rA Γ, b_w cB cC cI cJ cZ oA rA Γ, b_c cB cC cI cJ cZ oA rA Γ] []) (bx_C (bs := [b_g cB cC cI cJ cZ oA rA Γ, b_w cB cC cI cJ cZ oA rA Γ, b_c cB cC cI cJ cZ oA rA Γ]) (bs' := [b_g cB cC cI cJ cZ oA rA Γ, b_w cB cC cI cJ cZ oA rA Γ, b_c cB cC cI cJ cZ oA rA Γ]) (is := [0, 1, 2]) fl_3 fl_3 rfl) (bx_C (bs := [b_g cB cC cI cJ cZ oA rA Γ, b_w cB cC cI cJ cZ oA rA Γ, b_c cB cC cI cJ cZ oA rA Γ]) (bs' := []) (is := []) fl_3 fl_0 rfl) (bx_n (by decide +kernel)) (bx_d (by decide +kernel)) (va_runV (As := [.int 2]) (rest := []) ⟨hx, hb, hml, hown, hts⟩ (k_X2_need l dC dI cB cC cI cJ cZ cP oA rA s.heap.size  2 Γ _ hu_1) (cwV 1 hts (g_gV wq_564 wq_565 wq_2000 wq_3 wq_566) rfl rfl rfl (by decide +kernel) ⟨Nat.le_of_ble_eq_true rfl, Nat.le_of_ble_eq_true rfl⟩) (g_preV g_bl0 hK hPc hDc hS hE hFc g_to0 (q0 := 0) (ci := 2) rfl rfl) rfl rfl hl.1 rfl (lv_room (Nat.le_of_ble_eq_true rfl)) dX2_names_2 ⟨Nat.le_of_ble_eq_true rfl, Nat.le_of_ble_eq_true rfl⟩) (fun u9 H locs hw9 hP' hD' hS => ?_)
  clear hPc hDc hFc
  have hP : va_P (dC, dI) vwCl (b_g cB cC cI cJ cZ oA rA u_1.2 ++ b_w cB cC cI cJ cZ oA rA u_1.2 ++ b_c cB cC cI cJ cZ oA rA u_1.2) H := hP'
  clear hP' hD'
  refine lv_iconst (v := 1) hx hb dX2_names_5 (by decide +kernel) ?_
  refine lv_istore_n (lv' := [(1, .int 1), (0, .ref (oA 2))]) hx hb dX2_names_6 rfl hl (by decide) rfl (fun ls hl => ?_)
  refine loopF_ind (P := fun (s_3 : Int32 × HS) => ∀ (H : Heap) (locs : List Loc), va_P (dC, dI) vwCl (b_g cB cC cI cJ cZ oA rA s_3.2 ++ b_w cB cC cI cJ cZ oA rA s_3.2 ++ b_c cB cC cI cJ cZ oA rA s_3.2) H → va_S A s.heap H locs → ∀ ls : Array Slot, lv_has ls 2 [(0, .ref (oA 2)), (1, .int s_3.1)] → W p l e (headSpec (g_ws yX2_names cX2_names 2 (some .int)) { frames := 3, cells := 0, slots := 0, locals := 82 }).room s m ([.ref (oA 2)] : List Value).toArray below meth c H locs 0 0 (MQ below (va_Qi (fun r (_ : Unit) => r = res.1) (g_Bo (dC, dI) A (fun (_ : Unit) => (b_g cB cC cI cJ cZ oA rA res.2 ++ b_w cB cC cI cJ cZ oA rA res.2 ++ b_c cB cC cI cJ cZ oA rA res.2))) A) ([.ref (oA 2)] : List Value).toArray s 0 0 A) (F0 m 7 ls [])) ?_ _ _ hF_2 _ _ hP hS ls (lv_sub hl [1, 0] rfl)
  intro again_4 s_3 ih_5 hF_6
  intro H locs hP hS ls hl
  refine lv_iload_n hx hb dX2_names_7 rfl (lv_at hl 1 rfl) ?_
  refine lv_aload_n hx hb dX2_names_8 rfl (lv_at hl 0 rfl) ?_
  refine va_get (D := (dC, dI)) (ci := 2) (v := .ref (oA 1)) (C := RX2) (T := TX2) (N := 8) hx hb hts ii_X2 hown hK hP 0 rfl rfl 0 (by decide) (hts (.fieldLink RX2 9 "StoryHouse$Grammar" "words" "LStoryHouse$Words;") wq_71) (fun _ h9 => h9) rfl dX2_names_9 ?_
  refine va_get (D := (dC, dI)) (ci := 10) (v := .int ((s_3.2 1).1 2)) (C := RX10) (T := TX10) (N := 12) hx hb hts ii_X10 hown hK hP 1 rfl rfl 2 (by decide) (hts (.fieldLink RX2 38 "StoryHouse$Words" "count" "I") wq_47) (fun _ h9 => h9) rfl dX2_names_12 ?_
  refine lv_icmp_ge (tgt := 38) hx hb dX2_names_15 (by decide) (fun c_7 => ?_) (fun c_7 => ?_)
  · have hF_8 := ipos c_7 hF_6
    clear hF_6
    refine lv_iload_n hx hb dX2_names_38 rfl (lv_at hl 1 rfl) ?_
    have h9 := Option.some.inj hF_8
    subst h9
    exact W.iret (v := s_3.1) hx hb hr (fun t ht hW => ⟨⟨s_3.1, (), rfl, rfl, m_end ht hP, hDD _⟩, hS.F ht⟩) hS.2.2 dX2_names_39
  · have hF_9 := ineg c_7 hF_6
    clear hF_6
    refine lv_aload_n hx hb dX2_names_18 rfl (lv_at hl 0 rfl) ?_
    refine lv_bipush (v := 44) hx hb dX2_names_19 (by decide +kernel) ?_
    obtain ⟨u_10, hu_10, hF_11⟩ := Option.bind_eq_some_iff.mp hF_9
    clear hF_9
    have hPc := bx_P (bs := [b_g cB cC cI cJ cZ oA rA s_3.2, b_w cB cC cI cJ cZ oA rA s_3.2, b_c cB cC cI cJ cZ oA rA s_3.2]) (bs' := [b_g cB cC cI cJ cZ oA rA s_3.2, b_w cB cC cI cJ cZ oA rA s_3.2, b_c cB cC cI cJ cZ oA rA s_3.2]) (ws' := (b_g cB cC cI cJ cZ oA rA s_3.2 ++ b_w cB cC cI cJ cZ oA rA s_3.2 ++ b_c cB cC cI cJ cZ oA rA s_3.2)) hP fl_3 fl_3 [0, 1, 2] rfl
    have hDc := bx_D (bs := [b_g cB cC cI cJ cZ oA rA s_3.2, b_w cB cC cI cJ cZ oA rA s_3.2, b_c cB cC cI cJ cZ oA rA s_3.2]) (bs' := [b_g cB cC cI cJ cZ oA rA s_3.2, b_w cB cC cI cJ cZ oA rA s_3.2, b_c cB cC cI cJ cZ oA rA s_3.2]) (ws' := (b_g cB cC cI cJ cZ oA rA s_3.2 ++ b_w cB cC cI cJ cZ oA rA s_3.2 ++ b_c cB cC cI cJ cZ oA rA s_3.2)) (hDD s_3.2) fl_3 fl_3 [0, 1, 2] (by decide +kernel) rfl
    have hFc := bx_F (bs := [b_g cB cC cI cJ cZ oA rA s_3.2, b_w cB cC cI cJ cZ oA rA s_3.2, b_c cB cC cI cJ cZ oA rA s_3.2]) (bs' := [b_g cB cC cI cJ cZ oA rA s_3.2, b_w cB cC cI cJ cZ oA rA s_3.2, b_c cB cC cI cJ cZ oA rA s_3.2]) (wc := (b_g cB cC cI cJ cZ oA rA s_3.2 ++ b_w cB cC cI cJ cZ oA rA s_3.2 ++ b_c cB cC cI cJ cZ oA rA s_3.2)) (hDD s_3.2) hS hA fl_3 fl_3 [0, 1, 2] rfl
    refine g_ofi (wc := (b_g cB cC cI cJ cZ oA rA s_3.2 ++ b_w cB cC cI cJ cZ oA rA s_3.2 ++ b_c cB cC cI cJ cZ oA rA s_3.2)) (wr := ([] : va_W)) hP (hDD s_3.2) hS hFc (bx_ix [b_g cB cC cI cJ cZ oA rA s_3.2, b_w cB cC cI cJ cZ oA rA s_3.2, b_c cB cC cI cJ cZ oA rA s_3.2] [0, 1, 2]) (bx_ix [b_g cB cC cI cJ cZ oA rA s_3.2, b_w cB cC cI cJ cZ oA rA s_3.2, b_c cB cC cI cJ cZ oA rA s_3.2] []) (bx_C (bs := [b_g cB cC cI cJ cZ oA rA s_3.2, b_w cB cC cI cJ cZ oA rA s_3.2, b_c cB cC cI cJ cZ oA rA s_3.2]) (bs' := [b_g cB cC cI cJ cZ oA rA s_3.2, b_w cB cC cI cJ cZ oA rA s_3.2, b_c cB cC cI cJ cZ oA rA s_3.2]) (is := [0, 1, 2]) fl_3 fl_3 rfl) (bx_C (bs := [b_g cB cC cI cJ cZ oA rA s_3.2, b_w cB cC cI cJ cZ oA rA s_3.2, b_c cB cC cI cJ cZ oA rA s_3.2]) (bs' := []) (is := []) fl_3 fl_0 rfl) (bx_n (by decide +kernel)) (bx_d (by decide +kernel)) (va_runV (As := [.int 44]) (rest := []) ⟨hx, hb, hml, hown, hts⟩ (k_X2_accept l dC dI cB cC cI cJ cZ cP oA rA H.size  44 s_3.2 _ hu_10) (cwV 1 hts (g_gV wq_573 wq_574 wq_2003 wq_3 wq_575) rfl rfl rfl (by decide +kernel) ⟨Nat.le_of_ble_eq_true rfl, Nat.le_of_ble_eq_true rfl⟩) (g_preV g_bl0 hK hPc hDc hS hE hFc g_to0 (q0 := 0) (ci := 2) rfl rfl) rfl rfl hl.1 rfl (lv_room (Nat.le_of_ble_eq_true rfl)) dX2_names_21 ⟨Nat.le_of_ble_eq_true rfl, Nat.le_of_ble_eq_true rfl⟩) (fun r9 u9 H locs hw9 hP' hD' hS => ?_)
    clear hPc hDc hFc
    subst hw9
    have hP : va_P (dC, dI) vwCl (b_g cB cC cI cJ cZ oA rA u_10.2 ++ b_w cB cC cI cJ cZ oA rA u_10.2 ++ b_c cB cC cI cJ cZ oA rA u_10.2) H := hP'
    clear hP' hD'
    refine lv_if_eq (tgt := 38) hx hb dX2_names_24 (by decide) (fun c_12 => ?_) (fun c_12 => ?_)
    · have hF_13 := ipos c_12 hF_11
      clear hF_11
      refine lv_iload_n hx hb dX2_names_38 rfl (lv_at hl 1 rfl) ?_
      have h9 := Option.some.inj hF_13
      subst h9
      exact W.iret (v := s_3.1) hx hb hr (fun t ht hW => ⟨⟨s_3.1, (), rfl, rfl, m_end ht hP, hDD _⟩, hS.F ht⟩) hS.2.2 dX2_names_39
    · have hF_14 := ineg c_12 hF_11
      clear hF_11
      refine lv_aload_n hx hb dX2_names_27 rfl (lv_at hl 0 rfl) ?_
      refine lv_iconst (v := 2) hx hb dX2_names_28 (by decide +kernel) ?_
      obtain ⟨u_15, hu_15, hF_16⟩ := Option.bind_eq_some_iff.mp hF_14
      clear hF_14
      have hPc := bx_P (bs := [b_g cB cC cI cJ cZ oA rA u_10.2, b_w cB cC cI cJ cZ oA rA u_10.2, b_c cB cC cI cJ cZ oA rA u_10.2]) (bs' := [b_g cB cC cI cJ cZ oA rA u_10.2, b_w cB cC cI cJ cZ oA rA u_10.2, b_c cB cC cI cJ cZ oA rA u_10.2]) (ws' := (b_g cB cC cI cJ cZ oA rA u_10.2 ++ b_w cB cC cI cJ cZ oA rA u_10.2 ++ b_c cB cC cI cJ cZ oA rA u_10.2)) hP fl_3 fl_3 [0, 1, 2] rfl
      have hDc := bx_D (bs := [b_g cB cC cI cJ cZ oA rA u_10.2, b_w cB cC cI cJ cZ oA rA u_10.2, b_c cB cC cI cJ cZ oA rA u_10.2]) (bs' := [b_g cB cC cI cJ cZ oA rA u_10.2, b_w cB cC cI cJ cZ oA rA u_10.2, b_c cB cC cI cJ cZ oA rA u_10.2]) (ws' := (b_g cB cC cI cJ cZ oA rA u_10.2 ++ b_w cB cC cI cJ cZ oA rA u_10.2 ++ b_c cB cC cI cJ cZ oA rA u_10.2)) (hDD u_10.2) fl_3 fl_3 [0, 1, 2] (by decide +kernel) rfl
      have hFc := bx_F (bs := [b_g cB cC cI cJ cZ oA rA u_10.2, b_w cB cC cI cJ cZ oA rA u_10.2, b_c cB cC cI cJ cZ oA rA u_10.2]) (bs' := [b_g cB cC cI cJ cZ oA rA u_10.2, b_w cB cC cI cJ cZ oA rA u_10.2, b_c cB cC cI cJ cZ oA rA u_10.2]) (wc := (b_g cB cC cI cJ cZ oA rA u_10.2 ++ b_w cB cC cI cJ cZ oA rA u_10.2 ++ b_c cB cC cI cJ cZ oA rA u_10.2)) (hDD u_10.2) hS hA fl_3 fl_3 [0, 1, 2] rfl
      refine g_ofv (wc := (b_g cB cC cI cJ cZ oA rA u_10.2 ++ b_w cB cC cI cJ cZ oA rA u_10.2 ++ b_c cB cC cI cJ cZ oA rA u_10.2)) (wr := ([] : va_W)) hP (hDD u_10.2) hS hFc (bx_ix [b_g cB cC cI cJ cZ oA rA u_10.2, b_w cB cC cI cJ cZ oA rA u_10.2, b_c cB cC cI cJ cZ oA rA u_10.2] [0, 1, 2]) (bx_ix [b_g cB cC cI cJ cZ oA rA u_10.2, b_w cB cC cI cJ cZ oA rA u_10.2, b_c cB cC cI cJ cZ oA rA u_10.2] []) (bx_C (bs := [b_g cB cC cI cJ cZ oA rA u_10.2, b_w cB cC cI cJ cZ oA rA u_10.2, b_c cB cC cI cJ cZ oA rA u_10.2]) (bs' := [b_g cB cC cI cJ cZ oA rA u_10.2, b_w cB cC cI cJ cZ oA rA u_10.2, b_c cB cC cI cJ cZ oA rA u_10.2]) (is := [0, 1, 2]) fl_3 fl_3 rfl) (bx_C (bs := [b_g cB cC cI cJ cZ oA rA u_10.2, b_w cB cC cI cJ cZ oA rA u_10.2, b_c cB cC cI cJ cZ oA rA u_10.2]) (bs' := []) (is := []) fl_3 fl_0 rfl) (bx_n (by decide +kernel)) (bx_d (by decide +kernel)) (va_runV (As := [.int 2]) (rest := []) ⟨hx, hb, hml, hown, hts⟩ (k_X2_need l dC dI cB cC cI cJ cZ cP oA rA H.size  2 u_10.2 _ hu_15) (cwV 1 hts (g_gV wq_564 wq_565 wq_2000 wq_3 wq_566) rfl rfl rfl (by decide +kernel) ⟨Nat.le_of_ble_eq_true rfl, Nat.le_of_ble_eq_true rfl⟩) (g_preV g_bl0 hK hPc hDc hS hE hFc g_to0 (q0 := 0) (ci := 2) rfl rfl) rfl rfl hl.1 rfl (lv_room (Nat.le_of_ble_eq_true rfl)) dX2_names_29 ⟨Nat.le_of_ble_eq_true rfl, Nat.le_of_ble_eq_true rfl⟩) (fun u9 H locs hw9 hP' hD' hS => ?_)
      clear hPc hDc hFc
      have hP : va_P (dC, dI) vwCl (b_g cB cC cI cJ cZ oA rA u_15.2 ++ b_w cB cC cI cJ cZ oA rA u_15.2 ++ b_c cB cC cI cJ cZ oA rA u_15.2) H := hP'
      clear hP' hD'
      obtain ⟨x_17, ex_17, hF_18⟩ := bnd_e hF_16
      clear hF_16
      refine lv_iinc (v := x_17) (lv' := [(1, .int x_17), (0, .ref (oA 2))]) hx hb dX2_names_32 hl (k := 1) rfl (by rw [ex_17]; rfl) (by decide) rfl (fun ls hl => ?_)
      refine lv_goto (tgt := 7) hx hb dX2_names_35 (by decide) ?_
      exact ih_5 (x_17, u_15.2) hF_18 _ _ hP hS ls (lv_sub hl [1, 0] rfl)
theorem dX2_defHead_0 : decode cX2_defHead 0 = .ok (.aload_n 0, 1) := by decide +kernel
theorem dX2_defHead_1 : decode cX2_defHead 1 = .ok (.iconst 2, 1) := by decide +kernel
theorem dX2_defHead_2 : decode cX2_defHead 2 = .ok (.invokevirtual 120, 3) := by decide +kernel
theorem dX2_defHead_5 : decode cX2_defHead 5 = .ok (.aload_n 0, 1) := by decide +kernel
theorem dX2_defHead_6 : decode cX2_defHead 6 = .ok (.bipush 40, 2) := by decide +kernel
theorem dX2_defHead_8 : decode cX2_defHead 8 = .ok (.invokevirtual 123, 3) := by decide +kernel
theorem dX2_defHead_11 : decode cX2_defHead 11 = .ok (.aload_n 0, 1) := by decide +kernel
theorem dX2_defHead_12 : decode cX2_defHead 12 = .ok (.getfield 29, 3) := by decide +kernel
theorem dX2_defHead_15 : decode cX2_defHead 15 = .ok (.bipush 41, 2) := by decide +kernel
theorem dX2_defHead_17 : decode cX2_defHead 17 = .ok (.if_icmp .ne 7, 3) := by decide +kernel
theorem dX2_defHead_20 : decode cX2_defHead 20 = .ok (.iconst 0, 1) := by decide +kernel
theorem dX2_defHead_21 : decode cX2_defHead 21 = .ok (.goto 7, 3) := by decide +kernel
theorem dX2_defHead_24 : decode cX2_defHead 24 = .ok (.aload_n 0, 1) := by decide +kernel
theorem dX2_defHead_25 : decode cX2_defHead 25 = .ok (.invokevirtual 133, 3) := by decide +kernel
theorem dX2_defHead_28 : decode cX2_defHead 28 = .ok (.istore_n 1, 1) := by decide +kernel
theorem dX2_defHead_29 : decode cX2_defHead 29 = .ok (.aload_n 0, 1) := by decide +kernel
theorem dX2_defHead_30 : decode cX2_defHead 30 = .ok (.bipush 41, 2) := by decide +kernel
theorem dX2_defHead_32 : decode cX2_defHead 32 = .ok (.invokevirtual 130, 3) := by decide +kernel
theorem dX2_defHead_35 : decode cX2_defHead 35 = .ok (.aload_n 0, 1) := by decide +kernel
theorem dX2_defHead_36 : decode cX2_defHead 36 = .ok (.getfield 15, 3) := by decide +kernel
theorem dX2_defHead_39 : decode cX2_defHead 39 = .ok (.iload_n 1, 1) := by decide +kernel
theorem dX2_defHead_40 : decode cX2_defHead 40 = .ok (.invokevirtual 137, 3) := by decide +kernel
theorem dX2_defHead_43 : decode cX2_defHead 43 = .ok (.return_, 1) := by decide +kernel
def F_X2_defHead  (Γ : HS) : HR :=
  (F_X2_need 2 Γ).bind fun u_1 =>
  (F_X2_open 40 u_1.2).bind fun u_3 =>
  bnd (fun (t_5 : Int32) (σ_6 : HS) => (
    (F_X2_shut 41 σ_6).bind fun u_10 =>
    (F_X0_openDef t_5 u_10.2).bind fun u_12 =>
    bnd (mrg (fun j => j == 5) u_10.2 u_12.2) fun σ_14 =>
    some (0, σ_14)
  ) : Int32 → HS → HR) fun j_7 =>
  if ((u_3.2 2).1 3) = 41 then (
    j_7 0 u_3.2
  ) else (
    (F_X2_names u_3.2).bind fun u_19 =>
    j_7 u_19.1 u_19.2
  )
set_option maxHeartbeats 4000000 in
set_option maxRecDepth 100000 in
theorem k_X2_defHead (l : Launch) (dC : Nat → ClassId) (dI : Nat → Nat → Nat) (cB cC cI cJ cZ cP : ClassId) (oA : Nat → Nat) (rA : Nat → Nat → Nat) (sz : Nat)   (Γ : HS) (res : Int32 × HS) (hF : F_X2_defHead  Γ = some res) : Met l yX2_defHead (g_ws yX2_defHead cX2_defHead 2 none) ({ frames := 5, cells := 0, slots := 0, locals := 124 }) (va_Pc [.ref (oA 2)] (g_B (dC, dI) [(cB, .byte), (cC, .char), (cI, .int), (cJ, .long), (cZ, .boolean), (cP, .object "StoryHouse$Play")] sz (b_g cB cC cI cJ cZ oA rA Γ ++ b_w cB cC cI cJ cZ oA rA Γ ++ b_c cB cC cI cJ cZ oA rA Γ) g_0)) (va_Qv (fun (_ : Unit) => True) (g_Bo (dC, dI) (va_A (b_g cB cC cI cJ cZ oA rA Γ ++ b_w cB cC cI cJ cZ oA rA Γ ++ b_c cB cC cI cJ cZ oA rA Γ) sz) (fun (_ : Unit) => (b_g cB cC cI cJ cZ oA rA res.2 ++ b_w cB cC cI cJ cZ oA rA res.2 ++ b_c cB cC cI cJ cZ oA rA res.2))) (va_A (b_g cB cC cI cJ cZ oA rA Γ ++ b_w cB cC cI cJ cZ oA rA Γ ++ b_c cB cC cI cJ cZ oA rA Γ) sz)) 0 0 (va_A (b_g cB cC cI cJ cZ oA rA Γ ++ b_w cB cC cI cJ cZ oA rA Γ ++ b_c cB cC cI cJ cZ oA rA Γ) sz) := by
  refine Met.ofW (cc := cX2_defHead) (maxL := 2) (ret := none) (by decide) rfl ?_
  intro p e s m args below meth c s₁ B hml hv
  obtain ⟨rfl, hsz, hP, hK, hD0, hE, hX⟩ := hv
  have hx := B.exec
  have hb := B.bytes
  have hr := B.returns
  have hts0 := atoms_spec (ws := g_ws yX2_defHead cX2_defHead 2 none) B.pre
  have hts : ∀ w ∈ lw_good, w.before ([.ref (oA 2)] : List Value).toArray s = true := fun w z => hts0 w (List.mem_cons_of_mem _ z)
  have hown : s.vm.findClass RX2 = some m.cls := findClass_of_methodNamed B.named
  have hlocks := B.notSynchronized
  subst hsz
  have hD1 := hD0.self (sz := s.heap.size)
  generalize hAe : va_A (b_g cB cC cI cJ cZ oA rA Γ ++ b_w cB cC cI cJ cZ oA rA Γ ++ b_c cB cC cI cJ cZ oA rA Γ) s.heap.size = A at hD1 hE hX ⊢
  have hA : ∀ q : Nat, s.heap.size ≤ q → A q := fun q z => by rw [← hAe]; exact Or.inr z
  have hDD : ∀ Γ : HS, va_D A (b_g cB cC cI cJ cZ oA rA Γ ++ b_w cB cC cI cJ cZ oA rA Γ ++ b_c cB cC cI cJ cZ oA rA Γ) := fun Γ9 => va_D_fst (ws := (b_g cB cC cI cJ cZ oA rA Γ ++ b_w cB cC cI cJ cZ oA rA Γ ++ b_c cB cC cI cJ cZ oA rA Γ)) (ws' := (b_g cB cC cI cJ cZ oA rA Γ9 ++ b_w cB cC cI cJ cZ oA rA Γ9 ++ b_c cB cC cI cJ cZ oA rA Γ9)) rfl hD1
  have hN := hE.1
  have hS : va_S A s.heap s.heap [] := va_S.rf
  have hl := lv_entry ([.ref (oA 2)]) (n := 2) (Nat.le_of_ble_eq_true rfl)
  rw [lg_entry_eq]
  generalize (lg_sl ([.ref (oA 2)]) ++ List.replicate (2 - (lg_sl ([.ref (oA 2)])).length) Slot.unset).toArray = ls at hl ⊢
  have hl : lv_has ls 2 [(0, .ref (oA 2))] := hl
  unfold F_X2_defHead at hF
  refine lv_aload_n hx hb dX2_defHead_0 rfl (lv_at hl 0 rfl) ?_
  refine lv_iconst (v := 2) hx hb dX2_defHead_1 (by decide +kernel) ?_
  obtain ⟨u_1, hu_1, hF_2⟩ := Option.bind_eq_some_iff.mp hF
  clear hF
  have hPc := bx_P (bs := [b_g cB cC cI cJ cZ oA rA Γ, b_w cB cC cI cJ cZ oA rA Γ, b_c cB cC cI cJ cZ oA rA Γ]) (bs' := [b_g cB cC cI cJ cZ oA rA Γ, b_w cB cC cI cJ cZ oA rA Γ, b_c cB cC cI cJ cZ oA rA Γ]) (ws' := (b_g cB cC cI cJ cZ oA rA Γ ++ b_w cB cC cI cJ cZ oA rA Γ ++ b_c cB cC cI cJ cZ oA rA Γ)) hP fl_3 fl_3 [0, 1, 2] rfl
  have hDc := bx_D (bs := [b_g cB cC cI cJ cZ oA rA Γ, b_w cB cC cI cJ cZ oA rA Γ, b_c cB cC cI cJ cZ oA rA Γ]) (bs' := [b_g cB cC cI cJ cZ oA rA Γ, b_w cB cC cI cJ cZ oA rA Γ, b_c cB cC cI cJ cZ oA rA Γ]) (ws' := (b_g cB cC cI cJ cZ oA rA Γ ++ b_w cB cC cI cJ cZ oA rA Γ ++ b_c cB cC cI cJ cZ oA rA Γ)) (hDD Γ) fl_3 fl_3 [0, 1, 2] (by decide +kernel) rfl
  have hFc := bx_F (bs := [b_g cB cC cI cJ cZ oA rA Γ, b_w cB cC cI cJ cZ oA rA Γ, b_c cB cC cI cJ cZ oA rA Γ]) (bs' := [b_g cB cC cI cJ cZ oA rA Γ, b_w cB cC cI cJ cZ oA rA Γ, b_c cB cC cI cJ cZ oA rA Γ]) (wc := (b_g cB cC cI cJ cZ oA rA Γ ++ b_w cB cC cI cJ cZ oA rA Γ ++ b_c cB cC cI cJ cZ oA rA Γ)) (hDD Γ) hS hA fl_3 fl_3 [0, 1, 2] rfl
  refine g_ofv (wc := (b_g cB cC cI cJ cZ oA rA Γ ++ b_w cB cC cI cJ cZ oA rA Γ ++ b_c cB cC cI cJ cZ oA rA Γ)) (wr := ([] : va_W)) hP (hDD Γ) hS hFc (bx_ix [b_g cB cC cI cJ cZ oA rA Γ, b_w cB cC cI cJ cZ oA rA Γ, b_c cB cC cI cJ cZ oA rA Γ] [0, 1, 2]) (bx_ix [b_g cB cC cI cJ cZ oA rA Γ, b_w cB cC cI cJ cZ oA rA Γ, b_c cB cC cI cJ cZ oA rA Γ] []) (bx_C (bs := [b_g cB cC cI cJ cZ oA rA Γ, b_w cB cC cI cJ cZ oA rA Γ, b_c cB cC cI cJ cZ oA rA Γ]) (bs' := [b_g cB cC cI cJ cZ oA rA Γ, b_w cB cC cI cJ cZ oA rA Γ, b_c cB cC cI cJ cZ oA rA Γ]) (is := [0, 1, 2]) fl_3 fl_3 rfl) (bx_C (bs := [b_g cB cC cI cJ cZ oA rA Γ, b_w cB cC cI cJ cZ oA rA Γ, b_c cB cC cI cJ cZ oA rA Γ]) (bs' := []) (is := []) fl_3 fl_0 rfl) (bx_n (by decide +kernel)) (bx_d (by decide +kernel)) (va_runV (As := [.int 2]) (rest := []) ⟨hx, hb, hml, hown, hts⟩ (k_X2_need l dC dI cB cC cI cJ cZ cP oA rA s.heap.size  2 Γ _ hu_1) (cwV 1 hts (g_gV wq_564 wq_565 wq_2000 wq_3 wq_566) rfl rfl rfl (by decide +kernel) ⟨Nat.le_of_ble_eq_true rfl, Nat.le_of_ble_eq_true rfl⟩) (g_preV g_bl0 hK hPc hDc hS hE hFc g_to0 (q0 := 0) (ci := 2) rfl rfl) rfl rfl hl.1 rfl (lv_room (Nat.le_of_ble_eq_true rfl)) dX2_defHead_2 ⟨Nat.le_of_ble_eq_true rfl, Nat.le_of_ble_eq_true rfl⟩) (fun u9 H locs hw9 hP' hD' hS => ?_)
  clear hPc hDc hFc
  have hP : va_P (dC, dI) vwCl (b_g cB cC cI cJ cZ oA rA u_1.2 ++ b_w cB cC cI cJ cZ oA rA u_1.2 ++ b_c cB cC cI cJ cZ oA rA u_1.2) H := hP'
  clear hP' hD'
  refine lv_aload_n hx hb dX2_defHead_5 rfl (lv_at hl 0 rfl) ?_
  refine lv_bipush (v := 40) hx hb dX2_defHead_6 (by decide +kernel) ?_
  obtain ⟨u_3, hu_3, hF_4⟩ := Option.bind_eq_some_iff.mp hF_2
  clear hF_2
  have hPc := bx_P (bs := [b_g cB cC cI cJ cZ oA rA u_1.2, b_w cB cC cI cJ cZ oA rA u_1.2, b_c cB cC cI cJ cZ oA rA u_1.2]) (bs' := [b_g cB cC cI cJ cZ oA rA u_1.2, b_w cB cC cI cJ cZ oA rA u_1.2, b_c cB cC cI cJ cZ oA rA u_1.2]) (ws' := (b_g cB cC cI cJ cZ oA rA u_1.2 ++ b_w cB cC cI cJ cZ oA rA u_1.2 ++ b_c cB cC cI cJ cZ oA rA u_1.2)) hP fl_3 fl_3 [0, 1, 2] rfl
  have hDc := bx_D (bs := [b_g cB cC cI cJ cZ oA rA u_1.2, b_w cB cC cI cJ cZ oA rA u_1.2, b_c cB cC cI cJ cZ oA rA u_1.2]) (bs' := [b_g cB cC cI cJ cZ oA rA u_1.2, b_w cB cC cI cJ cZ oA rA u_1.2, b_c cB cC cI cJ cZ oA rA u_1.2]) (ws' := (b_g cB cC cI cJ cZ oA rA u_1.2 ++ b_w cB cC cI cJ cZ oA rA u_1.2 ++ b_c cB cC cI cJ cZ oA rA u_1.2)) (hDD u_1.2) fl_3 fl_3 [0, 1, 2] (by decide +kernel) rfl
  have hFc := bx_F (bs := [b_g cB cC cI cJ cZ oA rA u_1.2, b_w cB cC cI cJ cZ oA rA u_1.2, b_c cB cC cI cJ cZ oA rA u_1.2]) (bs' := [b_g cB cC cI cJ cZ oA rA u_1.2, b_w cB cC cI cJ cZ oA rA u_1.2, b_c cB cC cI cJ cZ oA rA u_1.2]) (wc := (b_g cB cC cI cJ cZ oA rA u_1.2 ++ b_w cB cC cI cJ cZ oA rA u_1.2 ++ b_c cB cC cI cJ cZ oA rA u_1.2)) (hDD u_1.2) hS hA fl_3 fl_3 [0, 1, 2] rfl
  refine g_ofv (wc := (b_g cB cC cI cJ cZ oA rA u_1.2 ++ b_w cB cC cI cJ cZ oA rA u_1.2 ++ b_c cB cC cI cJ cZ oA rA u_1.2)) (wr := ([] : va_W)) hP (hDD u_1.2) hS hFc (bx_ix [b_g cB cC cI cJ cZ oA rA u_1.2, b_w cB cC cI cJ cZ oA rA u_1.2, b_c cB cC cI cJ cZ oA rA u_1.2] [0, 1, 2]) (bx_ix [b_g cB cC cI cJ cZ oA rA u_1.2, b_w cB cC cI cJ cZ oA rA u_1.2, b_c cB cC cI cJ cZ oA rA u_1.2] []) (bx_C (bs := [b_g cB cC cI cJ cZ oA rA u_1.2, b_w cB cC cI cJ cZ oA rA u_1.2, b_c cB cC cI cJ cZ oA rA u_1.2]) (bs' := [b_g cB cC cI cJ cZ oA rA u_1.2, b_w cB cC cI cJ cZ oA rA u_1.2, b_c cB cC cI cJ cZ oA rA u_1.2]) (is := [0, 1, 2]) fl_3 fl_3 rfl) (bx_C (bs := [b_g cB cC cI cJ cZ oA rA u_1.2, b_w cB cC cI cJ cZ oA rA u_1.2, b_c cB cC cI cJ cZ oA rA u_1.2]) (bs' := []) (is := []) fl_3 fl_0 rfl) (bx_n (by decide +kernel)) (bx_d (by decide +kernel)) (va_runV (As := [.int 40]) (rest := []) ⟨hx, hb, hml, hown, hts⟩ (k_X2_open l dC dI cB cC cI cJ cZ cP oA rA H.size  40 u_1.2 _ hu_3) (cwV 1 hts (g_gV wq_567 wq_568 wq_2001 wq_3 wq_569) rfl rfl rfl (by decide +kernel) ⟨Nat.le_of_ble_eq_true rfl, Nat.le_of_ble_eq_true rfl⟩) (g_preV g_bl0 hK hPc hDc hS hE hFc g_to0 (q0 := 0) (ci := 2) rfl rfl) rfl rfl hl.1 rfl (lv_room (Nat.le_of_ble_eq_true rfl)) dX2_defHead_8 ⟨Nat.le_of_ble_eq_true rfl, Nat.le_of_ble_eq_true rfl⟩) (fun u9 H locs hw9 hP' hD' hS => ?_)
  clear hPc hDc hFc
  have hP : va_P (dC, dI) vwCl (b_g cB cC cI cJ cZ oA rA u_3.2 ++ b_w cB cC cI cJ cZ oA rA u_3.2 ++ b_c cB cC cI cJ cZ oA rA u_3.2) H := hP'
  clear hP' hD'
  refine lv_aload_n hx hb dX2_defHead_11 rfl (lv_at hl 0 rfl) ?_
  refine va_get (D := (dC, dI)) (ci := 2) (v := .int ((u_3.2 2).1 3)) (C := RX2) (T := TX2) (N := 8) hx hb hts ii_X2 hown hK hP 0 rfl rfl 3 (by decide) (hts (.fieldLink RX2 29 "StoryHouse$Grammar" "kind" "I") wq_74) (fun _ h9 => h9) rfl dX2_defHead_12 ?_
  refine lv_bipush (v := 41) hx hb dX2_defHead_15 (by decide +kernel) ?_
  obtain ⟨j_7, ej_7, hF_8⟩ := bnd_e hF_4
  clear hF_4
  have Jj_7 : ∀ (t_5 : Int32) (σ_6 : HS), j_7 t_5 σ_6 = some res → ∀ (H : Heap) (locs : List Loc), va_P (dC, dI) vwCl (b_g cB cC cI cJ cZ oA rA σ_6 ++ b_w cB cC cI cJ cZ oA rA σ_6 ++ b_c cB cC cI cJ cZ oA rA σ_6) H → va_S A s.heap H locs → ∀ ls : Array Slot, lv_has ls 2 [(0, .ref (oA 2))] → W p l e (headSpec (g_ws yX2_defHead cX2_defHead 2 none) { frames := 5, cells := 0, slots := 0, locals := 124 }).room s m ([.ref (oA 2)] : List Value).toArray below meth c H locs 0 0 (MQ below (va_Qv (fun (_ : Unit) => True) (g_Bo (dC, dI) A (fun (_ : Unit) => (b_g cB cC cI cJ cZ oA rA res.2 ++ b_w cB cC cI cJ cZ oA rA res.2 ++ b_c cB cC cI cJ cZ oA rA res.2))) A) ([.ref (oA 2)] : List Value).toArray s 0 0 A) (F0 m 28 ls [.int t_5]) := by
    intro t_5 σ_6 hF0 H locs hP hS ls hl
    subst ej_7
    have hF_9 := hF0
    clear hF0
    refine lv_istore_n (lv' := [(1, .int t_5), (0, .ref (oA 2))]) hx hb dX2_defHead_28 rfl hl (by decide) rfl (fun ls hl => ?_)
    refine lv_aload_n hx hb dX2_defHead_29 rfl (lv_at hl 1 rfl) ?_
    refine lv_bipush (v := 41) hx hb dX2_defHead_30 (by decide +kernel) ?_
    obtain ⟨u_10, hu_10, hF_11⟩ := Option.bind_eq_some_iff.mp hF_9
    clear hF_9
    have hPc := bx_P (bs := [b_g cB cC cI cJ cZ oA rA σ_6, b_w cB cC cI cJ cZ oA rA σ_6, b_c cB cC cI cJ cZ oA rA σ_6]) (bs' := [b_g cB cC cI cJ cZ oA rA σ_6, b_w cB cC cI cJ cZ oA rA σ_6, b_c cB cC cI cJ cZ oA rA σ_6]) (ws' := (b_g cB cC cI cJ cZ oA rA σ_6 ++ b_w cB cC cI cJ cZ oA rA σ_6 ++ b_c cB cC cI cJ cZ oA rA σ_6)) hP fl_3 fl_3 [0, 1, 2] rfl
    have hDc := bx_D (bs := [b_g cB cC cI cJ cZ oA rA σ_6, b_w cB cC cI cJ cZ oA rA σ_6, b_c cB cC cI cJ cZ oA rA σ_6]) (bs' := [b_g cB cC cI cJ cZ oA rA σ_6, b_w cB cC cI cJ cZ oA rA σ_6, b_c cB cC cI cJ cZ oA rA σ_6]) (ws' := (b_g cB cC cI cJ cZ oA rA σ_6 ++ b_w cB cC cI cJ cZ oA rA σ_6 ++ b_c cB cC cI cJ cZ oA rA σ_6)) (hDD σ_6) fl_3 fl_3 [0, 1, 2] (by decide +kernel) rfl
    have hFc := bx_F (bs := [b_g cB cC cI cJ cZ oA rA σ_6, b_w cB cC cI cJ cZ oA rA σ_6, b_c cB cC cI cJ cZ oA rA σ_6]) (bs' := [b_g cB cC cI cJ cZ oA rA σ_6, b_w cB cC cI cJ cZ oA rA σ_6, b_c cB cC cI cJ cZ oA rA σ_6]) (wc := (b_g cB cC cI cJ cZ oA rA σ_6 ++ b_w cB cC cI cJ cZ oA rA σ_6 ++ b_c cB cC cI cJ cZ oA rA σ_6)) (hDD σ_6) hS hA fl_3 fl_3 [0, 1, 2] rfl
    refine g_ofv (wc := (b_g cB cC cI cJ cZ oA rA σ_6 ++ b_w cB cC cI cJ cZ oA rA σ_6 ++ b_c cB cC cI cJ cZ oA rA σ_6)) (wr := ([] : va_W)) hP (hDD σ_6) hS hFc (bx_ix [b_g cB cC cI cJ cZ oA rA σ_6, b_w cB cC cI cJ cZ oA rA σ_6, b_c cB cC cI cJ cZ oA rA σ_6] [0, 1, 2]) (bx_ix [b_g cB cC cI cJ cZ oA rA σ_6, b_w cB cC cI cJ cZ oA rA σ_6, b_c cB cC cI cJ cZ oA rA σ_6] []) (bx_C (bs := [b_g cB cC cI cJ cZ oA rA σ_6, b_w cB cC cI cJ cZ oA rA σ_6, b_c cB cC cI cJ cZ oA rA σ_6]) (bs' := [b_g cB cC cI cJ cZ oA rA σ_6, b_w cB cC cI cJ cZ oA rA σ_6, b_c cB cC cI cJ cZ oA rA σ_6]) (is := [0, 1, 2]) fl_3 fl_3 rfl) (bx_C (bs := [b_g cB cC cI cJ cZ oA rA σ_6, b_w cB cC cI cJ cZ oA rA σ_6, b_c cB cC cI cJ cZ oA rA σ_6]) (bs' := []) (is := []) fl_3 fl_0 rfl) (bx_n (by decide +kernel)) (bx_d (by decide +kernel)) (va_runV (As := [.int 41]) (rest := []) ⟨hx, hb, hml, hown, hts⟩ (k_X2_shut l dC dI cB cC cI cJ cZ cP oA rA H.size  41 σ_6 _ hu_10) (cwV 1 hts (g_gV wq_576 wq_577 wq_2004 wq_3 wq_578) rfl rfl rfl (by decide +kernel) ⟨Nat.le_of_ble_eq_true rfl, Nat.le_of_ble_eq_true rfl⟩) (g_preV g_bl0 hK hPc hDc hS hE hFc g_to0 (q0 := 0) (ci := 2) rfl rfl) rfl rfl hl.1 rfl (lv_room (Nat.le_of_ble_eq_true rfl)) dX2_defHead_32 ⟨Nat.le_of_ble_eq_true rfl, Nat.le_of_ble_eq_true rfl⟩) (fun u9 H locs hw9 hP' hD' hS => ?_)
    clear hPc hDc hFc
    have hP : va_P (dC, dI) vwCl (b_g cB cC cI cJ cZ oA rA u_10.2 ++ b_w cB cC cI cJ cZ oA rA u_10.2 ++ b_c cB cC cI cJ cZ oA rA u_10.2) H := hP'
    clear hP' hD'
    refine lv_aload_n hx hb dX2_defHead_35 rfl (lv_at hl 1 rfl) ?_
    refine va_get (D := (dC, dI)) (ci := 2) (v := .ref (oA 5)) (C := RX2) (T := TX2) (N := 8) hx hb hts ii_X2 hown hK hP 0 rfl rfl 1 (by decide) (hts (.fieldLink RX2 15 "StoryHouse$Grammar" "code" "LStoryHouse$Code;") wq_72) (fun _ h9 => h9) rfl dX2_defHead_36 ?_
    refine lv_iload_n hx hb dX2_defHead_39 rfl (lv_at hl 0 rfl) ?_
    obtain ⟨u_12, hu_12, hF_13⟩ := Option.bind_eq_some_iff.mp hF_11
    clear hF_11
    have hPc := bx_P (bs := [b_g cB cC cI cJ cZ oA rA u_10.2, b_w cB cC cI cJ cZ oA rA u_10.2, b_c cB cC cI cJ cZ oA rA u_10.2]) (bs' := [b_c cB cC cI cJ cZ oA rA u_10.2]) (ws' := (b_c cB cC cI cJ cZ oA rA u_10.2)) hP fl_3 fl_1 [2] rfl
    have hDc := bx_D (bs := [b_g cB cC cI cJ cZ oA rA u_10.2, b_w cB cC cI cJ cZ oA rA u_10.2, b_c cB cC cI cJ cZ oA rA u_10.2]) (bs' := [b_c cB cC cI cJ cZ oA rA u_10.2]) (ws' := (b_c cB cC cI cJ cZ oA rA u_10.2)) (hDD u_10.2) fl_3 fl_1 [2] (by decide +kernel) rfl
    have hFc := bx_F (bs := [b_g cB cC cI cJ cZ oA rA u_10.2, b_w cB cC cI cJ cZ oA rA u_10.2, b_c cB cC cI cJ cZ oA rA u_10.2]) (bs' := [b_c cB cC cI cJ cZ oA rA u_10.2]) (wc := (b_c cB cC cI cJ cZ oA rA u_10.2)) (hDD u_10.2) hS hA fl_3 fl_1 [2] rfl
    refine g_ofv (wc := (b_c cB cC cI cJ cZ oA rA u_10.2)) (wr := (b_g cB cC cI cJ cZ oA rA u_10.2 ++ b_w cB cC cI cJ cZ oA rA u_10.2)) hP (hDD u_10.2) hS hFc (bx_ix [b_g cB cC cI cJ cZ oA rA u_10.2, b_w cB cC cI cJ cZ oA rA u_10.2, b_c cB cC cI cJ cZ oA rA u_10.2] [2]) (bx_ix [b_g cB cC cI cJ cZ oA rA u_10.2, b_w cB cC cI cJ cZ oA rA u_10.2, b_c cB cC cI cJ cZ oA rA u_10.2] [0, 1]) (bx_C (bs := [b_g cB cC cI cJ cZ oA rA u_10.2, b_w cB cC cI cJ cZ oA rA u_10.2, b_c cB cC cI cJ cZ oA rA u_10.2]) (bs' := [b_c cB cC cI cJ cZ oA rA u_10.2]) (is := [2]) fl_3 fl_1 rfl) (bx_C (bs := [b_g cB cC cI cJ cZ oA rA u_10.2, b_w cB cC cI cJ cZ oA rA u_10.2, b_c cB cC cI cJ cZ oA rA u_10.2]) (bs' := [b_g cB cC cI cJ cZ oA rA u_10.2, b_w cB cC cI cJ cZ oA rA u_10.2]) (is := [0, 1]) fl_3 fl_2 rfl) (bx_n (by decide +kernel)) (bx_d (by decide +kernel)) (va_runV (As := [.int t_5]) (rest := []) ⟨hx, hb, hml, hown, hts⟩ (k_X0_openDef l dC dI cB cC cI cJ cZ cP oA rA H.size  t_5 u_10.2 _ hu_12) (cwV 1 hts (g_gV wq_597 wq_598 wq_599 wq_6 wq_600) rfl rfl rfl (by decide +kernel) ⟨Nat.le_of_ble_eq_true rfl, Nat.le_of_ble_eq_true rfl⟩) (g_preV g_bl0 hK hPc hDc hS hE hFc g_to0 (q0 := 0) (ci := 0) rfl rfl) rfl rfl hl.1 rfl (lv_room (Nat.le_of_ble_eq_true rfl)) dX2_defHead_40 ⟨Nat.le_of_ble_eq_true rfl, Nat.le_of_ble_eq_true rfl⟩) (fun u9 H locs hw9 hP' hD' hS => ?_)
    clear hPc hDc hFc
    obtain ⟨σ_14, eσ_14, hF_15⟩ := bnd_e hF_13
    clear hF_13
    have hP : va_P (dC, dI) vwCl (b_g cB cC cI cJ cZ oA rA σ_14 ++ b_w cB cC cI cJ cZ oA rA σ_14 ++ b_c cB cC cI cJ cZ oA rA σ_14) H := by rw [eσ_14]; exact bx_P (bs := [b_g cB cC cI cJ cZ oA rA u_10.2, b_w cB cC cI cJ cZ oA rA u_10.2] ++ [b_c cB cC cI cJ cZ oA rA u_12.2]) (bs' := [b_g cB cC cI cJ cZ oA rA (mrg (fun j => j == 5) u_10.2 u_12.2), b_w cB cC cI cJ cZ oA rA (mrg (fun j => j == 5) u_10.2 u_12.2), b_c cB cC cI cJ cZ oA rA (mrg (fun j => j == 5) u_10.2 u_12.2)]) hP' (fl_a fl_2 fl_1) fl_3 [0, 1, 2] rfl
    clear hP' hD'
    have h9 := Option.some.inj hF_15
    subst h9
    exact W.vret hx hb hr (fun t ht hW => ⟨⟨(), rfl, trivial, m_end ht hP, hDD _⟩, hS.F ht⟩) hS.2.2 dX2_defHead_43
  refine lv_icmp_ne (tgt := 24) hx hb dX2_defHead_17 (by decide) (fun c_16 => ?_) (fun c_16 => ?_)
  · have hF_18 := ineg c_16 hF_8
    clear hF_8
    refine lv_aload_n hx hb dX2_defHead_24 rfl (lv_at hl 0 rfl) ?_
    obtain ⟨u_19, hu_19, hF_20⟩ := Option.bind_eq_some_iff.mp hF_18
    clear hF_18
    have hPc := bx_P (bs := [b_g cB cC cI cJ cZ oA rA u_3.2, b_w cB cC cI cJ cZ oA rA u_3.2, b_c cB cC cI cJ cZ oA rA u_3.2]) (bs' := [b_g cB cC cI cJ cZ oA rA u_3.2, b_w cB cC cI cJ cZ oA rA u_3.2, b_c cB cC cI cJ cZ oA rA u_3.2]) (ws' := (b_g cB cC cI cJ cZ oA rA u_3.2 ++ b_w cB cC cI cJ cZ oA rA u_3.2 ++ b_c cB cC cI cJ cZ oA rA u_3.2)) hP fl_3 fl_3 [0, 1, 2] rfl
    have hDc := bx_D (bs := [b_g cB cC cI cJ cZ oA rA u_3.2, b_w cB cC cI cJ cZ oA rA u_3.2, b_c cB cC cI cJ cZ oA rA u_3.2]) (bs' := [b_g cB cC cI cJ cZ oA rA u_3.2, b_w cB cC cI cJ cZ oA rA u_3.2, b_c cB cC cI cJ cZ oA rA u_3.2]) (ws' := (b_g cB cC cI cJ cZ oA rA u_3.2 ++ b_w cB cC cI cJ cZ oA rA u_3.2 ++ b_c cB cC cI cJ cZ oA rA u_3.2)) (hDD u_3.2) fl_3 fl_3 [0, 1, 2] (by decide +kernel) rfl
    have hFc := bx_F (bs := [b_g cB cC cI cJ cZ oA rA u_3.2, b_w cB cC cI cJ cZ oA rA u_3.2, b_c cB cC cI cJ cZ oA rA u_3.2]) (bs' := [b_g cB cC cI cJ cZ oA rA u_3.2, b_w cB cC cI cJ cZ oA rA u_3.2, b_c cB cC cI cJ cZ oA rA u_3.2]) (wc := (b_g cB cC cI cJ cZ oA rA u_3.2 ++ b_w cB cC cI cJ cZ oA rA u_3.2 ++ b_c cB cC cI cJ cZ oA rA u_3.2)) (hDD u_3.2) hS hA fl_3 fl_3 [0, 1, 2] rfl
    refine g_ofi (wc := (b_g cB cC cI cJ cZ oA rA u_3.2 ++ b_w cB cC cI cJ cZ oA rA u_3.2 ++ b_c cB cC cI cJ cZ oA rA u_3.2)) (wr := ([] : va_W)) hP (hDD u_3.2) hS hFc (bx_ix [b_g cB cC cI cJ cZ oA rA u_3.2, b_w cB cC cI cJ cZ oA rA u_3.2, b_c cB cC cI cJ cZ oA rA u_3.2] [0, 1, 2]) (bx_ix [b_g cB cC cI cJ cZ oA rA u_3.2, b_w cB cC cI cJ cZ oA rA u_3.2, b_c cB cC cI cJ cZ oA rA u_3.2] []) (bx_C (bs := [b_g cB cC cI cJ cZ oA rA u_3.2, b_w cB cC cI cJ cZ oA rA u_3.2, b_c cB cC cI cJ cZ oA rA u_3.2]) (bs' := [b_g cB cC cI cJ cZ oA rA u_3.2, b_w cB cC cI cJ cZ oA rA u_3.2, b_c cB cC cI cJ cZ oA rA u_3.2]) (is := [0, 1, 2]) fl_3 fl_3 rfl) (bx_C (bs := [b_g cB cC cI cJ cZ oA rA u_3.2, b_w cB cC cI cJ cZ oA rA u_3.2, b_c cB cC cI cJ cZ oA rA u_3.2]) (bs' := []) (is := []) fl_3 fl_0 rfl) (bx_n (by decide +kernel)) (bx_d (by decide +kernel)) (va_runV (As := []) (rest := []) ⟨hx, hb, hml, hown, hts⟩ (k_X2_names l dC dI cB cC cI cJ cZ cP oA rA H.size  u_3.2 _ hu_19) (cwV 0 hts (g_gV wq_582 wq_583 wq_2006 wq_3 wq_584) rfl rfl rfl (by decide +kernel) ⟨Nat.le_of_ble_eq_true rfl, Nat.le_of_ble_eq_true rfl⟩) (g_preV g_bl0 hK hPc hDc hS hE hFc g_to0 (q0 := 0) (ci := 2) rfl rfl) rfl rfl hl.1 rfl (lv_room (Nat.le_of_ble_eq_true rfl)) dX2_defHead_25 ⟨Nat.le_of_ble_eq_true rfl, Nat.le_of_ble_eq_true rfl⟩) (fun r9 u9 H locs hw9 hP' hD' hS => ?_)
    clear hPc hDc hFc
    subst hw9
    have hP : va_P (dC, dI) vwCl (b_g cB cC cI cJ cZ oA rA u_19.2 ++ b_w cB cC cI cJ cZ oA rA u_19.2 ++ b_c cB cC cI cJ cZ oA rA u_19.2) H := hP'
    clear hP' hD'
    exact Jj_7 u_19.1 u_19.2 hF_20 _ _ hP hS ls (lv_sub hl [0] rfl)
  · have hF_17 := ipos c_16 hF_8
    clear hF_8
    refine lv_iconst (v := 0) hx hb dX2_defHead_20 (by decide +kernel) ?_
    refine lv_goto (tgt := 28) hx hb dX2_defHead_21 (by decide) ?_
    exact Jj_7 0 u_3.2 hF_17 _ _ hP hS ls (lv_sub hl [0] rfl)
theorem dX2_endRoutine_0 : decode cX2_endRoutine 0 = .ok (.aload_n 0, 1) := by decide +kernel
theorem dX2_endRoutine_1 : decode cX2_endRoutine 1 = .ok (.getfield 15, 3) := by decide +kernel
theorem dX2_endRoutine_4 : decode cX2_endRoutine 4 = .ok (.iconst 0, 1) := by decide +kernel
theorem dX2_endRoutine_5 : decode cX2_endRoutine 5 = .ok (.invokevirtual 90, 3) := by decide +kernel
theorem dX2_endRoutine_8 : decode cX2_endRoutine 8 = .ok (.aload_n 0, 1) := by decide +kernel
theorem dX2_endRoutine_9 : decode cX2_endRoutine 9 = .ok (.getfield 15, 3) := by decide +kernel
theorem dX2_endRoutine_12 : decode cX2_endRoutine 12 = .ok (.invokevirtual 93, 3) := by decide +kernel
theorem dX2_endRoutine_15 : decode cX2_endRoutine 15 = .ok (.aload_n 0, 1) := by decide +kernel
theorem dX2_endRoutine_16 : decode cX2_endRoutine 16 = .ok (.getfield 9, 3) := by decide +kernel
theorem dX2_endRoutine_19 : decode cX2_endRoutine 19 = .ok (.getfield 96, 3) := by decide +kernel
theorem dX2_endRoutine_22 : decode cX2_endRoutine 22 = .ok (.iload_n 1, 1) := by decide +kernel
theorem dX2_endRoutine_23 : decode cX2_endRoutine 23 = .ok (.aload_n 0, 1) := by decide +kernel
theorem dX2_endRoutine_24 : decode cX2_endRoutine 24 = .ok (.getfield 19, 3) := by decide +kernel
theorem dX2_endRoutine_27 : decode cX2_endRoutine 27 = .ok (.iconst 1, 1) := by decide +kernel
theorem dX2_endRoutine_28 : decode cX2_endRoutine 28 = .ok (.isub, 1) := by decide +kernel
theorem dX2_endRoutine_29 : decode cX2_endRoutine 29 = .ok (.invokestatic 100, 3) := by decide +kernel
theorem dX2_endRoutine_32 : decode cX2_endRoutine 32 = .ok (.return_, 1) := by decide +kernel
def F_X2_endRoutine (p0 : Int32) (Γ : HS) : HR :=
  (F_X0_add 0 Γ).bind fun u_1 =>
  bnd (mrg (fun j => j == 5) Γ u_1.2) fun σ_3 =>
  (F_X0_shutRoutine σ_3).bind fun u_5 =>
  bnd (mrg (fun j => j == 5) σ_3 u_5.2) fun σ_7 =>
  bnd ((((σ_7 2).1 2) - 1)) fun (x_9 : Int32) =>
  bnd (cA' σ_7 1 6 (g_put 16001 ((σ_7 1).2.1 6) p0 x_9)) fun σ_11 =>
  some (0, σ_11)
set_option maxHeartbeats 4000000 in
set_option maxRecDepth 100000 in
theorem k_X2_endRoutine (l : Launch) (dC : Nat → ClassId) (dI : Nat → Nat → Nat) (cB cC cI cJ cZ cP : ClassId) (oA : Nat → Nat) (rA : Nat → Nat → Nat) (sz : Nat)  (p0 : Int32) (Γ : HS) (res : Int32 × HS) (hF : F_X2_endRoutine p0 Γ = some res) : Met l yX2_endRoutine (g_ws yX2_endRoutine cX2_endRoutine 2 none) ({ frames := 4, cells := 0, slots := 0, locals := 102 }) (va_Pc [.ref (oA 2), .int p0] (g_B (dC, dI) [(cB, .byte), (cC, .char), (cI, .int), (cJ, .long), (cZ, .boolean), (cP, .object "StoryHouse$Play")] sz (b_g cB cC cI cJ cZ oA rA Γ ++ b_w cB cC cI cJ cZ oA rA Γ ++ b_c cB cC cI cJ cZ oA rA Γ) g_0)) (va_Qv (fun (_ : Unit) => True) (g_Bo (dC, dI) (va_A (b_g cB cC cI cJ cZ oA rA Γ ++ b_w cB cC cI cJ cZ oA rA Γ ++ b_c cB cC cI cJ cZ oA rA Γ) sz) (fun (_ : Unit) => (b_g cB cC cI cJ cZ oA rA res.2 ++ b_w cB cC cI cJ cZ oA rA res.2 ++ b_c cB cC cI cJ cZ oA rA res.2))) (va_A (b_g cB cC cI cJ cZ oA rA Γ ++ b_w cB cC cI cJ cZ oA rA Γ ++ b_c cB cC cI cJ cZ oA rA Γ) sz)) 0 0 (va_A (b_g cB cC cI cJ cZ oA rA Γ ++ b_w cB cC cI cJ cZ oA rA Γ ++ b_c cB cC cI cJ cZ oA rA Γ) sz) := by
  refine Met.ofW (cc := cX2_endRoutine) (maxL := 2) (ret := none) (by decide) rfl ?_
  intro p e s m args below meth c s₁ B hml hv
  obtain ⟨rfl, hsz, hP, hK, hD0, hE, hX⟩ := hv
  have hx := B.exec
  have hb := B.bytes
  have hr := B.returns
  have hts0 := atoms_spec (ws := g_ws yX2_endRoutine cX2_endRoutine 2 none) B.pre
  have hts : ∀ w ∈ lw_good, w.before ([.ref (oA 2), .int p0] : List Value).toArray s = true := fun w z => hts0 w (List.mem_cons_of_mem _ z)
  have hown : s.vm.findClass RX2 = some m.cls := findClass_of_methodNamed B.named
  have hlocks := B.notSynchronized
  subst hsz
  have hD1 := hD0.self (sz := s.heap.size)
  generalize hAe : va_A (b_g cB cC cI cJ cZ oA rA Γ ++ b_w cB cC cI cJ cZ oA rA Γ ++ b_c cB cC cI cJ cZ oA rA Γ) s.heap.size = A at hD1 hE hX ⊢
  have hA : ∀ q : Nat, s.heap.size ≤ q → A q := fun q z => by rw [← hAe]; exact Or.inr z
  have hDD : ∀ Γ : HS, va_D A (b_g cB cC cI cJ cZ oA rA Γ ++ b_w cB cC cI cJ cZ oA rA Γ ++ b_c cB cC cI cJ cZ oA rA Γ) := fun Γ9 => va_D_fst (ws := (b_g cB cC cI cJ cZ oA rA Γ ++ b_w cB cC cI cJ cZ oA rA Γ ++ b_c cB cC cI cJ cZ oA rA Γ)) (ws' := (b_g cB cC cI cJ cZ oA rA Γ9 ++ b_w cB cC cI cJ cZ oA rA Γ9 ++ b_c cB cC cI cJ cZ oA rA Γ9)) rfl hD1
  have hN := hE.1
  have hS : va_S A s.heap s.heap [] := va_S.rf
  have hl := lv_entry ([.ref (oA 2), .int p0]) (n := 2) (Nat.le_of_ble_eq_true rfl)
  rw [lg_entry_eq]
  generalize (lg_sl ([.ref (oA 2), .int p0]) ++ List.replicate (2 - (lg_sl ([.ref (oA 2), .int p0])).length) Slot.unset).toArray = ls at hl ⊢
  have hl : lv_has ls 2 [(0, .ref (oA 2)), (1, .int p0)] := hl
  unfold F_X2_endRoutine at hF
  refine lv_aload_n hx hb dX2_endRoutine_0 rfl (lv_at hl 0 rfl) ?_
  refine va_get (D := (dC, dI)) (ci := 2) (v := .ref (oA 5)) (C := RX2) (T := TX2) (N := 8) hx hb hts ii_X2 hown hK hP 0 rfl rfl 1 (by decide) (hts (.fieldLink RX2 15 "StoryHouse$Grammar" "code" "LStoryHouse$Code;") wq_72) (fun _ h9 => h9) rfl dX2_endRoutine_1 ?_
  refine lv_iconst (v := 0) hx hb dX2_endRoutine_4 (by decide +kernel) ?_
  obtain ⟨u_1, hu_1, hF_2⟩ := Option.bind_eq_some_iff.mp hF
  clear hF
  have hPc := bx_P (bs := [b_g cB cC cI cJ cZ oA rA Γ, b_w cB cC cI cJ cZ oA rA Γ, b_c cB cC cI cJ cZ oA rA Γ]) (bs' := [b_c cB cC cI cJ cZ oA rA Γ]) (ws' := (b_c cB cC cI cJ cZ oA rA Γ)) hP fl_3 fl_1 [2] rfl
  have hDc := bx_D (bs := [b_g cB cC cI cJ cZ oA rA Γ, b_w cB cC cI cJ cZ oA rA Γ, b_c cB cC cI cJ cZ oA rA Γ]) (bs' := [b_c cB cC cI cJ cZ oA rA Γ]) (ws' := (b_c cB cC cI cJ cZ oA rA Γ)) (hDD Γ) fl_3 fl_1 [2] (by decide +kernel) rfl
  have hFc := bx_F (bs := [b_g cB cC cI cJ cZ oA rA Γ, b_w cB cC cI cJ cZ oA rA Γ, b_c cB cC cI cJ cZ oA rA Γ]) (bs' := [b_c cB cC cI cJ cZ oA rA Γ]) (wc := (b_c cB cC cI cJ cZ oA rA Γ)) (hDD Γ) hS hA fl_3 fl_1 [2] rfl
  refine g_ofv (wc := (b_c cB cC cI cJ cZ oA rA Γ)) (wr := (b_g cB cC cI cJ cZ oA rA Γ ++ b_w cB cC cI cJ cZ oA rA Γ)) hP (hDD Γ) hS hFc (bx_ix [b_g cB cC cI cJ cZ oA rA Γ, b_w cB cC cI cJ cZ oA rA Γ, b_c cB cC cI cJ cZ oA rA Γ] [2]) (bx_ix [b_g cB cC cI cJ cZ oA rA Γ, b_w cB cC cI cJ cZ oA rA Γ, b_c cB cC cI cJ cZ oA rA Γ] [0, 1]) (bx_C (bs := [b_g cB cC cI cJ cZ oA rA Γ, b_w cB cC cI cJ cZ oA rA Γ, b_c cB cC cI cJ cZ oA rA Γ]) (bs' := [b_c cB cC cI cJ cZ oA rA Γ]) (is := [2]) fl_3 fl_1 rfl) (bx_C (bs := [b_g cB cC cI cJ cZ oA rA Γ, b_w cB cC cI cJ cZ oA rA Γ, b_c cB cC cI cJ cZ oA rA Γ]) (bs' := [b_g cB cC cI cJ cZ oA rA Γ, b_w cB cC cI cJ cZ oA rA Γ]) (is := [0, 1]) fl_3 fl_2 rfl) (bx_n (by decide +kernel)) (bx_d (by decide +kernel)) (va_runV (As := [.int 0]) (rest := []) ⟨hx, hb, hml, hown, hts⟩ (k_X0_add l dC dI cB cC cI cJ cZ cP oA rA s.heap.size  0 Γ _ hu_1) (cwV 1 hts (g_gV wq_636 wq_637 wq_638 wq_6 wq_639) rfl rfl rfl (by decide +kernel) ⟨Nat.le_of_ble_eq_true rfl, Nat.le_of_ble_eq_true rfl⟩) (g_preV g_bl0 hK hPc hDc hS hE hFc g_to0 (q0 := 0) (ci := 0) rfl rfl) rfl rfl hl.1 rfl (lv_room (Nat.le_of_ble_eq_true rfl)) dX2_endRoutine_5 ⟨Nat.le_of_ble_eq_true rfl, Nat.le_of_ble_eq_true rfl⟩) (fun u9 H locs hw9 hP' hD' hS => ?_)
  clear hPc hDc hFc
  obtain ⟨σ_3, eσ_3, hF_4⟩ := bnd_e hF_2
  clear hF_2
  have hP : va_P (dC, dI) vwCl (b_g cB cC cI cJ cZ oA rA σ_3 ++ b_w cB cC cI cJ cZ oA rA σ_3 ++ b_c cB cC cI cJ cZ oA rA σ_3) H := by rw [eσ_3]; exact bx_P (bs := [b_g cB cC cI cJ cZ oA rA Γ, b_w cB cC cI cJ cZ oA rA Γ] ++ [b_c cB cC cI cJ cZ oA rA u_1.2]) (bs' := [b_g cB cC cI cJ cZ oA rA (mrg (fun j => j == 5) Γ u_1.2), b_w cB cC cI cJ cZ oA rA (mrg (fun j => j == 5) Γ u_1.2), b_c cB cC cI cJ cZ oA rA (mrg (fun j => j == 5) Γ u_1.2)]) hP' (fl_a fl_2 fl_1) fl_3 [0, 1, 2] rfl
  clear hP' hD'
  refine lv_aload_n hx hb dX2_endRoutine_8 rfl (lv_at hl 0 rfl) ?_
  refine va_get (D := (dC, dI)) (ci := 2) (v := .ref (oA 5)) (C := RX2) (T := TX2) (N := 8) hx hb hts ii_X2 hown hK hP 0 rfl rfl 1 (by decide) (hts (.fieldLink RX2 15 "StoryHouse$Grammar" "code" "LStoryHouse$Code;") wq_72) (fun _ h9 => h9) rfl dX2_endRoutine_9 ?_
  obtain ⟨u_5, hu_5, hF_6⟩ := Option.bind_eq_some_iff.mp hF_4
  clear hF_4
  have hPc := bx_P (bs := [b_g cB cC cI cJ cZ oA rA σ_3, b_w cB cC cI cJ cZ oA rA σ_3, b_c cB cC cI cJ cZ oA rA σ_3]) (bs' := [b_c cB cC cI cJ cZ oA rA σ_3]) (ws' := (b_c cB cC cI cJ cZ oA rA σ_3)) hP fl_3 fl_1 [2] rfl
  have hDc := bx_D (bs := [b_g cB cC cI cJ cZ oA rA σ_3, b_w cB cC cI cJ cZ oA rA σ_3, b_c cB cC cI cJ cZ oA rA σ_3]) (bs' := [b_c cB cC cI cJ cZ oA rA σ_3]) (ws' := (b_c cB cC cI cJ cZ oA rA σ_3)) (hDD σ_3) fl_3 fl_1 [2] (by decide +kernel) rfl
  have hFc := bx_F (bs := [b_g cB cC cI cJ cZ oA rA σ_3, b_w cB cC cI cJ cZ oA rA σ_3, b_c cB cC cI cJ cZ oA rA σ_3]) (bs' := [b_c cB cC cI cJ cZ oA rA σ_3]) (wc := (b_c cB cC cI cJ cZ oA rA σ_3)) (hDD σ_3) hS hA fl_3 fl_1 [2] rfl
  refine g_ofv (wc := (b_c cB cC cI cJ cZ oA rA σ_3)) (wr := (b_g cB cC cI cJ cZ oA rA σ_3 ++ b_w cB cC cI cJ cZ oA rA σ_3)) hP (hDD σ_3) hS hFc (bx_ix [b_g cB cC cI cJ cZ oA rA σ_3, b_w cB cC cI cJ cZ oA rA σ_3, b_c cB cC cI cJ cZ oA rA σ_3] [2]) (bx_ix [b_g cB cC cI cJ cZ oA rA σ_3, b_w cB cC cI cJ cZ oA rA σ_3, b_c cB cC cI cJ cZ oA rA σ_3] [0, 1]) (bx_C (bs := [b_g cB cC cI cJ cZ oA rA σ_3, b_w cB cC cI cJ cZ oA rA σ_3, b_c cB cC cI cJ cZ oA rA σ_3]) (bs' := [b_c cB cC cI cJ cZ oA rA σ_3]) (is := [2]) fl_3 fl_1 rfl) (bx_C (bs := [b_g cB cC cI cJ cZ oA rA σ_3, b_w cB cC cI cJ cZ oA rA σ_3, b_c cB cC cI cJ cZ oA rA σ_3]) (bs' := [b_g cB cC cI cJ cZ oA rA σ_3, b_w cB cC cI cJ cZ oA rA σ_3]) (is := [0, 1]) fl_3 fl_2 rfl) (bx_n (by decide +kernel)) (bx_d (by decide +kernel)) (va_runV (As := []) (rest := []) ⟨hx, hb, hml, hown, hts⟩ (k_X0_shutRoutine l dC dI cB cC cI cJ cZ cP oA rA H.size  σ_3 _ hu_5) (cwV 0 hts (g_gV wq_697 wq_698 wq_699 wq_6 wq_700) rfl rfl rfl (by decide +kernel) ⟨Nat.le_of_ble_eq_true rfl, Nat.le_of_ble_eq_true rfl⟩) (g_preV g_bl0 hK hPc hDc hS hE hFc g_to0 (q0 := 0) (ci := 0) rfl rfl) rfl rfl hl.1 rfl (lv_room (Nat.le_of_ble_eq_true rfl)) dX2_endRoutine_12 ⟨Nat.le_of_ble_eq_true rfl, Nat.le_of_ble_eq_true rfl⟩) (fun u9 H locs hw9 hP' hD' hS => ?_)
  clear hPc hDc hFc
  obtain ⟨σ_7, eσ_7, hF_8⟩ := bnd_e hF_6
  clear hF_6
  have hP : va_P (dC, dI) vwCl (b_g cB cC cI cJ cZ oA rA σ_7 ++ b_w cB cC cI cJ cZ oA rA σ_7 ++ b_c cB cC cI cJ cZ oA rA σ_7) H := by rw [eσ_7]; exact bx_P (bs := [b_g cB cC cI cJ cZ oA rA σ_3, b_w cB cC cI cJ cZ oA rA σ_3] ++ [b_c cB cC cI cJ cZ oA rA u_5.2]) (bs' := [b_g cB cC cI cJ cZ oA rA (mrg (fun j => j == 5) σ_3 u_5.2), b_w cB cC cI cJ cZ oA rA (mrg (fun j => j == 5) σ_3 u_5.2), b_c cB cC cI cJ cZ oA rA (mrg (fun j => j == 5) σ_3 u_5.2)]) hP' (fl_a fl_2 fl_1) fl_3 [0, 1, 2] rfl
  clear hP' hD'
  refine lv_aload_n hx hb dX2_endRoutine_15 rfl (lv_at hl 0 rfl) ?_
  refine va_get (D := (dC, dI)) (ci := 2) (v := .ref (oA 1)) (C := RX2) (T := TX2) (N := 8) hx hb hts ii_X2 hown hK hP 0 rfl rfl 0 (by decide) (hts (.fieldLink RX2 9 "StoryHouse$Grammar" "words" "LStoryHouse$Words;") wq_71) (fun _ h9 => h9) rfl dX2_endRoutine_16 ?_
  refine va_get (D := (dC, dI)) (ci := 10) (v := .ref (rA 1 6)) (C := RX10) (T := TX10) (N := 12) hx hb hts ii_X10 hown hK hP 1 rfl rfl 6 (by decide) (hts (.fieldLink RX2 96 "StoryHouse$Words" "notes" "[I") wq_53) (fun _ h9 => h9) rfl dX2_endRoutine_19 ?_
  refine lv_iload_n hx hb dX2_endRoutine_22 rfl (lv_at hl 1 rfl) ?_
  refine lv_aload_n hx hb dX2_endRoutine_23 rfl (lv_at hl 0 rfl) ?_
  refine va_get (D := (dC, dI)) (ci := 2) (v := .int ((σ_7 2).1 2)) (C := RX2) (T := TX2) (N := 8) hx hb hts ii_X2 hown hK hP 0 rfl rfl 2 (by decide) (hts (.fieldLink RX2 19 "StoryHouse$Grammar" "at" "I") wq_73) (fun _ h9 => h9) rfl dX2_endRoutine_24 ?_
  refine lv_iconst (v := 1) hx hb dX2_endRoutine_27 (by decide +kernel) ?_
  refine lv_isub hx hb dX2_endRoutine_28 ?_
  obtain ⟨x_9, ex_9, hF_10⟩ := bnd_e hF_8
  clear hF_8
  refine m_top ex_9 ?_
  have hq9 : ((b_g cB cC cI cJ cZ oA rA σ_7 ++ b_w cB cC cI cJ cZ oA rA σ_7 ++ b_c cB cC cI cJ cZ oA rA σ_7))[6]? = some (rA 1 6, .inl (cI, 16001, .inl ((σ_7 1).2.1 6))) := rfl
  have hPc := hP.sub (ws' := [(rA 1 6, .inl (cI, 16001, .inl ((σ_7 1).2.1 6)))]) [6] (pk_fm (er_C hq9))
  have hDc := (hDD σ_7).sub (ws' := [(rA 1 6, .inl (cI, 16001, .inl ((σ_7 1).2.1 6)))]) [6] (by decide +kernel) (er_C hq9)
  have hFc := va_free (wc := [(rA 1 6, .inl (cI, 16001, .inl ((σ_7 1).2.1 6)))]) (hDD σ_7) hS hA [6] (er_C hq9)
  refine g_ofv (wc := [(rA 1 6, .inl (cI, 16001, .inl ((σ_7 1).2.1 6)))]) (wr := (((b_g cB cC cI cJ cZ oA rA σ_7 ++ b_w cB cC cI cJ cZ oA rA σ_7 ++ b_c cB cC cI cJ cZ oA rA σ_7)).eraseIdx 6)) hP (hDD σ_7) hS hFc [6] ((List.range ((b_g cB cC cI cJ cZ oA rA σ_7 ++ b_w cB cC cI cJ cZ oA rA σ_7 ++ b_c cB cC cI cJ cZ oA rA σ_7)).length).eraseIdx 6) (er_C hq9) er_R er_n er_d (va_runSN (As := [.ref (rA 1 6), .int p0, .int x_9]) (rest := []) ⟨hx, hb, hml, hown, hts⟩ (c_X11_put l dC dI cB cC cI cJ cZ cP H.size (rA 1 6) p0 x_9 16001 ((σ_7 1).2.1 6) (by decide)) ⟨va_cnB 3 hts (g_gA wq_412) rfl rfl rfl (nw_20 hN) (hts (.initialized RX11) wq_1) (by decide +kernel) ⟨Nat.le_of_ble_eq_true rfl, Nat.le_of_ble_eq_true rfl⟩, (hts (.static yX11_put) wq_411), trivial⟩ (g_preS g_bl0 hK hPc hDc hS hE hFc g_to0) rfl rfl hl.1 rfl (lv_room (Nat.le_of_ble_eq_true rfl)) dX2_endRoutine_29 ⟨Nat.le_of_ble_eq_true rfl, Nat.le_of_ble_eq_true rfl⟩) (fun g9 H locs hw9 hP' hD' hS => ?_)
  clear hPc hDc hFc hD'
  obtain ⟨σ_11, eσ_11, hF_12⟩ := bnd_e hF_10
  clear hF_10
  subst hw9
  have hP : va_P (dC, dI) vwCl (b_g cB cC cI cJ cZ oA rA σ_11 ++ b_w cB cC cI cJ cZ oA rA σ_11 ++ b_c cB cC cI cJ cZ oA rA σ_11) H := by rw [eσ_11]; exact cs_gwc_w_6 ▸ er_P hP' (er_lt hq9)
  clear hP' hq9
  have h9 := Option.some.inj hF_12
  subst h9
  exact W.vret hx hb hr (fun t ht hW => ⟨⟨(), rfl, trivial, m_end ht hP, hDD _⟩, hS.F ht⟩) hS.2.2 dX2_endRoutine_32
theorem dX2_needFrom_0 : decode cX2_needFrom 0 = .ok (.aload_n 0, 1) := by decide +kernel
theorem dX2_needFrom_1 : decode cX2_needFrom 1 = .ok (.iload_n 1, 1) := by decide +kernel
theorem dX2_needFrom_2 : decode cX2_needFrom 2 = .ok (.iload_n 2, 1) := by decide +kernel
theorem dX2_needFrom_3 : decode cX2_needFrom 3 = .ok (.invokevirtual 113, 3) := by decide +kernel
theorem dX2_needFrom_6 : decode cX2_needFrom 6 = .ok (.ifCond .eq 10, 3) := by decide +kernel
theorem dX2_needFrom_9 : decode cX2_needFrom 9 = .ok (.aload_n 0, 1) := by decide +kernel
theorem dX2_needFrom_10 : decode cX2_needFrom 10 = .ok (.invokevirtual 107, 3) := by decide +kernel
theorem dX2_needFrom_13 : decode cX2_needFrom 13 = .ok (.goto 8, 3) := by decide +kernel
theorem dX2_needFrom_16 : decode cX2_needFrom 16 = .ok (.aload_n 0, 1) := by decide +kernel
theorem dX2_needFrom_17 : decode cX2_needFrom 17 = .ok (.iconst 2, 1) := by decide +kernel
theorem dX2_needFrom_18 : decode cX2_needFrom 18 = .ok (.invokevirtual 110, 3) := by decide +kernel
theorem dX2_needFrom_21 : decode cX2_needFrom 21 = .ok (.return_, 1) := by decide +kernel
def F_X2_needFrom (p0 : Int32) (p1 : Int32) (Γ : HS) : HR :=
  (F_X2_isFrom p0 p1 Γ).bind fun u_1 =>
  if u_1.1 = 0 then (
    (F_X2_fail 2 u_1.2).bind fun u_5 =>
    some (0, u_5.2)
  ) else (
    (F_X2_pass u_1.2).bind fun u_8 =>
    some (0, u_8.2)
  )
set_option maxHeartbeats 4000000 in
set_option maxRecDepth 100000 in
theorem k_X2_needFrom (l : Launch) (dC : Nat → ClassId) (dI : Nat → Nat → Nat) (cB cC cI cJ cZ cP : ClassId) (oA : Nat → Nat) (rA : Nat → Nat → Nat) (sz : Nat)  (p0 : Int32) (p1 : Int32) (Γ : HS) (res : Int32 × HS) (hF : F_X2_needFrom p0 p1 Γ = some res) : Met l yX2_needFrom (g_ws yX2_needFrom cX2_needFrom 3 none) ({ frames := 2, cells := 0, slots := 0, locals := 62 }) (va_Pc [.ref (oA 2), .int p0, .int p1] (g_B (dC, dI) [(cB, .byte), (cC, .char), (cI, .int), (cJ, .long), (cZ, .boolean), (cP, .object "StoryHouse$Play")] sz (b_g cB cC cI cJ cZ oA rA Γ ++ b_w cB cC cI cJ cZ oA rA Γ ++ b_c cB cC cI cJ cZ oA rA Γ) g_0)) (va_Qv (fun (_ : Unit) => True) (g_Bo (dC, dI) (va_A (b_g cB cC cI cJ cZ oA rA Γ ++ b_w cB cC cI cJ cZ oA rA Γ ++ b_c cB cC cI cJ cZ oA rA Γ) sz) (fun (_ : Unit) => (b_g cB cC cI cJ cZ oA rA res.2 ++ b_w cB cC cI cJ cZ oA rA res.2 ++ b_c cB cC cI cJ cZ oA rA res.2))) (va_A (b_g cB cC cI cJ cZ oA rA Γ ++ b_w cB cC cI cJ cZ oA rA Γ ++ b_c cB cC cI cJ cZ oA rA Γ) sz)) 0 0 (va_A (b_g cB cC cI cJ cZ oA rA Γ ++ b_w cB cC cI cJ cZ oA rA Γ ++ b_c cB cC cI cJ cZ oA rA Γ) sz) := by
  refine Met.ofW (cc := cX2_needFrom) (maxL := 3) (ret := none) (by decide) rfl ?_
  intro p e s m args below meth c s₁ B hml hv
  obtain ⟨rfl, hsz, hP, hK, hD0, hE, hX⟩ := hv
  have hx := B.exec
  have hb := B.bytes
  have hr := B.returns
  have hts0 := atoms_spec (ws := g_ws yX2_needFrom cX2_needFrom 3 none) B.pre
  have hts : ∀ w ∈ lw_good, w.before ([.ref (oA 2), .int p0, .int p1] : List Value).toArray s = true := fun w z => hts0 w (List.mem_cons_of_mem _ z)
  have hown : s.vm.findClass RX2 = some m.cls := findClass_of_methodNamed B.named
  have hlocks := B.notSynchronized
  subst hsz
  have hD1 := hD0.self (sz := s.heap.size)
  generalize hAe : va_A (b_g cB cC cI cJ cZ oA rA Γ ++ b_w cB cC cI cJ cZ oA rA Γ ++ b_c cB cC cI cJ cZ oA rA Γ) s.heap.size = A at hD1 hE hX ⊢
  have hA : ∀ q : Nat, s.heap.size ≤ q → A q := fun q z => by rw [← hAe]; exact Or.inr z
  have hDD : ∀ Γ : HS, va_D A (b_g cB cC cI cJ cZ oA rA Γ ++ b_w cB cC cI cJ cZ oA rA Γ ++ b_c cB cC cI cJ cZ oA rA Γ) := fun Γ9 => va_D_fst (ws := (b_g cB cC cI cJ cZ oA rA Γ ++ b_w cB cC cI cJ cZ oA rA Γ ++ b_c cB cC cI cJ cZ oA rA Γ)) (ws' := (b_g cB cC cI cJ cZ oA rA Γ9 ++ b_w cB cC cI cJ cZ oA rA Γ9 ++ b_c cB cC cI cJ cZ oA rA Γ9)) rfl hD1
  have hN := hE.1
  have hS : va_S A s.heap s.heap [] := va_S.rf
  have hl := lv_entry ([.ref (oA 2), .int p0, .int p1]) (n := 3) (Nat.le_of_ble_eq_true rfl)
  rw [lg_entry_eq]
  generalize (lg_sl ([.ref (oA 2), .int p0, .int p1]) ++ List.replicate (3 - (lg_sl ([.ref (oA 2), .int p0, .int p1])).length) Slot.unset).toArray = ls at hl ⊢
  have hl : lv_has ls 3 [(0, .ref (oA 2)), (1, .int p0), (2, .int p1)] := hl
  unfold F_X2_needFrom at hF
  refine lv_aload_n hx hb dX2_needFrom_0 rfl (lv_at hl 0 rfl) ?_
  refine lv_iload_n hx hb dX2_needFrom_1 rfl (lv_at hl 1 rfl) ?_
  refine lv_iload_n hx hb dX2_needFrom_2 rfl (lv_at hl 2 rfl) ?_
  obtain ⟨u_1, hu_1, hF_2⟩ := Option.bind_eq_some_iff.mp hF
  clear hF
  have hPc := bx_P (bs := [b_g cB cC cI cJ cZ oA rA Γ, b_w cB cC cI cJ cZ oA rA Γ, b_c cB cC cI cJ cZ oA rA Γ]) (bs' := [b_g cB cC cI cJ cZ oA rA Γ, b_w cB cC cI cJ cZ oA rA Γ, b_c cB cC cI cJ cZ oA rA Γ]) (ws' := (b_g cB cC cI cJ cZ oA rA Γ ++ b_w cB cC cI cJ cZ oA rA Γ ++ b_c cB cC cI cJ cZ oA rA Γ)) hP fl_3 fl_3 [0, 1, 2] rfl
  have hDc := bx_D (bs := [b_g cB cC cI cJ cZ oA rA Γ, b_w cB cC cI cJ cZ oA rA Γ, b_c cB cC cI cJ cZ oA rA Γ]) (bs' := [b_g cB cC cI cJ cZ oA rA Γ, b_w cB cC cI cJ cZ oA rA Γ, b_c cB cC cI cJ cZ oA rA Γ]) (ws' := (b_g cB cC cI cJ cZ oA rA Γ ++ b_w cB cC cI cJ cZ oA rA Γ ++ b_c cB cC cI cJ cZ oA rA Γ)) (hDD Γ) fl_3 fl_3 [0, 1, 2] (by decide +kernel) rfl
  have hFc := bx_F (bs := [b_g cB cC cI cJ cZ oA rA Γ, b_w cB cC cI cJ cZ oA rA Γ, b_c cB cC cI cJ cZ oA rA Γ]) (bs' := [b_g cB cC cI cJ cZ oA rA Γ, b_w cB cC cI cJ cZ oA rA Γ, b_c cB cC cI cJ cZ oA rA Γ]) (wc := (b_g cB cC cI cJ cZ oA rA Γ ++ b_w cB cC cI cJ cZ oA rA Γ ++ b_c cB cC cI cJ cZ oA rA Γ)) (hDD Γ) hS hA fl_3 fl_3 [0, 1, 2] rfl
  refine g_ofi (wc := (b_g cB cC cI cJ cZ oA rA Γ ++ b_w cB cC cI cJ cZ oA rA Γ ++ b_c cB cC cI cJ cZ oA rA Γ)) (wr := ([] : va_W)) hP (hDD Γ) hS hFc (bx_ix [b_g cB cC cI cJ cZ oA rA Γ, b_w cB cC cI cJ cZ oA rA Γ, b_c cB cC cI cJ cZ oA rA Γ] [0, 1, 2]) (bx_ix [b_g cB cC cI cJ cZ oA rA Γ, b_w cB cC cI cJ cZ oA rA Γ, b_c cB cC cI cJ cZ oA rA Γ] []) (bx_C (bs := [b_g cB cC cI cJ cZ oA rA Γ, b_w cB cC cI cJ cZ oA rA Γ, b_c cB cC cI cJ cZ oA rA Γ]) (bs' := [b_g cB cC cI cJ cZ oA rA Γ, b_w cB cC cI cJ cZ oA rA Γ, b_c cB cC cI cJ cZ oA rA Γ]) (is := [0, 1, 2]) fl_3 fl_3 rfl) (bx_C (bs := [b_g cB cC cI cJ cZ oA rA Γ, b_w cB cC cI cJ cZ oA rA Γ, b_c cB cC cI cJ cZ oA rA Γ]) (bs' := []) (is := []) fl_3 fl_0 rfl) (bx_n (by decide +kernel)) (bx_d (by decide +kernel)) (va_runV (As := [.int p0, .int p1]) (rest := []) ⟨hx, hb, hml, hown, hts⟩ (k_X2_isFrom l dC dI cB cC cI cJ cZ cP oA rA s.heap.size  p0 p1 Γ _ hu_1) (cwV 2 hts (g_gV wq_552 wq_553 wq_1996 wq_3 wq_554) rfl rfl rfl (by decide +kernel) ⟨Nat.le_of_ble_eq_true rfl, Nat.le_of_ble_eq_true rfl⟩) (g_preV g_bl0 hK hPc hDc hS hE hFc g_to0 (q0 := 0) (ci := 2) rfl rfl) rfl rfl hl.1 rfl (lv_room (Nat.le_of_ble_eq_true rfl)) dX2_needFrom_3 ⟨Nat.le_of_ble_eq_true rfl, Nat.le_of_ble_eq_true rfl⟩) (fun r9 u9 H locs hw9 hP' hD' hS => ?_)
  clear hPc hDc hFc
  subst hw9
  have hP : va_P (dC, dI) vwCl (b_g cB cC cI cJ cZ oA rA u_1.2 ++ b_w cB cC cI cJ cZ oA rA u_1.2 ++ b_c cB cC cI cJ cZ oA rA u_1.2) H := hP'
  clear hP' hD'
  refine lv_if_eq (tgt := 16) hx hb dX2_needFrom_6 (by decide) (fun c_3 => ?_) (fun c_3 => ?_)
  · have hF_4 := ipos c_3 hF_2
    clear hF_2
    refine lv_aload_n hx hb dX2_needFrom_16 rfl (lv_at hl 0 rfl) ?_
    refine lv_iconst (v := 2) hx hb dX2_needFrom_17 (by decide +kernel) ?_
    obtain ⟨u_5, hu_5, hF_6⟩ := Option.bind_eq_some_iff.mp hF_4
    clear hF_4
    have hPc := bx_P (bs := [b_g cB cC cI cJ cZ oA rA u_1.2, b_w cB cC cI cJ cZ oA rA u_1.2, b_c cB cC cI cJ cZ oA rA u_1.2]) (bs' := [b_g cB cC cI cJ cZ oA rA u_1.2, b_w cB cC cI cJ cZ oA rA u_1.2, b_c cB cC cI cJ cZ oA rA u_1.2]) (ws' := (b_g cB cC cI cJ cZ oA rA u_1.2 ++ b_w cB cC cI cJ cZ oA rA u_1.2 ++ b_c cB cC cI cJ cZ oA rA u_1.2)) hP fl_3 fl_3 [0, 1, 2] rfl
    have hDc := bx_D (bs := [b_g cB cC cI cJ cZ oA rA u_1.2, b_w cB cC cI cJ cZ oA rA u_1.2, b_c cB cC cI cJ cZ oA rA u_1.2]) (bs' := [b_g cB cC cI cJ cZ oA rA u_1.2, b_w cB cC cI cJ cZ oA rA u_1.2, b_c cB cC cI cJ cZ oA rA u_1.2]) (ws' := (b_g cB cC cI cJ cZ oA rA u_1.2 ++ b_w cB cC cI cJ cZ oA rA u_1.2 ++ b_c cB cC cI cJ cZ oA rA u_1.2)) (hDD u_1.2) fl_3 fl_3 [0, 1, 2] (by decide +kernel) rfl
    have hFc := bx_F (bs := [b_g cB cC cI cJ cZ oA rA u_1.2, b_w cB cC cI cJ cZ oA rA u_1.2, b_c cB cC cI cJ cZ oA rA u_1.2]) (bs' := [b_g cB cC cI cJ cZ oA rA u_1.2, b_w cB cC cI cJ cZ oA rA u_1.2, b_c cB cC cI cJ cZ oA rA u_1.2]) (wc := (b_g cB cC cI cJ cZ oA rA u_1.2 ++ b_w cB cC cI cJ cZ oA rA u_1.2 ++ b_c cB cC cI cJ cZ oA rA u_1.2)) (hDD u_1.2) hS hA fl_3 fl_3 [0, 1, 2] rfl
    refine g_ofv (wc := (b_g cB cC cI cJ cZ oA rA u_1.2 ++ b_w cB cC cI cJ cZ oA rA u_1.2 ++ b_c cB cC cI cJ cZ oA rA u_1.2)) (wr := ([] : va_W)) hP (hDD u_1.2) hS hFc (bx_ix [b_g cB cC cI cJ cZ oA rA u_1.2, b_w cB cC cI cJ cZ oA rA u_1.2, b_c cB cC cI cJ cZ oA rA u_1.2] [0, 1, 2]) (bx_ix [b_g cB cC cI cJ cZ oA rA u_1.2, b_w cB cC cI cJ cZ oA rA u_1.2, b_c cB cC cI cJ cZ oA rA u_1.2] []) (bx_C (bs := [b_g cB cC cI cJ cZ oA rA u_1.2, b_w cB cC cI cJ cZ oA rA u_1.2, b_c cB cC cI cJ cZ oA rA u_1.2]) (bs' := [b_g cB cC cI cJ cZ oA rA u_1.2, b_w cB cC cI cJ cZ oA rA u_1.2, b_c cB cC cI cJ cZ oA rA u_1.2]) (is := [0, 1, 2]) fl_3 fl_3 rfl) (bx_C (bs := [b_g cB cC cI cJ cZ oA rA u_1.2, b_w cB cC cI cJ cZ oA rA u_1.2, b_c cB cC cI cJ cZ oA rA u_1.2]) (bs' := []) (is := []) fl_3 fl_0 rfl) (bx_n (by decide +kernel)) (bx_d (by decide +kernel)) (va_runV (As := [.int 2]) (rest := []) ⟨hx, hb, hml, hown, hts⟩ (k_X2_fail l dC dI cB cC cI cJ cZ cP oA rA H.size  2 u_1.2 _ hu_5) (cwV 1 hts (g_gV wq_558 wq_559 wq_1998 wq_3 wq_560) rfl rfl rfl (by decide +kernel) ⟨Nat.le_of_ble_eq_true rfl, Nat.le_of_ble_eq_true rfl⟩) (g_preV g_bl0 hK hPc hDc hS hE hFc g_to0 (q0 := 0) (ci := 2) rfl rfl) rfl rfl hl.1 rfl (lv_room (Nat.le_of_ble_eq_true rfl)) dX2_needFrom_18 ⟨Nat.le_of_ble_eq_true rfl, Nat.le_of_ble_eq_true rfl⟩) (fun u9 H locs hw9 hP' hD' hS => ?_)
    clear hPc hDc hFc
    have hP : va_P (dC, dI) vwCl (b_g cB cC cI cJ cZ oA rA u_5.2 ++ b_w cB cC cI cJ cZ oA rA u_5.2 ++ b_c cB cC cI cJ cZ oA rA u_5.2) H := hP'
    clear hP' hD'
    have h9 := Option.some.inj hF_6
    subst h9
    exact W.vret hx hb hr (fun t ht hW => ⟨⟨(), rfl, trivial, m_end ht hP, hDD _⟩, hS.F ht⟩) hS.2.2 dX2_needFrom_21
  · have hF_7 := ineg c_3 hF_2
    clear hF_2
    refine lv_aload_n hx hb dX2_needFrom_9 rfl (lv_at hl 0 rfl) ?_
    obtain ⟨u_8, hu_8, hF_9⟩ := Option.bind_eq_some_iff.mp hF_7
    clear hF_7
    have hPc := bx_P (bs := [b_g cB cC cI cJ cZ oA rA u_1.2, b_w cB cC cI cJ cZ oA rA u_1.2, b_c cB cC cI cJ cZ oA rA u_1.2]) (bs' := [b_g cB cC cI cJ cZ oA rA u_1.2, b_w cB cC cI cJ cZ oA rA u_1.2, b_c cB cC cI cJ cZ oA rA u_1.2]) (ws' := (b_g cB cC cI cJ cZ oA rA u_1.2 ++ b_w cB cC cI cJ cZ oA rA u_1.2 ++ b_c cB cC cI cJ cZ oA rA u_1.2)) hP fl_3 fl_3 [0, 1, 2] rfl
    have hDc := bx_D (bs := [b_g cB cC cI cJ cZ oA rA u_1.2, b_w cB cC cI cJ cZ oA rA u_1.2, b_c cB cC cI cJ cZ oA rA u_1.2]) (bs' := [b_g cB cC cI cJ cZ oA rA u_1.2, b_w cB cC cI cJ cZ oA rA u_1.2, b_c cB cC cI cJ cZ oA rA u_1.2]) (ws' := (b_g cB cC cI cJ cZ oA rA u_1.2 ++ b_w cB cC cI cJ cZ oA rA u_1.2 ++ b_c cB cC cI cJ cZ oA rA u_1.2)) (hDD u_1.2) fl_3 fl_3 [0, 1, 2] (by decide +kernel) rfl
    have hFc := bx_F (bs := [b_g cB cC cI cJ cZ oA rA u_1.2, b_w cB cC cI cJ cZ oA rA u_1.2, b_c cB cC cI cJ cZ oA rA u_1.2]) (bs' := [b_g cB cC cI cJ cZ oA rA u_1.2, b_w cB cC cI cJ cZ oA rA u_1.2, b_c cB cC cI cJ cZ oA rA u_1.2]) (wc := (b_g cB cC cI cJ cZ oA rA u_1.2 ++ b_w cB cC cI cJ cZ oA rA u_1.2 ++ b_c cB cC cI cJ cZ oA rA u_1.2)) (hDD u_1.2) hS hA fl_3 fl_3 [0, 1, 2] rfl
    refine g_ofv (wc := (b_g cB cC cI cJ cZ oA rA u_1.2 ++ b_w cB cC cI cJ cZ oA rA u_1.2 ++ b_c cB cC cI cJ cZ oA rA u_1.2)) (wr := ([] : va_W)) hP (hDD u_1.2) hS hFc (bx_ix [b_g cB cC cI cJ cZ oA rA u_1.2, b_w cB cC cI cJ cZ oA rA u_1.2, b_c cB cC cI cJ cZ oA rA u_1.2] [0, 1, 2]) (bx_ix [b_g cB cC cI cJ cZ oA rA u_1.2, b_w cB cC cI cJ cZ oA rA u_1.2, b_c cB cC cI cJ cZ oA rA u_1.2] []) (bx_C (bs := [b_g cB cC cI cJ cZ oA rA u_1.2, b_w cB cC cI cJ cZ oA rA u_1.2, b_c cB cC cI cJ cZ oA rA u_1.2]) (bs' := [b_g cB cC cI cJ cZ oA rA u_1.2, b_w cB cC cI cJ cZ oA rA u_1.2, b_c cB cC cI cJ cZ oA rA u_1.2]) (is := [0, 1, 2]) fl_3 fl_3 rfl) (bx_C (bs := [b_g cB cC cI cJ cZ oA rA u_1.2, b_w cB cC cI cJ cZ oA rA u_1.2, b_c cB cC cI cJ cZ oA rA u_1.2]) (bs' := []) (is := []) fl_3 fl_0 rfl) (bx_n (by decide +kernel)) (bx_d (by decide +kernel)) (va_runV (As := []) (rest := []) ⟨hx, hb, hml, hown, hts⟩ (k_X2_pass l dC dI cB cC cI cJ cZ cP oA rA H.size  u_1.2 _ hu_8) (cwV 0 hts (g_gV wq_555 wq_556 wq_1997 wq_3 wq_557) rfl rfl rfl (by decide +kernel) ⟨Nat.le_of_ble_eq_true rfl, Nat.le_of_ble_eq_true rfl⟩) (g_preV g_bl0 hK hPc hDc hS hE hFc g_to0 (q0 := 0) (ci := 2) rfl rfl) rfl rfl hl.1 rfl (lv_room (Nat.le_of_ble_eq_true rfl)) dX2_needFrom_10 ⟨Nat.le_of_ble_eq_true rfl, Nat.le_of_ble_eq_true rfl⟩) (fun u9 H locs hw9 hP' hD' hS => ?_)
    clear hPc hDc hFc
    have hP : va_P (dC, dI) vwCl (b_g cB cC cI cJ cZ oA rA u_8.2 ++ b_w cB cC cI cJ cZ oA rA u_8.2 ++ b_c cB cC cI cJ cZ oA rA u_8.2) H := hP'
    clear hP' hD'
    refine lv_goto (tgt := 21) hx hb dX2_needFrom_13 (by decide) ?_
    have h9 := Option.some.inj hF_9
    subst h9
    exact W.vret hx hb hr (fun t ht hW => ⟨⟨(), rfl, trivial, m_end ht hP, hDD _⟩, hS.F ht⟩) hS.2.2 dX2_needFrom_21
theorem dX2_onHead_0 : decode cX2_onHead 0 = .ok (.aload_n 0, 1) := by decide +kernel
theorem dX2_onHead_1 : decode cX2_onHead 1 = .ok (.iconst 2, 1) := by decide +kernel
theorem dX2_onHead_2 : decode cX2_onHead 2 = .ok (.invokevirtual 120, 3) := by decide +kernel
theorem dX2_onHead_5 : decode cX2_onHead 5 = .ok (.iconst 0, 1) := by decide +kernel
theorem dX2_onHead_6 : decode cX2_onHead 6 = .ok (.istore_n 1, 1) := by decide +kernel
theorem dX2_onHead_7 : decode cX2_onHead 7 = .ok (.iload_n 1, 1) := by decide +kernel
theorem dX2_onHead_8 : decode cX2_onHead 8 = .ok (.iconst 2, 1) := by decide +kernel
theorem dX2_onHead_9 : decode cX2_onHead 9 = .ok (.if_icmp .ge 54, 3) := by decide +kernel
theorem dX2_onHead_12 : decode cX2_onHead 12 = .ok (.aload_n 0, 1) := by decide +kernel
theorem dX2_onHead_13 : decode cX2_onHead 13 = .ok (.getfield 29, 3) := by decide +kernel
theorem dX2_onHead_16 : decode cX2_onHead 16 = .ok (.sipush 255, 3) := by decide +kernel
theorem dX2_onHead_19 : decode cX2_onHead 19 = .ok (.if_icmp .eq 34, 3) := by decide +kernel
theorem dX2_onHead_22 : decode cX2_onHead 22 = .ok (.aload_n 0, 1) := by decide +kernel
theorem dX2_onHead_23 : decode cX2_onHead 23 = .ok (.getfield 29, 3) := by decide +kernel
theorem dX2_onHead_26 : decode cX2_onHead 26 = .ok (.iconst 2, 1) := by decide +kernel
theorem dX2_onHead_27 : decode cX2_onHead 27 = .ok (.if_icmp .eq 26, 3) := by decide +kernel
theorem dX2_onHead_30 : decode cX2_onHead 30 = .ok (.aload_n 0, 1) := by decide +kernel
theorem dX2_onHead_31 : decode cX2_onHead 31 = .ok (.getfield 29, 3) := by decide +kernel
theorem dX2_onHead_34 : decode cX2_onHead 34 = .ok (.sipush 228, 3) := by decide +kernel
theorem dX2_onHead_37 : decode cX2_onHead 37 = .ok (.if_icmp .eq 16, 3) := by decide +kernel
theorem dX2_onHead_40 : decode cX2_onHead 40 = .ok (.aload_n 0, 1) := by decide +kernel
theorem dX2_onHead_41 : decode cX2_onHead 41 = .ok (.sipush 200, 3) := by decide +kernel
theorem dX2_onHead_44 : decode cX2_onHead 44 = .ok (.sipush 205, 3) := by decide +kernel
theorem dX2_onHead_47 : decode cX2_onHead 47 = .ok (.invokevirtual 113, 3) := by decide +kernel
theorem dX2_onHead_50 : decode cX2_onHead 50 = .ok (.ifCond .eq 13, 3) := by decide +kernel
theorem dX2_onHead_53 : decode cX2_onHead 53 = .ok (.aload_n 0, 1) := by decide +kernel
theorem dX2_onHead_54 : decode cX2_onHead 54 = .ok (.invokevirtual 107, 3) := by decide +kernel
theorem dX2_onHead_57 : decode cX2_onHead 57 = .ok (.iinc 1 1, 3) := by decide +kernel
theorem dX2_onHead_60 : decode cX2_onHead 60 = .ok (.goto (-53), 3) := by decide +kernel
theorem dX2_onHead_63 : decode cX2_onHead 63 = .ok (.aload_n 0, 1) := by decide +kernel
theorem dX2_onHead_64 : decode cX2_onHead 64 = .ok (.getfield 15, 3) := by decide +kernel
theorem dX2_onHead_67 : decode cX2_onHead 67 = .ok (.invokevirtual 140, 3) := by decide +kernel
theorem dX2_onHead_70 : decode cX2_onHead 70 = .ok (.return_, 1) := by decide +kernel
def F_X2_onHead  (Γ : HS) : HR :=
  (F_X2_need 2 Γ).bind fun u_1 =>
  loopF (fun (again_4 : (Int32 × HS) → HR) (s_3 : Int32 × HS) => (
    bnd (fun  (σ_7 : HS) => (
      (F_X0_openOn σ_7).bind fun u_11 =>
      bnd (mrg (fun j => j == 5) σ_7 u_11.2) fun σ_13 =>
      some (0, σ_13)
    ) : HS → HR) fun j_8 =>
    if 2 ≤ s_3.1 then (
      j_8  s_3.2
    ) else (
      bnd (fun  (σ_18 : HS) => (
        (F_X2_pass σ_18).bind fun u_22 =>
        bnd (s_3.1 + 1) fun (x_24 : Int32) =>
        again_4 (x_24, u_22.2)
      ) : HS → HR) fun j_19 =>
      if ((s_3.2 2).1 3) = 255 then (
        j_19  s_3.2
      ) else (
        if ((s_3.2 2).1 3) = 2 then (
          j_19  s_3.2
        ) else (
          if ((s_3.2 2).1 3) = 228 then (
            j_19  s_3.2
          ) else (
            (F_X2_isFrom 200 205 s_3.2).bind fun u_35 =>
            if u_35.1 = 0 then (
              j_8  u_35.2
            ) else (
              j_19  u_35.2
            )
          )
        )
      )
    )
  )) FU (0, u_1.2)
set_option maxHeartbeats 4000000 in
set_option maxRecDepth 100000 in
theorem k_X2_onHead (l : Launch) (dC : Nat → ClassId) (dI : Nat → Nat → Nat) (cB cC cI cJ cZ cP : ClassId) (oA : Nat → Nat) (rA : Nat → Nat → Nat) (sz : Nat)   (Γ : HS) (res : Int32 × HS) (hF : F_X2_onHead  Γ = some res) : Met l yX2_onHead (g_ws yX2_onHead cX2_onHead 2 none) ({ frames := 5, cells := 0, slots := 0, locals := 123 }) (va_Pc [.ref (oA 2)] (g_B (dC, dI) [(cB, .byte), (cC, .char), (cI, .int), (cJ, .long), (cZ, .boolean), (cP, .object "StoryHouse$Play")] sz (b_g cB cC cI cJ cZ oA rA Γ ++ b_w cB cC cI cJ cZ oA rA Γ ++ b_c cB cC cI cJ cZ oA rA Γ) g_0)) (va_Qv (fun (_ : Unit) => True) (g_Bo (dC, dI) (va_A (b_g cB cC cI cJ cZ oA rA Γ ++ b_w cB cC cI cJ cZ oA rA Γ ++ b_c cB cC cI cJ cZ oA rA Γ) sz) (fun (_ : Unit) => (b_g cB cC cI cJ cZ oA rA res.2 ++ b_w cB cC cI cJ cZ oA rA res.2 ++ b_c cB cC cI cJ cZ oA rA res.2))) (va_A (b_g cB cC cI cJ cZ oA rA Γ ++ b_w cB cC cI cJ cZ oA rA Γ ++ b_c cB cC cI cJ cZ oA rA Γ) sz)) 0 0 (va_A (b_g cB cC cI cJ cZ oA rA Γ ++ b_w cB cC cI cJ cZ oA rA Γ ++ b_c cB cC cI cJ cZ oA rA Γ) sz) := by
  refine Met.ofW (cc := cX2_onHead) (maxL := 2) (ret := none) (by decide) rfl ?_
  intro p e s m args below meth c s₁ B hml hv
  obtain ⟨rfl, hsz, hP, hK, hD0, hE, hX⟩ := hv
  have hx := B.exec
  have hb := B.bytes
  have hr := B.returns
  have hts0 := atoms_spec (ws := g_ws yX2_onHead cX2_onHead 2 none) B.pre
  have hts : ∀ w ∈ lw_good, w.before ([.ref (oA 2)] : List Value).toArray s = true := fun w z => hts0 w (List.mem_cons_of_mem _ z)
  have hown : s.vm.findClass RX2 = some m.cls := findClass_of_methodNamed B.named
  have hlocks := B.notSynchronized
  subst hsz
  have hD1 := hD0.self (sz := s.heap.size)
  generalize hAe : va_A (b_g cB cC cI cJ cZ oA rA Γ ++ b_w cB cC cI cJ cZ oA rA Γ ++ b_c cB cC cI cJ cZ oA rA Γ) s.heap.size = A at hD1 hE hX ⊢
  have hA : ∀ q : Nat, s.heap.size ≤ q → A q := fun q z => by rw [← hAe]; exact Or.inr z
  have hDD : ∀ Γ : HS, va_D A (b_g cB cC cI cJ cZ oA rA Γ ++ b_w cB cC cI cJ cZ oA rA Γ ++ b_c cB cC cI cJ cZ oA rA Γ) := fun Γ9 => va_D_fst (ws := (b_g cB cC cI cJ cZ oA rA Γ ++ b_w cB cC cI cJ cZ oA rA Γ ++ b_c cB cC cI cJ cZ oA rA Γ)) (ws' := (b_g cB cC cI cJ cZ oA rA Γ9 ++ b_w cB cC cI cJ cZ oA rA Γ9 ++ b_c cB cC cI cJ cZ oA rA Γ9)) rfl hD1
  have hN := hE.1
  have hS : va_S A s.heap s.heap [] := va_S.rf
  have hl := lv_entry ([.ref (oA 2)]) (n := 2) (Nat.le_of_ble_eq_true rfl)
  rw [lg_entry_eq]
  generalize (lg_sl ([.ref (oA 2)]) ++ List.replicate (2 - (lg_sl ([.ref (oA 2)])).length) Slot.unset).toArray = ls at hl ⊢
  have hl : lv_has ls 2 [(0, .ref (oA 2))] := hl
  unfold F_X2_onHead at hF
  refine lv_aload_n hx hb dX2_onHead_0 rfl (lv_at hl 0 rfl) ?_
  refine lv_iconst (v := 2) hx hb dX2_onHead_1 (by decide +kernel) ?_
  obtain ⟨u_1, hu_1, hF_2⟩ := Option.bind_eq_some_iff.mp hF
  clear hF
  have hPc := bx_P (bs := [b_g cB cC cI cJ cZ oA rA Γ, b_w cB cC cI cJ cZ oA rA Γ, b_c cB cC cI cJ cZ oA rA Γ]) (bs' := [b_g cB cC cI cJ cZ oA rA Γ, b_w cB cC cI cJ cZ oA rA Γ, b_c cB cC cI cJ cZ oA rA Γ]) (ws' := (b_g cB cC cI cJ cZ oA rA Γ ++ b_w cB cC cI cJ cZ oA rA Γ ++ b_c cB cC cI cJ cZ oA rA Γ)) hP fl_3 fl_3 [0, 1, 2] rfl
  have hDc := bx_D (bs := [b_g cB cC cI cJ cZ oA rA Γ, b_w cB cC cI cJ cZ oA rA Γ, b_c cB cC cI cJ cZ oA rA Γ]) (bs' := [b_g cB cC cI cJ cZ oA rA Γ, b_w cB cC cI cJ cZ oA rA Γ, b_c cB cC cI cJ cZ oA rA Γ]) (ws' := (b_g cB cC cI cJ cZ oA rA Γ ++ b_w cB cC cI cJ cZ oA rA Γ ++ b_c cB cC cI cJ cZ oA rA Γ)) (hDD Γ) fl_3 fl_3 [0, 1, 2] (by decide +kernel) rfl
  have hFc := bx_F (bs := [b_g cB cC cI cJ cZ oA rA Γ, b_w cB cC cI cJ cZ oA rA Γ, b_c cB cC cI cJ cZ oA rA Γ]) (bs' := [b_g cB cC cI cJ cZ oA rA Γ, b_w cB cC cI cJ cZ oA rA Γ, b_c cB cC cI cJ cZ oA rA Γ]) (wc := (b_g cB cC cI cJ cZ oA rA Γ ++ b_w cB cC cI cJ cZ oA rA Γ ++ b_c cB cC cI cJ cZ oA rA Γ)) (hDD Γ) hS hA fl_3 fl_3 [0, 1, 2] rfl
  refine g_ofv (wc := (b_g cB cC cI cJ cZ oA rA Γ ++ b_w cB cC cI cJ cZ oA rA Γ ++ b_c cB cC cI cJ cZ oA rA Γ)) (wr := ([] : va_W)) hP (hDD Γ) hS hFc (bx_ix [b_g cB cC cI cJ cZ oA rA Γ, b_w cB cC cI cJ cZ oA rA Γ, b_c cB cC cI cJ cZ oA rA Γ] [0, 1, 2]) (bx_ix [b_g cB cC cI cJ cZ oA rA Γ, b_w cB cC cI cJ cZ oA rA Γ, b_c cB cC cI cJ cZ oA rA Γ] []) (bx_C (bs := [b_g cB cC cI cJ cZ oA rA Γ, b_w cB cC cI cJ cZ oA rA Γ, b_c cB cC cI cJ cZ oA rA Γ]) (bs' := [b_g cB cC cI cJ cZ oA rA Γ, b_w cB cC cI cJ cZ oA rA Γ, b_c cB cC cI cJ cZ oA rA Γ]) (is := [0, 1, 2]) fl_3 fl_3 rfl) (bx_C (bs := [b_g cB cC cI cJ cZ oA rA Γ, b_w cB cC cI cJ cZ oA rA Γ, b_c cB cC cI cJ cZ oA rA Γ]) (bs' := []) (is := []) fl_3 fl_0 rfl) (bx_n (by decide +kernel)) (bx_d (by decide +kernel)) (va_runV (As := [.int 2]) (rest := []) ⟨hx, hb, hml, hown, hts⟩ (k_X2_need l dC dI cB cC cI cJ cZ cP oA rA s.heap.size  2 Γ _ hu_1) (cwV 1 hts (g_gV wq_564 wq_565 wq_2000 wq_3 wq_566) rfl rfl rfl (by decide +kernel) ⟨Nat.le_of_ble_eq_true rfl, Nat.le_of_ble_eq_true rfl⟩) (g_preV g_bl0 hK hPc hDc hS hE hFc g_to0 (q0 := 0) (ci := 2) rfl rfl) rfl rfl hl.1 rfl (lv_room (Nat.le_of_ble_eq_true rfl)) dX2_onHead_2 ⟨Nat.le_of_ble_eq_true rfl, Nat.le_of_ble_eq_true rfl⟩) (fun u9 H locs hw9 hP' hD' hS => ?_)
  clear hPc hDc hFc
  have hP : va_P (dC, dI) vwCl (b_g cB cC cI cJ cZ oA rA u_1.2 ++ b_w cB cC cI cJ cZ oA rA u_1.2 ++ b_c cB cC cI cJ cZ oA rA u_1.2) H := hP'
  clear hP' hD'
  refine lv_iconst (v := 0) hx hb dX2_onHead_5 (by decide +kernel) ?_
  refine lv_istore_n (lv' := [(1, .int 0), (0, .ref (oA 2))]) hx hb dX2_onHead_6 rfl hl (by decide) rfl (fun ls hl => ?_)
  refine loopF_ind (P := fun (s_3 : Int32 × HS) => ∀ (H : Heap) (locs : List Loc), va_P (dC, dI) vwCl (b_g cB cC cI cJ cZ oA rA s_3.2 ++ b_w cB cC cI cJ cZ oA rA s_3.2 ++ b_c cB cC cI cJ cZ oA rA s_3.2) H → va_S A s.heap H locs → ∀ ls : Array Slot, lv_has ls 2 [(0, .ref (oA 2)), (1, .int s_3.1)] → W p l e (headSpec (g_ws yX2_onHead cX2_onHead 2 none) { frames := 5, cells := 0, slots := 0, locals := 123 }).room s m ([.ref (oA 2)] : List Value).toArray below meth c H locs 0 0 (MQ below (va_Qv (fun (_ : Unit) => True) (g_Bo (dC, dI) A (fun (_ : Unit) => (b_g cB cC cI cJ cZ oA rA res.2 ++ b_w cB cC cI cJ cZ oA rA res.2 ++ b_c cB cC cI cJ cZ oA rA res.2))) A) ([.ref (oA 2)] : List Value).toArray s 0 0 A) (F0 m 7 ls [])) ?_ _ _ hF_2 _ _ hP hS ls (lv_sub hl [1, 0] rfl)
  intro again_4 s_3 ih_5 hF_6
  intro H locs hP hS ls hl
  refine lv_iload_n hx hb dX2_onHead_7 rfl (lv_at hl 1 rfl) ?_
  refine lv_iconst (v := 2) hx hb dX2_onHead_8 (by decide +kernel) ?_
  obtain ⟨j_8, ej_8, hF_9⟩ := bnd_e hF_6
  clear hF_6
  have Jj_8 : ∀  (σ_7 : HS), j_8  σ_7 = some res → ∀ (H : Heap) (locs : List Loc), va_P (dC, dI) vwCl (b_g cB cC cI cJ cZ oA rA σ_7 ++ b_w cB cC cI cJ cZ oA rA σ_7 ++ b_c cB cC cI cJ cZ oA rA σ_7) H → va_S A s.heap H locs → ∀ ls : Array Slot, lv_has ls 2 [(0, .ref (oA 2))] → W p l e (headSpec (g_ws yX2_onHead cX2_onHead 2 none) { frames := 5, cells := 0, slots := 0, locals := 123 }).room s m ([.ref (oA 2)] : List Value).toArray below meth c H locs 0 0 (MQ below (va_Qv (fun (_ : Unit) => True) (g_Bo (dC, dI) A (fun (_ : Unit) => (b_g cB cC cI cJ cZ oA rA res.2 ++ b_w cB cC cI cJ cZ oA rA res.2 ++ b_c cB cC cI cJ cZ oA rA res.2))) A) ([.ref (oA 2)] : List Value).toArray s 0 0 A) (F0 m 63 ls []) := by
    intro  σ_7 hF0 H locs hP hS ls hl
    subst ej_8
    have hF_10 := hF0
    clear hF0
    refine lv_aload_n hx hb dX2_onHead_63 rfl (lv_at hl 0 rfl) ?_
    refine va_get (D := (dC, dI)) (ci := 2) (v := .ref (oA 5)) (C := RX2) (T := TX2) (N := 8) hx hb hts ii_X2 hown hK hP 0 rfl rfl 1 (by decide) (hts (.fieldLink RX2 15 "StoryHouse$Grammar" "code" "LStoryHouse$Code;") wq_72) (fun _ h9 => h9) rfl dX2_onHead_64 ?_
    obtain ⟨u_11, hu_11, hF_12⟩ := Option.bind_eq_some_iff.mp hF_10
    clear hF_10
    have hPc := bx_P (bs := [b_g cB cC cI cJ cZ oA rA σ_7, b_w cB cC cI cJ cZ oA rA σ_7, b_c cB cC cI cJ cZ oA rA σ_7]) (bs' := [b_c cB cC cI cJ cZ oA rA σ_7]) (ws' := (b_c cB cC cI cJ cZ oA rA σ_7)) hP fl_3 fl_1 [2] rfl
    have hDc := bx_D (bs := [b_g cB cC cI cJ cZ oA rA σ_7, b_w cB cC cI cJ cZ oA rA σ_7, b_c cB cC cI cJ cZ oA rA σ_7]) (bs' := [b_c cB cC cI cJ cZ oA rA σ_7]) (ws' := (b_c cB cC cI cJ cZ oA rA σ_7)) (hDD σ_7) fl_3 fl_1 [2] (by decide +kernel) rfl
    have hFc := bx_F (bs := [b_g cB cC cI cJ cZ oA rA σ_7, b_w cB cC cI cJ cZ oA rA σ_7, b_c cB cC cI cJ cZ oA rA σ_7]) (bs' := [b_c cB cC cI cJ cZ oA rA σ_7]) (wc := (b_c cB cC cI cJ cZ oA rA σ_7)) (hDD σ_7) hS hA fl_3 fl_1 [2] rfl
    refine g_ofv (wc := (b_c cB cC cI cJ cZ oA rA σ_7)) (wr := (b_g cB cC cI cJ cZ oA rA σ_7 ++ b_w cB cC cI cJ cZ oA rA σ_7)) hP (hDD σ_7) hS hFc (bx_ix [b_g cB cC cI cJ cZ oA rA σ_7, b_w cB cC cI cJ cZ oA rA σ_7, b_c cB cC cI cJ cZ oA rA σ_7] [2]) (bx_ix [b_g cB cC cI cJ cZ oA rA σ_7, b_w cB cC cI cJ cZ oA rA σ_7, b_c cB cC cI cJ cZ oA rA σ_7] [0, 1]) (bx_C (bs := [b_g cB cC cI cJ cZ oA rA σ_7, b_w cB cC cI cJ cZ oA rA σ_7, b_c cB cC cI cJ cZ oA rA σ_7]) (bs' := [b_c cB cC cI cJ cZ oA rA σ_7]) (is := [2]) fl_3 fl_1 rfl) (bx_C (bs := [b_g cB cC cI cJ cZ oA rA σ_7, b_w cB cC cI cJ cZ oA rA σ_7, b_c cB cC cI cJ cZ oA rA σ_7]) (bs' := [b_g cB cC cI cJ cZ oA rA σ_7, b_w cB cC cI cJ cZ oA rA σ_7]) (is := [0, 1]) fl_3 fl_2 rfl) (bx_n (by decide +kernel)) (bx_d (by decide +kernel)) (va_runV (As := []) (rest := []) ⟨hx, hb, hml, hown, hts⟩ (k_X0_openOn l dC dI cB cC cI cJ cZ cP oA rA H.size  σ_7 _ hu_11) (cwV 0 hts (g_gV wq_607 wq_608 wq_609 wq_6 wq_610) rfl rfl rfl (by decide +kernel) ⟨Nat.le_of_ble_eq_true rfl, Nat.le_of_ble_eq_true rfl⟩) (g_preV g_bl0 hK hPc hDc hS hE hFc g_to0 (q0 := 0) (ci := 0) rfl rfl) rfl rfl hl.1 rfl (lv_room (Nat.le_of_ble_eq_true rfl)) dX2_onHead_67 ⟨Nat.le_of_ble_eq_true rfl, Nat.le_of_ble_eq_true rfl⟩) (fun u9 H locs hw9 hP' hD' hS => ?_)
    clear hPc hDc hFc
    obtain ⟨σ_13, eσ_13, hF_14⟩ := bnd_e hF_12
    clear hF_12
    have hP : va_P (dC, dI) vwCl (b_g cB cC cI cJ cZ oA rA σ_13 ++ b_w cB cC cI cJ cZ oA rA σ_13 ++ b_c cB cC cI cJ cZ oA rA σ_13) H := by rw [eσ_13]; exact bx_P (bs := [b_g cB cC cI cJ cZ oA rA σ_7, b_w cB cC cI cJ cZ oA rA σ_7] ++ [b_c cB cC cI cJ cZ oA rA u_11.2]) (bs' := [b_g cB cC cI cJ cZ oA rA (mrg (fun j => j == 5) σ_7 u_11.2), b_w cB cC cI cJ cZ oA rA (mrg (fun j => j == 5) σ_7 u_11.2), b_c cB cC cI cJ cZ oA rA (mrg (fun j => j == 5) σ_7 u_11.2)]) hP' (fl_a fl_2 fl_1) fl_3 [0, 1, 2] rfl
    clear hP' hD'
    have h9 := Option.some.inj hF_14
    subst h9
    exact W.vret hx hb hr (fun t ht hW => ⟨⟨(), rfl, trivial, m_end ht hP, hDD _⟩, hS.F ht⟩) hS.2.2 dX2_onHead_70
  refine lv_icmp_ge (tgt := 63) hx hb dX2_onHead_9 (by decide) (fun c_15 => ?_) (fun c_15 => ?_)
  · have hF_16 := ipos c_15 hF_9
    clear hF_9
    exact Jj_8  s_3.2 hF_16 _ _ hP hS ls (lv_sub hl [0] rfl)
  · have hF_17 := ineg c_15 hF_9
    clear hF_9
    refine lv_aload_n hx hb dX2_onHead_12 rfl (lv_at hl 0 rfl) ?_
    refine va_get (D := (dC, dI)) (ci := 2) (v := .int ((s_3.2 2).1 3)) (C := RX2) (T := TX2) (N := 8) hx hb hts ii_X2 hown hK hP 0 rfl rfl 3 (by decide) (hts (.fieldLink RX2 29 "StoryHouse$Grammar" "kind" "I") wq_74) (fun _ h9 => h9) rfl dX2_onHead_13 ?_
    refine lv_sipush (v := 255) hx hb dX2_onHead_16 (by decide +kernel) ?_
    obtain ⟨j_19, ej_19, hF_20⟩ := bnd_e hF_17
    clear hF_17
    have Jj_19 : ∀  (σ_18 : HS), j_19  σ_18 = some res → ∀ (H : Heap) (locs : List Loc), va_P (dC, dI) vwCl (b_g cB cC cI cJ cZ oA rA σ_18 ++ b_w cB cC cI cJ cZ oA rA σ_18 ++ b_c cB cC cI cJ cZ oA rA σ_18) H → va_S A s.heap H locs → ∀ ls : Array Slot, lv_has ls 2 [(0, .ref (oA 2)), (1, .int s_3.1)] → W p l e (headSpec (g_ws yX2_onHead cX2_onHead 2 none) { frames := 5, cells := 0, slots := 0, locals := 123 }).room s m ([.ref (oA 2)] : List Value).toArray below meth c H locs 0 0 (MQ below (va_Qv (fun (_ : Unit) => True) (g_Bo (dC, dI) A (fun (_ : Unit) => (b_g cB cC cI cJ cZ oA rA res.2 ++ b_w cB cC cI cJ cZ oA rA res.2 ++ b_c cB cC cI cJ cZ oA rA res.2))) A) ([.ref (oA 2)] : List Value).toArray s 0 0 A) (F0 m 53 ls []) := by
      intro  σ_18 hF0 H locs hP hS ls hl
      subst ej_19
      have hF_21 := hF0
      clear hF0
      refine lv_aload_n hx hb dX2_onHead_53 rfl (lv_at hl 0 rfl) ?_
      obtain ⟨u_22, hu_22, hF_23⟩ := Option.bind_eq_some_iff.mp hF_21
      clear hF_21
      have hPc := bx_P (bs := [b_g cB cC cI cJ cZ oA rA σ_18, b_w cB cC cI cJ cZ oA rA σ_18, b_c cB cC cI cJ cZ oA rA σ_18]) (bs' := [b_g cB cC cI cJ cZ oA rA σ_18, b_w cB cC cI cJ cZ oA rA σ_18, b_c cB cC cI cJ cZ oA rA σ_18]) (ws' := (b_g cB cC cI cJ cZ oA rA σ_18 ++ b_w cB cC cI cJ cZ oA rA σ_18 ++ b_c cB cC cI cJ cZ oA rA σ_18)) hP fl_3 fl_3 [0, 1, 2] rfl
      have hDc := bx_D (bs := [b_g cB cC cI cJ cZ oA rA σ_18, b_w cB cC cI cJ cZ oA rA σ_18, b_c cB cC cI cJ cZ oA rA σ_18]) (bs' := [b_g cB cC cI cJ cZ oA rA σ_18, b_w cB cC cI cJ cZ oA rA σ_18, b_c cB cC cI cJ cZ oA rA σ_18]) (ws' := (b_g cB cC cI cJ cZ oA rA σ_18 ++ b_w cB cC cI cJ cZ oA rA σ_18 ++ b_c cB cC cI cJ cZ oA rA σ_18)) (hDD σ_18) fl_3 fl_3 [0, 1, 2] (by decide +kernel) rfl
      have hFc := bx_F (bs := [b_g cB cC cI cJ cZ oA rA σ_18, b_w cB cC cI cJ cZ oA rA σ_18, b_c cB cC cI cJ cZ oA rA σ_18]) (bs' := [b_g cB cC cI cJ cZ oA rA σ_18, b_w cB cC cI cJ cZ oA rA σ_18, b_c cB cC cI cJ cZ oA rA σ_18]) (wc := (b_g cB cC cI cJ cZ oA rA σ_18 ++ b_w cB cC cI cJ cZ oA rA σ_18 ++ b_c cB cC cI cJ cZ oA rA σ_18)) (hDD σ_18) hS hA fl_3 fl_3 [0, 1, 2] rfl
      refine g_ofv (wc := (b_g cB cC cI cJ cZ oA rA σ_18 ++ b_w cB cC cI cJ cZ oA rA σ_18 ++ b_c cB cC cI cJ cZ oA rA σ_18)) (wr := ([] : va_W)) hP (hDD σ_18) hS hFc (bx_ix [b_g cB cC cI cJ cZ oA rA σ_18, b_w cB cC cI cJ cZ oA rA σ_18, b_c cB cC cI cJ cZ oA rA σ_18] [0, 1, 2]) (bx_ix [b_g cB cC cI cJ cZ oA rA σ_18, b_w cB cC cI cJ cZ oA rA σ_18, b_c cB cC cI cJ cZ oA rA σ_18] []) (bx_C (bs := [b_g cB cC cI cJ cZ oA rA σ_18, b_w cB cC cI cJ cZ oA rA σ_18, b_c cB cC cI cJ cZ oA rA σ_18]) (bs' := [b_g cB cC cI cJ cZ oA rA σ_18, b_w cB cC cI cJ cZ oA rA σ_18, b_c cB cC cI cJ cZ oA rA σ_18]) (is := [0, 1, 2]) fl_3 fl_3 rfl) (bx_C (bs := [b_g cB cC cI cJ cZ oA rA σ_18, b_w cB cC cI cJ cZ oA rA σ_18, b_c cB cC cI cJ cZ oA rA σ_18]) (bs' := []) (is := []) fl_3 fl_0 rfl) (bx_n (by decide +kernel)) (bx_d (by decide +kernel)) (va_runV (As := []) (rest := []) ⟨hx, hb, hml, hown, hts⟩ (k_X2_pass l dC dI cB cC cI cJ cZ cP oA rA H.size  σ_18 _ hu_22) (cwV 0 hts (g_gV wq_555 wq_556 wq_1997 wq_3 wq_557) rfl rfl rfl (by decide +kernel) ⟨Nat.le_of_ble_eq_true rfl, Nat.le_of_ble_eq_true rfl⟩) (g_preV g_bl0 hK hPc hDc hS hE hFc g_to0 (q0 := 0) (ci := 2) rfl rfl) rfl rfl hl.1 rfl (lv_room (Nat.le_of_ble_eq_true rfl)) dX2_onHead_54 ⟨Nat.le_of_ble_eq_true rfl, Nat.le_of_ble_eq_true rfl⟩) (fun u9 H locs hw9 hP' hD' hS => ?_)
      clear hPc hDc hFc
      have hP : va_P (dC, dI) vwCl (b_g cB cC cI cJ cZ oA rA u_22.2 ++ b_w cB cC cI cJ cZ oA rA u_22.2 ++ b_c cB cC cI cJ cZ oA rA u_22.2) H := hP'
      clear hP' hD'
      obtain ⟨x_24, ex_24, hF_25⟩ := bnd_e hF_23
      clear hF_23
      refine lv_iinc (v := x_24) (lv' := [(1, .int x_24), (0, .ref (oA 2))]) hx hb dX2_onHead_57 hl (k := 1) rfl (by rw [ex_24]; rfl) (by decide) rfl (fun ls hl => ?_)
      refine lv_goto (tgt := 7) hx hb dX2_onHead_60 (by decide) ?_
      exact ih_5 (x_24, u_22.2) hF_25 _ _ hP hS ls (lv_sub hl [1, 0] rfl)
    refine lv_icmp_eq (tgt := 53) hx hb dX2_onHead_19 (by decide) (fun c_26 => ?_) (fun c_26 => ?_)
    · have hF_27 := ipos c_26 hF_20
      clear hF_20
      exact Jj_19  s_3.2 hF_27 _ _ hP hS ls (lv_sub hl [0, 1] rfl)
    · have hF_28 := ineg c_26 hF_20
      clear hF_20
      refine lv_aload_n hx hb dX2_onHead_22 rfl (lv_at hl 0 rfl) ?_
      refine va_get (D := (dC, dI)) (ci := 2) (v := .int ((s_3.2 2).1 3)) (C := RX2) (T := TX2) (N := 8) hx hb hts ii_X2 hown hK hP 0 rfl rfl 3 (by decide) (hts (.fieldLink RX2 29 "StoryHouse$Grammar" "kind" "I") wq_74) (fun _ h9 => h9) rfl dX2_onHead_23 ?_
      refine lv_iconst (v := 2) hx hb dX2_onHead_26 (by decide +kernel) ?_
      refine lv_icmp_eq (tgt := 53) hx hb dX2_onHead_27 (by decide) (fun c_29 => ?_) (fun c_29 => ?_)
      · have hF_30 := ipos c_29 hF_28
        clear hF_28
        exact Jj_19  s_3.2 hF_30 _ _ hP hS ls (lv_sub hl [0, 1] rfl)
      · have hF_31 := ineg c_29 hF_28
        clear hF_28
        refine lv_aload_n hx hb dX2_onHead_30 rfl (lv_at hl 0 rfl) ?_
        refine va_get (D := (dC, dI)) (ci := 2) (v := .int ((s_3.2 2).1 3)) (C := RX2) (T := TX2) (N := 8) hx hb hts ii_X2 hown hK hP 0 rfl rfl 3 (by decide) (hts (.fieldLink RX2 29 "StoryHouse$Grammar" "kind" "I") wq_74) (fun _ h9 => h9) rfl dX2_onHead_31 ?_
        refine lv_sipush (v := 228) hx hb dX2_onHead_34 (by decide +kernel) ?_
        refine lv_icmp_eq (tgt := 53) hx hb dX2_onHead_37 (by decide) (fun c_32 => ?_) (fun c_32 => ?_)
        · have hF_33 := ipos c_32 hF_31
          clear hF_31
          exact Jj_19  s_3.2 hF_33 _ _ hP hS ls (lv_sub hl [0, 1] rfl)
        · have hF_34 := ineg c_32 hF_31
          clear hF_31
          refine lv_aload_n hx hb dX2_onHead_40 rfl (lv_at hl 0 rfl) ?_
          refine lv_sipush (v := 200) hx hb dX2_onHead_41 (by decide +kernel) ?_
          refine lv_sipush (v := 205) hx hb dX2_onHead_44 (by decide +kernel) ?_
          obtain ⟨u_35, hu_35, hF_36⟩ := Option.bind_eq_some_iff.mp hF_34
          clear hF_34
          have hPc := bx_P (bs := [b_g cB cC cI cJ cZ oA rA s_3.2, b_w cB cC cI cJ cZ oA rA s_3.2, b_c cB cC cI cJ cZ oA rA s_3.2]) (bs' := [b_g cB cC cI cJ cZ oA rA s_3.2, b_w cB cC cI cJ cZ oA rA s_3.2, b_c cB cC cI cJ cZ oA rA s_3.2]) (ws' := (b_g cB cC cI cJ cZ oA rA s_3.2 ++ b_w cB cC cI cJ cZ oA rA s_3.2 ++ b_c cB cC cI cJ cZ oA rA s_3.2)) hP fl_3 fl_3 [0, 1, 2] rfl
          have hDc := bx_D (bs := [b_g cB cC cI cJ cZ oA rA s_3.2, b_w cB cC cI cJ cZ oA rA s_3.2, b_c cB cC cI cJ cZ oA rA s_3.2]) (bs' := [b_g cB cC cI cJ cZ oA rA s_3.2, b_w cB cC cI cJ cZ oA rA s_3.2, b_c cB cC cI cJ cZ oA rA s_3.2]) (ws' := (b_g cB cC cI cJ cZ oA rA s_3.2 ++ b_w cB cC cI cJ cZ oA rA s_3.2 ++ b_c cB cC cI cJ cZ oA rA s_3.2)) (hDD s_3.2) fl_3 fl_3 [0, 1, 2] (by decide +kernel) rfl
          have hFc := bx_F (bs := [b_g cB cC cI cJ cZ oA rA s_3.2, b_w cB cC cI cJ cZ oA rA s_3.2, b_c cB cC cI cJ cZ oA rA s_3.2]) (bs' := [b_g cB cC cI cJ cZ oA rA s_3.2, b_w cB cC cI cJ cZ oA rA s_3.2, b_c cB cC cI cJ cZ oA rA s_3.2]) (wc := (b_g cB cC cI cJ cZ oA rA s_3.2 ++ b_w cB cC cI cJ cZ oA rA s_3.2 ++ b_c cB cC cI cJ cZ oA rA s_3.2)) (hDD s_3.2) hS hA fl_3 fl_3 [0, 1, 2] rfl
          refine g_ofi (wc := (b_g cB cC cI cJ cZ oA rA s_3.2 ++ b_w cB cC cI cJ cZ oA rA s_3.2 ++ b_c cB cC cI cJ cZ oA rA s_3.2)) (wr := ([] : va_W)) hP (hDD s_3.2) hS hFc (bx_ix [b_g cB cC cI cJ cZ oA rA s_3.2, b_w cB cC cI cJ cZ oA rA s_3.2, b_c cB cC cI cJ cZ oA rA s_3.2] [0, 1, 2]) (bx_ix [b_g cB cC cI cJ cZ oA rA s_3.2, b_w cB cC cI cJ cZ oA rA s_3.2, b_c cB cC cI cJ cZ oA rA s_3.2] []) (bx_C (bs := [b_g cB cC cI cJ cZ oA rA s_3.2, b_w cB cC cI cJ cZ oA rA s_3.2, b_c cB cC cI cJ cZ oA rA s_3.2]) (bs' := [b_g cB cC cI cJ cZ oA rA s_3.2, b_w cB cC cI cJ cZ oA rA s_3.2, b_c cB cC cI cJ cZ oA rA s_3.2]) (is := [0, 1, 2]) fl_3 fl_3 rfl) (bx_C (bs := [b_g cB cC cI cJ cZ oA rA s_3.2, b_w cB cC cI cJ cZ oA rA s_3.2, b_c cB cC cI cJ cZ oA rA s_3.2]) (bs' := []) (is := []) fl_3 fl_0 rfl) (bx_n (by decide +kernel)) (bx_d (by decide +kernel)) (va_runV (As := [.int 200, .int 205]) (rest := []) ⟨hx, hb, hml, hown, hts⟩ (k_X2_isFrom l dC dI cB cC cI cJ cZ cP oA rA H.size  200 205 s_3.2 _ hu_35) (cwV 2 hts (g_gV wq_552 wq_553 wq_1996 wq_3 wq_554) rfl rfl rfl (by decide +kernel) ⟨Nat.le_of_ble_eq_true rfl, Nat.le_of_ble_eq_true rfl⟩) (g_preV g_bl0 hK hPc hDc hS hE hFc g_to0 (q0 := 0) (ci := 2) rfl rfl) rfl rfl hl.1 rfl (lv_room (Nat.le_of_ble_eq_true rfl)) dX2_onHead_47 ⟨Nat.le_of_ble_eq_true rfl, Nat.le_of_ble_eq_true rfl⟩) (fun r9 u9 H locs hw9 hP' hD' hS => ?_)
          clear hPc hDc hFc
          subst hw9
          have hP : va_P (dC, dI) vwCl (b_g cB cC cI cJ cZ oA rA u_35.2 ++ b_w cB cC cI cJ cZ oA rA u_35.2 ++ b_c cB cC cI cJ cZ oA rA u_35.2) H := hP'
          clear hP' hD'
          refine lv_if_eq (tgt := 63) hx hb dX2_onHead_50 (by decide) (fun c_37 => ?_) (fun c_37 => ?_)
          · have hF_38 := ipos c_37 hF_36
            clear hF_36
            exact Jj_8  u_35.2 hF_38 _ _ hP hS ls (lv_sub hl [0] rfl)
          · have hF_39 := ineg c_37 hF_36
            clear hF_36
            exact Jj_19  u_35.2 hF_39 _ _ hP hS ls (lv_sub hl [0, 1] rfl)
