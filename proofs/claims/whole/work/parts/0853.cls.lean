/-! methods of the class: what each does is its function -/
theorem dX10_number_0 : decode cX10_number 0 = .ok (.iload_n 1, 1) := by decide +kernel
theorem dX10_number_1 : decode cX10_number 1 = .ok (.istore_n 2, 1) := by decide +kernel
theorem dX10_number_2 : decode cX10_number 2 = .ok (.iconst 0, 1) := by decide +kernel
theorem dX10_number_3 : decode cX10_number 3 = .ok (.istore_n 3, 1) := by decide +kernel
theorem dX10_number_4 : decode cX10_number 4 = .ok (.iload_n 2, 1) := by decide +kernel
theorem dX10_number_5 : decode cX10_number 5 = .ok (.aload_n 0, 1) := by decide +kernel
theorem dX10_number_6 : decode cX10_number 6 = .ok (.getfield 47, 3) := by decide +kernel
theorem dX10_number_9 : decode cX10_number 9 = .ok (.if_icmp .ge 39, 3) := by decide +kernel
theorem dX10_number_12 : decode cX10_number 12 = .ok (.aload_n 0, 1) := by decide +kernel
theorem dX10_number_13 : decode cX10_number 13 = .ok (.iload_n 2, 1) := by decide +kernel
theorem dX10_number_14 : decode cX10_number 14 = .ok (.invokevirtual 130, 3) := by decide +kernel
theorem dX10_number_17 : decode cX10_number 17 = .ok (.invokestatic 140, 3) := by decide +kernel
theorem dX10_number_20 : decode cX10_number 20 = .ok (.ifCond .eq 28, 3) := by decide +kernel
theorem dX10_number_23 : decode cX10_number 23 = .ok (.ldc 160, 2) := by decide +kernel
theorem dX10_number_25 : decode cX10_number 25 = .ok (.iload_n 3, 1) := by decide +kernel
theorem dX10_number_26 : decode cX10_number 26 = .ok (.bipush 10, 2) := by decide +kernel
theorem dX10_number_28 : decode cX10_number 28 = .ok (.imul, 1) := by decide +kernel
theorem dX10_number_29 : decode cX10_number 29 = .ok (.aload_n 0, 1) := by decide +kernel
theorem dX10_number_30 : decode cX10_number 30 = .ok (.iload_n 2, 1) := by decide +kernel
theorem dX10_number_31 : decode cX10_number 31 = .ok (.invokevirtual 130, 3) := by decide +kernel
theorem dX10_number_34 : decode cX10_number 34 = .ok (.iadd, 1) := by decide +kernel
theorem dX10_number_35 : decode cX10_number 35 = .ok (.bipush 48, 2) := by decide +kernel
theorem dX10_number_37 : decode cX10_number 37 = .ok (.isub, 1) := by decide +kernel
theorem dX10_number_38 : decode cX10_number 38 = .ok (.invokestatic 38, 3) := by decide +kernel
theorem dX10_number_41 : decode cX10_number 41 = .ok (.istore_n 3, 1) := by decide +kernel
theorem dX10_number_42 : decode cX10_number 42 = .ok (.iinc 2 1, 3) := by decide +kernel
theorem dX10_number_45 : decode cX10_number 45 = .ok (.goto (-41), 3) := by decide +kernel
theorem dX10_number_48 : decode cX10_number 48 = .ok (.iload_n 3, 1) := by decide +kernel
theorem dX10_number_49 : decode cX10_number 49 = .ok (.sipush 32767, 3) := by decide +kernel
theorem dX10_number_52 : decode cX10_number 52 = .ok (.if_icmp .le 11, 3) := by decide +kernel
theorem dX10_number_55 : decode cX10_number 55 = .ok (.aload_n 0, 1) := by decide +kernel
theorem dX10_number_56 : decode cX10_number 56 = .ok (.iload_n 1, 1) := by decide +kernel
theorem dX10_number_57 : decode cX10_number 57 = .ok (.invokevirtual 157, 3) := by decide +kernel
theorem dX10_number_60 : decode cX10_number 60 = .ok (.goto 14, 3) := by decide +kernel
theorem dX10_number_63 : decode cX10_number 63 = .ok (.aload_n 0, 1) := by decide +kernel
theorem dX10_number_64 : decode cX10_number 64 = .ok (.iconst 3, 1) := by decide +kernel
theorem dX10_number_65 : decode cX10_number 65 = .ok (.iload_n 1, 1) := by decide +kernel
theorem dX10_number_66 : decode cX10_number 66 = .ok (.iload_n 3, 1) := by decide +kernel
theorem dX10_number_67 : decode cX10_number 67 = .ok (.invokevirtual 93, 3) := by decide +kernel
theorem dX10_number_70 : decode cX10_number 70 = .ok (.iload_n 2, 1) := by decide +kernel
theorem dX10_number_71 : decode cX10_number 71 = .ok (.iadd, 1) := by decide +kernel
theorem dX10_number_72 : decode cX10_number 72 = .ok (.iload_n 1, 1) := by decide +kernel
theorem dX10_number_73 : decode cX10_number 73 = .ok (.isub, 1) := by decide +kernel
theorem dX10_number_74 : decode cX10_number 74 = .ok (.ireturn, 1) := by decide +kernel
def F_X10_number (p0 : Int32) (Γ : HS) : HR :=
  loopF (fun (again_2 : (Int32 × Int32 × HS) → HR) (s_1 : Int32 × Int32 × HS) => (
    bnd (fun  (σ_5 : HS) => (
      if s_1.2.1 ≤ 32767 then (
        (F_X10_add 3 p0 s_1.2.1 σ_5).bind fun u_11 =>
        some (((u_11.1 + s_1.1) - p0), u_11.2)
      ) else (
        (F_X10_bad p0 σ_5).bind fun u_14 =>
        some (u_14.1, u_14.2)
      )
    ) : HS → HR) fun j_6 =>
    if ((s_1.2.2 1).1 1) ≤ s_1.1 then (
      j_6  s_1.2.2
    ) else (
      (F_X10_signAt s_1.1 s_1.2.2).bind fun u_19 =>
      (F_X11_isFigure u_19.1 u_19.2).bind fun u_21 =>
      if u_21.1 = 0 then (
        j_6  u_19.2
      ) else (
        (F_X10_signAt s_1.1 u_19.2).bind fun u_26 =>
        bnd ((if (((s_1.2.1 * 10) + u_26.1) - 48) < 32768 then (((s_1.2.1 * 10) + u_26.1) - 48) else 32768)) fun (x_28 : Int32) =>
        bnd (s_1.1 + 1) fun (x_30 : Int32) =>
        again_2 (x_30, x_28, u_26.2)
      )
    )
  )) FU (p0, 0, Γ)
set_option maxHeartbeats 4000000 in
set_option maxRecDepth 100000 in
theorem k_X10_number (l : Launch) (dC : Nat → ClassId) (dI : Nat → Nat → Nat) (cB cC cI cJ cZ cP : ClassId) (oA : Nat → Nat) (rA : Nat → Nat → Nat) (sz : Nat)  (p0 : Int32) (Γ : HS) (res : Int32 × HS) (hF : F_X10_number p0 Γ = some res) : Met l yX10_number (g_ws yX10_number cX10_number 4 (some .int)) ({ frames := 5, cells := 0, slots := 0, locals := 126 }) (va_Pc [.ref (oA 1), .int p0] (g_B (dC, dI) [(cB, .byte), (cC, .char), (cI, .int), (cJ, .long), (cZ, .boolean), (cP, .object "StoryHouse$Play")] sz (b_w cB cC cI cJ cZ oA rA Γ) g_0)) (va_Qi (fun r (_ : Unit) => r = res.1) (g_Bo (dC, dI) (va_A (b_w cB cC cI cJ cZ oA rA Γ) sz) (fun (_ : Unit) => (b_w cB cC cI cJ cZ oA rA res.2))) (va_A (b_w cB cC cI cJ cZ oA rA Γ) sz)) 0 0 (va_A (b_w cB cC cI cJ cZ oA rA Γ) sz) := by
  refine Met.ofW (cc := cX10_number) (maxL := 4) (ret := (some .int)) (by decide) rfl ?_
  intro p e s m args below meth c s₁ B hml hv
  obtain ⟨rfl, hsz, hP, hK, hD0, hE, hX⟩ := hv
  have hx := B.exec
  have hb := B.bytes
  have hr := B.returns
  have hts0 := atoms_spec (ws := g_ws yX10_number cX10_number 4 (some .int)) B.pre
  have hts : ∀ w ∈ lw_good, w.before ([.ref (oA 1), .int p0] : List Value).toArray s = true := fun w z => hts0 w (List.mem_cons_of_mem _ z)
  have hown : s.vm.findClass RX10 = some m.cls := findClass_of_methodNamed B.named
  have hlocks := B.notSynchronized
  subst hsz
  have hD1 := hD0.self (sz := s.heap.size)
  generalize hAe : va_A (b_w cB cC cI cJ cZ oA rA Γ) s.heap.size = A at hD1 hE hX ⊢
  have hA : ∀ q : Nat, s.heap.size ≤ q → A q := fun q z => by rw [← hAe]; exact Or.inr z
  have hDD : ∀ Γ : HS, va_D A (b_w cB cC cI cJ cZ oA rA Γ) := fun Γ9 => va_D_fst (ws := (b_w cB cC cI cJ cZ oA rA Γ)) (ws' := (b_w cB cC cI cJ cZ oA rA Γ9)) rfl hD1
  have hN := hE.1
  have hS : va_S A s.heap s.heap [] := va_S.rf
  have hl := lv_entry ([.ref (oA 1), .int p0]) (n := 4) (Nat.le_of_ble_eq_true rfl)
  rw [lg_entry_eq]
  generalize (lg_sl ([.ref (oA 1), .int p0]) ++ List.replicate (4 - (lg_sl ([.ref (oA 1), .int p0])).length) Slot.unset).toArray = ls at hl ⊢
  have hl : lv_has ls 4 [(0, .ref (oA 1)), (1, .int p0)] := hl
  unfold F_X10_number at hF
  refine lv_iload_n hx hb dX10_number_0 rfl (lv_at hl 1 rfl) ?_
  refine lv_istore_n (lv' := [(2, .int p0), (0, .ref (oA 1)), (1, .int p0)]) hx hb dX10_number_1 rfl hl (by decide) rfl (fun ls hl => ?_)
  refine lv_iconst (v := 0) hx hb dX10_number_2 (by decide +kernel) ?_
  refine lv_istore_n (lv' := [(3, .int 0), (2, .int p0), (0, .ref (oA 1)), (1, .int p0)]) hx hb dX10_number_3 rfl hl (by decide) rfl (fun ls hl => ?_)
  refine loopF_ind (P := fun (s_1 : Int32 × Int32 × HS) => ∀ (H : Heap) (locs : List Loc), va_P (dC, dI) vwCl (b_w cB cC cI cJ cZ oA rA s_1.2.2) H → va_S A s.heap H locs → ∀ ls : Array Slot, lv_has ls 4 [(0, .ref (oA 1)), (1, .int p0), (2, .int s_1.1), (3, .int s_1.2.1)] → W p l e (headSpec (g_ws yX10_number cX10_number 4 (some .int)) { frames := 5, cells := 0, slots := 0, locals := 126 }).room s m ([.ref (oA 1), .int p0] : List Value).toArray below meth c H locs 0 0 (MQ below (va_Qi (fun r (_ : Unit) => r = res.1) (g_Bo (dC, dI) A (fun (_ : Unit) => (b_w cB cC cI cJ cZ oA rA res.2))) A) ([.ref (oA 1), .int p0] : List Value).toArray s 0 0 A) (F0 m 4 ls [])) ?_ _ _ hF _ _ hP hS ls (lv_sub hl [2, 3, 1, 0] rfl)
  intro again_2 s_1 ih_3 hF_4
  intro H locs hP hS ls hl
  refine lv_iload_n hx hb dX10_number_4 rfl (lv_at hl 2 rfl) ?_
  refine lv_aload_n hx hb dX10_number_5 rfl (lv_at hl 0 rfl) ?_
  refine va_get (D := (dC, dI)) (ci := 10) (v := .int ((s_1.2.2 1).1 1)) (C := RX10) (T := TX10) (N := 12) hx hb hts ii_X10 hown hK hP 0 rfl rfl 1 (by decide) (hts (.fieldLink RX10 47 "StoryHouse$Words" "length" "I") wq_43) (fun _ h9 => h9) rfl dX10_number_6 ?_
  obtain ⟨j_6, ej_6, hF_7⟩ := bnd_e hF_4
  clear hF_4
  have Jj_6 : ∀  (σ_5 : HS), j_6  σ_5 = some res → ∀ (H : Heap) (locs : List Loc), va_P (dC, dI) vwCl (b_w cB cC cI cJ cZ oA rA σ_5) H → va_S A s.heap H locs → ∀ ls : Array Slot, lv_has ls 4 [(0, .ref (oA 1)), (1, .int p0), (2, .int s_1.1), (3, .int s_1.2.1)] → W p l e (headSpec (g_ws yX10_number cX10_number 4 (some .int)) { frames := 5, cells := 0, slots := 0, locals := 126 }).room s m ([.ref (oA 1), .int p0] : List Value).toArray below meth c H locs 0 0 (MQ below (va_Qi (fun r (_ : Unit) => r = res.1) (g_Bo (dC, dI) A (fun (_ : Unit) => (b_w cB cC cI cJ cZ oA rA res.2))) A) ([.ref (oA 1), .int p0] : List Value).toArray s 0 0 A) (F0 m 48 ls []) := by
    intro  σ_5 hF0 H locs hP hS ls hl
    subst ej_6
    have hF_8 := hF0
    clear hF0
    refine lv_iload_n hx hb dX10_number_48 rfl (lv_at hl 3 rfl) ?_
    refine lv_sipush (v := 32767) hx hb dX10_number_49 (by decide +kernel) ?_
    refine lv_icmp_le (tgt := 63) hx hb dX10_number_52 (by decide) (fun c_9 => ?_) (fun c_9 => ?_)
    · have hF_10 := ipos c_9 hF_8
      clear hF_8
      refine lv_aload_n hx hb dX10_number_63 rfl (lv_at hl 0 rfl) ?_
      refine lv_iconst (v := 3) hx hb dX10_number_64 (by decide +kernel) ?_
      refine lv_iload_n hx hb dX10_number_65 rfl (lv_at hl 1 rfl) ?_
      refine lv_iload_n hx hb dX10_number_66 rfl (lv_at hl 3 rfl) ?_
      obtain ⟨u_11, hu_11, hF_12⟩ := Option.bind_eq_some_iff.mp hF_10
      clear hF_10
      have hPc := bx_P (bs := [b_w cB cC cI cJ cZ oA rA σ_5]) (bs' := [b_w cB cC cI cJ cZ oA rA σ_5]) (ws' := (b_w cB cC cI cJ cZ oA rA σ_5)) hP fl_1 fl_1 [0] rfl
      have hDc := bx_D (bs := [b_w cB cC cI cJ cZ oA rA σ_5]) (bs' := [b_w cB cC cI cJ cZ oA rA σ_5]) (ws' := (b_w cB cC cI cJ cZ oA rA σ_5)) (hDD σ_5) fl_1 fl_1 [0] (by decide +kernel) rfl
      have hFc := bx_F (bs := [b_w cB cC cI cJ cZ oA rA σ_5]) (bs' := [b_w cB cC cI cJ cZ oA rA σ_5]) (wc := (b_w cB cC cI cJ cZ oA rA σ_5)) (hDD σ_5) hS hA fl_1 fl_1 [0] rfl
      refine g_ofi (wc := (b_w cB cC cI cJ cZ oA rA σ_5)) (wr := ([] : va_W)) hP (hDD σ_5) hS hFc (bx_ix [b_w cB cC cI cJ cZ oA rA σ_5] [0]) (bx_ix [b_w cB cC cI cJ cZ oA rA σ_5] []) (bx_C (bs := [b_w cB cC cI cJ cZ oA rA σ_5]) (bs' := [b_w cB cC cI cJ cZ oA rA σ_5]) (is := [0]) fl_1 fl_1 rfl) (bx_C (bs := [b_w cB cC cI cJ cZ oA rA σ_5]) (bs' := []) (is := []) fl_1 fl_0 rfl) (bx_n (by decide +kernel)) (bx_d (by decide +kernel)) (va_runV (As := [.int 3, .int p0, .int s_1.2.1]) (rest := []) ⟨hx, hb, hml, hown, hts⟩ (k_X10_add l dC dI cB cC cI cJ cZ cP oA rA H.size  3 p0 s_1.2.1 σ_5 _ hu_11) (cwV 3 hts (g_gV wq_431 wq_432 wq_1986 wq_2 wq_433) rfl rfl rfl (by decide +kernel) ⟨Nat.le_of_ble_eq_true rfl, Nat.le_of_ble_eq_true rfl⟩) (g_preV g_bl0 hK hPc hDc hS hE hFc g_to0 (q0 := 0) (ci := 10) rfl rfl) rfl rfl hl.1 rfl (lv_room (Nat.le_of_ble_eq_true rfl)) dX10_number_67 ⟨Nat.le_of_ble_eq_true rfl, Nat.le_of_ble_eq_true rfl⟩) (fun r9 u9 H locs hw9 hP' hD' hS => ?_)
      clear hPc hDc hFc
      subst hw9
      have hP : va_P (dC, dI) vwCl (b_w cB cC cI cJ cZ oA rA u_11.2) H := hP'
      clear hP' hD'
      refine lv_iload_n hx hb dX10_number_70 rfl (lv_at hl 2 rfl) ?_
      refine lv_iadd hx hb dX10_number_71 ?_
      refine lv_iload_n hx hb dX10_number_72 rfl (lv_at hl 1 rfl) ?_
      refine lv_isub hx hb dX10_number_73 ?_
      have h9 := Option.some.inj hF_12
      subst h9
      exact W.iret (v := ((u_11.1 + s_1.1) - p0)) hx hb hr (fun t ht hW => ⟨⟨((u_11.1 + s_1.1) - p0), (), rfl, rfl, m_end ht hP, hDD _⟩, hS.F ht⟩) hS.2.2 dX10_number_74
    · have hF_13 := ineg c_9 hF_8
      clear hF_8
      refine lv_aload_n hx hb dX10_number_55 rfl (lv_at hl 0 rfl) ?_
      refine lv_iload_n hx hb dX10_number_56 rfl (lv_at hl 1 rfl) ?_
      obtain ⟨u_14, hu_14, hF_15⟩ := Option.bind_eq_some_iff.mp hF_13
      clear hF_13
      have hPc := bx_P (bs := [b_w cB cC cI cJ cZ oA rA σ_5]) (bs' := [b_w cB cC cI cJ cZ oA rA σ_5]) (ws' := (b_w cB cC cI cJ cZ oA rA σ_5)) hP fl_1 fl_1 [0] rfl
      have hDc := bx_D (bs := [b_w cB cC cI cJ cZ oA rA σ_5]) (bs' := [b_w cB cC cI cJ cZ oA rA σ_5]) (ws' := (b_w cB cC cI cJ cZ oA rA σ_5)) (hDD σ_5) fl_1 fl_1 [0] (by decide +kernel) rfl
      have hFc := bx_F (bs := [b_w cB cC cI cJ cZ oA rA σ_5]) (bs' := [b_w cB cC cI cJ cZ oA rA σ_5]) (wc := (b_w cB cC cI cJ cZ oA rA σ_5)) (hDD σ_5) hS hA fl_1 fl_1 [0] rfl
      refine g_ofi (wc := (b_w cB cC cI cJ cZ oA rA σ_5)) (wr := ([] : va_W)) hP (hDD σ_5) hS hFc (bx_ix [b_w cB cC cI cJ cZ oA rA σ_5] [0]) (bx_ix [b_w cB cC cI cJ cZ oA rA σ_5] []) (bx_C (bs := [b_w cB cC cI cJ cZ oA rA σ_5]) (bs' := [b_w cB cC cI cJ cZ oA rA σ_5]) (is := [0]) fl_1 fl_1 rfl) (bx_C (bs := [b_w cB cC cI cJ cZ oA rA σ_5]) (bs' := []) (is := []) fl_1 fl_0 rfl) (bx_n (by decide +kernel)) (bx_d (by decide +kernel)) (va_runV (As := [.int p0]) (rest := []) ⟨hx, hb, hml, hown, hts⟩ (k_X10_bad l dC dI cB cC cI cJ cZ cP oA rA H.size  p0 σ_5 _ hu_14) (cwV 1 hts (g_gV wq_428 wq_429 wq_1985 wq_2 wq_430) rfl rfl rfl (by decide +kernel) ⟨Nat.le_of_ble_eq_true rfl, Nat.le_of_ble_eq_true rfl⟩) (g_preV g_bl0 hK hPc hDc hS hE hFc g_to0 (q0 := 0) (ci := 10) rfl rfl) rfl rfl hl.1 rfl (lv_room (Nat.le_of_ble_eq_true rfl)) dX10_number_57 ⟨Nat.le_of_ble_eq_true rfl, Nat.le_of_ble_eq_true rfl⟩) (fun r9 u9 H locs hw9 hP' hD' hS => ?_)
      clear hPc hDc hFc
      subst hw9
      have hP : va_P (dC, dI) vwCl (b_w cB cC cI cJ cZ oA rA u_14.2) H := hP'
      clear hP' hD'
      refine lv_goto (tgt := 74) hx hb dX10_number_60 (by decide) ?_
      have h9 := Option.some.inj hF_15
      subst h9
      exact W.iret (v := u_14.1) hx hb hr (fun t ht hW => ⟨⟨u_14.1, (), rfl, rfl, m_end ht hP, hDD _⟩, hS.F ht⟩) hS.2.2 dX10_number_74
  refine lv_icmp_ge (tgt := 48) hx hb dX10_number_9 (by decide) (fun c_16 => ?_) (fun c_16 => ?_)
  · have hF_17 := ipos c_16 hF_7
    clear hF_7
    exact Jj_6  s_1.2.2 hF_17 _ _ hP hS ls (lv_sub hl [0, 1, 2, 3] rfl)
  · have hF_18 := ineg c_16 hF_7
    clear hF_7
    refine lv_aload_n hx hb dX10_number_12 rfl (lv_at hl 0 rfl) ?_
    refine lv_iload_n hx hb dX10_number_13 rfl (lv_at hl 2 rfl) ?_
    obtain ⟨u_19, hu_19, hF_20⟩ := Option.bind_eq_some_iff.mp hF_18
    clear hF_18
    have hPc := bx_P (bs := [b_w cB cC cI cJ cZ oA rA s_1.2.2]) (bs' := [b_w cB cC cI cJ cZ oA rA s_1.2.2]) (ws' := (b_w cB cC cI cJ cZ oA rA s_1.2.2)) hP fl_1 fl_1 [0] rfl
    have hDc := bx_D (bs := [b_w cB cC cI cJ cZ oA rA s_1.2.2]) (bs' := [b_w cB cC cI cJ cZ oA rA s_1.2.2]) (ws' := (b_w cB cC cI cJ cZ oA rA s_1.2.2)) (hDD s_1.2.2) fl_1 fl_1 [0] (by decide +kernel) rfl
    have hFc := bx_F (bs := [b_w cB cC cI cJ cZ oA rA s_1.2.2]) (bs' := [b_w cB cC cI cJ cZ oA rA s_1.2.2]) (wc := (b_w cB cC cI cJ cZ oA rA s_1.2.2)) (hDD s_1.2.2) hS hA fl_1 fl_1 [0] rfl
    refine g_ofi (wc := (b_w cB cC cI cJ cZ oA rA s_1.2.2)) (wr := ([] : va_W)) hP (hDD s_1.2.2) hS hFc (bx_ix [b_w cB cC cI cJ cZ oA rA s_1.2.2] [0]) (bx_ix [b_w cB cC cI cJ cZ oA rA s_1.2.2] []) (bx_C (bs := [b_w cB cC cI cJ cZ oA rA s_1.2.2]) (bs' := [b_w cB cC cI cJ cZ oA rA s_1.2.2]) (is := [0]) fl_1 fl_1 rfl) (bx_C (bs := [b_w cB cC cI cJ cZ oA rA s_1.2.2]) (bs' := []) (is := []) fl_1 fl_0 rfl) (bx_n (by decide +kernel)) (bx_d (by decide +kernel)) (va_runV (As := [.int s_1.1]) (rest := []) ⟨hx, hb, hml, hown, hts⟩ (k_X10_signAt l dC dI cB cC cI cJ cZ cP oA rA H.size  s_1.1 s_1.2.2 _ hu_19) (cwV 1 hts (g_gV wq_419 wq_420 wq_1983 wq_2 wq_421) rfl rfl rfl (by decide +kernel) ⟨Nat.le_of_ble_eq_true rfl, Nat.le_of_ble_eq_true rfl⟩) (g_preV g_bl0 hK hPc hDc hS hE hFc g_to0 (q0 := 0) (ci := 10) rfl rfl) rfl rfl hl.1 rfl (lv_room (Nat.le_of_ble_eq_true rfl)) dX10_number_14 ⟨Nat.le_of_ble_eq_true rfl, Nat.le_of_ble_eq_true rfl⟩) (fun r9 u9 H locs hw9 hP' hD' hS => ?_)
    clear hPc hDc hFc
    subst hw9
    have hP : va_P (dC, dI) vwCl (b_w cB cC cI cJ cZ oA rA u_19.2) H := hP'
    clear hP' hD'
    obtain ⟨u_21, hu_21, hF_22⟩ := Option.bind_eq_some_iff.mp hF_20
    clear hF_20
    have hPc : va_P (dC, dI) vwCl [] H := fun k q z => by simp at z
    have hDc : va_D A [] := ⟨fun i j p q z => by simp at z, fun k q z => by simp at z⟩
    have hFc := c_nil hA hS
    refine c_cs (v := u_21.1) hA hP hS (va_runSN (As := [.int u_19.1]) (rest := []) ⟨hx, hb, hml, hown, hts⟩ (k_X11_isFigure l dC dI cB cC cI cJ cZ cP oA rA H.size  u_19.1 u_19.2 _ hu_21) ⟨va_cnB 1 hts (g_gA wq_426) rfl rfl rfl (nw_12 hN) (hts (.initialized RX11) wq_1) (by decide +kernel) ⟨Nat.le_of_ble_eq_true rfl, Nat.le_of_ble_eq_true rfl⟩, (hts (.static yX11_isFigure) wq_425), trivial⟩ (g_preS g_bl0 hK hPc hDc hS hE hFc g_to0) rfl rfl hl.1 rfl (lv_room (Nat.le_of_ble_eq_true rfl)) dX10_number_17 ⟨Nat.le_of_ble_eq_true rfl, Nat.le_of_ble_eq_true rfl⟩) (fun H locs hP hS => ?_)
    clear hPc hDc hFc
    refine lv_if_eq (tgt := 48) hx hb dX10_number_20 (by decide) (fun c_23 => ?_) (fun c_23 => ?_)
    · have hF_24 := ipos c_23 hF_22
      clear hF_22
      exact Jj_6  u_19.2 hF_24 _ _ hP hS ls (lv_sub hl [0, 1, 2, 3] rfl)
    · have hF_25 := ineg c_23 hF_22
      clear hF_22
      refine lv_ldc (v := 32768) hx hb hown (hts (.constant RX10 160 (32768)) wq_437) dX10_number_23 ?_
      refine lv_iload_n hx hb dX10_number_25 rfl (lv_at hl 3 rfl) ?_
      refine lv_bipush (v := 10) hx hb dX10_number_26 (by decide +kernel) ?_
      refine lv_imul hx hb dX10_number_28 ?_
      refine lv_aload_n hx hb dX10_number_29 rfl (lv_at hl 0 rfl) ?_
      refine lv_iload_n hx hb dX10_number_30 rfl (lv_at hl 2 rfl) ?_
      obtain ⟨u_26, hu_26, hF_27⟩ := Option.bind_eq_some_iff.mp hF_25
      clear hF_25
      have hPc := bx_P (bs := [b_w cB cC cI cJ cZ oA rA u_19.2]) (bs' := [b_w cB cC cI cJ cZ oA rA u_19.2]) (ws' := (b_w cB cC cI cJ cZ oA rA u_19.2)) hP fl_1 fl_1 [0] rfl
      have hDc := bx_D (bs := [b_w cB cC cI cJ cZ oA rA u_19.2]) (bs' := [b_w cB cC cI cJ cZ oA rA u_19.2]) (ws' := (b_w cB cC cI cJ cZ oA rA u_19.2)) (hDD u_19.2) fl_1 fl_1 [0] (by decide +kernel) rfl
      have hFc := bx_F (bs := [b_w cB cC cI cJ cZ oA rA u_19.2]) (bs' := [b_w cB cC cI cJ cZ oA rA u_19.2]) (wc := (b_w cB cC cI cJ cZ oA rA u_19.2)) (hDD u_19.2) hS hA fl_1 fl_1 [0] rfl
      refine g_ofi (wc := (b_w cB cC cI cJ cZ oA rA u_19.2)) (wr := ([] : va_W)) hP (hDD u_19.2) hS hFc (bx_ix [b_w cB cC cI cJ cZ oA rA u_19.2] [0]) (bx_ix [b_w cB cC cI cJ cZ oA rA u_19.2] []) (bx_C (bs := [b_w cB cC cI cJ cZ oA rA u_19.2]) (bs' := [b_w cB cC cI cJ cZ oA rA u_19.2]) (is := [0]) fl_1 fl_1 rfl) (bx_C (bs := [b_w cB cC cI cJ cZ oA rA u_19.2]) (bs' := []) (is := []) fl_1 fl_0 rfl) (bx_n (by decide +kernel)) (bx_d (by decide +kernel)) (va_runV (As := [.int s_1.1]) (rest := [.int (s_1.2.1 * 10), .int 32768]) ⟨hx, hb, hml, hown, hts⟩ (k_X10_signAt l dC dI cB cC cI cJ cZ cP oA rA H.size  s_1.1 u_19.2 _ hu_26) (cwV 1 hts (g_gV wq_419 wq_420 wq_1983 wq_2 wq_421) rfl rfl rfl (by decide +kernel) ⟨Nat.le_of_ble_eq_true rfl, Nat.le_of_ble_eq_true rfl⟩) (g_preV g_bl0 hK hPc hDc hS hE hFc g_to0 (q0 := 0) (ci := 10) rfl rfl) rfl rfl hl.1 rfl (lv_room (Nat.le_of_ble_eq_true rfl)) dX10_number_31 ⟨Nat.le_of_ble_eq_true rfl, Nat.le_of_ble_eq_true rfl⟩) (fun r9 u9 H locs hw9 hP' hD' hS => ?_)
      clear hPc hDc hFc
      subst hw9
      have hP : va_P (dC, dI) vwCl (b_w cB cC cI cJ cZ oA rA u_26.2) H := hP'
      clear hP' hD'
      refine lv_iadd hx hb dX10_number_34 ?_
      refine lv_bipush (v := 48) hx hb dX10_number_35 (by decide +kernel) ?_
      refine lv_isub hx hb dX10_number_37 ?_
      refine va_mmin hx hb (hml.trans hl.1.symm) hown (hts (.methodLink RX10 38 yJ9_min_7cf53) wq_330) (hts (.static yJ9_min_7cf53) wq_331) (hts (.initialized RJ9) wq_19) (hts (.code yJ9_min_7cf53 cJ9_min_7cf53 2 (some .int)) wq_332) (Nat.le_of_ble_eq_true rfl) (Nat.le_of_ble_eq_true rfl) (Nat.le_of_ble_eq_true rfl) (Nat.le_of_ble_eq_true rfl) dX10_number_38 ?_
      obtain ⟨x_28, ex_28, hF_29⟩ := bnd_e hF_27
      clear hF_27
      refine m_top ex_28 ?_
      refine lv_istore_n (lv' := [(3, .int x_28), (0, .ref (oA 1)), (1, .int p0), (2, .int s_1.1)]) hx hb dX10_number_41 rfl hl (by decide) rfl (fun ls hl => ?_)
      obtain ⟨x_30, ex_30, hF_31⟩ := bnd_e hF_29
      clear hF_29
      refine lv_iinc (v := x_30) (lv' := [(2, .int x_30), (3, .int x_28), (0, .ref (oA 1)), (1, .int p0)]) hx hb dX10_number_42 hl (k := 3) rfl (by rw [ex_30]; rfl) (by decide) rfl (fun ls hl => ?_)
      refine lv_goto (tgt := 4) hx hb dX10_number_45 (by decide) ?_
      exact ih_3 (x_30, x_28, u_26.2) hF_31 _ _ hP hS ls (lv_sub hl [2, 3, 0, 1] rfl)
theorem dX10_sign_0 : decode cX10_sign 0 = .ok (.aload_n 0, 1) := by decide +kernel
theorem dX10_sign_1 : decode cX10_sign 1 = .ok (.iload_n 1, 1) := by decide +kernel
theorem dX10_sign_2 : decode cX10_sign 2 = .ok (.invokevirtual 130, 3) := by decide +kernel
theorem dX10_sign_5 : decode cX10_sign 5 = .ok (.istore_n 2, 1) := by decide +kernel
theorem dX10_sign_6 : decode cX10_sign 6 = .ok (.aload_n 0, 1) := by decide +kernel
theorem dX10_sign_7 : decode cX10_sign 7 = .ok (.iload_n 1, 1) := by decide +kernel
theorem dX10_sign_8 : decode cX10_sign 8 = .ok (.iconst 1, 1) := by decide +kernel
theorem dX10_sign_9 : decode cX10_sign 9 = .ok (.iadd, 1) := by decide +kernel
theorem dX10_sign_10 : decode cX10_sign 10 = .ok (.invokevirtual 130, 3) := by decide +kernel
theorem dX10_sign_13 : decode cX10_sign 13 = .ok (.bipush 61, 2) := by decide +kernel
theorem dX10_sign_15 : decode cX10_sign 15 = .ok (.if_icmp .ne 63, 3) := by decide +kernel
theorem dX10_sign_18 : decode cX10_sign 18 = .ok (.iload_n 2, 1) := by decide +kernel
theorem dX10_sign_19 : decode cX10_sign 19 = .ok (.bipush 61, 2) := by decide +kernel
theorem dX10_sign_21 : decode cX10_sign 21 = .ok (.if_icmp .ne 7, 3) := by decide +kernel
theorem dX10_sign_24 : decode cX10_sign 24 = .ok (.iconst 5, 1) := by decide +kernel
theorem dX10_sign_25 : decode cX10_sign 25 = .ok (.goto 37, 3) := by decide +kernel
theorem dX10_sign_28 : decode cX10_sign 28 = .ok (.iload_n 2, 1) := by decide +kernel
theorem dX10_sign_29 : decode cX10_sign 29 = .ok (.bipush 33, 2) := by decide +kernel
theorem dX10_sign_31 : decode cX10_sign 31 = .ok (.if_icmp .ne 8, 3) := by decide +kernel
theorem dX10_sign_34 : decode cX10_sign 34 = .ok (.bipush 6, 2) := by decide +kernel
theorem dX10_sign_36 : decode cX10_sign 36 = .ok (.goto 26, 3) := by decide +kernel
theorem dX10_sign_39 : decode cX10_sign 39 = .ok (.iload_n 2, 1) := by decide +kernel
theorem dX10_sign_40 : decode cX10_sign 40 = .ok (.bipush 60, 2) := by decide +kernel
theorem dX10_sign_42 : decode cX10_sign 42 = .ok (.if_icmp .ne 8, 3) := by decide +kernel
theorem dX10_sign_45 : decode cX10_sign 45 = .ok (.bipush 7, 2) := by decide +kernel
theorem dX10_sign_47 : decode cX10_sign 47 = .ok (.goto 15, 3) := by decide +kernel
theorem dX10_sign_50 : decode cX10_sign 50 = .ok (.iload_n 2, 1) := by decide +kernel
theorem dX10_sign_51 : decode cX10_sign 51 = .ok (.bipush 62, 2) := by decide +kernel
theorem dX10_sign_53 : decode cX10_sign 53 = .ok (.if_icmp .ne 8, 3) := by decide +kernel
theorem dX10_sign_56 : decode cX10_sign 56 = .ok (.bipush 8, 2) := by decide +kernel
theorem dX10_sign_58 : decode cX10_sign 58 = .ok (.goto 4, 3) := by decide +kernel
theorem dX10_sign_61 : decode cX10_sign 61 = .ok (.iconst (-1), 1) := by decide +kernel
theorem dX10_sign_62 : decode cX10_sign 62 = .ok (.istore_n 3, 1) := by decide +kernel
theorem dX10_sign_63 : decode cX10_sign 63 = .ok (.iload_n 3, 1) := by decide +kernel
theorem dX10_sign_64 : decode cX10_sign 64 = .ok (.iconst (-1), 1) := by decide +kernel
theorem dX10_sign_65 : decode cX10_sign 65 = .ok (.if_icmp .eq 13, 3) := by decide +kernel
theorem dX10_sign_68 : decode cX10_sign 68 = .ok (.aload_n 0, 1) := by decide +kernel
theorem dX10_sign_69 : decode cX10_sign 69 = .ok (.iload_n 3, 1) := by decide +kernel
theorem dX10_sign_70 : decode cX10_sign 70 = .ok (.iload_n 1, 1) := by decide +kernel
theorem dX10_sign_71 : decode cX10_sign 71 = .ok (.iconst 0, 1) := by decide +kernel
theorem dX10_sign_72 : decode cX10_sign 72 = .ok (.invokevirtual 93, 3) := by decide +kernel
theorem dX10_sign_75 : decode cX10_sign 75 = .ok (.iconst 2, 1) := by decide +kernel
theorem dX10_sign_76 : decode cX10_sign 76 = .ok (.iadd, 1) := by decide +kernel
theorem dX10_sign_77 : decode cX10_sign 77 = .ok (.ireturn, 1) := by decide +kernel
theorem dX10_sign_78 : decode cX10_sign 78 = .ok (.ldc 161, 2) := by decide +kernel
theorem dX10_sign_80 : decode cX10_sign 80 = .ok (.iload_n 2, 1) := by decide +kernel
theorem dX10_sign_81 : decode cX10_sign 81 = .ok (.i2c, 1) := by decide +kernel
theorem dX10_sign_82 : decode cX10_sign 82 = .ok (.invokevirtual 163, 3) := by decide +kernel
theorem dX10_sign_85 : decode cX10_sign 85 = .ok (.ifCond .lt 15, 3) := by decide +kernel
theorem dX10_sign_88 : decode cX10_sign 88 = .ok (.aload_n 0, 1) := by decide +kernel
theorem dX10_sign_89 : decode cX10_sign 89 = .ok (.iload_n 2, 1) := by decide +kernel
theorem dX10_sign_90 : decode cX10_sign 90 = .ok (.iload_n 1, 1) := by decide +kernel
theorem dX10_sign_91 : decode cX10_sign 91 = .ok (.iconst 0, 1) := by decide +kernel
theorem dX10_sign_92 : decode cX10_sign 92 = .ok (.invokevirtual 93, 3) := by decide +kernel
theorem dX10_sign_95 : decode cX10_sign 95 = .ok (.iconst 1, 1) := by decide +kernel
theorem dX10_sign_96 : decode cX10_sign 96 = .ok (.iadd, 1) := by decide +kernel
theorem dX10_sign_97 : decode cX10_sign 97 = .ok (.goto 8, 3) := by decide +kernel
theorem dX10_sign_100 : decode cX10_sign 100 = .ok (.aload_n 0, 1) := by decide +kernel
theorem dX10_sign_101 : decode cX10_sign 101 = .ok (.iload_n 1, 1) := by decide +kernel
theorem dX10_sign_102 : decode cX10_sign 102 = .ok (.invokevirtual 157, 3) := by decide +kernel
theorem dX10_sign_105 : decode cX10_sign 105 = .ok (.ireturn, 1) := by decide +kernel
def F_X10_sign (p0 : Int32) (Γ : HS) : HR :=
  (F_X10_signAt p0 Γ).bind fun u_1 =>
  (F_X10_signAt (p0 + 1) u_1.2).bind fun u_3 =>
  bnd (fun  (σ_5 : HS) => (
    bnd ((u_1.1.toUInt32 % 65536).toInt32) fun (x_10 : Int32) =>
    bnd ((tx_ixOf ([123, 125, 40, 41, 91, 93, 59, 44, 61, 60, 62, 43, 45, 42, 47, 37] : List Int32) x_10)) fun (x_12 : Int32) =>
    if x_12 < 0 then (
      (F_X10_bad p0 σ_5).bind fun u_16 =>
      some (u_16.1, u_16.2)
    ) else (
      (F_X10_add u_1.1 p0 0 σ_5).bind fun u_19 =>
      some ((u_19.1 + 1), u_19.2)
    )
  ) : HS → HR) fun j_6 =>
  if u_3.1 = 61 then (
    bnd (fun (t_23 : Int32) (σ_24 : HS) => (
      if t_23 = (-1) then (
        j_6  σ_24
      ) else (
        (F_X10_add t_23 p0 0 σ_24).bind fun u_31 =>
        some ((u_31.1 + 2), u_31.2)
      )
    ) : Int32 → HS → HR) fun j_25 =>
    if u_1.1 = 61 then (
      j_25 5 u_3.2
    ) else (
      if u_1.1 = 33 then (
        j_25 6 u_3.2
      ) else (
        if u_1.1 = 60 then (
          j_25 7 u_3.2
        ) else (
          if u_1.1 = 62 then (
            j_25 8 u_3.2
          ) else (
            j_25 (-1) u_3.2
          )
        )
      )
    )
  ) else (
    j_6  u_3.2
  )
set_option maxHeartbeats 4000000 in
set_option maxRecDepth 100000 in
theorem k_X10_sign (l : Launch) (dC : Nat → ClassId) (dI : Nat → Nat → Nat) (cB cC cI cJ cZ cP : ClassId) (oA : Nat → Nat) (rA : Nat → Nat → Nat) (sz : Nat)  (p0 : Int32) (Γ : HS) (res : Int32 × HS) (hF : F_X10_sign p0 Γ = some res) : Met l yX10_sign (g_ws yX10_sign cX10_sign 4 (some .int)) ({ frames := 5, cells := 0, slots := 0, locals := 131 }) (va_Pc [.ref (oA 1), .int p0] (g_B (dC, dI) [(cB, .byte), (cC, .char), (cI, .int), (cJ, .long), (cZ, .boolean), (cP, .object "StoryHouse$Play")] sz (b_w cB cC cI cJ cZ oA rA Γ) g_0)) (va_Qi (fun r (_ : Unit) => r = res.1) (g_Bo (dC, dI) (va_A (b_w cB cC cI cJ cZ oA rA Γ) sz) (fun (_ : Unit) => (b_w cB cC cI cJ cZ oA rA res.2))) (va_A (b_w cB cC cI cJ cZ oA rA Γ) sz)) 0 0 (va_A (b_w cB cC cI cJ cZ oA rA Γ) sz) := by
  refine Met.ofW (cc := cX10_sign) (maxL := 4) (ret := (some .int)) (by decide) rfl ?_
  intro p e s m args below meth c s₁ B hml hv
  obtain ⟨rfl, hsz, hP, hK, hD0, hE, hX⟩ := hv
  have hx := B.exec
  have hb := B.bytes
  have hr := B.returns
  have hts0 := atoms_spec (ws := g_ws yX10_sign cX10_sign 4 (some .int)) B.pre
  have hts : ∀ w ∈ lw_good, w.before ([.ref (oA 1), .int p0] : List Value).toArray s = true := fun w z => hts0 w (List.mem_cons_of_mem _ z)
  have hown : s.vm.findClass RX10 = some m.cls := findClass_of_methodNamed B.named
  have hlocks := B.notSynchronized
  subst hsz
  have hD1 := hD0.self (sz := s.heap.size)
  generalize hAe : va_A (b_w cB cC cI cJ cZ oA rA Γ) s.heap.size = A at hD1 hE hX ⊢
  have hA : ∀ q : Nat, s.heap.size ≤ q → A q := fun q z => by rw [← hAe]; exact Or.inr z
  have hDD : ∀ Γ : HS, va_D A (b_w cB cC cI cJ cZ oA rA Γ) := fun Γ9 => va_D_fst (ws := (b_w cB cC cI cJ cZ oA rA Γ)) (ws' := (b_w cB cC cI cJ cZ oA rA Γ9)) rfl hD1
  have hN := hE.1
  have hS : va_S A s.heap s.heap [] := va_S.rf
  have hl := lv_entry ([.ref (oA 1), .int p0]) (n := 4) (Nat.le_of_ble_eq_true rfl)
  rw [lg_entry_eq]
  generalize (lg_sl ([.ref (oA 1), .int p0]) ++ List.replicate (4 - (lg_sl ([.ref (oA 1), .int p0])).length) Slot.unset).toArray = ls at hl ⊢
  have hl : lv_has ls 4 [(0, .ref (oA 1)), (1, .int p0)] := hl
  unfold F_X10_sign at hF
  refine lv_aload_n hx hb dX10_sign_0 rfl (lv_at hl 0 rfl) ?_
  refine lv_iload_n hx hb dX10_sign_1 rfl (lv_at hl 1 rfl) ?_
  obtain ⟨u_1, hu_1, hF_2⟩ := Option.bind_eq_some_iff.mp hF
  clear hF
  have hPc := bx_P (bs := [b_w cB cC cI cJ cZ oA rA Γ]) (bs' := [b_w cB cC cI cJ cZ oA rA Γ]) (ws' := (b_w cB cC cI cJ cZ oA rA Γ)) hP fl_1 fl_1 [0] rfl
  have hDc := bx_D (bs := [b_w cB cC cI cJ cZ oA rA Γ]) (bs' := [b_w cB cC cI cJ cZ oA rA Γ]) (ws' := (b_w cB cC cI cJ cZ oA rA Γ)) (hDD Γ) fl_1 fl_1 [0] (by decide +kernel) rfl
  have hFc := bx_F (bs := [b_w cB cC cI cJ cZ oA rA Γ]) (bs' := [b_w cB cC cI cJ cZ oA rA Γ]) (wc := (b_w cB cC cI cJ cZ oA rA Γ)) (hDD Γ) hS hA fl_1 fl_1 [0] rfl
  refine g_ofi (wc := (b_w cB cC cI cJ cZ oA rA Γ)) (wr := ([] : va_W)) hP (hDD Γ) hS hFc (bx_ix [b_w cB cC cI cJ cZ oA rA Γ] [0]) (bx_ix [b_w cB cC cI cJ cZ oA rA Γ] []) (bx_C (bs := [b_w cB cC cI cJ cZ oA rA Γ]) (bs' := [b_w cB cC cI cJ cZ oA rA Γ]) (is := [0]) fl_1 fl_1 rfl) (bx_C (bs := [b_w cB cC cI cJ cZ oA rA Γ]) (bs' := []) (is := []) fl_1 fl_0 rfl) (bx_n (by decide +kernel)) (bx_d (by decide +kernel)) (va_runV (As := [.int p0]) (rest := []) ⟨hx, hb, hml, hown, hts⟩ (k_X10_signAt l dC dI cB cC cI cJ cZ cP oA rA s.heap.size  p0 Γ _ hu_1) (cwV 1 hts (g_gV wq_419 wq_420 wq_1983 wq_2 wq_421) rfl rfl rfl (by decide +kernel) ⟨Nat.le_of_ble_eq_true rfl, Nat.le_of_ble_eq_true rfl⟩) (g_preV g_bl0 hK hPc hDc hS hE hFc g_to0 (q0 := 0) (ci := 10) rfl rfl) rfl rfl hl.1 rfl (lv_room (Nat.le_of_ble_eq_true rfl)) dX10_sign_2 ⟨Nat.le_of_ble_eq_true rfl, Nat.le_of_ble_eq_true rfl⟩) (fun r9 u9 H locs hw9 hP' hD' hS => ?_)
  clear hPc hDc hFc
  subst hw9
  have hP : va_P (dC, dI) vwCl (b_w cB cC cI cJ cZ oA rA u_1.2) H := hP'
  clear hP' hD'
  refine lv_istore_n (lv' := [(2, .int u_1.1), (0, .ref (oA 1)), (1, .int p0)]) hx hb dX10_sign_5 rfl hl (by decide) rfl (fun ls hl => ?_)
  refine lv_aload_n hx hb dX10_sign_6 rfl (lv_at hl 1 rfl) ?_
  refine lv_iload_n hx hb dX10_sign_7 rfl (lv_at hl 2 rfl) ?_
  refine lv_iconst (v := 1) hx hb dX10_sign_8 (by decide +kernel) ?_
  refine lv_iadd hx hb dX10_sign_9 ?_
  obtain ⟨u_3, hu_3, hF_4⟩ := Option.bind_eq_some_iff.mp hF_2
  clear hF_2
  have hPc := bx_P (bs := [b_w cB cC cI cJ cZ oA rA u_1.2]) (bs' := [b_w cB cC cI cJ cZ oA rA u_1.2]) (ws' := (b_w cB cC cI cJ cZ oA rA u_1.2)) hP fl_1 fl_1 [0] rfl
  have hDc := bx_D (bs := [b_w cB cC cI cJ cZ oA rA u_1.2]) (bs' := [b_w cB cC cI cJ cZ oA rA u_1.2]) (ws' := (b_w cB cC cI cJ cZ oA rA u_1.2)) (hDD u_1.2) fl_1 fl_1 [0] (by decide +kernel) rfl
  have hFc := bx_F (bs := [b_w cB cC cI cJ cZ oA rA u_1.2]) (bs' := [b_w cB cC cI cJ cZ oA rA u_1.2]) (wc := (b_w cB cC cI cJ cZ oA rA u_1.2)) (hDD u_1.2) hS hA fl_1 fl_1 [0] rfl
  refine g_ofi (wc := (b_w cB cC cI cJ cZ oA rA u_1.2)) (wr := ([] : va_W)) hP (hDD u_1.2) hS hFc (bx_ix [b_w cB cC cI cJ cZ oA rA u_1.2] [0]) (bx_ix [b_w cB cC cI cJ cZ oA rA u_1.2] []) (bx_C (bs := [b_w cB cC cI cJ cZ oA rA u_1.2]) (bs' := [b_w cB cC cI cJ cZ oA rA u_1.2]) (is := [0]) fl_1 fl_1 rfl) (bx_C (bs := [b_w cB cC cI cJ cZ oA rA u_1.2]) (bs' := []) (is := []) fl_1 fl_0 rfl) (bx_n (by decide +kernel)) (bx_d (by decide +kernel)) (va_runV (As := [.int (p0 + 1)]) (rest := []) ⟨hx, hb, hml, hown, hts⟩ (k_X10_signAt l dC dI cB cC cI cJ cZ cP oA rA H.size  (p0 + 1) u_1.2 _ hu_3) (cwV 1 hts (g_gV wq_419 wq_420 wq_1983 wq_2 wq_421) rfl rfl rfl (by decide +kernel) ⟨Nat.le_of_ble_eq_true rfl, Nat.le_of_ble_eq_true rfl⟩) (g_preV g_bl0 hK hPc hDc hS hE hFc g_to0 (q0 := 0) (ci := 10) rfl rfl) rfl rfl hl.1 rfl (lv_room (Nat.le_of_ble_eq_true rfl)) dX10_sign_10 ⟨Nat.le_of_ble_eq_true rfl, Nat.le_of_ble_eq_true rfl⟩) (fun r9 u9 H locs hw9 hP' hD' hS => ?_)
  clear hPc hDc hFc
  subst hw9
  have hP : va_P (dC, dI) vwCl (b_w cB cC cI cJ cZ oA rA u_3.2) H := hP'
  clear hP' hD'
  refine lv_bipush (v := 61) hx hb dX10_sign_13 (by decide +kernel) ?_
  obtain ⟨j_6, ej_6, hF_7⟩ := bnd_e hF_4
  clear hF_4
  have Jj_6 : ∀  (σ_5 : HS), j_6  σ_5 = some res → ∀ (H : Heap) (locs : List Loc), va_P (dC, dI) vwCl (b_w cB cC cI cJ cZ oA rA σ_5) H → va_S A s.heap H locs → ∀ ls : Array Slot, lv_has ls 4 [(0, .ref (oA 1)), (1, .int p0), (2, .int u_1.1)] → W p l e (headSpec (g_ws yX10_sign cX10_sign 4 (some .int)) { frames := 5, cells := 0, slots := 0, locals := 131 }).room s m ([.ref (oA 1), .int p0] : List Value).toArray below meth c H locs 0 0 (MQ below (va_Qi (fun r (_ : Unit) => r = res.1) (g_Bo (dC, dI) A (fun (_ : Unit) => (b_w cB cC cI cJ cZ oA rA res.2))) A) ([.ref (oA 1), .int p0] : List Value).toArray s 0 0 A) (F0 m 78 ls []) := by
    intro  σ_5 hF0 H locs hP hS ls hl
    subst ej_6
    have hF_8 := hF0
    clear hF0
    obtain ⟨q_9, vq_9, hRq_9, hSq_9⟩ := hE.2.2.2.2 _ (List.mem_of_getElem? (i := 5) rfl)
    refine va_ldcS (own := RX10) (tx := "{}()[];,=<>+-*/%") hx hb hown hRq_9 dX10_sign_78 ?_
    refine lv_iload_n hx hb dX10_sign_80 rfl (lv_at hl 2 rfl) ?_
    refine lv_i2c hx hb dX10_sign_81 rfl ?_
    obtain ⟨x_10, ex_10, hF_11⟩ := bnd_e hF_8
    clear hF_8
    refine m_top ex_10 ?_
    refine c_cs (v := tx_ixOf ([123, 125, 40, 41, 91, 93, 59, 44, 61, 60, 62, 43, 45, 42, 47, 37] : List Int32) x_10) hA hP hS (va_runV (As := [.int x_10]) (rest := []) ⟨hx, hb, hml, hown, hts⟩ (c_J0_indexOf_0f7a4 l dC dI cB cC cI cJ cZ cP H.size q_9 x_10 _ ([123, 125, 40, 41, 91, 93, 59, 44, 61, 60, 62, 43, 45, 42, 47, 37] : List Int32) ) (cwV 1 hts (g_gV wq_444 wq_445 wq_446 wq_22 wq_447) rfl rfl rfl (by decide +kernel) ⟨Nat.le_of_ble_eq_true rfl, Nat.le_of_ble_eq_true rfl⟩) (g_preVs g_blS hK (wc := []) (A := A) (fun k q z => by simp at z) ⟨fun i j p q z => by simp at z, fun k q z => by simp at z⟩ hS hE (c_nil hA hS) (g_toS hSq_9 hS (c_nil hA hS)) (va_Orecv hSq_9.1 hS)) rfl rfl hl.1 rfl (lv_room (Nat.le_of_ble_eq_true rfl)) dX10_sign_82 ⟨Nat.le_of_ble_eq_true rfl, Nat.le_of_ble_eq_true rfl⟩) (fun H locs hP hS => ?_)
    obtain ⟨x_12, ex_12, hF_13⟩ := bnd_e hF_11
    clear hF_11
    refine m_top ex_12 ?_
    refine lv_if_lt (tgt := 100) hx hb dX10_sign_85 (by decide) (fun c_14 => ?_) (fun c_14 => ?_)
    · have hF_15 := ipos c_14 hF_13
      clear hF_13
      refine lv_aload_n hx hb dX10_sign_100 rfl (lv_at hl 0 rfl) ?_
      refine lv_iload_n hx hb dX10_sign_101 rfl (lv_at hl 1 rfl) ?_
      obtain ⟨u_16, hu_16, hF_17⟩ := Option.bind_eq_some_iff.mp hF_15
      clear hF_15
      have hPc := bx_P (bs := [b_w cB cC cI cJ cZ oA rA σ_5]) (bs' := [b_w cB cC cI cJ cZ oA rA σ_5]) (ws' := (b_w cB cC cI cJ cZ oA rA σ_5)) hP fl_1 fl_1 [0] rfl
      have hDc := bx_D (bs := [b_w cB cC cI cJ cZ oA rA σ_5]) (bs' := [b_w cB cC cI cJ cZ oA rA σ_5]) (ws' := (b_w cB cC cI cJ cZ oA rA σ_5)) (hDD σ_5) fl_1 fl_1 [0] (by decide +kernel) rfl
      have hFc := bx_F (bs := [b_w cB cC cI cJ cZ oA rA σ_5]) (bs' := [b_w cB cC cI cJ cZ oA rA σ_5]) (wc := (b_w cB cC cI cJ cZ oA rA σ_5)) (hDD σ_5) hS hA fl_1 fl_1 [0] rfl
      refine g_ofi (wc := (b_w cB cC cI cJ cZ oA rA σ_5)) (wr := ([] : va_W)) hP (hDD σ_5) hS hFc (bx_ix [b_w cB cC cI cJ cZ oA rA σ_5] [0]) (bx_ix [b_w cB cC cI cJ cZ oA rA σ_5] []) (bx_C (bs := [b_w cB cC cI cJ cZ oA rA σ_5]) (bs' := [b_w cB cC cI cJ cZ oA rA σ_5]) (is := [0]) fl_1 fl_1 rfl) (bx_C (bs := [b_w cB cC cI cJ cZ oA rA σ_5]) (bs' := []) (is := []) fl_1 fl_0 rfl) (bx_n (by decide +kernel)) (bx_d (by decide +kernel)) (va_runV (As := [.int p0]) (rest := []) ⟨hx, hb, hml, hown, hts⟩ (k_X10_bad l dC dI cB cC cI cJ cZ cP oA rA H.size  p0 σ_5 _ hu_16) (cwV 1 hts (g_gV wq_428 wq_429 wq_1985 wq_2 wq_430) rfl rfl rfl (by decide +kernel) ⟨Nat.le_of_ble_eq_true rfl, Nat.le_of_ble_eq_true rfl⟩) (g_preV g_bl0 hK hPc hDc hS hE hFc g_to0 (q0 := 0) (ci := 10) rfl rfl) rfl rfl hl.1 rfl (lv_room (Nat.le_of_ble_eq_true rfl)) dX10_sign_102 ⟨Nat.le_of_ble_eq_true rfl, Nat.le_of_ble_eq_true rfl⟩) (fun r9 u9 H locs hw9 hP' hD' hS => ?_)
      clear hPc hDc hFc
      subst hw9
      have hP : va_P (dC, dI) vwCl (b_w cB cC cI cJ cZ oA rA u_16.2) H := hP'
      clear hP' hD'
      have h9 := Option.some.inj hF_17
      subst h9
      exact W.iret (v := u_16.1) hx hb hr (fun t ht hW => ⟨⟨u_16.1, (), rfl, rfl, m_end ht hP, hDD _⟩, hS.F ht⟩) hS.2.2 dX10_sign_105
    · have hF_18 := ineg c_14 hF_13
      clear hF_13
      refine lv_aload_n hx hb dX10_sign_88 rfl (lv_at hl 0 rfl) ?_
      refine lv_iload_n hx hb dX10_sign_89 rfl (lv_at hl 2 rfl) ?_
      refine lv_iload_n hx hb dX10_sign_90 rfl (lv_at hl 1 rfl) ?_
      refine lv_iconst (v := 0) hx hb dX10_sign_91 (by decide +kernel) ?_
      obtain ⟨u_19, hu_19, hF_20⟩ := Option.bind_eq_some_iff.mp hF_18
      clear hF_18
      have hPc := bx_P (bs := [b_w cB cC cI cJ cZ oA rA σ_5]) (bs' := [b_w cB cC cI cJ cZ oA rA σ_5]) (ws' := (b_w cB cC cI cJ cZ oA rA σ_5)) hP fl_1 fl_1 [0] rfl
      have hDc := bx_D (bs := [b_w cB cC cI cJ cZ oA rA σ_5]) (bs' := [b_w cB cC cI cJ cZ oA rA σ_5]) (ws' := (b_w cB cC cI cJ cZ oA rA σ_5)) (hDD σ_5) fl_1 fl_1 [0] (by decide +kernel) rfl
      have hFc := bx_F (bs := [b_w cB cC cI cJ cZ oA rA σ_5]) (bs' := [b_w cB cC cI cJ cZ oA rA σ_5]) (wc := (b_w cB cC cI cJ cZ oA rA σ_5)) (hDD σ_5) hS hA fl_1 fl_1 [0] rfl
      refine g_ofi (wc := (b_w cB cC cI cJ cZ oA rA σ_5)) (wr := ([] : va_W)) hP (hDD σ_5) hS hFc (bx_ix [b_w cB cC cI cJ cZ oA rA σ_5] [0]) (bx_ix [b_w cB cC cI cJ cZ oA rA σ_5] []) (bx_C (bs := [b_w cB cC cI cJ cZ oA rA σ_5]) (bs' := [b_w cB cC cI cJ cZ oA rA σ_5]) (is := [0]) fl_1 fl_1 rfl) (bx_C (bs := [b_w cB cC cI cJ cZ oA rA σ_5]) (bs' := []) (is := []) fl_1 fl_0 rfl) (bx_n (by decide +kernel)) (bx_d (by decide +kernel)) (va_runV (As := [.int u_1.1, .int p0, .int 0]) (rest := []) ⟨hx, hb, hml, hown, hts⟩ (k_X10_add l dC dI cB cC cI cJ cZ cP oA rA H.size  u_1.1 p0 0 σ_5 _ hu_19) (cwV 3 hts (g_gV wq_431 wq_432 wq_1986 wq_2 wq_433) rfl rfl rfl (by decide +kernel) ⟨Nat.le_of_ble_eq_true rfl, Nat.le_of_ble_eq_true rfl⟩) (g_preV g_bl0 hK hPc hDc hS hE hFc g_to0 (q0 := 0) (ci := 10) rfl rfl) rfl rfl hl.1 rfl (lv_room (Nat.le_of_ble_eq_true rfl)) dX10_sign_92 ⟨Nat.le_of_ble_eq_true rfl, Nat.le_of_ble_eq_true rfl⟩) (fun r9 u9 H locs hw9 hP' hD' hS => ?_)
      clear hPc hDc hFc
      subst hw9
      have hP : va_P (dC, dI) vwCl (b_w cB cC cI cJ cZ oA rA u_19.2) H := hP'
      clear hP' hD'
      refine lv_iconst (v := 1) hx hb dX10_sign_95 (by decide +kernel) ?_
      refine lv_iadd hx hb dX10_sign_96 ?_
      refine lv_goto (tgt := 105) hx hb dX10_sign_97 (by decide) ?_
      have h9 := Option.some.inj hF_20
      subst h9
      exact W.iret (v := (u_19.1 + 1)) hx hb hr (fun t ht hW => ⟨⟨(u_19.1 + 1), (), rfl, rfl, m_end ht hP, hDD _⟩, hS.F ht⟩) hS.2.2 dX10_sign_105
  refine lv_icmp_ne (tgt := 78) hx hb dX10_sign_15 (by decide) (fun c_21 => ?_) (fun c_21 => ?_)
  · have hF_45 := ineg c_21 hF_7
    clear hF_7
    exact Jj_6  u_3.2 hF_45 _ _ hP hS ls (lv_sub hl [1, 2, 0] rfl)
  · have hF_22 := ipos c_21 hF_7
    clear hF_7
    refine lv_iload_n hx hb dX10_sign_18 rfl (lv_at hl 0 rfl) ?_
    refine lv_bipush (v := 61) hx hb dX10_sign_19 (by decide +kernel) ?_
    obtain ⟨j_25, ej_25, hF_26⟩ := bnd_e hF_22
    clear hF_22
    have Jj_25 : ∀ (t_23 : Int32) (σ_24 : HS), j_25 t_23 σ_24 = some res → ∀ (H : Heap) (locs : List Loc), va_P (dC, dI) vwCl (b_w cB cC cI cJ cZ oA rA σ_24) H → va_S A s.heap H locs → ∀ ls : Array Slot, lv_has ls 4 [(0, .ref (oA 1)), (1, .int p0), (2, .int u_1.1)] → W p l e (headSpec (g_ws yX10_sign cX10_sign 4 (some .int)) { frames := 5, cells := 0, slots := 0, locals := 131 }).room s m ([.ref (oA 1), .int p0] : List Value).toArray below meth c H locs 0 0 (MQ below (va_Qi (fun r (_ : Unit) => r = res.1) (g_Bo (dC, dI) A (fun (_ : Unit) => (b_w cB cC cI cJ cZ oA rA res.2))) A) ([.ref (oA 1), .int p0] : List Value).toArray s 0 0 A) (F0 m 62 ls [.int t_23]) := by
      intro t_23 σ_24 hF0 H locs hP hS ls hl
      subst ej_25
      have hF_27 := hF0
      clear hF0
      refine lv_istore_n (lv' := [(3, .int t_23), (0, .ref (oA 1)), (1, .int p0), (2, .int u_1.1)]) hx hb dX10_sign_62 rfl hl (by decide) rfl (fun ls hl => ?_)
      refine lv_iload_n hx hb dX10_sign_63 rfl (lv_at hl 0 rfl) ?_
      refine lv_iconst (v := (-1)) hx hb dX10_sign_64 (by decide +kernel) ?_
      refine lv_icmp_eq (tgt := 78) hx hb dX10_sign_65 (by decide) (fun c_28 => ?_) (fun c_28 => ?_)
      · have hF_29 := ipos c_28 hF_27
        clear hF_27
        exact Jj_6  σ_24 hF_29 _ _ hP hS ls (lv_sub hl [1, 2, 3] rfl)
      · have hF_30 := ineg c_28 hF_27
        clear hF_27
        refine lv_aload_n hx hb dX10_sign_68 rfl (lv_at hl 1 rfl) ?_
        refine lv_iload_n hx hb dX10_sign_69 rfl (lv_at hl 0 rfl) ?_
        refine lv_iload_n hx hb dX10_sign_70 rfl (lv_at hl 2 rfl) ?_
        refine lv_iconst (v := 0) hx hb dX10_sign_71 (by decide +kernel) ?_
        obtain ⟨u_31, hu_31, hF_32⟩ := Option.bind_eq_some_iff.mp hF_30
        clear hF_30
        have hPc := bx_P (bs := [b_w cB cC cI cJ cZ oA rA σ_24]) (bs' := [b_w cB cC cI cJ cZ oA rA σ_24]) (ws' := (b_w cB cC cI cJ cZ oA rA σ_24)) hP fl_1 fl_1 [0] rfl
        have hDc := bx_D (bs := [b_w cB cC cI cJ cZ oA rA σ_24]) (bs' := [b_w cB cC cI cJ cZ oA rA σ_24]) (ws' := (b_w cB cC cI cJ cZ oA rA σ_24)) (hDD σ_24) fl_1 fl_1 [0] (by decide +kernel) rfl
        have hFc := bx_F (bs := [b_w cB cC cI cJ cZ oA rA σ_24]) (bs' := [b_w cB cC cI cJ cZ oA rA σ_24]) (wc := (b_w cB cC cI cJ cZ oA rA σ_24)) (hDD σ_24) hS hA fl_1 fl_1 [0] rfl
        refine g_ofi (wc := (b_w cB cC cI cJ cZ oA rA σ_24)) (wr := ([] : va_W)) hP (hDD σ_24) hS hFc (bx_ix [b_w cB cC cI cJ cZ oA rA σ_24] [0]) (bx_ix [b_w cB cC cI cJ cZ oA rA σ_24] []) (bx_C (bs := [b_w cB cC cI cJ cZ oA rA σ_24]) (bs' := [b_w cB cC cI cJ cZ oA rA σ_24]) (is := [0]) fl_1 fl_1 rfl) (bx_C (bs := [b_w cB cC cI cJ cZ oA rA σ_24]) (bs' := []) (is := []) fl_1 fl_0 rfl) (bx_n (by decide +kernel)) (bx_d (by decide +kernel)) (va_runV (As := [.int t_23, .int p0, .int 0]) (rest := []) ⟨hx, hb, hml, hown, hts⟩ (k_X10_add l dC dI cB cC cI cJ cZ cP oA rA H.size  t_23 p0 0 σ_24 _ hu_31) (cwV 3 hts (g_gV wq_431 wq_432 wq_1986 wq_2 wq_433) rfl rfl rfl (by decide +kernel) ⟨Nat.le_of_ble_eq_true rfl, Nat.le_of_ble_eq_true rfl⟩) (g_preV g_bl0 hK hPc hDc hS hE hFc g_to0 (q0 := 0) (ci := 10) rfl rfl) rfl rfl hl.1 rfl (lv_room (Nat.le_of_ble_eq_true rfl)) dX10_sign_72 ⟨Nat.le_of_ble_eq_true rfl, Nat.le_of_ble_eq_true rfl⟩) (fun r9 u9 H locs hw9 hP' hD' hS => ?_)
        clear hPc hDc hFc
        subst hw9
        have hP : va_P (dC, dI) vwCl (b_w cB cC cI cJ cZ oA rA u_31.2) H := hP'
        clear hP' hD'
        refine lv_iconst (v := 2) hx hb dX10_sign_75 (by decide +kernel) ?_
        refine lv_iadd hx hb dX10_sign_76 ?_
        have h9 := Option.some.inj hF_32
        subst h9
        exact W.iret (v := (u_31.1 + 2)) hx hb hr (fun t ht hW => ⟨⟨(u_31.1 + 2), (), rfl, rfl, m_end ht hP, hDD _⟩, hS.F ht⟩) hS.2.2 dX10_sign_77
    refine lv_icmp_ne (tgt := 28) hx hb dX10_sign_21 (by decide) (fun c_33 => ?_) (fun c_33 => ?_)
    · have hF_35 := ineg c_33 hF_26
      clear hF_26
      refine lv_iload_n hx hb dX10_sign_28 rfl (lv_at hl 0 rfl) ?_
      refine lv_bipush (v := 33) hx hb dX10_sign_29 (by decide +kernel) ?_
      refine lv_icmp_ne (tgt := 39) hx hb dX10_sign_31 (by decide) (fun c_36 => ?_) (fun c_36 => ?_)
      · have hF_38 := ineg c_36 hF_35
        clear hF_35
        refine lv_iload_n hx hb dX10_sign_39 rfl (lv_at hl 0 rfl) ?_
        refine lv_bipush (v := 60) hx hb dX10_sign_40 (by decide +kernel) ?_
        refine lv_icmp_ne (tgt := 50) hx hb dX10_sign_42 (by decide) (fun c_39 => ?_) (fun c_39 => ?_)
        · have hF_41 := ineg c_39 hF_38
          clear hF_38
          refine lv_iload_n hx hb dX10_sign_50 rfl (lv_at hl 0 rfl) ?_
          refine lv_bipush (v := 62) hx hb dX10_sign_51 (by decide +kernel) ?_
          refine lv_icmp_ne (tgt := 61) hx hb dX10_sign_53 (by decide) (fun c_42 => ?_) (fun c_42 => ?_)
          · have hF_44 := ineg c_42 hF_41
            clear hF_41
            refine lv_iconst (v := (-1)) hx hb dX10_sign_61 (by decide +kernel) ?_
            exact Jj_25 (-1) u_3.2 hF_44 _ _ hP hS ls (lv_sub hl [1, 2, 0] rfl)
          · have hF_43 := ipos c_42 hF_41
            clear hF_41
            refine lv_bipush (v := 8) hx hb dX10_sign_56 (by decide +kernel) ?_
            refine lv_goto (tgt := 62) hx hb dX10_sign_58 (by decide) ?_
            exact Jj_25 8 u_3.2 hF_43 _ _ hP hS ls (lv_sub hl [1, 2, 0] rfl)
        · have hF_40 := ipos c_39 hF_38
          clear hF_38
          refine lv_bipush (v := 7) hx hb dX10_sign_45 (by decide +kernel) ?_
          refine lv_goto (tgt := 62) hx hb dX10_sign_47 (by decide) ?_
          exact Jj_25 7 u_3.2 hF_40 _ _ hP hS ls (lv_sub hl [1, 2, 0] rfl)
      · have hF_37 := ipos c_36 hF_35
        clear hF_35
        refine lv_bipush (v := 6) hx hb dX10_sign_34 (by decide +kernel) ?_
        refine lv_goto (tgt := 62) hx hb dX10_sign_36 (by decide) ?_
        exact Jj_25 6 u_3.2 hF_37 _ _ hP hS ls (lv_sub hl [1, 2, 0] rfl)
    · have hF_34 := ipos c_33 hF_26
      clear hF_26
      refine lv_iconst (v := 5) hx hb dX10_sign_24 (by decide +kernel) ?_
      refine lv_goto (tgt := 62) hx hb dX10_sign_25 (by decide) ?_
      exact Jj_25 5 u_3.2 hF_34 _ _ hP hS ls (lv_sub hl [1, 2, 0] rfl)
theorem dX10_string_0 : decode cX10_string 0 = .ok (.iload_n 1, 1) := by decide +kernel
theorem dX10_string_1 : decode cX10_string 1 = .ok (.iconst 1, 1) := by decide +kernel
theorem dX10_string_2 : decode cX10_string 2 = .ok (.iadd, 1) := by decide +kernel
theorem dX10_string_3 : decode cX10_string 3 = .ok (.istore_n 2, 1) := by decide +kernel
theorem dX10_string_4 : decode cX10_string 4 = .ok (.iload_n 2, 1) := by decide +kernel
theorem dX10_string_5 : decode cX10_string 5 = .ok (.aload_n 0, 1) := by decide +kernel
theorem dX10_string_6 : decode cX10_string 6 = .ok (.getfield 47, 3) := by decide +kernel
theorem dX10_string_9 : decode cX10_string 9 = .ok (.if_icmp .ge 44, 3) := by decide +kernel
theorem dX10_string_12 : decode cX10_string 12 = .ok (.aload_n 0, 1) := by decide +kernel
theorem dX10_string_13 : decode cX10_string 13 = .ok (.iload_n 2, 1) := by decide +kernel
theorem dX10_string_14 : decode cX10_string 14 = .ok (.invokevirtual 130, 3) := by decide +kernel
theorem dX10_string_17 : decode cX10_string 17 = .ok (.bipush 34, 2) := by decide +kernel
theorem dX10_string_19 : decode cX10_string 19 = .ok (.if_icmp .eq 34, 3) := by decide +kernel
theorem dX10_string_22 : decode cX10_string 22 = .ok (.aload_n 0, 1) := by decide +kernel
theorem dX10_string_23 : decode cX10_string 23 = .ok (.iload_n 2, 1) := by decide +kernel
theorem dX10_string_24 : decode cX10_string 24 = .ok (.invokevirtual 130, 3) := by decide +kernel
theorem dX10_string_27 : decode cX10_string 27 = .ok (.bipush 10, 2) := by decide +kernel
theorem dX10_string_29 : decode cX10_string 29 = .ok (.if_icmp .eq 24, 3) := by decide +kernel
theorem dX10_string_32 : decode cX10_string 32 = .ok (.iload_n 2, 1) := by decide +kernel
theorem dX10_string_33 : decode cX10_string 33 = .ok (.iload_n 1, 1) := by decide +kernel
theorem dX10_string_34 : decode cX10_string 34 = .ok (.isub, 1) := by decide +kernel
theorem dX10_string_35 : decode cX10_string 35 = .ok (.sipush 200, 3) := by decide +kernel
theorem dX10_string_38 : decode cX10_string 38 = .ok (.if_icmp .le 9, 3) := by decide +kernel
theorem dX10_string_41 : decode cX10_string 41 = .ok (.aload_n 0, 1) := by decide +kernel
theorem dX10_string_42 : decode cX10_string 42 = .ok (.iload_n 1, 1) := by decide +kernel
theorem dX10_string_43 : decode cX10_string 43 = .ok (.invokevirtual 157, 3) := by decide +kernel
theorem dX10_string_46 : decode cX10_string 46 = .ok (.ireturn, 1) := by decide +kernel
theorem dX10_string_47 : decode cX10_string 47 = .ok (.iinc 2 1, 3) := by decide +kernel
theorem dX10_string_50 : decode cX10_string 50 = .ok (.goto (-46), 3) := by decide +kernel
theorem dX10_string_53 : decode cX10_string 53 = .ok (.aload_n 0, 1) := by decide +kernel
theorem dX10_string_54 : decode cX10_string 54 = .ok (.iload_n 2, 1) := by decide +kernel
theorem dX10_string_55 : decode cX10_string 55 = .ok (.invokevirtual 130, 3) := by decide +kernel
theorem dX10_string_58 : decode cX10_string 58 = .ok (.bipush 34, 2) := by decide +kernel
theorem dX10_string_60 : decode cX10_string 60 = .ok (.if_icmp .eq 9, 3) := by decide +kernel
theorem dX10_string_63 : decode cX10_string 63 = .ok (.aload_n 0, 1) := by decide +kernel
theorem dX10_string_64 : decode cX10_string 64 = .ok (.iload_n 1, 1) := by decide +kernel
theorem dX10_string_65 : decode cX10_string 65 = .ok (.invokevirtual 157, 3) := by decide +kernel
theorem dX10_string_68 : decode cX10_string 68 = .ok (.ireturn, 1) := by decide +kernel
theorem dX10_string_69 : decode cX10_string 69 = .ok (.aload_n 0, 1) := by decide +kernel
theorem dX10_string_70 : decode cX10_string 70 = .ok (.dup, 1) := by decide +kernel
theorem dX10_string_71 : decode cX10_string 71 = .ok (.getfield 60, 3) := by decide +kernel
theorem dX10_string_74 : decode cX10_string 74 = .ok (.iconst 1, 1) := by decide +kernel
theorem dX10_string_75 : decode cX10_string 75 = .ok (.iadd, 1) := by decide +kernel
theorem dX10_string_76 : decode cX10_string 76 = .ok (.putfield 60, 3) := by decide +kernel
theorem dX10_string_79 : decode cX10_string 79 = .ok (.aload_n 0, 1) := by decide +kernel
theorem dX10_string_80 : decode cX10_string 80 = .ok (.iconst 4, 1) := by decide +kernel
theorem dX10_string_81 : decode cX10_string 81 = .ok (.iload_n 1, 1) := by decide +kernel
theorem dX10_string_82 : decode cX10_string 82 = .ok (.aload_n 0, 1) := by decide +kernel
theorem dX10_string_83 : decode cX10_string 83 = .ok (.getfield 60, 3) := by decide +kernel
theorem dX10_string_86 : decode cX10_string 86 = .ok (.iconst 1, 1) := by decide +kernel
theorem dX10_string_87 : decode cX10_string 87 = .ok (.isub, 1) := by decide +kernel
theorem dX10_string_88 : decode cX10_string 88 = .ok (.invokevirtual 93, 3) := by decide +kernel
theorem dX10_string_91 : decode cX10_string 91 = .ok (.iload_n 2, 1) := by decide +kernel
theorem dX10_string_92 : decode cX10_string 92 = .ok (.iadd, 1) := by decide +kernel
theorem dX10_string_93 : decode cX10_string 93 = .ok (.iconst 1, 1) := by decide +kernel
theorem dX10_string_94 : decode cX10_string 94 = .ok (.iadd, 1) := by decide +kernel
theorem dX10_string_95 : decode cX10_string 95 = .ok (.iload_n 1, 1) := by decide +kernel
theorem dX10_string_96 : decode cX10_string 96 = .ok (.isub, 1) := by decide +kernel
theorem dX10_string_97 : decode cX10_string 97 = .ok (.ireturn, 1) := by decide +kernel
def F_X10_string (p0 : Int32) (Γ : HS) : HR :=
  loopF (fun (again_2 : (Int32 × HS) → HR) (s_1 : Int32 × HS) => (
    bnd (fun  (σ_5 : HS) => (
      (F_X10_signAt s_1.1 σ_5).bind fun u_9 =>
      if u_9.1 = 34 then (
        bnd (cI' u_9.2 1 11 (((u_9.2 1).1 11) + 1)) fun σ_13 =>
        (F_X10_add 4 p0 (((σ_13 1).1 11) - 1) σ_13).bind fun u_15 =>
        some ((((u_15.1 + s_1.1) + 1) - p0), u_15.2)
      ) else (
        (F_X10_bad p0 u_9.2).bind fun u_18 =>
        some (u_18.1, u_18.2)
      )
    ) : HS → HR) fun j_6 =>
    if ((s_1.2 1).1 1) ≤ s_1.1 then (
      j_6  s_1.2
    ) else (
      (F_X10_signAt s_1.1 s_1.2).bind fun u_23 =>
      if u_23.1 = 34 then (
        j_6  u_23.2
      ) else (
        (F_X10_signAt s_1.1 u_23.2).bind fun u_28 =>
        if u_28.1 = 10 then (
          j_6  u_28.2
        ) else (
          if (s_1.1 - p0) ≤ 200 then (
            bnd (s_1.1 + 1) fun (x_35 : Int32) =>
            again_2 (x_35, u_28.2)
          ) else (
            (F_X10_bad p0 u_28.2).bind fun u_38 =>
            some (u_38.1, u_38.2)
          )
        )
      )
    )
  )) FU ((p0 + 1), Γ)
set_option maxHeartbeats 4000000 in
set_option maxRecDepth 100000 in
theorem k_X10_string (l : Launch) (dC : Nat → ClassId) (dI : Nat → Nat → Nat) (cB cC cI cJ cZ cP : ClassId) (oA : Nat → Nat) (rA : Nat → Nat → Nat) (sz : Nat)  (p0 : Int32) (Γ : HS) (res : Int32 × HS) (hF : F_X10_string p0 Γ = some res) : Met l yX10_string (g_ws yX10_string cX10_string 3 (some .int)) ({ frames := 5, cells := 0, slots := 0, locals := 126 }) (va_Pc [.ref (oA 1), .int p0] (g_B (dC, dI) [(cB, .byte), (cC, .char), (cI, .int), (cJ, .long), (cZ, .boolean), (cP, .object "StoryHouse$Play")] sz (b_w cB cC cI cJ cZ oA rA Γ) g_0)) (va_Qi (fun r (_ : Unit) => r = res.1) (g_Bo (dC, dI) (va_A (b_w cB cC cI cJ cZ oA rA Γ) sz) (fun (_ : Unit) => (b_w cB cC cI cJ cZ oA rA res.2))) (va_A (b_w cB cC cI cJ cZ oA rA Γ) sz)) 0 0 (va_A (b_w cB cC cI cJ cZ oA rA Γ) sz) := by
  refine Met.ofW (cc := cX10_string) (maxL := 3) (ret := (some .int)) (by decide) rfl ?_
  intro p e s m args below meth c s₁ B hml hv
  obtain ⟨rfl, hsz, hP, hK, hD0, hE, hX⟩ := hv
  have hx := B.exec
  have hb := B.bytes
  have hr := B.returns
  have hts0 := atoms_spec (ws := g_ws yX10_string cX10_string 3 (some .int)) B.pre
  have hts : ∀ w ∈ lw_good, w.before ([.ref (oA 1), .int p0] : List Value).toArray s = true := fun w z => hts0 w (List.mem_cons_of_mem _ z)
  have hown : s.vm.findClass RX10 = some m.cls := findClass_of_methodNamed B.named
  have hlocks := B.notSynchronized
  subst hsz
  have hD1 := hD0.self (sz := s.heap.size)
  generalize hAe : va_A (b_w cB cC cI cJ cZ oA rA Γ) s.heap.size = A at hD1 hE hX ⊢
  have hA : ∀ q : Nat, s.heap.size ≤ q → A q := fun q z => by rw [← hAe]; exact Or.inr z
  have hDD : ∀ Γ : HS, va_D A (b_w cB cC cI cJ cZ oA rA Γ) := fun Γ9 => va_D_fst (ws := (b_w cB cC cI cJ cZ oA rA Γ)) (ws' := (b_w cB cC cI cJ cZ oA rA Γ9)) rfl hD1
  have hN := hE.1
  have hS : va_S A s.heap s.heap [] := va_S.rf
  have hl := lv_entry ([.ref (oA 1), .int p0]) (n := 3) (Nat.le_of_ble_eq_true rfl)
  rw [lg_entry_eq]
  generalize (lg_sl ([.ref (oA 1), .int p0]) ++ List.replicate (3 - (lg_sl ([.ref (oA 1), .int p0])).length) Slot.unset).toArray = ls at hl ⊢
  have hl : lv_has ls 3 [(0, .ref (oA 1)), (1, .int p0)] := hl
  unfold F_X10_string at hF
  refine lv_iload_n hx hb dX10_string_0 rfl (lv_at hl 1 rfl) ?_
  refine lv_iconst (v := 1) hx hb dX10_string_1 (by decide +kernel) ?_
  refine lv_iadd hx hb dX10_string_2 ?_
  refine lv_istore_n (lv' := [(2, .int (p0 + 1)), (0, .ref (oA 1)), (1, .int p0)]) hx hb dX10_string_3 rfl hl (by decide) rfl (fun ls hl => ?_)
  refine loopF_ind (P := fun (s_1 : Int32 × HS) => ∀ (H : Heap) (locs : List Loc), va_P (dC, dI) vwCl (b_w cB cC cI cJ cZ oA rA s_1.2) H → va_S A s.heap H locs → ∀ ls : Array Slot, lv_has ls 3 [(0, .ref (oA 1)), (1, .int p0), (2, .int s_1.1)] → W p l e (headSpec (g_ws yX10_string cX10_string 3 (some .int)) { frames := 5, cells := 0, slots := 0, locals := 126 }).room s m ([.ref (oA 1), .int p0] : List Value).toArray below meth c H locs 0 0 (MQ below (va_Qi (fun r (_ : Unit) => r = res.1) (g_Bo (dC, dI) A (fun (_ : Unit) => (b_w cB cC cI cJ cZ oA rA res.2))) A) ([.ref (oA 1), .int p0] : List Value).toArray s 0 0 A) (F0 m 4 ls [])) ?_ _ _ hF _ _ hP hS ls (lv_sub hl [1, 2, 0] rfl)
  intro again_2 s_1 ih_3 hF_4
  intro H locs hP hS ls hl
  refine lv_iload_n hx hb dX10_string_4 rfl (lv_at hl 2 rfl) ?_
  refine lv_aload_n hx hb dX10_string_5 rfl (lv_at hl 0 rfl) ?_
  refine va_get (D := (dC, dI)) (ci := 10) (v := .int ((s_1.2 1).1 1)) (C := RX10) (T := TX10) (N := 12) hx hb hts ii_X10 hown hK hP 0 rfl rfl 1 (by decide) (hts (.fieldLink RX10 47 "StoryHouse$Words" "length" "I") wq_43) (fun _ h9 => h9) rfl dX10_string_6 ?_
  obtain ⟨j_6, ej_6, hF_7⟩ := bnd_e hF_4
  clear hF_4
  have Jj_6 : ∀  (σ_5 : HS), j_6  σ_5 = some res → ∀ (H : Heap) (locs : List Loc), va_P (dC, dI) vwCl (b_w cB cC cI cJ cZ oA rA σ_5) H → va_S A s.heap H locs → ∀ ls : Array Slot, lv_has ls 3 [(0, .ref (oA 1)), (1, .int p0), (2, .int s_1.1)] → W p l e (headSpec (g_ws yX10_string cX10_string 3 (some .int)) { frames := 5, cells := 0, slots := 0, locals := 126 }).room s m ([.ref (oA 1), .int p0] : List Value).toArray below meth c H locs 0 0 (MQ below (va_Qi (fun r (_ : Unit) => r = res.1) (g_Bo (dC, dI) A (fun (_ : Unit) => (b_w cB cC cI cJ cZ oA rA res.2))) A) ([.ref (oA 1), .int p0] : List Value).toArray s 0 0 A) (F0 m 53 ls []) := by
    intro  σ_5 hF0 H locs hP hS ls hl
    subst ej_6
    have hF_8 := hF0
    clear hF0
    refine lv_aload_n hx hb dX10_string_53 rfl (lv_at hl 0 rfl) ?_
    refine lv_iload_n hx hb dX10_string_54 rfl (lv_at hl 2 rfl) ?_
    obtain ⟨u_9, hu_9, hF_10⟩ := Option.bind_eq_some_iff.mp hF_8
    clear hF_8
    have hPc := bx_P (bs := [b_w cB cC cI cJ cZ oA rA σ_5]) (bs' := [b_w cB cC cI cJ cZ oA rA σ_5]) (ws' := (b_w cB cC cI cJ cZ oA rA σ_5)) hP fl_1 fl_1 [0] rfl
    have hDc := bx_D (bs := [b_w cB cC cI cJ cZ oA rA σ_5]) (bs' := [b_w cB cC cI cJ cZ oA rA σ_5]) (ws' := (b_w cB cC cI cJ cZ oA rA σ_5)) (hDD σ_5) fl_1 fl_1 [0] (by decide +kernel) rfl
    have hFc := bx_F (bs := [b_w cB cC cI cJ cZ oA rA σ_5]) (bs' := [b_w cB cC cI cJ cZ oA rA σ_5]) (wc := (b_w cB cC cI cJ cZ oA rA σ_5)) (hDD σ_5) hS hA fl_1 fl_1 [0] rfl
    refine g_ofi (wc := (b_w cB cC cI cJ cZ oA rA σ_5)) (wr := ([] : va_W)) hP (hDD σ_5) hS hFc (bx_ix [b_w cB cC cI cJ cZ oA rA σ_5] [0]) (bx_ix [b_w cB cC cI cJ cZ oA rA σ_5] []) (bx_C (bs := [b_w cB cC cI cJ cZ oA rA σ_5]) (bs' := [b_w cB cC cI cJ cZ oA rA σ_5]) (is := [0]) fl_1 fl_1 rfl) (bx_C (bs := [b_w cB cC cI cJ cZ oA rA σ_5]) (bs' := []) (is := []) fl_1 fl_0 rfl) (bx_n (by decide +kernel)) (bx_d (by decide +kernel)) (va_runV (As := [.int s_1.1]) (rest := []) ⟨hx, hb, hml, hown, hts⟩ (k_X10_signAt l dC dI cB cC cI cJ cZ cP oA rA H.size  s_1.1 σ_5 _ hu_9) (cwV 1 hts (g_gV wq_419 wq_420 wq_1983 wq_2 wq_421) rfl rfl rfl (by decide +kernel) ⟨Nat.le_of_ble_eq_true rfl, Nat.le_of_ble_eq_true rfl⟩) (g_preV g_bl0 hK hPc hDc hS hE hFc g_to0 (q0 := 0) (ci := 10) rfl rfl) rfl rfl hl.1 rfl (lv_room (Nat.le_of_ble_eq_true rfl)) dX10_string_55 ⟨Nat.le_of_ble_eq_true rfl, Nat.le_of_ble_eq_true rfl⟩) (fun r9 u9 H locs hw9 hP' hD' hS => ?_)
    clear hPc hDc hFc
    subst hw9
    have hP : va_P (dC, dI) vwCl (b_w cB cC cI cJ cZ oA rA u_9.2) H := hP'
    clear hP' hD'
    refine lv_bipush (v := 34) hx hb dX10_string_58 (by decide +kernel) ?_
    refine lv_icmp_eq (tgt := 69) hx hb dX10_string_60 (by decide) (fun c_11 => ?_) (fun c_11 => ?_)
    · have hF_12 := ipos c_11 hF_10
      clear hF_10
      refine lv_aload_n hx hb dX10_string_69 rfl (lv_at hl 0 rfl) ?_
      refine lv_dup hx hb dX10_string_70 rfl ?_
      refine va_get (D := (dC, dI)) (ci := 10) (v := .int ((u_9.2 1).1 11)) (C := RX10) (T := TX10) (N := 12) hx hb hts ii_X10 hown hK hP 0 rfl rfl 11 (by decide) (hts (.fieldLink RX10 60 "StoryHouse$Words" "strings" "I") wq_61) (fun _ h9 => h9) rfl dX10_string_71 ?_
      refine lv_iconst (v := 1) hx hb dX10_string_74 (by decide +kernel) ?_
      refine lv_iadd hx hb dX10_string_75 ?_
      obtain ⟨σ_13, eσ_13, hF_14⟩ := bnd_e hF_12
      clear hF_12
      refine va_put (D := (dC, dI)) (ci := 10) (v := .int (((u_9.2 1).1 11) + 1)) (ty := .int) (C := RX10) (T := TX10) (N := 12) hx hb hts ii_X10 tyX10 tyX10_ok nmX10 hown hK hP (hDD _) hS 0 rfl rfl 11 (by decide) (hts (.fieldLink RX10 60 "StoryHouse$Words" "strings" "I") wq_61) (fun _ h9 => h9) rfl (by decide +kernel) rfl rfl (Nat.le_of_ble_eq_true rfl) dX10_string_76 (fun H locs hP' _ hS => ?_)
      have hP : va_P (dC, dI) vwCl (b_w cB cC cI cJ cZ oA rA σ_13) H := by rw [eσ_13]; exact cs_w_w_11 ▸ hP'
      clear hP'
      refine lv_aload_n hx hb dX10_string_79 rfl (lv_at hl 0 rfl) ?_
      refine lv_iconst (v := 4) hx hb dX10_string_80 (by decide +kernel) ?_
      refine lv_iload_n hx hb dX10_string_81 rfl (lv_at hl 1 rfl) ?_
      refine lv_aload_n hx hb dX10_string_82 rfl (lv_at hl 0 rfl) ?_
      refine va_get (D := (dC, dI)) (ci := 10) (v := .int ((σ_13 1).1 11)) (C := RX10) (T := TX10) (N := 12) hx hb hts ii_X10 hown hK hP 0 rfl rfl 11 (by decide) (hts (.fieldLink RX10 60 "StoryHouse$Words" "strings" "I") wq_61) (fun _ h9 => h9) rfl dX10_string_83 ?_
      refine lv_iconst (v := 1) hx hb dX10_string_86 (by decide +kernel) ?_
      refine lv_isub hx hb dX10_string_87 ?_
      obtain ⟨u_15, hu_15, hF_16⟩ := Option.bind_eq_some_iff.mp hF_14
      clear hF_14
      have hPc := bx_P (bs := [b_w cB cC cI cJ cZ oA rA σ_13]) (bs' := [b_w cB cC cI cJ cZ oA rA σ_13]) (ws' := (b_w cB cC cI cJ cZ oA rA σ_13)) hP fl_1 fl_1 [0] rfl
      have hDc := bx_D (bs := [b_w cB cC cI cJ cZ oA rA σ_13]) (bs' := [b_w cB cC cI cJ cZ oA rA σ_13]) (ws' := (b_w cB cC cI cJ cZ oA rA σ_13)) (hDD σ_13) fl_1 fl_1 [0] (by decide +kernel) rfl
      have hFc := bx_F (bs := [b_w cB cC cI cJ cZ oA rA σ_13]) (bs' := [b_w cB cC cI cJ cZ oA rA σ_13]) (wc := (b_w cB cC cI cJ cZ oA rA σ_13)) (hDD σ_13) hS hA fl_1 fl_1 [0] rfl
      refine g_ofi (wc := (b_w cB cC cI cJ cZ oA rA σ_13)) (wr := ([] : va_W)) hP (hDD σ_13) hS hFc (bx_ix [b_w cB cC cI cJ cZ oA rA σ_13] [0]) (bx_ix [b_w cB cC cI cJ cZ oA rA σ_13] []) (bx_C (bs := [b_w cB cC cI cJ cZ oA rA σ_13]) (bs' := [b_w cB cC cI cJ cZ oA rA σ_13]) (is := [0]) fl_1 fl_1 rfl) (bx_C (bs := [b_w cB cC cI cJ cZ oA rA σ_13]) (bs' := []) (is := []) fl_1 fl_0 rfl) (bx_n (by decide +kernel)) (bx_d (by decide +kernel)) (va_runV (As := [.int 4, .int p0, .int (((σ_13 1).1 11) - 1)]) (rest := []) ⟨hx, hb, hml, hown, hts⟩ (k_X10_add l dC dI cB cC cI cJ cZ cP oA rA H.size  4 p0 (((σ_13 1).1 11) - 1) σ_13 _ hu_15) (cwV 3 hts (g_gV wq_431 wq_432 wq_1986 wq_2 wq_433) rfl rfl rfl (by decide +kernel) ⟨Nat.le_of_ble_eq_true rfl, Nat.le_of_ble_eq_true rfl⟩) (g_preV g_bl0 hK hPc hDc hS hE hFc g_to0 (q0 := 0) (ci := 10) rfl rfl) rfl rfl hl.1 rfl (lv_room (Nat.le_of_ble_eq_true rfl)) dX10_string_88 ⟨Nat.le_of_ble_eq_true rfl, Nat.le_of_ble_eq_true rfl⟩) (fun r9 u9 H locs hw9 hP' hD' hS => ?_)
      clear hPc hDc hFc
      subst hw9
      have hP : va_P (dC, dI) vwCl (b_w cB cC cI cJ cZ oA rA u_15.2) H := hP'
      clear hP' hD'
      refine lv_iload_n hx hb dX10_string_91 rfl (lv_at hl 2 rfl) ?_
      refine lv_iadd hx hb dX10_string_92 ?_
      refine lv_iconst (v := 1) hx hb dX10_string_93 (by decide +kernel) ?_
      refine lv_iadd hx hb dX10_string_94 ?_
      refine lv_iload_n hx hb dX10_string_95 rfl (lv_at hl 1 rfl) ?_
      refine lv_isub hx hb dX10_string_96 ?_
      have h9 := Option.some.inj hF_16
      subst h9
      exact W.iret (v := (((u_15.1 + s_1.1) + 1) - p0)) hx hb hr (fun t ht hW => ⟨⟨(((u_15.1 + s_1.1) + 1) - p0), (), rfl, rfl, m_end ht hP, hDD _⟩, hS.F ht⟩) hS.2.2 dX10_string_97
    · have hF_17 := ineg c_11 hF_10
      clear hF_10
      refine lv_aload_n hx hb dX10_string_63 rfl (lv_at hl 0 rfl) ?_
      refine lv_iload_n hx hb dX10_string_64 rfl (lv_at hl 1 rfl) ?_
      obtain ⟨u_18, hu_18, hF_19⟩ := Option.bind_eq_some_iff.mp hF_17
      clear hF_17
      have hPc := bx_P (bs := [b_w cB cC cI cJ cZ oA rA u_9.2]) (bs' := [b_w cB cC cI cJ cZ oA rA u_9.2]) (ws' := (b_w cB cC cI cJ cZ oA rA u_9.2)) hP fl_1 fl_1 [0] rfl
      have hDc := bx_D (bs := [b_w cB cC cI cJ cZ oA rA u_9.2]) (bs' := [b_w cB cC cI cJ cZ oA rA u_9.2]) (ws' := (b_w cB cC cI cJ cZ oA rA u_9.2)) (hDD u_9.2) fl_1 fl_1 [0] (by decide +kernel) rfl
      have hFc := bx_F (bs := [b_w cB cC cI cJ cZ oA rA u_9.2]) (bs' := [b_w cB cC cI cJ cZ oA rA u_9.2]) (wc := (b_w cB cC cI cJ cZ oA rA u_9.2)) (hDD u_9.2) hS hA fl_1 fl_1 [0] rfl
      refine g_ofi (wc := (b_w cB cC cI cJ cZ oA rA u_9.2)) (wr := ([] : va_W)) hP (hDD u_9.2) hS hFc (bx_ix [b_w cB cC cI cJ cZ oA rA u_9.2] [0]) (bx_ix [b_w cB cC cI cJ cZ oA rA u_9.2] []) (bx_C (bs := [b_w cB cC cI cJ cZ oA rA u_9.2]) (bs' := [b_w cB cC cI cJ cZ oA rA u_9.2]) (is := [0]) fl_1 fl_1 rfl) (bx_C (bs := [b_w cB cC cI cJ cZ oA rA u_9.2]) (bs' := []) (is := []) fl_1 fl_0 rfl) (bx_n (by decide +kernel)) (bx_d (by decide +kernel)) (va_runV (As := [.int p0]) (rest := []) ⟨hx, hb, hml, hown, hts⟩ (k_X10_bad l dC dI cB cC cI cJ cZ cP oA rA H.size  p0 u_9.2 _ hu_18) (cwV 1 hts (g_gV wq_428 wq_429 wq_1985 wq_2 wq_430) rfl rfl rfl (by decide +kernel) ⟨Nat.le_of_ble_eq_true rfl, Nat.le_of_ble_eq_true rfl⟩) (g_preV g_bl0 hK hPc hDc hS hE hFc g_to0 (q0 := 0) (ci := 10) rfl rfl) rfl rfl hl.1 rfl (lv_room (Nat.le_of_ble_eq_true rfl)) dX10_string_65 ⟨Nat.le_of_ble_eq_true rfl, Nat.le_of_ble_eq_true rfl⟩) (fun r9 u9 H locs hw9 hP' hD' hS => ?_)
      clear hPc hDc hFc
      subst hw9
      have hP : va_P (dC, dI) vwCl (b_w cB cC cI cJ cZ oA rA u_18.2) H := hP'
      clear hP' hD'
      have h9 := Option.some.inj hF_19
      subst h9
      exact W.iret (v := u_18.1) hx hb hr (fun t ht hW => ⟨⟨u_18.1, (), rfl, rfl, m_end ht hP, hDD _⟩, hS.F ht⟩) hS.2.2 dX10_string_68
  refine lv_icmp_ge (tgt := 53) hx hb dX10_string_9 (by decide) (fun c_20 => ?_) (fun c_20 => ?_)
  · have hF_21 := ipos c_20 hF_7
    clear hF_7
    exact Jj_6  s_1.2 hF_21 _ _ hP hS ls (lv_sub hl [0, 1, 2] rfl)
  · have hF_22 := ineg c_20 hF_7
    clear hF_7
    refine lv_aload_n hx hb dX10_string_12 rfl (lv_at hl 0 rfl) ?_
    refine lv_iload_n hx hb dX10_string_13 rfl (lv_at hl 2 rfl) ?_
    obtain ⟨u_23, hu_23, hF_24⟩ := Option.bind_eq_some_iff.mp hF_22
    clear hF_22
    have hPc := bx_P (bs := [b_w cB cC cI cJ cZ oA rA s_1.2]) (bs' := [b_w cB cC cI cJ cZ oA rA s_1.2]) (ws' := (b_w cB cC cI cJ cZ oA rA s_1.2)) hP fl_1 fl_1 [0] rfl
    have hDc := bx_D (bs := [b_w cB cC cI cJ cZ oA rA s_1.2]) (bs' := [b_w cB cC cI cJ cZ oA rA s_1.2]) (ws' := (b_w cB cC cI cJ cZ oA rA s_1.2)) (hDD s_1.2) fl_1 fl_1 [0] (by decide +kernel) rfl
    have hFc := bx_F (bs := [b_w cB cC cI cJ cZ oA rA s_1.2]) (bs' := [b_w cB cC cI cJ cZ oA rA s_1.2]) (wc := (b_w cB cC cI cJ cZ oA rA s_1.2)) (hDD s_1.2) hS hA fl_1 fl_1 [0] rfl
    refine g_ofi (wc := (b_w cB cC cI cJ cZ oA rA s_1.2)) (wr := ([] : va_W)) hP (hDD s_1.2) hS hFc (bx_ix [b_w cB cC cI cJ cZ oA rA s_1.2] [0]) (bx_ix [b_w cB cC cI cJ cZ oA rA s_1.2] []) (bx_C (bs := [b_w cB cC cI cJ cZ oA rA s_1.2]) (bs' := [b_w cB cC cI cJ cZ oA rA s_1.2]) (is := [0]) fl_1 fl_1 rfl) (bx_C (bs := [b_w cB cC cI cJ cZ oA rA s_1.2]) (bs' := []) (is := []) fl_1 fl_0 rfl) (bx_n (by decide +kernel)) (bx_d (by decide +kernel)) (va_runV (As := [.int s_1.1]) (rest := []) ⟨hx, hb, hml, hown, hts⟩ (k_X10_signAt l dC dI cB cC cI cJ cZ cP oA rA H.size  s_1.1 s_1.2 _ hu_23) (cwV 1 hts (g_gV wq_419 wq_420 wq_1983 wq_2 wq_421) rfl rfl rfl (by decide +kernel) ⟨Nat.le_of_ble_eq_true rfl, Nat.le_of_ble_eq_true rfl⟩) (g_preV g_bl0 hK hPc hDc hS hE hFc g_to0 (q0 := 0) (ci := 10) rfl rfl) rfl rfl hl.1 rfl (lv_room (Nat.le_of_ble_eq_true rfl)) dX10_string_14 ⟨Nat.le_of_ble_eq_true rfl, Nat.le_of_ble_eq_true rfl⟩) (fun r9 u9 H locs hw9 hP' hD' hS => ?_)
    clear hPc hDc hFc
    subst hw9
    have hP : va_P (dC, dI) vwCl (b_w cB cC cI cJ cZ oA rA u_23.2) H := hP'
    clear hP' hD'
    refine lv_bipush (v := 34) hx hb dX10_string_17 (by decide +kernel) ?_
    refine lv_icmp_eq (tgt := 53) hx hb dX10_string_19 (by decide) (fun c_25 => ?_) (fun c_25 => ?_)
    · have hF_26 := ipos c_25 hF_24
      clear hF_24
      exact Jj_6  u_23.2 hF_26 _ _ hP hS ls (lv_sub hl [0, 1, 2] rfl)
    · have hF_27 := ineg c_25 hF_24
      clear hF_24
      refine lv_aload_n hx hb dX10_string_22 rfl (lv_at hl 0 rfl) ?_
      refine lv_iload_n hx hb dX10_string_23 rfl (lv_at hl 2 rfl) ?_
      obtain ⟨u_28, hu_28, hF_29⟩ := Option.bind_eq_some_iff.mp hF_27
      clear hF_27
      have hPc := bx_P (bs := [b_w cB cC cI cJ cZ oA rA u_23.2]) (bs' := [b_w cB cC cI cJ cZ oA rA u_23.2]) (ws' := (b_w cB cC cI cJ cZ oA rA u_23.2)) hP fl_1 fl_1 [0] rfl
      have hDc := bx_D (bs := [b_w cB cC cI cJ cZ oA rA u_23.2]) (bs' := [b_w cB cC cI cJ cZ oA rA u_23.2]) (ws' := (b_w cB cC cI cJ cZ oA rA u_23.2)) (hDD u_23.2) fl_1 fl_1 [0] (by decide +kernel) rfl
      have hFc := bx_F (bs := [b_w cB cC cI cJ cZ oA rA u_23.2]) (bs' := [b_w cB cC cI cJ cZ oA rA u_23.2]) (wc := (b_w cB cC cI cJ cZ oA rA u_23.2)) (hDD u_23.2) hS hA fl_1 fl_1 [0] rfl
      refine g_ofi (wc := (b_w cB cC cI cJ cZ oA rA u_23.2)) (wr := ([] : va_W)) hP (hDD u_23.2) hS hFc (bx_ix [b_w cB cC cI cJ cZ oA rA u_23.2] [0]) (bx_ix [b_w cB cC cI cJ cZ oA rA u_23.2] []) (bx_C (bs := [b_w cB cC cI cJ cZ oA rA u_23.2]) (bs' := [b_w cB cC cI cJ cZ oA rA u_23.2]) (is := [0]) fl_1 fl_1 rfl) (bx_C (bs := [b_w cB cC cI cJ cZ oA rA u_23.2]) (bs' := []) (is := []) fl_1 fl_0 rfl) (bx_n (by decide +kernel)) (bx_d (by decide +kernel)) (va_runV (As := [.int s_1.1]) (rest := []) ⟨hx, hb, hml, hown, hts⟩ (k_X10_signAt l dC dI cB cC cI cJ cZ cP oA rA H.size  s_1.1 u_23.2 _ hu_28) (cwV 1 hts (g_gV wq_419 wq_420 wq_1983 wq_2 wq_421) rfl rfl rfl (by decide +kernel) ⟨Nat.le_of_ble_eq_true rfl, Nat.le_of_ble_eq_true rfl⟩) (g_preV g_bl0 hK hPc hDc hS hE hFc g_to0 (q0 := 0) (ci := 10) rfl rfl) rfl rfl hl.1 rfl (lv_room (Nat.le_of_ble_eq_true rfl)) dX10_string_24 ⟨Nat.le_of_ble_eq_true rfl, Nat.le_of_ble_eq_true rfl⟩) (fun r9 u9 H locs hw9 hP' hD' hS => ?_)
      clear hPc hDc hFc
      subst hw9
      have hP : va_P (dC, dI) vwCl (b_w cB cC cI cJ cZ oA rA u_28.2) H := hP'
      clear hP' hD'
      refine lv_bipush (v := 10) hx hb dX10_string_27 (by decide +kernel) ?_
      refine lv_icmp_eq (tgt := 53) hx hb dX10_string_29 (by decide) (fun c_30 => ?_) (fun c_30 => ?_)
      · have hF_31 := ipos c_30 hF_29
        clear hF_29
        exact Jj_6  u_28.2 hF_31 _ _ hP hS ls (lv_sub hl [0, 1, 2] rfl)
      · have hF_32 := ineg c_30 hF_29
        clear hF_29
        refine lv_iload_n hx hb dX10_string_32 rfl (lv_at hl 2 rfl) ?_
        refine lv_iload_n hx hb dX10_string_33 rfl (lv_at hl 1 rfl) ?_
        refine lv_isub hx hb dX10_string_34 ?_
        refine lv_sipush (v := 200) hx hb dX10_string_35 (by decide +kernel) ?_
        refine lv_icmp_le (tgt := 47) hx hb dX10_string_38 (by decide) (fun c_33 => ?_) (fun c_33 => ?_)
        · have hF_34 := ipos c_33 hF_32
          clear hF_32
          obtain ⟨x_35, ex_35, hF_36⟩ := bnd_e hF_34
          clear hF_34
          refine lv_iinc (v := x_35) (lv' := [(2, .int x_35), (0, .ref (oA 1)), (1, .int p0)]) hx hb dX10_string_47 hl (k := 2) rfl (by rw [ex_35]; rfl) (by decide) rfl (fun ls hl => ?_)
          refine lv_goto (tgt := 4) hx hb dX10_string_50 (by decide) ?_
          exact ih_3 (x_35, u_28.2) hF_36 _ _ hP hS ls (lv_sub hl [1, 2, 0] rfl)
        · have hF_37 := ineg c_33 hF_32
          clear hF_32
          refine lv_aload_n hx hb dX10_string_41 rfl (lv_at hl 0 rfl) ?_
          refine lv_iload_n hx hb dX10_string_42 rfl (lv_at hl 1 rfl) ?_
          obtain ⟨u_38, hu_38, hF_39⟩ := Option.bind_eq_some_iff.mp hF_37
          clear hF_37
          have hPc := bx_P (bs := [b_w cB cC cI cJ cZ oA rA u_28.2]) (bs' := [b_w cB cC cI cJ cZ oA rA u_28.2]) (ws' := (b_w cB cC cI cJ cZ oA rA u_28.2)) hP fl_1 fl_1 [0] rfl
          have hDc := bx_D (bs := [b_w cB cC cI cJ cZ oA rA u_28.2]) (bs' := [b_w cB cC cI cJ cZ oA rA u_28.2]) (ws' := (b_w cB cC cI cJ cZ oA rA u_28.2)) (hDD u_28.2) fl_1 fl_1 [0] (by decide +kernel) rfl
          have hFc := bx_F (bs := [b_w cB cC cI cJ cZ oA rA u_28.2]) (bs' := [b_w cB cC cI cJ cZ oA rA u_28.2]) (wc := (b_w cB cC cI cJ cZ oA rA u_28.2)) (hDD u_28.2) hS hA fl_1 fl_1 [0] rfl
          refine g_ofi (wc := (b_w cB cC cI cJ cZ oA rA u_28.2)) (wr := ([] : va_W)) hP (hDD u_28.2) hS hFc (bx_ix [b_w cB cC cI cJ cZ oA rA u_28.2] [0]) (bx_ix [b_w cB cC cI cJ cZ oA rA u_28.2] []) (bx_C (bs := [b_w cB cC cI cJ cZ oA rA u_28.2]) (bs' := [b_w cB cC cI cJ cZ oA rA u_28.2]) (is := [0]) fl_1 fl_1 rfl) (bx_C (bs := [b_w cB cC cI cJ cZ oA rA u_28.2]) (bs' := []) (is := []) fl_1 fl_0 rfl) (bx_n (by decide +kernel)) (bx_d (by decide +kernel)) (va_runV (As := [.int p0]) (rest := []) ⟨hx, hb, hml, hown, hts⟩ (k_X10_bad l dC dI cB cC cI cJ cZ cP oA rA H.size  p0 u_28.2 _ hu_38) (cwV 1 hts (g_gV wq_428 wq_429 wq_1985 wq_2 wq_430) rfl rfl rfl (by decide +kernel) ⟨Nat.le_of_ble_eq_true rfl, Nat.le_of_ble_eq_true rfl⟩) (g_preV g_bl0 hK hPc hDc hS hE hFc g_to0 (q0 := 0) (ci := 10) rfl rfl) rfl rfl hl.1 rfl (lv_room (Nat.le_of_ble_eq_true rfl)) dX10_string_43 ⟨Nat.le_of_ble_eq_true rfl, Nat.le_of_ble_eq_true rfl⟩) (fun r9 u9 H locs hw9 hP' hD' hS => ?_)
          clear hPc hDc hFc
          subst hw9
          have hP : va_P (dC, dI) vwCl (b_w cB cC cI cJ cZ oA rA u_38.2) H := hP'
          clear hP' hD'
          have h9 := Option.some.inj hF_39
          subst h9
          exact W.iret (v := u_38.1) hx hb hr (fun t ht hW => ⟨⟨u_38.1, (), rfl, rfl, m_end ht hP, hDD _⟩, hS.F ht⟩) hS.2.2 dX10_string_46
theorem dX10_word_0 : decode cX10_word 0 = .ok (.aload_n 0, 1) := by decide +kernel
theorem dX10_word_1 : decode cX10_word 1 = .ok (.iload_n 1, 1) := by decide +kernel
theorem dX10_word_2 : decode cX10_word 2 = .ok (.invokevirtual 130, 3) := by decide +kernel
theorem dX10_word_5 : decode cX10_word 5 = .ok (.istore_n 2, 1) := by decide +kernel
theorem dX10_word_6 : decode cX10_word 6 = .ok (.iload_n 2, 1) := by decide +kernel
theorem dX10_word_7 : decode cX10_word 7 = .ok (.invokestatic 133, 3) := by decide +kernel
theorem dX10_word_10 : decode cX10_word 10 = .ok (.ifCond .eq 9, 3) := by decide +kernel
theorem dX10_word_13 : decode cX10_word 13 = .ok (.aload_n 0, 1) := by decide +kernel
theorem dX10_word_14 : decode cX10_word 14 = .ok (.iload_n 1, 1) := by decide +kernel
theorem dX10_word_15 : decode cX10_word 15 = .ok (.invokevirtual 137, 3) := by decide +kernel
theorem dX10_word_18 : decode cX10_word 18 = .ok (.ireturn, 1) := by decide +kernel
theorem dX10_word_19 : decode cX10_word 19 = .ok (.iload_n 2, 1) := by decide +kernel
theorem dX10_word_20 : decode cX10_word 20 = .ok (.invokestatic 140, 3) := by decide +kernel
theorem dX10_word_23 : decode cX10_word 23 = .ok (.ifCond .eq 9, 3) := by decide +kernel
theorem dX10_word_26 : decode cX10_word 26 = .ok (.aload_n 0, 1) := by decide +kernel
theorem dX10_word_27 : decode cX10_word 27 = .ok (.iload_n 1, 1) := by decide +kernel
theorem dX10_word_28 : decode cX10_word 28 = .ok (.invokevirtual 143, 3) := by decide +kernel
theorem dX10_word_31 : decode cX10_word 31 = .ok (.ireturn, 1) := by decide +kernel
theorem dX10_word_32 : decode cX10_word 32 = .ok (.iload_n 2, 1) := by decide +kernel
theorem dX10_word_33 : decode cX10_word 33 = .ok (.bipush 34, 2) := by decide +kernel
theorem dX10_word_35 : decode cX10_word 35 = .ok (.if_icmp .ne 11, 3) := by decide +kernel
theorem dX10_word_38 : decode cX10_word 38 = .ok (.aload_n 0, 1) := by decide +kernel
theorem dX10_word_39 : decode cX10_word 39 = .ok (.iload_n 1, 1) := by decide +kernel
theorem dX10_word_40 : decode cX10_word 40 = .ok (.invokevirtual 146, 3) := by decide +kernel
theorem dX10_word_43 : decode cX10_word 43 = .ok (.goto 8, 3) := by decide +kernel
theorem dX10_word_46 : decode cX10_word 46 = .ok (.aload_n 0, 1) := by decide +kernel
theorem dX10_word_47 : decode cX10_word 47 = .ok (.iload_n 1, 1) := by decide +kernel
theorem dX10_word_48 : decode cX10_word 48 = .ok (.invokevirtual 149, 3) := by decide +kernel
theorem dX10_word_51 : decode cX10_word 51 = .ok (.ireturn, 1) := by decide +kernel
def F_X10_word (p0 : Int32) (Γ : HS) : HR :=
  (F_X10_signAt p0 Γ).bind fun u_1 =>
  (F_X11_isLetter u_1.1 u_1.2).bind fun u_3 =>
  if u_3.1 = 0 then (
    (F_X11_isFigure u_1.1 u_1.2).bind fun u_7 =>
    if u_7.1 = 0 then (
      if u_1.1 = 34 then (
        (F_X10_string p0 u_1.2).bind fun u_13 =>
        some (u_13.1, u_13.2)
      ) else (
        (F_X10_sign p0 u_1.2).bind fun u_16 =>
        some (u_16.1, u_16.2)
      )
    ) else (
      (F_X10_number p0 u_1.2).bind fun u_19 =>
      some (u_19.1, u_19.2)
    )
  ) else (
    (F_X10_name p0 u_1.2).bind fun u_22 =>
    some (u_22.1, u_22.2)
  )
set_option maxHeartbeats 4000000 in
set_option maxRecDepth 100000 in
theorem k_X10_word (l : Launch) (dC : Nat → ClassId) (dI : Nat → Nat → Nat) (cB cC cI cJ cZ cP : ClassId) (oA : Nat → Nat) (rA : Nat → Nat → Nat) (sz : Nat)  (p0 : Int32) (Γ : HS) (res : Int32 × HS) (hF : F_X10_word p0 Γ = some res) : Met l yX10_word (g_ws yX10_word cX10_word 3 (some .int)) ({ frames := 6, cells := 0, slots := 0, locals := 156 }) (va_Pc [.ref (oA 1), .int p0] (g_B (dC, dI) [(cB, .byte), (cC, .char), (cI, .int), (cJ, .long), (cZ, .boolean), (cP, .object "StoryHouse$Play")] sz (b_w cB cC cI cJ cZ oA rA Γ) g_0)) (va_Qi (fun r (_ : Unit) => r = res.1) (g_Bo (dC, dI) (va_A (b_w cB cC cI cJ cZ oA rA Γ) sz) (fun (_ : Unit) => (b_w cB cC cI cJ cZ oA rA res.2))) (va_A (b_w cB cC cI cJ cZ oA rA Γ) sz)) 0 0 (va_A (b_w cB cC cI cJ cZ oA rA Γ) sz) := by
  refine Met.ofW (cc := cX10_word) (maxL := 3) (ret := (some .int)) (by decide) rfl ?_
  intro p e s m args below meth c s₁ B hml hv
  obtain ⟨rfl, hsz, hP, hK, hD0, hE, hX⟩ := hv
  have hx := B.exec
  have hb := B.bytes
  have hr := B.returns
  have hts0 := atoms_spec (ws := g_ws yX10_word cX10_word 3 (some .int)) B.pre
  have hts : ∀ w ∈ lw_good, w.before ([.ref (oA 1), .int p0] : List Value).toArray s = true := fun w z => hts0 w (List.mem_cons_of_mem _ z)
  have hown : s.vm.findClass RX10 = some m.cls := findClass_of_methodNamed B.named
  have hlocks := B.notSynchronized
  subst hsz
  have hD1 := hD0.self (sz := s.heap.size)
  generalize hAe : va_A (b_w cB cC cI cJ cZ oA rA Γ) s.heap.size = A at hD1 hE hX ⊢
  have hA : ∀ q : Nat, s.heap.size ≤ q → A q := fun q z => by rw [← hAe]; exact Or.inr z
  have hDD : ∀ Γ : HS, va_D A (b_w cB cC cI cJ cZ oA rA Γ) := fun Γ9 => va_D_fst (ws := (b_w cB cC cI cJ cZ oA rA Γ)) (ws' := (b_w cB cC cI cJ cZ oA rA Γ9)) rfl hD1
  have hN := hE.1
  have hS : va_S A s.heap s.heap [] := va_S.rf
  have hl := lv_entry ([.ref (oA 1), .int p0]) (n := 3) (Nat.le_of_ble_eq_true rfl)
  rw [lg_entry_eq]
  generalize (lg_sl ([.ref (oA 1), .int p0]) ++ List.replicate (3 - (lg_sl ([.ref (oA 1), .int p0])).length) Slot.unset).toArray = ls at hl ⊢
  have hl : lv_has ls 3 [(0, .ref (oA 1)), (1, .int p0)] := hl
  unfold F_X10_word at hF
  refine lv_aload_n hx hb dX10_word_0 rfl (lv_at hl 0 rfl) ?_
  refine lv_iload_n hx hb dX10_word_1 rfl (lv_at hl 1 rfl) ?_
  obtain ⟨u_1, hu_1, hF_2⟩ := Option.bind_eq_some_iff.mp hF
  clear hF
  have hPc := bx_P (bs := [b_w cB cC cI cJ cZ oA rA Γ]) (bs' := [b_w cB cC cI cJ cZ oA rA Γ]) (ws' := (b_w cB cC cI cJ cZ oA rA Γ)) hP fl_1 fl_1 [0] rfl
  have hDc := bx_D (bs := [b_w cB cC cI cJ cZ oA rA Γ]) (bs' := [b_w cB cC cI cJ cZ oA rA Γ]) (ws' := (b_w cB cC cI cJ cZ oA rA Γ)) (hDD Γ) fl_1 fl_1 [0] (by decide +kernel) rfl
  have hFc := bx_F (bs := [b_w cB cC cI cJ cZ oA rA Γ]) (bs' := [b_w cB cC cI cJ cZ oA rA Γ]) (wc := (b_w cB cC cI cJ cZ oA rA Γ)) (hDD Γ) hS hA fl_1 fl_1 [0] rfl
  refine g_ofi (wc := (b_w cB cC cI cJ cZ oA rA Γ)) (wr := ([] : va_W)) hP (hDD Γ) hS hFc (bx_ix [b_w cB cC cI cJ cZ oA rA Γ] [0]) (bx_ix [b_w cB cC cI cJ cZ oA rA Γ] []) (bx_C (bs := [b_w cB cC cI cJ cZ oA rA Γ]) (bs' := [b_w cB cC cI cJ cZ oA rA Γ]) (is := [0]) fl_1 fl_1 rfl) (bx_C (bs := [b_w cB cC cI cJ cZ oA rA Γ]) (bs' := []) (is := []) fl_1 fl_0 rfl) (bx_n (by decide +kernel)) (bx_d (by decide +kernel)) (va_runV (As := [.int p0]) (rest := []) ⟨hx, hb, hml, hown, hts⟩ (k_X10_signAt l dC dI cB cC cI cJ cZ cP oA rA s.heap.size  p0 Γ _ hu_1) (cwV 1 hts (g_gV wq_419 wq_420 wq_1983 wq_2 wq_421) rfl rfl rfl (by decide +kernel) ⟨Nat.le_of_ble_eq_true rfl, Nat.le_of_ble_eq_true rfl⟩) (g_preV g_bl0 hK hPc hDc hS hE hFc g_to0 (q0 := 0) (ci := 10) rfl rfl) rfl rfl hl.1 rfl (lv_room (Nat.le_of_ble_eq_true rfl)) dX10_word_2 ⟨Nat.le_of_ble_eq_true rfl, Nat.le_of_ble_eq_true rfl⟩) (fun r9 u9 H locs hw9 hP' hD' hS => ?_)
  clear hPc hDc hFc
  subst hw9
  have hP : va_P (dC, dI) vwCl (b_w cB cC cI cJ cZ oA rA u_1.2) H := hP'
  clear hP' hD'
  refine lv_istore_n (lv' := [(2, .int u_1.1), (0, .ref (oA 1)), (1, .int p0)]) hx hb dX10_word_5 rfl hl (by decide) rfl (fun ls hl => ?_)
  refine lv_iload_n hx hb dX10_word_6 rfl (lv_at hl 0 rfl) ?_
  obtain ⟨u_3, hu_3, hF_4⟩ := Option.bind_eq_some_iff.mp hF_2
  clear hF_2
  have hPc : va_P (dC, dI) vwCl [] H := fun k q z => by simp at z
  have hDc : va_D A [] := ⟨fun i j p q z => by simp at z, fun k q z => by simp at z⟩
  have hFc := c_nil hA hS
  refine c_cs (v := u_3.1) hA hP hS (va_runSN (As := [.int u_1.1]) (rest := []) ⟨hx, hb, hml, hown, hts⟩ (k_X11_isLetter l dC dI cB cC cI cJ cZ cP oA rA H.size  u_1.1 u_1.2 _ hu_3) ⟨va_cnB 1 hts (g_gA wq_400) rfl rfl rfl (nw_11 hN) (hts (.initialized RX11) wq_1) (by decide +kernel) ⟨Nat.le_of_ble_eq_true rfl, Nat.le_of_ble_eq_true rfl⟩, (hts (.static yX11_isLetter) wq_399), trivial⟩ (g_preS g_bl0 hK hPc hDc hS hE hFc g_to0) rfl rfl hl.1 rfl (lv_room (Nat.le_of_ble_eq_true rfl)) dX10_word_7 ⟨Nat.le_of_ble_eq_true rfl, Nat.le_of_ble_eq_true rfl⟩) (fun H locs hP hS => ?_)
  clear hPc hDc hFc
  refine lv_if_eq (tgt := 19) hx hb dX10_word_10 (by decide) (fun c_5 => ?_) (fun c_5 => ?_)
  · have hF_6 := ipos c_5 hF_4
    clear hF_4
    refine lv_iload_n hx hb dX10_word_19 rfl (lv_at hl 0 rfl) ?_
    obtain ⟨u_7, hu_7, hF_8⟩ := Option.bind_eq_some_iff.mp hF_6
    clear hF_6
    have hPc : va_P (dC, dI) vwCl [] H := fun k q z => by simp at z
    have hDc : va_D A [] := ⟨fun i j p q z => by simp at z, fun k q z => by simp at z⟩
    have hFc := c_nil hA hS
    refine c_cs (v := u_7.1) hA hP hS (va_runSN (As := [.int u_1.1]) (rest := []) ⟨hx, hb, hml, hown, hts⟩ (k_X11_isFigure l dC dI cB cC cI cJ cZ cP oA rA H.size  u_1.1 u_1.2 _ hu_7) ⟨va_cnB 1 hts (g_gA wq_426) rfl rfl rfl (nw_12 hN) (hts (.initialized RX11) wq_1) (by decide +kernel) ⟨Nat.le_of_ble_eq_true rfl, Nat.le_of_ble_eq_true rfl⟩, (hts (.static yX11_isFigure) wq_425), trivial⟩ (g_preS g_bl0 hK hPc hDc hS hE hFc g_to0) rfl rfl hl.1 rfl (lv_room (Nat.le_of_ble_eq_true rfl)) dX10_word_20 ⟨Nat.le_of_ble_eq_true rfl, Nat.le_of_ble_eq_true rfl⟩) (fun H locs hP hS => ?_)
    clear hPc hDc hFc
    refine lv_if_eq (tgt := 32) hx hb dX10_word_23 (by decide) (fun c_9 => ?_) (fun c_9 => ?_)
    · have hF_10 := ipos c_9 hF_8
      clear hF_8
      refine lv_iload_n hx hb dX10_word_32 rfl (lv_at hl 0 rfl) ?_
      refine lv_bipush (v := 34) hx hb dX10_word_33 (by decide +kernel) ?_
      refine lv_icmp_ne (tgt := 46) hx hb dX10_word_35 (by decide) (fun c_11 => ?_) (fun c_11 => ?_)
      · have hF_15 := ineg c_11 hF_10
        clear hF_10
        refine lv_aload_n hx hb dX10_word_46 rfl (lv_at hl 1 rfl) ?_
        refine lv_iload_n hx hb dX10_word_47 rfl (lv_at hl 2 rfl) ?_
        obtain ⟨u_16, hu_16, hF_17⟩ := Option.bind_eq_some_iff.mp hF_15
        clear hF_15
        have hPc := bx_P (bs := [b_w cB cC cI cJ cZ oA rA u_1.2]) (bs' := [b_w cB cC cI cJ cZ oA rA u_1.2]) (ws' := (b_w cB cC cI cJ cZ oA rA u_1.2)) hP fl_1 fl_1 [0] rfl
        have hDc := bx_D (bs := [b_w cB cC cI cJ cZ oA rA u_1.2]) (bs' := [b_w cB cC cI cJ cZ oA rA u_1.2]) (ws' := (b_w cB cC cI cJ cZ oA rA u_1.2)) (hDD u_1.2) fl_1 fl_1 [0] (by decide +kernel) rfl
        have hFc := bx_F (bs := [b_w cB cC cI cJ cZ oA rA u_1.2]) (bs' := [b_w cB cC cI cJ cZ oA rA u_1.2]) (wc := (b_w cB cC cI cJ cZ oA rA u_1.2)) (hDD u_1.2) hS hA fl_1 fl_1 [0] rfl
        refine g_ofi (wc := (b_w cB cC cI cJ cZ oA rA u_1.2)) (wr := ([] : va_W)) hP (hDD u_1.2) hS hFc (bx_ix [b_w cB cC cI cJ cZ oA rA u_1.2] [0]) (bx_ix [b_w cB cC cI cJ cZ oA rA u_1.2] []) (bx_C (bs := [b_w cB cC cI cJ cZ oA rA u_1.2]) (bs' := [b_w cB cC cI cJ cZ oA rA u_1.2]) (is := [0]) fl_1 fl_1 rfl) (bx_C (bs := [b_w cB cC cI cJ cZ oA rA u_1.2]) (bs' := []) (is := []) fl_1 fl_0 rfl) (bx_n (by decide +kernel)) (bx_d (by decide +kernel)) (va_runV (As := [.int p0]) (rest := []) ⟨hx, hb, hml, hown, hts⟩ (k_X10_sign l dC dI cB cC cI cJ cZ cP oA rA H.size  p0 u_1.2 _ hu_16) (cwV 1 hts (g_gV wq_441 wq_442 wq_1989 wq_2 wq_443) rfl rfl rfl (by decide +kernel) ⟨Nat.le_of_ble_eq_true rfl, Nat.le_of_ble_eq_true rfl⟩) (g_preV g_bl0 hK hPc hDc hS hE hFc g_to0 (q0 := 0) (ci := 10) rfl rfl) rfl rfl hl.1 rfl (lv_room (Nat.le_of_ble_eq_true rfl)) dX10_word_48 ⟨Nat.le_of_ble_eq_true rfl, Nat.le_of_ble_eq_true rfl⟩) (fun r9 u9 H locs hw9 hP' hD' hS => ?_)
        clear hPc hDc hFc
        subst hw9
        have hP : va_P (dC, dI) vwCl (b_w cB cC cI cJ cZ oA rA u_16.2) H := hP'
        clear hP' hD'
        have h9 := Option.some.inj hF_17
        subst h9
        exact W.iret (v := u_16.1) hx hb hr (fun t ht hW => ⟨⟨u_16.1, (), rfl, rfl, m_end ht hP, hDD _⟩, hS.F ht⟩) hS.2.2 dX10_word_51
      · have hF_12 := ipos c_11 hF_10
        clear hF_10
        refine lv_aload_n hx hb dX10_word_38 rfl (lv_at hl 1 rfl) ?_
        refine lv_iload_n hx hb dX10_word_39 rfl (lv_at hl 2 rfl) ?_
        obtain ⟨u_13, hu_13, hF_14⟩ := Option.bind_eq_some_iff.mp hF_12
        clear hF_12
        have hPc := bx_P (bs := [b_w cB cC cI cJ cZ oA rA u_1.2]) (bs' := [b_w cB cC cI cJ cZ oA rA u_1.2]) (ws' := (b_w cB cC cI cJ cZ oA rA u_1.2)) hP fl_1 fl_1 [0] rfl
        have hDc := bx_D (bs := [b_w cB cC cI cJ cZ oA rA u_1.2]) (bs' := [b_w cB cC cI cJ cZ oA rA u_1.2]) (ws' := (b_w cB cC cI cJ cZ oA rA u_1.2)) (hDD u_1.2) fl_1 fl_1 [0] (by decide +kernel) rfl
        have hFc := bx_F (bs := [b_w cB cC cI cJ cZ oA rA u_1.2]) (bs' := [b_w cB cC cI cJ cZ oA rA u_1.2]) (wc := (b_w cB cC cI cJ cZ oA rA u_1.2)) (hDD u_1.2) hS hA fl_1 fl_1 [0] rfl
        refine g_ofi (wc := (b_w cB cC cI cJ cZ oA rA u_1.2)) (wr := ([] : va_W)) hP (hDD u_1.2) hS hFc (bx_ix [b_w cB cC cI cJ cZ oA rA u_1.2] [0]) (bx_ix [b_w cB cC cI cJ cZ oA rA u_1.2] []) (bx_C (bs := [b_w cB cC cI cJ cZ oA rA u_1.2]) (bs' := [b_w cB cC cI cJ cZ oA rA u_1.2]) (is := [0]) fl_1 fl_1 rfl) (bx_C (bs := [b_w cB cC cI cJ cZ oA rA u_1.2]) (bs' := []) (is := []) fl_1 fl_0 rfl) (bx_n (by decide +kernel)) (bx_d (by decide +kernel)) (va_runV (As := [.int p0]) (rest := []) ⟨hx, hb, hml, hown, hts⟩ (k_X10_string l dC dI cB cC cI cJ cZ cP oA rA H.size  p0 u_1.2 _ hu_13) (cwV 1 hts (g_gV wq_438 wq_439 wq_1988 wq_2 wq_440) rfl rfl rfl (by decide +kernel) ⟨Nat.le_of_ble_eq_true rfl, Nat.le_of_ble_eq_true rfl⟩) (g_preV g_bl0 hK hPc hDc hS hE hFc g_to0 (q0 := 0) (ci := 10) rfl rfl) rfl rfl hl.1 rfl (lv_room (Nat.le_of_ble_eq_true rfl)) dX10_word_40 ⟨Nat.le_of_ble_eq_true rfl, Nat.le_of_ble_eq_true rfl⟩) (fun r9 u9 H locs hw9 hP' hD' hS => ?_)
        clear hPc hDc hFc
        subst hw9
        have hP : va_P (dC, dI) vwCl (b_w cB cC cI cJ cZ oA rA u_13.2) H := hP'
        clear hP' hD'
        refine lv_goto (tgt := 51) hx hb dX10_word_43 (by decide) ?_
        have h9 := Option.some.inj hF_14
        subst h9
        exact W.iret (v := u_13.1) hx hb hr (fun t ht hW => ⟨⟨u_13.1, (), rfl, rfl, m_end ht hP, hDD _⟩, hS.F ht⟩) hS.2.2 dX10_word_51
    · have hF_18 := ineg c_9 hF_8
      clear hF_8
      refine lv_aload_n hx hb dX10_word_26 rfl (lv_at hl 1 rfl) ?_
      refine lv_iload_n hx hb dX10_word_27 rfl (lv_at hl 2 rfl) ?_
      obtain ⟨u_19, hu_19, hF_20⟩ := Option.bind_eq_some_iff.mp hF_18
      clear hF_18
      have hPc := bx_P (bs := [b_w cB cC cI cJ cZ oA rA u_1.2]) (bs' := [b_w cB cC cI cJ cZ oA rA u_1.2]) (ws' := (b_w cB cC cI cJ cZ oA rA u_1.2)) hP fl_1 fl_1 [0] rfl
      have hDc := bx_D (bs := [b_w cB cC cI cJ cZ oA rA u_1.2]) (bs' := [b_w cB cC cI cJ cZ oA rA u_1.2]) (ws' := (b_w cB cC cI cJ cZ oA rA u_1.2)) (hDD u_1.2) fl_1 fl_1 [0] (by decide +kernel) rfl
      have hFc := bx_F (bs := [b_w cB cC cI cJ cZ oA rA u_1.2]) (bs' := [b_w cB cC cI cJ cZ oA rA u_1.2]) (wc := (b_w cB cC cI cJ cZ oA rA u_1.2)) (hDD u_1.2) hS hA fl_1 fl_1 [0] rfl
      refine g_ofi (wc := (b_w cB cC cI cJ cZ oA rA u_1.2)) (wr := ([] : va_W)) hP (hDD u_1.2) hS hFc (bx_ix [b_w cB cC cI cJ cZ oA rA u_1.2] [0]) (bx_ix [b_w cB cC cI cJ cZ oA rA u_1.2] []) (bx_C (bs := [b_w cB cC cI cJ cZ oA rA u_1.2]) (bs' := [b_w cB cC cI cJ cZ oA rA u_1.2]) (is := [0]) fl_1 fl_1 rfl) (bx_C (bs := [b_w cB cC cI cJ cZ oA rA u_1.2]) (bs' := []) (is := []) fl_1 fl_0 rfl) (bx_n (by decide +kernel)) (bx_d (by decide +kernel)) (va_runV (As := [.int p0]) (rest := []) ⟨hx, hb, hml, hown, hts⟩ (k_X10_number l dC dI cB cC cI cJ cZ cP oA rA H.size  p0 u_1.2 _ hu_19) (cwV 1 hts (g_gV wq_434 wq_435 wq_1987 wq_2 wq_436) rfl rfl rfl (by decide +kernel) ⟨Nat.le_of_ble_eq_true rfl, Nat.le_of_ble_eq_true rfl⟩) (g_preV g_bl0 hK hPc hDc hS hE hFc g_to0 (q0 := 0) (ci := 10) rfl rfl) rfl rfl hl.1 rfl (lv_room (Nat.le_of_ble_eq_true rfl)) dX10_word_28 ⟨Nat.le_of_ble_eq_true rfl, Nat.le_of_ble_eq_true rfl⟩) (fun r9 u9 H locs hw9 hP' hD' hS => ?_)
      clear hPc hDc hFc
      subst hw9
      have hP : va_P (dC, dI) vwCl (b_w cB cC cI cJ cZ oA rA u_19.2) H := hP'
      clear hP' hD'
      have h9 := Option.some.inj hF_20
      subst h9
      exact W.iret (v := u_19.1) hx hb hr (fun t ht hW => ⟨⟨u_19.1, (), rfl, rfl, m_end ht hP, hDD _⟩, hS.F ht⟩) hS.2.2 dX10_word_31
  · have hF_21 := ineg c_5 hF_4
    clear hF_4
    refine lv_aload_n hx hb dX10_word_13 rfl (lv_at hl 1 rfl) ?_
    refine lv_iload_n hx hb dX10_word_14 rfl (lv_at hl 2 rfl) ?_
    obtain ⟨u_22, hu_22, hF_23⟩ := Option.bind_eq_some_iff.mp hF_21
    clear hF_21
    have hPc := bx_P (bs := [b_w cB cC cI cJ cZ oA rA u_1.2]) (bs' := [b_w cB cC cI cJ cZ oA rA u_1.2]) (ws' := (b_w cB cC cI cJ cZ oA rA u_1.2)) hP fl_1 fl_1 [0] rfl
    have hDc := bx_D (bs := [b_w cB cC cI cJ cZ oA rA u_1.2]) (bs' := [b_w cB cC cI cJ cZ oA rA u_1.2]) (ws' := (b_w cB cC cI cJ cZ oA rA u_1.2)) (hDD u_1.2) fl_1 fl_1 [0] (by decide +kernel) rfl
    have hFc := bx_F (bs := [b_w cB cC cI cJ cZ oA rA u_1.2]) (bs' := [b_w cB cC cI cJ cZ oA rA u_1.2]) (wc := (b_w cB cC cI cJ cZ oA rA u_1.2)) (hDD u_1.2) hS hA fl_1 fl_1 [0] rfl
    refine g_ofi (wc := (b_w cB cC cI cJ cZ oA rA u_1.2)) (wr := ([] : va_W)) hP (hDD u_1.2) hS hFc (bx_ix [b_w cB cC cI cJ cZ oA rA u_1.2] [0]) (bx_ix [b_w cB cC cI cJ cZ oA rA u_1.2] []) (bx_C (bs := [b_w cB cC cI cJ cZ oA rA u_1.2]) (bs' := [b_w cB cC cI cJ cZ oA rA u_1.2]) (is := [0]) fl_1 fl_1 rfl) (bx_C (bs := [b_w cB cC cI cJ cZ oA rA u_1.2]) (bs' := []) (is := []) fl_1 fl_0 rfl) (bx_n (by decide +kernel)) (bx_d (by decide +kernel)) (va_runV (As := [.int p0]) (rest := []) ⟨hx, hb, hml, hown, hts⟩ (k_X10_name l dC dI cB cC cI cJ cZ cP oA rA H.size  p0 u_1.2 _ hu_22) (cwV 1 hts (g_gV wq_422 wq_423 wq_1984 wq_2 wq_424) rfl rfl rfl (by decide +kernel) ⟨Nat.le_of_ble_eq_true rfl, Nat.le_of_ble_eq_true rfl⟩) (g_preV g_bl0 hK hPc hDc hS hE hFc g_to0 (q0 := 0) (ci := 10) rfl rfl) rfl rfl hl.1 rfl (lv_room (Nat.le_of_ble_eq_true rfl)) dX10_word_15 ⟨Nat.le_of_ble_eq_true rfl, Nat.le_of_ble_eq_true rfl⟩) (fun r9 u9 H locs hw9 hP' hD' hS => ?_)
    clear hPc hDc hFc
    subst hw9
    have hP : va_P (dC, dI) vwCl (b_w cB cC cI cJ cZ oA rA u_22.2) H := hP'
    clear hP' hD'
    have h9 := Option.some.inj hF_23
    subst h9
    exact W.iret (v := u_22.1) hx hb hr (fun t ht hW => ⟨⟨u_22.1, (), rfl, rfl, m_end ht hP, hDD _⟩, hS.F ht⟩) hS.2.2 dX10_word_18
