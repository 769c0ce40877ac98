/-! methods of the class: what each does is its function -/
theorem dX2_roomItem_0 : decode cX2_roomItem 0 = .ok (.aload_n 0, 1) := by decide +kernel
theorem dX2_roomItem_1 : decode cX2_roomItem 1 = .ok (.iconst 2, 1) := by decide +kernel
theorem dX2_roomItem_2 : decode cX2_roomItem 2 = .ok (.invokevirtual 120, 3) := by decide +kernel
theorem dX2_roomItem_5 : decode cX2_roomItem 5 = .ok (.aload_n 0, 1) := by decide +kernel
theorem dX2_roomItem_6 : decode cX2_roomItem 6 = .ok (.iconst 4, 1) := by decide +kernel
theorem dX2_roomItem_7 : decode cX2_roomItem 7 = .ok (.invokevirtual 120, 3) := by decide +kernel
theorem dX2_roomItem_10 : decode cX2_roomItem 10 = .ok (.aload_n 0, 1) := by decide +kernel
theorem dX2_roomItem_11 : decode cX2_roomItem 11 = .ok (.bipush 123, 2) := by decide +kernel
theorem dX2_roomItem_13 : decode cX2_roomItem 13 = .ok (.invokevirtual 123, 3) := by decide +kernel
theorem dX2_roomItem_16 : decode cX2_roomItem 16 = .ok (.iconst 0, 1) := by decide +kernel
theorem dX2_roomItem_17 : decode cX2_roomItem 17 = .ok (.istore_n 1, 1) := by decide +kernel
theorem dX2_roomItem_18 : decode cX2_roomItem 18 = .ok (.iload_n 1, 1) := by decide +kernel
theorem dX2_roomItem_19 : decode cX2_roomItem 19 = .ok (.aload_n 0, 1) := by decide +kernel
theorem dX2_roomItem_20 : decode cX2_roomItem 20 = .ok (.getfield 9, 3) := by decide +kernel
theorem dX2_roomItem_23 : decode cX2_roomItem 23 = .ok (.getfield 38, 3) := by decide +kernel
theorem dX2_roomItem_26 : decode cX2_roomItem 26 = .ok (.if_icmp .ge 84, 3) := by decide +kernel
theorem dX2_roomItem_29 : decode cX2_roomItem 29 = .ok (.aload_n 0, 1) := by decide +kernel
theorem dX2_roomItem_30 : decode cX2_roomItem 30 = .ok (.getfield 29, 3) := by decide +kernel
theorem dX2_roomItem_33 : decode cX2_roomItem 33 = .ok (.bipush 125, 2) := by decide +kernel
theorem dX2_roomItem_35 : decode cX2_roomItem 35 = .ok (.if_icmp .eq 75, 3) := by decide +kernel
theorem dX2_roomItem_38 : decode cX2_roomItem 38 = .ok (.aload_n 0, 1) := by decide +kernel
theorem dX2_roomItem_39 : decode cX2_roomItem 39 = .ok (.getfield 29, 3) := by decide +kernel
theorem dX2_roomItem_42 : decode cX2_roomItem 42 = .ok (.ifCond .eq 68, 3) := by decide +kernel
theorem dX2_roomItem_45 : decode cX2_roomItem 45 = .ok (.aload_n 0, 1) := by decide +kernel
theorem dX2_roomItem_46 : decode cX2_roomItem 46 = .ok (.sipush 238, 3) := by decide +kernel
theorem dX2_roomItem_49 : decode cX2_roomItem 49 = .ok (.invokevirtual 126, 3) := by decide +kernel
theorem dX2_roomItem_52 : decode cX2_roomItem 52 = .ok (.ifCond .eq 11, 3) := by decide +kernel
theorem dX2_roomItem_55 : decode cX2_roomItem 55 = .ok (.aload_n 0, 1) := by decide +kernel
theorem dX2_roomItem_56 : decode cX2_roomItem 56 = .ok (.iconst 4, 1) := by decide +kernel
theorem dX2_roomItem_57 : decode cX2_roomItem 57 = .ok (.invokevirtual 120, 3) := by decide +kernel
theorem dX2_roomItem_60 : decode cX2_roomItem 60 = .ok (.goto 38, 3) := by decide +kernel
theorem dX2_roomItem_63 : decode cX2_roomItem 63 = .ok (.aload_n 0, 1) := by decide +kernel
theorem dX2_roomItem_64 : decode cX2_roomItem 64 = .ok (.sipush 239, 3) := by decide +kernel
theorem dX2_roomItem_67 : decode cX2_roomItem 67 = .ok (.invokevirtual 126, 3) := by decide +kernel
theorem dX2_roomItem_70 : decode cX2_roomItem 70 = .ok (.ifCond .eq 21, 3) := by decide +kernel
theorem dX2_roomItem_73 : decode cX2_roomItem 73 = .ok (.aload_n 0, 1) := by decide +kernel
theorem dX2_roomItem_74 : decode cX2_roomItem 74 = .ok (.sipush 200, 3) := by decide +kernel
theorem dX2_roomItem_77 : decode cX2_roomItem 77 = .ok (.sipush 205, 3) := by decide +kernel
theorem dX2_roomItem_80 : decode cX2_roomItem 80 = .ok (.invokevirtual 53, 3) := by decide +kernel
theorem dX2_roomItem_83 : decode cX2_roomItem 83 = .ok (.aload_n 0, 1) := by decide +kernel
theorem dX2_roomItem_84 : decode cX2_roomItem 84 = .ok (.iconst 2, 1) := by decide +kernel
theorem dX2_roomItem_85 : decode cX2_roomItem 85 = .ok (.invokevirtual 120, 3) := by decide +kernel
theorem dX2_roomItem_88 : decode cX2_roomItem 88 = .ok (.goto 10, 3) := by decide +kernel
theorem dX2_roomItem_91 : decode cX2_roomItem 91 = .ok (.aload_n 0, 1) := by decide +kernel
theorem dX2_roomItem_92 : decode cX2_roomItem 92 = .ok (.sipush 212, 3) := by decide +kernel
theorem dX2_roomItem_95 : decode cX2_roomItem 95 = .ok (.invokevirtual 120, 3) := by decide +kernel
theorem dX2_roomItem_98 : decode cX2_roomItem 98 = .ok (.aload_n 0, 1) := by decide +kernel
theorem dX2_roomItem_99 : decode cX2_roomItem 99 = .ok (.bipush 59, 2) := by decide +kernel
theorem dX2_roomItem_101 : decode cX2_roomItem 101 = .ok (.invokevirtual 120, 3) := by decide +kernel
theorem dX2_roomItem_104 : decode cX2_roomItem 104 = .ok (.iinc 1 1, 3) := by decide +kernel
theorem dX2_roomItem_107 : decode cX2_roomItem 107 = .ok (.goto (-89), 3) := by decide +kernel
theorem dX2_roomItem_110 : decode cX2_roomItem 110 = .ok (.aload_n 0, 1) := by decide +kernel
theorem dX2_roomItem_111 : decode cX2_roomItem 111 = .ok (.bipush 125, 2) := by decide +kernel
theorem dX2_roomItem_113 : decode cX2_roomItem 113 = .ok (.invokevirtual 130, 3) := by decide +kernel
theorem dX2_roomItem_116 : decode cX2_roomItem 116 = .ok (.return_, 1) := by decide +kernel
def F_X2_roomItem  (Γ : HS) : HR :=
  (F_X2_need 2 Γ).bind fun u_1 =>
  (F_X2_need 4 u_1.2).bind fun u_3 =>
  (F_X2_open 123 u_3.2).bind fun u_5 =>
  loopF (fun (again_8 : (Int32 × HS) → HR) (s_7 : Int32 × HS) => (
    bnd (fun  (σ_11 : HS) => (
      (F_X2_shut 125 σ_11).bind fun u_15 =>
      some (0, u_15.2)
    ) : HS → HR) fun j_12 =>
    if ((s_7.2 1).1 2) ≤ s_7.1 then (
      j_12  s_7.2
    ) else (
      if ((s_7.2 2).1 3) = 125 then (
        j_12  s_7.2
      ) else (
        if ((s_7.2 2).1 3) = 0 then (
          j_12  s_7.2
        ) else (
          (F_X2_accept 238 s_7.2).bind fun u_26 =>
          bnd (fun  (σ_28 : HS) => (
            (F_X2_need 59 σ_28).bind fun u_32 =>
            bnd (s_7.1 + 1) fun (x_34 : Int32) =>
            again_8 (x_34, u_32.2)
          ) : HS → HR) fun j_29 =>
          if u_26.1 = 0 then (
            (F_X2_accept 239 u_26.2).bind fun u_38 =>
            if u_38.1 = 0 then (
              (F_X2_need 212 u_38.2).bind fun u_42 =>
              j_29  u_42.2
            ) else (
              (F_X2_needFrom 200 205 u_38.2).bind fun u_45 =>
              (F_X2_need 2 u_45.2).bind fun u_47 =>
              j_29  u_47.2
            )
          ) else (
            (F_X2_need 4 u_26.2).bind fun u_50 =>
            j_29  u_50.2
          )
        )
      )
    )
  )) FU (0, u_5.2)
set_option maxHeartbeats 4000000 in
set_option maxRecDepth 100000 in
theorem k_X2_roomItem (l : Launch) (dC : Nat → ClassId) (dI : Nat → Nat → Nat) (cB cC cI cJ cZ cP : ClassId) (oA : Nat → Nat) (rA : Nat → Nat → Nat) (sz : Nat)   (Γ : HS) (res : Int32 × HS) (hF : F_X2_roomItem  Γ = some res) : Met l yX2_roomItem (g_ws yX2_roomItem cX2_roomItem 2 none) ({ frames := 4, cells := 0, slots := 0, locals := 103 }) (va_Pc [.ref (oA 2)] (g_B (dC, dI) [(cB, .byte), (cC, .char), (cI, .int), (cJ, .long), (cZ, .boolean), (cP, .object "StoryHouse$Play")] sz (b_g cB cC cI cJ cZ oA rA Γ ++ b_w cB cC cI cJ cZ oA rA Γ ++ b_c cB cC cI cJ cZ oA rA Γ) g_0)) (va_Qv (fun (_ : Unit) => True) (g_Bo (dC, dI) (va_A (b_g cB cC cI cJ cZ oA rA Γ ++ b_w cB cC cI cJ cZ oA rA Γ ++ b_c cB cC cI cJ cZ oA rA Γ) sz) (fun (_ : Unit) => (b_g cB cC cI cJ cZ oA rA res.2 ++ b_w cB cC cI cJ cZ oA rA res.2 ++ b_c cB cC cI cJ cZ oA rA res.2))) (va_A (b_g cB cC cI cJ cZ oA rA Γ ++ b_w cB cC cI cJ cZ oA rA Γ ++ b_c cB cC cI cJ cZ oA rA Γ) sz)) 0 0 (va_A (b_g cB cC cI cJ cZ oA rA Γ ++ b_w cB cC cI cJ cZ oA rA Γ ++ b_c cB cC cI cJ cZ oA rA Γ) sz) := by
  refine Met.ofW (cc := cX2_roomItem) (maxL := 2) (ret := none) (by decide) rfl ?_
  intro p e s m args below meth c s₁ B hml hv
  obtain ⟨rfl, hsz, hP, hK, hD0, hE, hX⟩ := hv
  have hx := B.exec
  have hb := B.bytes
  have hr := B.returns
  have hts0 := atoms_spec (ws := g_ws yX2_roomItem cX2_roomItem 2 none) B.pre
  have hts : ∀ w ∈ lw_good, w.before ([.ref (oA 2)] : List Value).toArray s = true := fun w z => hts0 w (List.mem_cons_of_mem _ z)
  have hown : s.vm.findClass RX2 = some m.cls := findClass_of_methodNamed B.named
  have hlocks := B.notSynchronized
  subst hsz
  have hD1 := hD0.self (sz := s.heap.size)
  generalize hAe : va_A (b_g cB cC cI cJ cZ oA rA Γ ++ b_w cB cC cI cJ cZ oA rA Γ ++ b_c cB cC cI cJ cZ oA rA Γ) s.heap.size = A at hD1 hE hX ⊢
  have hA : ∀ q : Nat, s.heap.size ≤ q → A q := fun q z => by rw [← hAe]; exact Or.inr z
  have hDD : ∀ Γ : HS, va_D A (b_g cB cC cI cJ cZ oA rA Γ ++ b_w cB cC cI cJ cZ oA rA Γ ++ b_c cB cC cI cJ cZ oA rA Γ) := fun Γ9 => va_D_fst (ws := (b_g cB cC cI cJ cZ oA rA Γ ++ b_w cB cC cI cJ cZ oA rA Γ ++ b_c cB cC cI cJ cZ oA rA Γ)) (ws' := (b_g cB cC cI cJ cZ oA rA Γ9 ++ b_w cB cC cI cJ cZ oA rA Γ9 ++ b_c cB cC cI cJ cZ oA rA Γ9)) rfl hD1
  have hN := hE.1
  have hS : va_S A s.heap s.heap [] := va_S.rf
  have hl := lv_entry ([.ref (oA 2)]) (n := 2) (Nat.le_of_ble_eq_true rfl)
  rw [lg_entry_eq]
  generalize (lg_sl ([.ref (oA 2)]) ++ List.replicate (2 - (lg_sl ([.ref (oA 2)])).length) Slot.unset).toArray = ls at hl ⊢
  have hl : lv_has ls 2 [(0, .ref (oA 2))] := hl
  unfold F_X2_roomItem at hF
  refine lv_aload_n hx hb dX2_roomItem_0 rfl (lv_at hl 0 rfl) ?_
  refine lv_iconst (v := 2) hx hb dX2_roomItem_1 (by decide +kernel) ?_
  obtain ⟨u_1, hu_1, hF_2⟩ := Option.bind_eq_some_iff.mp hF
  clear hF
  have hPc := bx_P (bs := [b_g cB cC cI cJ cZ oA rA Γ, b_w cB cC cI cJ cZ oA rA Γ, b_c cB cC cI cJ cZ oA rA Γ]) (bs' := [b_g cB cC cI cJ cZ oA rA Γ, b_w cB cC cI cJ cZ oA rA Γ, b_c cB cC cI cJ cZ oA rA Γ]) (ws' := (b_g cB cC cI cJ cZ oA rA Γ ++ b_w cB cC cI cJ cZ oA rA Γ ++ b_c cB cC cI cJ cZ oA rA Γ)) hP fl_3 fl_3 [0, 1, 2] rfl
  have hDc := bx_D (bs := [b_g cB cC cI cJ cZ oA rA Γ, b_w cB cC cI cJ cZ oA rA Γ, b_c cB cC cI cJ cZ oA rA Γ]) (bs' := [b_g cB cC cI cJ cZ oA rA Γ, b_w cB cC cI cJ cZ oA rA Γ, b_c cB cC cI cJ cZ oA rA Γ]) (ws' := (b_g cB cC cI cJ cZ oA rA Γ ++ b_w cB cC cI cJ cZ oA rA Γ ++ b_c cB cC cI cJ cZ oA rA Γ)) (hDD Γ) fl_3 fl_3 [0, 1, 2] (by decide +kernel) rfl
  have hFc := bx_F (bs := [b_g cB cC cI cJ cZ oA rA Γ, b_w cB cC cI cJ cZ oA rA Γ, b_c cB cC cI cJ cZ oA rA Γ]) (bs' := [b_g cB cC cI cJ cZ oA rA Γ, b_w cB cC cI cJ cZ oA rA Γ, b_c cB cC cI cJ cZ oA rA Γ]) (wc := (b_g cB cC cI cJ cZ oA rA Γ ++ b_w cB cC cI cJ cZ oA rA Γ ++ b_c cB cC cI cJ cZ oA rA Γ)) (hDD Γ) hS hA fl_3 fl_3 [0, 1, 2] rfl
  refine g_ofv (wc := (b_g cB cC cI cJ cZ oA rA Γ ++ b_w cB cC cI cJ cZ oA rA Γ ++ b_c cB cC cI cJ cZ oA rA Γ)) (wr := ([] : va_W)) hP (hDD Γ) hS hFc (bx_ix [b_g cB cC cI cJ cZ oA rA Γ, b_w cB cC cI cJ cZ oA rA Γ, b_c cB cC cI cJ cZ oA rA Γ] [0, 1, 2]) (bx_ix [b_g cB cC cI cJ cZ oA rA Γ, b_w cB cC cI cJ cZ oA rA Γ, b_c cB cC cI cJ cZ oA rA Γ] []) (bx_C (bs := [b_g cB cC cI cJ cZ oA rA Γ, b_w cB cC cI cJ cZ oA rA Γ, b_c cB cC cI cJ cZ oA rA Γ]) (bs' := [b_g cB cC cI cJ cZ oA rA Γ, b_w cB cC cI cJ cZ oA rA Γ, b_c cB cC cI cJ cZ oA rA Γ]) (is := [0, 1, 2]) fl_3 fl_3 rfl) (bx_C (bs := [b_g cB cC cI cJ cZ oA rA Γ, b_w cB cC cI cJ cZ oA rA Γ, b_c cB cC cI cJ cZ oA rA Γ]) (bs' := []) (is := []) fl_3 fl_0 rfl) (bx_n (by decide +kernel)) (bx_d (by decide +kernel)) (va_runV (As := [.int 2]) (rest := []) ⟨hx, hb, hml, hown, hts⟩ (k_X2_need l dC dI cB cC cI cJ cZ cP oA rA s.heap.size  2 Γ _ hu_1) (cwV 1 hts (g_gV wq_564 wq_565 wq_2000 wq_3 wq_566) rfl rfl rfl (by decide +kernel) ⟨Nat.le_of_ble_eq_true rfl, Nat.le_of_ble_eq_true rfl⟩) (g_preV g_bl0 hK hPc hDc hS hE hFc g_to0 (q0 := 0) (ci := 2) rfl rfl) rfl rfl hl.1 rfl (lv_room (Nat.le_of_ble_eq_true rfl)) dX2_roomItem_2 ⟨Nat.le_of_ble_eq_true rfl, Nat.le_of_ble_eq_true rfl⟩) (fun u9 H locs hw9 hP' hD' hS => ?_)
  clear hPc hDc hFc
  have hP : va_P (dC, dI) vwCl (b_g cB cC cI cJ cZ oA rA u_1.2 ++ b_w cB cC cI cJ cZ oA rA u_1.2 ++ b_c cB cC cI cJ cZ oA rA u_1.2) H := hP'
  clear hP' hD'
  refine lv_aload_n hx hb dX2_roomItem_5 rfl (lv_at hl 0 rfl) ?_
  refine lv_iconst (v := 4) hx hb dX2_roomItem_6 (by decide +kernel) ?_
  obtain ⟨u_3, hu_3, hF_4⟩ := Option.bind_eq_some_iff.mp hF_2
  clear hF_2
  have hPc := bx_P (bs := [b_g cB cC cI cJ cZ oA rA u_1.2, b_w cB cC cI cJ cZ oA rA u_1.2, b_c cB cC cI cJ cZ oA rA u_1.2]) (bs' := [b_g cB cC cI cJ cZ oA rA u_1.2, b_w cB cC cI cJ cZ oA rA u_1.2, b_c cB cC cI cJ cZ oA rA u_1.2]) (ws' := (b_g cB cC cI cJ cZ oA rA u_1.2 ++ b_w cB cC cI cJ cZ oA rA u_1.2 ++ b_c cB cC cI cJ cZ oA rA u_1.2)) hP fl_3 fl_3 [0, 1, 2] rfl
  have hDc := bx_D (bs := [b_g cB cC cI cJ cZ oA rA u_1.2, b_w cB cC cI cJ cZ oA rA u_1.2, b_c cB cC cI cJ cZ oA rA u_1.2]) (bs' := [b_g cB cC cI cJ cZ oA rA u_1.2, b_w cB cC cI cJ cZ oA rA u_1.2, b_c cB cC cI cJ cZ oA rA u_1.2]) (ws' := (b_g cB cC cI cJ cZ oA rA u_1.2 ++ b_w cB cC cI cJ cZ oA rA u_1.2 ++ b_c cB cC cI cJ cZ oA rA u_1.2)) (hDD u_1.2) fl_3 fl_3 [0, 1, 2] (by decide +kernel) rfl
  have hFc := bx_F (bs := [b_g cB cC cI cJ cZ oA rA u_1.2, b_w cB cC cI cJ cZ oA rA u_1.2, b_c cB cC cI cJ cZ oA rA u_1.2]) (bs' := [b_g cB cC cI cJ cZ oA rA u_1.2, b_w cB cC cI cJ cZ oA rA u_1.2, b_c cB cC cI cJ cZ oA rA u_1.2]) (wc := (b_g cB cC cI cJ cZ oA rA u_1.2 ++ b_w cB cC cI cJ cZ oA rA u_1.2 ++ b_c cB cC cI cJ cZ oA rA u_1.2)) (hDD u_1.2) hS hA fl_3 fl_3 [0, 1, 2] rfl
  refine g_ofv (wc := (b_g cB cC cI cJ cZ oA rA u_1.2 ++ b_w cB cC cI cJ cZ oA rA u_1.2 ++ b_c cB cC cI cJ cZ oA rA u_1.2)) (wr := ([] : va_W)) hP (hDD u_1.2) hS hFc (bx_ix [b_g cB cC cI cJ cZ oA rA u_1.2, b_w cB cC cI cJ cZ oA rA u_1.2, b_c cB cC cI cJ cZ oA rA u_1.2] [0, 1, 2]) (bx_ix [b_g cB cC cI cJ cZ oA rA u_1.2, b_w cB cC cI cJ cZ oA rA u_1.2, b_c cB cC cI cJ cZ oA rA u_1.2] []) (bx_C (bs := [b_g cB cC cI cJ cZ oA rA u_1.2, b_w cB cC cI cJ cZ oA rA u_1.2, b_c cB cC cI cJ cZ oA rA u_1.2]) (bs' := [b_g cB cC cI cJ cZ oA rA u_1.2, b_w cB cC cI cJ cZ oA rA u_1.2, b_c cB cC cI cJ cZ oA rA u_1.2]) (is := [0, 1, 2]) fl_3 fl_3 rfl) (bx_C (bs := [b_g cB cC cI cJ cZ oA rA u_1.2, b_w cB cC cI cJ cZ oA rA u_1.2, b_c cB cC cI cJ cZ oA rA u_1.2]) (bs' := []) (is := []) fl_3 fl_0 rfl) (bx_n (by decide +kernel)) (bx_d (by decide +kernel)) (va_runV (As := [.int 4]) (rest := []) ⟨hx, hb, hml, hown, hts⟩ (k_X2_need l dC dI cB cC cI cJ cZ cP oA rA H.size  4 u_1.2 _ hu_3) (cwV 1 hts (g_gV wq_564 wq_565 wq_2000 wq_3 wq_566) rfl rfl rfl (by decide +kernel) ⟨Nat.le_of_ble_eq_true rfl, Nat.le_of_ble_eq_true rfl⟩) (g_preV g_bl0 hK hPc hDc hS hE hFc g_to0 (q0 := 0) (ci := 2) rfl rfl) rfl rfl hl.1 rfl (lv_room (Nat.le_of_ble_eq_true rfl)) dX2_roomItem_7 ⟨Nat.le_of_ble_eq_true rfl, Nat.le_of_ble_eq_true rfl⟩) (fun u9 H locs hw9 hP' hD' hS => ?_)
  clear hPc hDc hFc
  have hP : va_P (dC, dI) vwCl (b_g cB cC cI cJ cZ oA rA u_3.2 ++ b_w cB cC cI cJ cZ oA rA u_3.2 ++ b_c cB cC cI cJ cZ oA rA u_3.2) H := hP'
  clear hP' hD'
  refine lv_aload_n hx hb dX2_roomItem_10 rfl (lv_at hl 0 rfl) ?_
  refine lv_bipush (v := 123) hx hb dX2_roomItem_11 (by decide +kernel) ?_
  obtain ⟨u_5, hu_5, hF_6⟩ := Option.bind_eq_some_iff.mp hF_4
  clear hF_4
  have hPc := bx_P (bs := [b_g cB cC cI cJ cZ oA rA u_3.2, b_w cB cC cI cJ cZ oA rA u_3.2, b_c cB cC cI cJ cZ oA rA u_3.2]) (bs' := [b_g cB cC cI cJ cZ oA rA u_3.2, b_w cB cC cI cJ cZ oA rA u_3.2, b_c cB cC cI cJ cZ oA rA u_3.2]) (ws' := (b_g cB cC cI cJ cZ oA rA u_3.2 ++ b_w cB cC cI cJ cZ oA rA u_3.2 ++ b_c cB cC cI cJ cZ oA rA u_3.2)) hP fl_3 fl_3 [0, 1, 2] rfl
  have hDc := bx_D (bs := [b_g cB cC cI cJ cZ oA rA u_3.2, b_w cB cC cI cJ cZ oA rA u_3.2, b_c cB cC cI cJ cZ oA rA u_3.2]) (bs' := [b_g cB cC cI cJ cZ oA rA u_3.2, b_w cB cC cI cJ cZ oA rA u_3.2, b_c cB cC cI cJ cZ oA rA u_3.2]) (ws' := (b_g cB cC cI cJ cZ oA rA u_3.2 ++ b_w cB cC cI cJ cZ oA rA u_3.2 ++ b_c cB cC cI cJ cZ oA rA u_3.2)) (hDD u_3.2) fl_3 fl_3 [0, 1, 2] (by decide +kernel) rfl
  have hFc := bx_F (bs := [b_g cB cC cI cJ cZ oA rA u_3.2, b_w cB cC cI cJ cZ oA rA u_3.2, b_c cB cC cI cJ cZ oA rA u_3.2]) (bs' := [b_g cB cC cI cJ cZ oA rA u_3.2, b_w cB cC cI cJ cZ oA rA u_3.2, b_c cB cC cI cJ cZ oA rA u_3.2]) (wc := (b_g cB cC cI cJ cZ oA rA u_3.2 ++ b_w cB cC cI cJ cZ oA rA u_3.2 ++ b_c cB cC cI cJ cZ oA rA u_3.2)) (hDD u_3.2) hS hA fl_3 fl_3 [0, 1, 2] rfl
  refine g_ofv (wc := (b_g cB cC cI cJ cZ oA rA u_3.2 ++ b_w cB cC cI cJ cZ oA rA u_3.2 ++ b_c cB cC cI cJ cZ oA rA u_3.2)) (wr := ([] : va_W)) hP (hDD u_3.2) hS hFc (bx_ix [b_g cB cC cI cJ cZ oA rA u_3.2, b_w cB cC cI cJ cZ oA rA u_3.2, b_c cB cC cI cJ cZ oA rA u_3.2] [0, 1, 2]) (bx_ix [b_g cB cC cI cJ cZ oA rA u_3.2, b_w cB cC cI cJ cZ oA rA u_3.2, b_c cB cC cI cJ cZ oA rA u_3.2] []) (bx_C (bs := [b_g cB cC cI cJ cZ oA rA u_3.2, b_w cB cC cI cJ cZ oA rA u_3.2, b_c cB cC cI cJ cZ oA rA u_3.2]) (bs' := [b_g cB cC cI cJ cZ oA rA u_3.2, b_w cB cC cI cJ cZ oA rA u_3.2, b_c cB cC cI cJ cZ oA rA u_3.2]) (is := [0, 1, 2]) fl_3 fl_3 rfl) (bx_C (bs := [b_g cB cC cI cJ cZ oA rA u_3.2, b_w cB cC cI cJ cZ oA rA u_3.2, b_c cB cC cI cJ cZ oA rA u_3.2]) (bs' := []) (is := []) fl_3 fl_0 rfl) (bx_n (by decide +kernel)) (bx_d (by decide +kernel)) (va_runV (As := [.int 123]) (rest := []) ⟨hx, hb, hml, hown, hts⟩ (k_X2_open l dC dI cB cC cI cJ cZ cP oA rA H.size  123 u_3.2 _ hu_5) (cwV 1 hts (g_gV wq_567 wq_568 wq_2001 wq_3 wq_569) rfl rfl rfl (by decide +kernel) ⟨Nat.le_of_ble_eq_true rfl, Nat.le_of_ble_eq_true rfl⟩) (g_preV g_bl0 hK hPc hDc hS hE hFc g_to0 (q0 := 0) (ci := 2) rfl rfl) rfl rfl hl.1 rfl (lv_room (Nat.le_of_ble_eq_true rfl)) dX2_roomItem_13 ⟨Nat.le_of_ble_eq_true rfl, Nat.le_of_ble_eq_true rfl⟩) (fun u9 H locs hw9 hP' hD' hS => ?_)
  clear hPc hDc hFc
  have hP : va_P (dC, dI) vwCl (b_g cB cC cI cJ cZ oA rA u_5.2 ++ b_w cB cC cI cJ cZ oA rA u_5.2 ++ b_c cB cC cI cJ cZ oA rA u_5.2) H := hP'
  clear hP' hD'
  refine lv_iconst (v := 0) hx hb dX2_roomItem_16 (by decide +kernel) ?_
  refine lv_istore_n (lv' := [(1, .int 0), (0, .ref (oA 2))]) hx hb dX2_roomItem_17 rfl hl (by decide) rfl (fun ls hl => ?_)
  refine loopF_ind (P := fun (s_7 : Int32 × HS) => ∀ (H : Heap) (locs : List Loc), va_P (dC, dI) vwCl (b_g cB cC cI cJ cZ oA rA s_7.2 ++ b_w cB cC cI cJ cZ oA rA s_7.2 ++ b_c cB cC cI cJ cZ oA rA s_7.2) H → va_S A s.heap H locs → ∀ ls : Array Slot, lv_has ls 2 [(0, .ref (oA 2)), (1, .int s_7.1)] → W p l e (headSpec (g_ws yX2_roomItem cX2_roomItem 2 none) { frames := 4, cells := 0, slots := 0, locals := 103 }).room s m ([.ref (oA 2)] : List Value).toArray below meth c H locs 0 0 (MQ below (va_Qv (fun (_ : Unit) => True) (g_Bo (dC, dI) A (fun (_ : Unit) => (b_g cB cC cI cJ cZ oA rA res.2 ++ b_w cB cC cI cJ cZ oA rA res.2 ++ b_c cB cC cI cJ cZ oA rA res.2))) A) ([.ref (oA 2)] : List Value).toArray s 0 0 A) (F0 m 18 ls [])) ?_ _ _ hF_6 _ _ hP hS ls (lv_sub hl [1, 0] rfl)
  intro again_8 s_7 ih_9 hF_10
  intro H locs hP hS ls hl
  refine lv_iload_n hx hb dX2_roomItem_18 rfl (lv_at hl 1 rfl) ?_
  refine lv_aload_n hx hb dX2_roomItem_19 rfl (lv_at hl 0 rfl) ?_
  refine va_get (D := (dC, dI)) (ci := 2) (v := .ref (oA 1)) (C := RX2) (T := TX2) (N := 8) hx hb hts ii_X2 hown hK hP 0 rfl rfl 0 (by decide) (hts (.fieldLink RX2 9 "StoryHouse$Grammar" "words" "LStoryHouse$Words;") wq_71) (fun _ h9 => h9) rfl dX2_roomItem_20 ?_
  refine va_get (D := (dC, dI)) (ci := 10) (v := .int ((s_7.2 1).1 2)) (C := RX10) (T := TX10) (N := 12) hx hb hts ii_X10 hown hK hP 1 rfl rfl 2 (by decide) (hts (.fieldLink RX2 38 "StoryHouse$Words" "count" "I") wq_47) (fun _ h9 => h9) rfl dX2_roomItem_23 ?_
  obtain ⟨j_12, ej_12, hF_13⟩ := bnd_e hF_10
  clear hF_10
  have Jj_12 : ∀  (σ_11 : HS), j_12  σ_11 = some res → ∀ (H : Heap) (locs : List Loc), va_P (dC, dI) vwCl (b_g cB cC cI cJ cZ oA rA σ_11 ++ b_w cB cC cI cJ cZ oA rA σ_11 ++ b_c cB cC cI cJ cZ oA rA σ_11) H → va_S A s.heap H locs → ∀ ls : Array Slot, lv_has ls 2 [(0, .ref (oA 2))] → W p l e (headSpec (g_ws yX2_roomItem cX2_roomItem 2 none) { frames := 4, cells := 0, slots := 0, locals := 103 }).room s m ([.ref (oA 2)] : List Value).toArray below meth c H locs 0 0 (MQ below (va_Qv (fun (_ : Unit) => True) (g_Bo (dC, dI) A (fun (_ : Unit) => (b_g cB cC cI cJ cZ oA rA res.2 ++ b_w cB cC cI cJ cZ oA rA res.2 ++ b_c cB cC cI cJ cZ oA rA res.2))) A) ([.ref (oA 2)] : List Value).toArray s 0 0 A) (F0 m 110 ls []) := by
    intro  σ_11 hF0 H locs hP hS ls hl
    subst ej_12
    have hF_14 := hF0
    clear hF0
    refine lv_aload_n hx hb dX2_roomItem_110 rfl (lv_at hl 0 rfl) ?_
    refine lv_bipush (v := 125) hx hb dX2_roomItem_111 (by decide +kernel) ?_
    obtain ⟨u_15, hu_15, hF_16⟩ := Option.bind_eq_some_iff.mp hF_14
    clear hF_14
    have hPc := bx_P (bs := [b_g cB cC cI cJ cZ oA rA σ_11, b_w cB cC cI cJ cZ oA rA σ_11, b_c cB cC cI cJ cZ oA rA σ_11]) (bs' := [b_g cB cC cI cJ cZ oA rA σ_11, b_w cB cC cI cJ cZ oA rA σ_11, b_c cB cC cI cJ cZ oA rA σ_11]) (ws' := (b_g cB cC cI cJ cZ oA rA σ_11 ++ b_w cB cC cI cJ cZ oA rA σ_11 ++ b_c cB cC cI cJ cZ oA rA σ_11)) hP fl_3 fl_3 [0, 1, 2] rfl
    have hDc := bx_D (bs := [b_g cB cC cI cJ cZ oA rA σ_11, b_w cB cC cI cJ cZ oA rA σ_11, b_c cB cC cI cJ cZ oA rA σ_11]) (bs' := [b_g cB cC cI cJ cZ oA rA σ_11, b_w cB cC cI cJ cZ oA rA σ_11, b_c cB cC cI cJ cZ oA rA σ_11]) (ws' := (b_g cB cC cI cJ cZ oA rA σ_11 ++ b_w cB cC cI cJ cZ oA rA σ_11 ++ b_c cB cC cI cJ cZ oA rA σ_11)) (hDD σ_11) fl_3 fl_3 [0, 1, 2] (by decide +kernel) rfl
    have hFc := bx_F (bs := [b_g cB cC cI cJ cZ oA rA σ_11, b_w cB cC cI cJ cZ oA rA σ_11, b_c cB cC cI cJ cZ oA rA σ_11]) (bs' := [b_g cB cC cI cJ cZ oA rA σ_11, b_w cB cC cI cJ cZ oA rA σ_11, b_c cB cC cI cJ cZ oA rA σ_11]) (wc := (b_g cB cC cI cJ cZ oA rA σ_11 ++ b_w cB cC cI cJ cZ oA rA σ_11 ++ b_c cB cC cI cJ cZ oA rA σ_11)) (hDD σ_11) hS hA fl_3 fl_3 [0, 1, 2] rfl
    refine g_ofv (wc := (b_g cB cC cI cJ cZ oA rA σ_11 ++ b_w cB cC cI cJ cZ oA rA σ_11 ++ b_c cB cC cI cJ cZ oA rA σ_11)) (wr := ([] : va_W)) hP (hDD σ_11) hS hFc (bx_ix [b_g cB cC cI cJ cZ oA rA σ_11, b_w cB cC cI cJ cZ oA rA σ_11, b_c cB cC cI cJ cZ oA rA σ_11] [0, 1, 2]) (bx_ix [b_g cB cC cI cJ cZ oA rA σ_11, b_w cB cC cI cJ cZ oA rA σ_11, b_c cB cC cI cJ cZ oA rA σ_11] []) (bx_C (bs := [b_g cB cC cI cJ cZ oA rA σ_11, b_w cB cC cI cJ cZ oA rA σ_11, b_c cB cC cI cJ cZ oA rA σ_11]) (bs' := [b_g cB cC cI cJ cZ oA rA σ_11, b_w cB cC cI cJ cZ oA rA σ_11, b_c cB cC cI cJ cZ oA rA σ_11]) (is := [0, 1, 2]) fl_3 fl_3 rfl) (bx_C (bs := [b_g cB cC cI cJ cZ oA rA σ_11, b_w cB cC cI cJ cZ oA rA σ_11, b_c cB cC cI cJ cZ oA rA σ_11]) (bs' := []) (is := []) fl_3 fl_0 rfl) (bx_n (by decide +kernel)) (bx_d (by decide +kernel)) (va_runV (As := [.int 125]) (rest := []) ⟨hx, hb, hml, hown, hts⟩ (k_X2_shut l dC dI cB cC cI cJ cZ cP oA rA H.size  125 σ_11 _ hu_15) (cwV 1 hts (g_gV wq_576 wq_577 wq_2004 wq_3 wq_578) rfl rfl rfl (by decide +kernel) ⟨Nat.le_of_ble_eq_true rfl, Nat.le_of_ble_eq_true rfl⟩) (g_preV g_bl0 hK hPc hDc hS hE hFc g_to0 (q0 := 0) (ci := 2) rfl rfl) rfl rfl hl.1 rfl (lv_room (Nat.le_of_ble_eq_true rfl)) dX2_roomItem_113 ⟨Nat.le_of_ble_eq_true rfl, Nat.le_of_ble_eq_true rfl⟩) (fun u9 H locs hw9 hP' hD' hS => ?_)
    clear hPc hDc hFc
    have hP : va_P (dC, dI) vwCl (b_g cB cC cI cJ cZ oA rA u_15.2 ++ b_w cB cC cI cJ cZ oA rA u_15.2 ++ b_c cB cC cI cJ cZ oA rA u_15.2) H := hP'
    clear hP' hD'
    have h9 := Option.some.inj hF_16
    subst h9
    exact W.vret hx hb hr (fun t ht hW => ⟨⟨(), rfl, trivial, m_end ht hP, hDD _⟩, hS.F ht⟩) hS.2.2 dX2_roomItem_116
  refine lv_icmp_ge (tgt := 110) hx hb dX2_roomItem_26 (by decide) (fun c_17 => ?_) (fun c_17 => ?_)
  · have hF_18 := ipos c_17 hF_13
    clear hF_13
    exact Jj_12  s_7.2 hF_18 _ _ hP hS ls (lv_sub hl [0] rfl)
  · have hF_19 := ineg c_17 hF_13
    clear hF_13
    refine lv_aload_n hx hb dX2_roomItem_29 rfl (lv_at hl 0 rfl) ?_
    refine va_get (D := (dC, dI)) (ci := 2) (v := .int ((s_7.2 2).1 3)) (C := RX2) (T := TX2) (N := 8) hx hb hts ii_X2 hown hK hP 0 rfl rfl 3 (by decide) (hts (.fieldLink RX2 29 "StoryHouse$Grammar" "kind" "I") wq_74) (fun _ h9 => h9) rfl dX2_roomItem_30 ?_
    refine lv_bipush (v := 125) hx hb dX2_roomItem_33 (by decide +kernel) ?_
    refine lv_icmp_eq (tgt := 110) hx hb dX2_roomItem_35 (by decide) (fun c_20 => ?_) (fun c_20 => ?_)
    · have hF_21 := ipos c_20 hF_19
      clear hF_19
      exact Jj_12  s_7.2 hF_21 _ _ hP hS ls (lv_sub hl [0] rfl)
    · have hF_22 := ineg c_20 hF_19
      clear hF_19
      refine lv_aload_n hx hb dX2_roomItem_38 rfl (lv_at hl 0 rfl) ?_
      refine va_get (D := (dC, dI)) (ci := 2) (v := .int ((s_7.2 2).1 3)) (C := RX2) (T := TX2) (N := 8) hx hb hts ii_X2 hown hK hP 0 rfl rfl 3 (by decide) (hts (.fieldLink RX2 29 "StoryHouse$Grammar" "kind" "I") wq_74) (fun _ h9 => h9) rfl dX2_roomItem_39 ?_
      refine lv_if_eq (tgt := 110) hx hb dX2_roomItem_42 (by decide) (fun c_23 => ?_) (fun c_23 => ?_)
      · have hF_24 := ipos c_23 hF_22
        clear hF_22
        exact Jj_12  s_7.2 hF_24 _ _ hP hS ls (lv_sub hl [0] rfl)
      · have hF_25 := ineg c_23 hF_22
        clear hF_22
        refine lv_aload_n hx hb dX2_roomItem_45 rfl (lv_at hl 0 rfl) ?_
        refine lv_sipush (v := 238) hx hb dX2_roomItem_46 (by decide +kernel) ?_
        obtain ⟨u_26, hu_26, hF_27⟩ := Option.bind_eq_some_iff.mp hF_25
        clear hF_25
        have hPc := bx_P (bs := [b_g cB cC cI cJ cZ oA rA s_7.2, b_w cB cC cI cJ cZ oA rA s_7.2, b_c cB cC cI cJ cZ oA rA s_7.2]) (bs' := [b_g cB cC cI cJ cZ oA rA s_7.2, b_w cB cC cI cJ cZ oA rA s_7.2, b_c cB cC cI cJ cZ oA rA s_7.2]) (ws' := (b_g cB cC cI cJ cZ oA rA s_7.2 ++ b_w cB cC cI cJ cZ oA rA s_7.2 ++ b_c cB cC cI cJ cZ oA rA s_7.2)) hP fl_3 fl_3 [0, 1, 2] rfl
        have hDc := bx_D (bs := [b_g cB cC cI cJ cZ oA rA s_7.2, b_w cB cC cI cJ cZ oA rA s_7.2, b_c cB cC cI cJ cZ oA rA s_7.2]) (bs' := [b_g cB cC cI cJ cZ oA rA s_7.2, b_w cB cC cI cJ cZ oA rA s_7.2, b_c cB cC cI cJ cZ oA rA s_7.2]) (ws' := (b_g cB cC cI cJ cZ oA rA s_7.2 ++ b_w cB cC cI cJ cZ oA rA s_7.2 ++ b_c cB cC cI cJ cZ oA rA s_7.2)) (hDD s_7.2) fl_3 fl_3 [0, 1, 2] (by decide +kernel) rfl
        have hFc := bx_F (bs := [b_g cB cC cI cJ cZ oA rA s_7.2, b_w cB cC cI cJ cZ oA rA s_7.2, b_c cB cC cI cJ cZ oA rA s_7.2]) (bs' := [b_g cB cC cI cJ cZ oA rA s_7.2, b_w cB cC cI cJ cZ oA rA s_7.2, b_c cB cC cI cJ cZ oA rA s_7.2]) (wc := (b_g cB cC cI cJ cZ oA rA s_7.2 ++ b_w cB cC cI cJ cZ oA rA s_7.2 ++ b_c cB cC cI cJ cZ oA rA s_7.2)) (hDD s_7.2) hS hA fl_3 fl_3 [0, 1, 2] rfl
        refine g_ofi (wc := (b_g cB cC cI cJ cZ oA rA s_7.2 ++ b_w cB cC cI cJ cZ oA rA s_7.2 ++ b_c cB cC cI cJ cZ oA rA s_7.2)) (wr := ([] : va_W)) hP (hDD s_7.2) hS hFc (bx_ix [b_g cB cC cI cJ cZ oA rA s_7.2, b_w cB cC cI cJ cZ oA rA s_7.2, b_c cB cC cI cJ cZ oA rA s_7.2] [0, 1, 2]) (bx_ix [b_g cB cC cI cJ cZ oA rA s_7.2, b_w cB cC cI cJ cZ oA rA s_7.2, b_c cB cC cI cJ cZ oA rA s_7.2] []) (bx_C (bs := [b_g cB cC cI cJ cZ oA rA s_7.2, b_w cB cC cI cJ cZ oA rA s_7.2, b_c cB cC cI cJ cZ oA rA s_7.2]) (bs' := [b_g cB cC cI cJ cZ oA rA s_7.2, b_w cB cC cI cJ cZ oA rA s_7.2, b_c cB cC cI cJ cZ oA rA s_7.2]) (is := [0, 1, 2]) fl_3 fl_3 rfl) (bx_C (bs := [b_g cB cC cI cJ cZ oA rA s_7.2, b_w cB cC cI cJ cZ oA rA s_7.2, b_c cB cC cI cJ cZ oA rA s_7.2]) (bs' := []) (is := []) fl_3 fl_0 rfl) (bx_n (by decide +kernel)) (bx_d (by decide +kernel)) (va_runV (As := [.int 238]) (rest := []) ⟨hx, hb, hml, hown, hts⟩ (k_X2_accept l dC dI cB cC cI cJ cZ cP oA rA H.size  238 s_7.2 _ hu_26) (cwV 1 hts (g_gV wq_573 wq_574 wq_2003 wq_3 wq_575) rfl rfl rfl (by decide +kernel) ⟨Nat.le_of_ble_eq_true rfl, Nat.le_of_ble_eq_true rfl⟩) (g_preV g_bl0 hK hPc hDc hS hE hFc g_to0 (q0 := 0) (ci := 2) rfl rfl) rfl rfl hl.1 rfl (lv_room (Nat.le_of_ble_eq_true rfl)) dX2_roomItem_49 ⟨Nat.le_of_ble_eq_true rfl, Nat.le_of_ble_eq_true rfl⟩) (fun r9 u9 H locs hw9 hP' hD' hS => ?_)
        clear hPc hDc hFc
        subst hw9
        have hP : va_P (dC, dI) vwCl (b_g cB cC cI cJ cZ oA rA u_26.2 ++ b_w cB cC cI cJ cZ oA rA u_26.2 ++ b_c cB cC cI cJ cZ oA rA u_26.2) H := hP'
        clear hP' hD'
        obtain ⟨j_29, ej_29, hF_30⟩ := bnd_e hF_27
        clear hF_27
        have Jj_29 : ∀  (σ_28 : HS), j_29  σ_28 = some res → ∀ (H : Heap) (locs : List Loc), va_P (dC, dI) vwCl (b_g cB cC cI cJ cZ oA rA σ_28 ++ b_w cB cC cI cJ cZ oA rA σ_28 ++ b_c cB cC cI cJ cZ oA rA σ_28) H → va_S A s.heap H locs → ∀ ls : Array Slot, lv_has ls 2 [(0, .ref (oA 2)), (1, .int s_7.1)] → W p l e (headSpec (g_ws yX2_roomItem cX2_roomItem 2 none) { frames := 4, cells := 0, slots := 0, locals := 103 }).room s m ([.ref (oA 2)] : List Value).toArray below meth c H locs 0 0 (MQ below (va_Qv (fun (_ : Unit) => True) (g_Bo (dC, dI) A (fun (_ : Unit) => (b_g cB cC cI cJ cZ oA rA res.2 ++ b_w cB cC cI cJ cZ oA rA res.2 ++ b_c cB cC cI cJ cZ oA rA res.2))) A) ([.ref (oA 2)] : List Value).toArray s 0 0 A) (F0 m 98 ls []) := by
          intro  σ_28 hF0 H locs hP hS ls hl
          subst ej_29
          have hF_31 := hF0
          clear hF0
          refine lv_aload_n hx hb dX2_roomItem_98 rfl (lv_at hl 0 rfl) ?_
          refine lv_bipush (v := 59) hx hb dX2_roomItem_99 (by decide +kernel) ?_
          obtain ⟨u_32, hu_32, hF_33⟩ := Option.bind_eq_some_iff.mp hF_31
          clear hF_31
          have hPc := bx_P (bs := [b_g cB cC cI cJ cZ oA rA σ_28, b_w cB cC cI cJ cZ oA rA σ_28, b_c cB cC cI cJ cZ oA rA σ_28]) (bs' := [b_g cB cC cI cJ cZ oA rA σ_28, b_w cB cC cI cJ cZ oA rA σ_28, b_c cB cC cI cJ cZ oA rA σ_28]) (ws' := (b_g cB cC cI cJ cZ oA rA σ_28 ++ b_w cB cC cI cJ cZ oA rA σ_28 ++ b_c cB cC cI cJ cZ oA rA σ_28)) hP fl_3 fl_3 [0, 1, 2] rfl
          have hDc := bx_D (bs := [b_g cB cC cI cJ cZ oA rA σ_28, b_w cB cC cI cJ cZ oA rA σ_28, b_c cB cC cI cJ cZ oA rA σ_28]) (bs' := [b_g cB cC cI cJ cZ oA rA σ_28, b_w cB cC cI cJ cZ oA rA σ_28, b_c cB cC cI cJ cZ oA rA σ_28]) (ws' := (b_g cB cC cI cJ cZ oA rA σ_28 ++ b_w cB cC cI cJ cZ oA rA σ_28 ++ b_c cB cC cI cJ cZ oA rA σ_28)) (hDD σ_28) fl_3 fl_3 [0, 1, 2] (by decide +kernel) rfl
          have hFc := bx_F (bs := [b_g cB cC cI cJ cZ oA rA σ_28, b_w cB cC cI cJ cZ oA rA σ_28, b_c cB cC cI cJ cZ oA rA σ_28]) (bs' := [b_g cB cC cI cJ cZ oA rA σ_28, b_w cB cC cI cJ cZ oA rA σ_28, b_c cB cC cI cJ cZ oA rA σ_28]) (wc := (b_g cB cC cI cJ cZ oA rA σ_28 ++ b_w cB cC cI cJ cZ oA rA σ_28 ++ b_c cB cC cI cJ cZ oA rA σ_28)) (hDD σ_28) hS hA fl_3 fl_3 [0, 1, 2] rfl
          refine g_ofv (wc := (b_g cB cC cI cJ cZ oA rA σ_28 ++ b_w cB cC cI cJ cZ oA rA σ_28 ++ b_c cB cC cI cJ cZ oA rA σ_28)) (wr := ([] : va_W)) hP (hDD σ_28) hS hFc (bx_ix [b_g cB cC cI cJ cZ oA rA σ_28, b_w cB cC cI cJ cZ oA rA σ_28, b_c cB cC cI cJ cZ oA rA σ_28] [0, 1, 2]) (bx_ix [b_g cB cC cI cJ cZ oA rA σ_28, b_w cB cC cI cJ cZ oA rA σ_28, b_c cB cC cI cJ cZ oA rA σ_28] []) (bx_C (bs := [b_g cB cC cI cJ cZ oA rA σ_28, b_w cB cC cI cJ cZ oA rA σ_28, b_c cB cC cI cJ cZ oA rA σ_28]) (bs' := [b_g cB cC cI cJ cZ oA rA σ_28, b_w cB cC cI cJ cZ oA rA σ_28, b_c cB cC cI cJ cZ oA rA σ_28]) (is := [0, 1, 2]) fl_3 fl_3 rfl) (bx_C (bs := [b_g cB cC cI cJ cZ oA rA σ_28, b_w cB cC cI cJ cZ oA rA σ_28, b_c cB cC cI cJ cZ oA rA σ_28]) (bs' := []) (is := []) fl_3 fl_0 rfl) (bx_n (by decide +kernel)) (bx_d (by decide +kernel)) (va_runV (As := [.int 59]) (rest := []) ⟨hx, hb, hml, hown, hts⟩ (k_X2_need l dC dI cB cC cI cJ cZ cP oA rA H.size  59 σ_28 _ hu_32) (cwV 1 hts (g_gV wq_564 wq_565 wq_2000 wq_3 wq_566) rfl rfl rfl (by decide +kernel) ⟨Nat.le_of_ble_eq_true rfl, Nat.le_of_ble_eq_true rfl⟩) (g_preV g_bl0 hK hPc hDc hS hE hFc g_to0 (q0 := 0) (ci := 2) rfl rfl) rfl rfl hl.1 rfl (lv_room (Nat.le_of_ble_eq_true rfl)) dX2_roomItem_101 ⟨Nat.le_of_ble_eq_true rfl, Nat.le_of_ble_eq_true rfl⟩) (fun u9 H locs hw9 hP' hD' hS => ?_)
          clear hPc hDc hFc
          have hP : va_P (dC, dI) vwCl (b_g cB cC cI cJ cZ oA rA u_32.2 ++ b_w cB cC cI cJ cZ oA rA u_32.2 ++ b_c cB cC cI cJ cZ oA rA u_32.2) H := hP'
          clear hP' hD'
          obtain ⟨x_34, ex_34, hF_35⟩ := bnd_e hF_33
          clear hF_33
          refine lv_iinc (v := x_34) (lv' := [(1, .int x_34), (0, .ref (oA 2))]) hx hb dX2_roomItem_104 hl (k := 1) rfl (by rw [ex_34]; rfl) (by decide) rfl (fun ls hl => ?_)
          refine lv_goto (tgt := 18) hx hb dX2_roomItem_107 (by decide) ?_
          exact ih_9 (x_34, u_32.2) hF_35 _ _ hP hS ls (lv_sub hl [1, 0] rfl)
        refine lv_if_eq (tgt := 63) hx hb dX2_roomItem_52 (by decide) (fun c_36 => ?_) (fun c_36 => ?_)
        · have hF_37 := ipos c_36 hF_30
          clear hF_30
          refine lv_aload_n hx hb dX2_roomItem_63 rfl (lv_at hl 0 rfl) ?_
          refine lv_sipush (v := 239) hx hb dX2_roomItem_64 (by decide +kernel) ?_
          obtain ⟨u_38, hu_38, hF_39⟩ := Option.bind_eq_some_iff.mp hF_37
          clear hF_37
          have hPc := bx_P (bs := [b_g cB cC cI cJ cZ oA rA u_26.2, b_w cB cC cI cJ cZ oA rA u_26.2, b_c cB cC cI cJ cZ oA rA u_26.2]) (bs' := [b_g cB cC cI cJ cZ oA rA u_26.2, b_w cB cC cI cJ cZ oA rA u_26.2, b_c cB cC cI cJ cZ oA rA u_26.2]) (ws' := (b_g cB cC cI cJ cZ oA rA u_26.2 ++ b_w cB cC cI cJ cZ oA rA u_26.2 ++ b_c cB cC cI cJ cZ oA rA u_26.2)) hP fl_3 fl_3 [0, 1, 2] rfl
          have hDc := bx_D (bs := [b_g cB cC cI cJ cZ oA rA u_26.2, b_w cB cC cI cJ cZ oA rA u_26.2, b_c cB cC cI cJ cZ oA rA u_26.2]) (bs' := [b_g cB cC cI cJ cZ oA rA u_26.2, b_w cB cC cI cJ cZ oA rA u_26.2, b_c cB cC cI cJ cZ oA rA u_26.2]) (ws' := (b_g cB cC cI cJ cZ oA rA u_26.2 ++ b_w cB cC cI cJ cZ oA rA u_26.2 ++ b_c cB cC cI cJ cZ oA rA u_26.2)) (hDD u_26.2) fl_3 fl_3 [0, 1, 2] (by decide +kernel) rfl
          have hFc := bx_F (bs := [b_g cB cC cI cJ cZ oA rA u_26.2, b_w cB cC cI cJ cZ oA rA u_26.2, b_c cB cC cI cJ cZ oA rA u_26.2]) (bs' := [b_g cB cC cI cJ cZ oA rA u_26.2, b_w cB cC cI cJ cZ oA rA u_26.2, b_c cB cC cI cJ cZ oA rA u_26.2]) (wc := (b_g cB cC cI cJ cZ oA rA u_26.2 ++ b_w cB cC cI cJ cZ oA rA u_26.2 ++ b_c cB cC cI cJ cZ oA rA u_26.2)) (hDD u_26.2) hS hA fl_3 fl_3 [0, 1, 2] rfl
          refine g_ofi (wc := (b_g cB cC cI cJ cZ oA rA u_26.2 ++ b_w cB cC cI cJ cZ oA rA u_26.2 ++ b_c cB cC cI cJ cZ oA rA u_26.2)) (wr := ([] : va_W)) hP (hDD u_26.2) hS hFc (bx_ix [b_g cB cC cI cJ cZ oA rA u_26.2, b_w cB cC cI cJ cZ oA rA u_26.2, b_c cB cC cI cJ cZ oA rA u_26.2] [0, 1, 2]) (bx_ix [b_g cB cC cI cJ cZ oA rA u_26.2, b_w cB cC cI cJ cZ oA rA u_26.2, b_c cB cC cI cJ cZ oA rA u_26.2] []) (bx_C (bs := [b_g cB cC cI cJ cZ oA rA u_26.2, b_w cB cC cI cJ cZ oA rA u_26.2, b_c cB cC cI cJ cZ oA rA u_26.2]) (bs' := [b_g cB cC cI cJ cZ oA rA u_26.2, b_w cB cC cI cJ cZ oA rA u_26.2, b_c cB cC cI cJ cZ oA rA u_26.2]) (is := [0, 1, 2]) fl_3 fl_3 rfl) (bx_C (bs := [b_g cB cC cI cJ cZ oA rA u_26.2, b_w cB cC cI cJ cZ oA rA u_26.2, b_c cB cC cI cJ cZ oA rA u_26.2]) (bs' := []) (is := []) fl_3 fl_0 rfl) (bx_n (by decide +kernel)) (bx_d (by decide +kernel)) (va_runV (As := [.int 239]) (rest := []) ⟨hx, hb, hml, hown, hts⟩ (k_X2_accept l dC dI cB cC cI cJ cZ cP oA rA H.size  239 u_26.2 _ hu_38) (cwV 1 hts (g_gV wq_573 wq_574 wq_2003 wq_3 wq_575) rfl rfl rfl (by decide +kernel) ⟨Nat.le_of_ble_eq_true rfl, Nat.le_of_ble_eq_true rfl⟩) (g_preV g_bl0 hK hPc hDc hS hE hFc g_to0 (q0 := 0) (ci := 2) rfl rfl) rfl rfl hl.1 rfl (lv_room (Nat.le_of_ble_eq_true rfl)) dX2_roomItem_67 ⟨Nat.le_of_ble_eq_true rfl, Nat.le_of_ble_eq_true rfl⟩) (fun r9 u9 H locs hw9 hP' hD' hS => ?_)
          clear hPc hDc hFc
          subst hw9
          have hP : va_P (dC, dI) vwCl (b_g cB cC cI cJ cZ oA rA u_38.2 ++ b_w cB cC cI cJ cZ oA rA u_38.2 ++ b_c cB cC cI cJ cZ oA rA u_38.2) H := hP'
          clear hP' hD'
          refine lv_if_eq (tgt := 91) hx hb dX2_roomItem_70 (by decide) (fun c_40 => ?_) (fun c_40 => ?_)
          · have hF_41 := ipos c_40 hF_39
            clear hF_39
            refine lv_aload_n hx hb dX2_roomItem_91 rfl (lv_at hl 0 rfl) ?_
            refine lv_sipush (v := 212) hx hb dX2_roomItem_92 (by decide +kernel) ?_
            obtain ⟨u_42, hu_42, hF_43⟩ := Option.bind_eq_some_iff.mp hF_41
            clear hF_41
            have hPc := bx_P (bs := [b_g cB cC cI cJ cZ oA rA u_38.2, b_w cB cC cI cJ cZ oA rA u_38.2, b_c cB cC cI cJ cZ oA rA u_38.2]) (bs' := [b_g cB cC cI cJ cZ oA rA u_38.2, b_w cB cC cI cJ cZ oA rA u_38.2, b_c cB cC cI cJ cZ oA rA u_38.2]) (ws' := (b_g cB cC cI cJ cZ oA rA u_38.2 ++ b_w cB cC cI cJ cZ oA rA u_38.2 ++ b_c cB cC cI cJ cZ oA rA u_38.2)) hP fl_3 fl_3 [0, 1, 2] rfl
            have hDc := bx_D (bs := [b_g cB cC cI cJ cZ oA rA u_38.2, b_w cB cC cI cJ cZ oA rA u_38.2, b_c cB cC cI cJ cZ oA rA u_38.2]) (bs' := [b_g cB cC cI cJ cZ oA rA u_38.2, b_w cB cC cI cJ cZ oA rA u_38.2, b_c cB cC cI cJ cZ oA rA u_38.2]) (ws' := (b_g cB cC cI cJ cZ oA rA u_38.2 ++ b_w cB cC cI cJ cZ oA rA u_38.2 ++ b_c cB cC cI cJ cZ oA rA u_38.2)) (hDD u_38.2) fl_3 fl_3 [0, 1, 2] (by decide +kernel) rfl
            have hFc := bx_F (bs := [b_g cB cC cI cJ cZ oA rA u_38.2, b_w cB cC cI cJ cZ oA rA u_38.2, b_c cB cC cI cJ cZ oA rA u_38.2]) (bs' := [b_g cB cC cI cJ cZ oA rA u_38.2, b_w cB cC cI cJ cZ oA rA u_38.2, b_c cB cC cI cJ cZ oA rA u_38.2]) (wc := (b_g cB cC cI cJ cZ oA rA u_38.2 ++ b_w cB cC cI cJ cZ oA rA u_38.2 ++ b_c cB cC cI cJ cZ oA rA u_38.2)) (hDD u_38.2) hS hA fl_3 fl_3 [0, 1, 2] rfl
            refine g_ofv (wc := (b_g cB cC cI cJ cZ oA rA u_38.2 ++ b_w cB cC cI cJ cZ oA rA u_38.2 ++ b_c cB cC cI cJ cZ oA rA u_38.2)) (wr := ([] : va_W)) hP (hDD u_38.2) hS hFc (bx_ix [b_g cB cC cI cJ cZ oA rA u_38.2, b_w cB cC cI cJ cZ oA rA u_38.2, b_c cB cC cI cJ cZ oA rA u_38.2] [0, 1, 2]) (bx_ix [b_g cB cC cI cJ cZ oA rA u_38.2, b_w cB cC cI cJ cZ oA rA u_38.2, b_c cB cC cI cJ cZ oA rA u_38.2] []) (bx_C (bs := [b_g cB cC cI cJ cZ oA rA u_38.2, b_w cB cC cI cJ cZ oA rA u_38.2, b_c cB cC cI cJ cZ oA rA u_38.2]) (bs' := [b_g cB cC cI cJ cZ oA rA u_38.2, b_w cB cC cI cJ cZ oA rA u_38.2, b_c cB cC cI cJ cZ oA rA u_38.2]) (is := [0, 1, 2]) fl_3 fl_3 rfl) (bx_C (bs := [b_g cB cC cI cJ cZ oA rA u_38.2, b_w cB cC cI cJ cZ oA rA u_38.2, b_c cB cC cI cJ cZ oA rA u_38.2]) (bs' := []) (is := []) fl_3 fl_0 rfl) (bx_n (by decide +kernel)) (bx_d (by decide +kernel)) (va_runV (As := [.int 212]) (rest := []) ⟨hx, hb, hml, hown, hts⟩ (k_X2_need l dC dI cB cC cI cJ cZ cP oA rA H.size  212 u_38.2 _ hu_42) (cwV 1 hts (g_gV wq_564 wq_565 wq_2000 wq_3 wq_566) rfl rfl rfl (by decide +kernel) ⟨Nat.le_of_ble_eq_true rfl, Nat.le_of_ble_eq_true rfl⟩) (g_preV g_bl0 hK hPc hDc hS hE hFc g_to0 (q0 := 0) (ci := 2) rfl rfl) rfl rfl hl.1 rfl (lv_room (Nat.le_of_ble_eq_true rfl)) dX2_roomItem_95 ⟨Nat.le_of_ble_eq_true rfl, Nat.le_of_ble_eq_true rfl⟩) (fun u9 H locs hw9 hP' hD' hS => ?_)
            clear hPc hDc hFc
            have hP : va_P (dC, dI) vwCl (b_g cB cC cI cJ cZ oA rA u_42.2 ++ b_w cB cC cI cJ cZ oA rA u_42.2 ++ b_c cB cC cI cJ cZ oA rA u_42.2) H := hP'
            clear hP' hD'
            exact Jj_29  u_42.2 hF_43 _ _ hP hS ls (lv_sub hl [0, 1] rfl)
          · have hF_44 := ineg c_40 hF_39
            clear hF_39
            refine lv_aload_n hx hb dX2_roomItem_73 rfl (lv_at hl 0 rfl) ?_
            refine lv_sipush (v := 200) hx hb dX2_roomItem_74 (by decide +kernel) ?_
            refine lv_sipush (v := 205) hx hb dX2_roomItem_77 (by decide +kernel) ?_
            obtain ⟨u_45, hu_45, hF_46⟩ := Option.bind_eq_some_iff.mp hF_44
            clear hF_44
            have hPc := bx_P (bs := [b_g cB cC cI cJ cZ oA rA u_38.2, b_w cB cC cI cJ cZ oA rA u_38.2, b_c cB cC cI cJ cZ oA rA u_38.2]) (bs' := [b_g cB cC cI cJ cZ oA rA u_38.2, b_w cB cC cI cJ cZ oA rA u_38.2, b_c cB cC cI cJ cZ oA rA u_38.2]) (ws' := (b_g cB cC cI cJ cZ oA rA u_38.2 ++ b_w cB cC cI cJ cZ oA rA u_38.2 ++ b_c cB cC cI cJ cZ oA rA u_38.2)) hP fl_3 fl_3 [0, 1, 2] rfl
            have hDc := bx_D (bs := [b_g cB cC cI cJ cZ oA rA u_38.2, b_w cB cC cI cJ cZ oA rA u_38.2, b_c cB cC cI cJ cZ oA rA u_38.2]) (bs' := [b_g cB cC cI cJ cZ oA rA u_38.2, b_w cB cC cI cJ cZ oA rA u_38.2, b_c cB cC cI cJ cZ oA rA u_38.2]) (ws' := (b_g cB cC cI cJ cZ oA rA u_38.2 ++ b_w cB cC cI cJ cZ oA rA u_38.2 ++ b_c cB cC cI cJ cZ oA rA u_38.2)) (hDD u_38.2) fl_3 fl_3 [0, 1, 2] (by decide +kernel) rfl
            have hFc := bx_F (bs := [b_g cB cC cI cJ cZ oA rA u_38.2, b_w cB cC cI cJ cZ oA rA u_38.2, b_c cB cC cI cJ cZ oA rA u_38.2]) (bs' := [b_g cB cC cI cJ cZ oA rA u_38.2, b_w cB cC cI cJ cZ oA rA u_38.2, b_c cB cC cI cJ cZ oA rA u_38.2]) (wc := (b_g cB cC cI cJ cZ oA rA u_38.2 ++ b_w cB cC cI cJ cZ oA rA u_38.2 ++ b_c cB cC cI cJ cZ oA rA u_38.2)) (hDD u_38.2) hS hA fl_3 fl_3 [0, 1, 2] rfl
            refine g_ofv (wc := (b_g cB cC cI cJ cZ oA rA u_38.2 ++ b_w cB cC cI cJ cZ oA rA u_38.2 ++ b_c cB cC cI cJ cZ oA rA u_38.2)) (wr := ([] : va_W)) hP (hDD u_38.2) hS hFc (bx_ix [b_g cB cC cI cJ cZ oA rA u_38.2, b_w cB cC cI cJ cZ oA rA u_38.2, b_c cB cC cI cJ cZ oA rA u_38.2] [0, 1, 2]) (bx_ix [b_g cB cC cI cJ cZ oA rA u_38.2, b_w cB cC cI cJ cZ oA rA u_38.2, b_c cB cC cI cJ cZ oA rA u_38.2] []) (bx_C (bs := [b_g cB cC cI cJ cZ oA rA u_38.2, b_w cB cC cI cJ cZ oA rA u_38.2, b_c cB cC cI cJ cZ oA rA u_38.2]) (bs' := [b_g cB cC cI cJ cZ oA rA u_38.2, b_w cB cC cI cJ cZ oA rA u_38.2, b_c cB cC cI cJ cZ oA rA u_38.2]) (is := [0, 1, 2]) fl_3 fl_3 rfl) (bx_C (bs := [b_g cB cC cI cJ cZ oA rA u_38.2, b_w cB cC cI cJ cZ oA rA u_38.2, b_c cB cC cI cJ cZ oA rA u_38.2]) (bs' := []) (is := []) fl_3 fl_0 rfl) (bx_n (by decide +kernel)) (bx_d (by decide +kernel)) (va_runV (As := [.int 200, .int 205]) (rest := []) ⟨hx, hb, hml, hown, hts⟩ (k_X2_needFrom l dC dI cB cC cI cJ cZ cP oA rA H.size  200 205 u_38.2 _ hu_45) (cwV 2 hts (g_gV wq_549 wq_550 wq_1995 wq_3 wq_551) rfl rfl rfl (by decide +kernel) ⟨Nat.le_of_ble_eq_true rfl, Nat.le_of_ble_eq_true rfl⟩) (g_preV g_bl0 hK hPc hDc hS hE hFc g_to0 (q0 := 0) (ci := 2) rfl rfl) rfl rfl hl.1 rfl (lv_room (Nat.le_of_ble_eq_true rfl)) dX2_roomItem_80 ⟨Nat.le_of_ble_eq_true rfl, Nat.le_of_ble_eq_true rfl⟩) (fun u9 H locs hw9 hP' hD' hS => ?_)
            clear hPc hDc hFc
            have hP : va_P (dC, dI) vwCl (b_g cB cC cI cJ cZ oA rA u_45.2 ++ b_w cB cC cI cJ cZ oA rA u_45.2 ++ b_c cB cC cI cJ cZ oA rA u_45.2) H := hP'
            clear hP' hD'
            refine lv_aload_n hx hb dX2_roomItem_83 rfl (lv_at hl 0 rfl) ?_
            refine lv_iconst (v := 2) hx hb dX2_roomItem_84 (by decide +kernel) ?_
            obtain ⟨u_47, hu_47, hF_48⟩ := Option.bind_eq_some_iff.mp hF_46
            clear hF_46
            have hPc := bx_P (bs := [b_g cB cC cI cJ cZ oA rA u_45.2, b_w cB cC cI cJ cZ oA rA u_45.2, b_c cB cC cI cJ cZ oA rA u_45.2]) (bs' := [b_g cB cC cI cJ cZ oA rA u_45.2, b_w cB cC cI cJ cZ oA rA u_45.2, b_c cB cC cI cJ cZ oA rA u_45.2]) (ws' := (b_g cB cC cI cJ cZ oA rA u_45.2 ++ b_w cB cC cI cJ cZ oA rA u_45.2 ++ b_c cB cC cI cJ cZ oA rA u_45.2)) hP fl_3 fl_3 [0, 1, 2] rfl
            have hDc := bx_D (bs := [b_g cB cC cI cJ cZ oA rA u_45.2, b_w cB cC cI cJ cZ oA rA u_45.2, b_c cB cC cI cJ cZ oA rA u_45.2]) (bs' := [b_g cB cC cI cJ cZ oA rA u_45.2, b_w cB cC cI cJ cZ oA rA u_45.2, b_c cB cC cI cJ cZ oA rA u_45.2]) (ws' := (b_g cB cC cI cJ cZ oA rA u_45.2 ++ b_w cB cC cI cJ cZ oA rA u_45.2 ++ b_c cB cC cI cJ cZ oA rA u_45.2)) (hDD u_45.2) fl_3 fl_3 [0, 1, 2] (by decide +kernel) rfl
            have hFc := bx_F (bs := [b_g cB cC cI cJ cZ oA rA u_45.2, b_w cB cC cI cJ cZ oA rA u_45.2, b_c cB cC cI cJ cZ oA rA u_45.2]) (bs' := [b_g cB cC cI cJ cZ oA rA u_45.2, b_w cB cC cI cJ cZ oA rA u_45.2, b_c cB cC cI cJ cZ oA rA u_45.2]) (wc := (b_g cB cC cI cJ cZ oA rA u_45.2 ++ b_w cB cC cI cJ cZ oA rA u_45.2 ++ b_c cB cC cI cJ cZ oA rA u_45.2)) (hDD u_45.2) hS hA fl_3 fl_3 [0, 1, 2] rfl
            refine g_ofv (wc := (b_g cB cC cI cJ cZ oA rA u_45.2 ++ b_w cB cC cI cJ cZ oA rA u_45.2 ++ b_c cB cC cI cJ cZ oA rA u_45.2)) (wr := ([] : va_W)) hP (hDD u_45.2) hS hFc (bx_ix [b_g cB cC cI cJ cZ oA rA u_45.2, b_w cB cC cI cJ cZ oA rA u_45.2, b_c cB cC cI cJ cZ oA rA u_45.2] [0, 1, 2]) (bx_ix [b_g cB cC cI cJ cZ oA rA u_45.2, b_w cB cC cI cJ cZ oA rA u_45.2, b_c cB cC cI cJ cZ oA rA u_45.2] []) (bx_C (bs := [b_g cB cC cI cJ cZ oA rA u_45.2, b_w cB cC cI cJ cZ oA rA u_45.2, b_c cB cC cI cJ cZ oA rA u_45.2]) (bs' := [b_g cB cC cI cJ cZ oA rA u_45.2, b_w cB cC cI cJ cZ oA rA u_45.2, b_c cB cC cI cJ cZ oA rA u_45.2]) (is := [0, 1, 2]) fl_3 fl_3 rfl) (bx_C (bs := [b_g cB cC cI cJ cZ oA rA u_45.2, b_w cB cC cI cJ cZ oA rA u_45.2, b_c cB cC cI cJ cZ oA rA u_45.2]) (bs' := []) (is := []) fl_3 fl_0 rfl) (bx_n (by decide +kernel)) (bx_d (by decide +kernel)) (va_runV (As := [.int 2]) (rest := []) ⟨hx, hb, hml, hown, hts⟩ (k_X2_need l dC dI cB cC cI cJ cZ cP oA rA H.size  2 u_45.2 _ hu_47) (cwV 1 hts (g_gV wq_564 wq_565 wq_2000 wq_3 wq_566) rfl rfl rfl (by decide +kernel) ⟨Nat.le_of_ble_eq_true rfl, Nat.le_of_ble_eq_true rfl⟩) (g_preV g_bl0 hK hPc hDc hS hE hFc g_to0 (q0 := 0) (ci := 2) rfl rfl) rfl rfl hl.1 rfl (lv_room (Nat.le_of_ble_eq_true rfl)) dX2_roomItem_85 ⟨Nat.le_of_ble_eq_true rfl, Nat.le_of_ble_eq_true rfl⟩) (fun u9 H locs hw9 hP' hD' hS => ?_)
            clear hPc hDc hFc
            have hP : va_P (dC, dI) vwCl (b_g cB cC cI cJ cZ oA rA u_47.2 ++ b_w cB cC cI cJ cZ oA rA u_47.2 ++ b_c cB cC cI cJ cZ oA rA u_47.2) H := hP'
            clear hP' hD'
            refine lv_goto (tgt := 98) hx hb dX2_roomItem_88 (by decide) ?_
            exact Jj_29  u_47.2 hF_48 _ _ hP hS ls (lv_sub hl [0, 1] rfl)
        · have hF_49 := ineg c_36 hF_30
          clear hF_30
          refine lv_aload_n hx hb dX2_roomItem_55 rfl (lv_at hl 0 rfl) ?_
          refine lv_iconst (v := 4) hx hb dX2_roomItem_56 (by decide +kernel) ?_
          obtain ⟨u_50, hu_50, hF_51⟩ := Option.bind_eq_some_iff.mp hF_49
          clear hF_49
          have hPc := bx_P (bs := [b_g cB cC cI cJ cZ oA rA u_26.2, b_w cB cC cI cJ cZ oA rA u_26.2, b_c cB cC cI cJ cZ oA rA u_26.2]) (bs' := [b_g cB cC cI cJ cZ oA rA u_26.2, b_w cB cC cI cJ cZ oA rA u_26.2, b_c cB cC cI cJ cZ oA rA u_26.2]) (ws' := (b_g cB cC cI cJ cZ oA rA u_26.2 ++ b_w cB cC cI cJ cZ oA rA u_26.2 ++ b_c cB cC cI cJ cZ oA rA u_26.2)) hP fl_3 fl_3 [0, 1, 2] rfl
          have hDc := bx_D (bs := [b_g cB cC cI cJ cZ oA rA u_26.2, b_w cB cC cI cJ cZ oA rA u_26.2, b_c cB cC cI cJ cZ oA rA u_26.2]) (bs' := [b_g cB cC cI cJ cZ oA rA u_26.2, b_w cB cC cI cJ cZ oA rA u_26.2, b_c cB cC cI cJ cZ oA rA u_26.2]) (ws' := (b_g cB cC cI cJ cZ oA rA u_26.2 ++ b_w cB cC cI cJ cZ oA rA u_26.2 ++ b_c cB cC cI cJ cZ oA rA u_26.2)) (hDD u_26.2) fl_3 fl_3 [0, 1, 2] (by decide +kernel) rfl
          have hFc := bx_F (bs := [b_g cB cC cI cJ cZ oA rA u_26.2, b_w cB cC cI cJ cZ oA rA u_26.2, b_c cB cC cI cJ cZ oA rA u_26.2]) (bs' := [b_g cB cC cI cJ cZ oA rA u_26.2, b_w cB cC cI cJ cZ oA rA u_26.2, b_c cB cC cI cJ cZ oA rA u_26.2]) (wc := (b_g cB cC cI cJ cZ oA rA u_26.2 ++ b_w cB cC cI cJ cZ oA rA u_26.2 ++ b_c cB cC cI cJ cZ oA rA u_26.2)) (hDD u_26.2) hS hA fl_3 fl_3 [0, 1, 2] rfl
          refine g_ofv (wc := (b_g cB cC cI cJ cZ oA rA u_26.2 ++ b_w cB cC cI cJ cZ oA rA u_26.2 ++ b_c cB cC cI cJ cZ oA rA u_26.2)) (wr := ([] : va_W)) hP (hDD u_26.2) hS hFc (bx_ix [b_g cB cC cI cJ cZ oA rA u_26.2, b_w cB cC cI cJ cZ oA rA u_26.2, b_c cB cC cI cJ cZ oA rA u_26.2] [0, 1, 2]) (bx_ix [b_g cB cC cI cJ cZ oA rA u_26.2, b_w cB cC cI cJ cZ oA rA u_26.2, b_c cB cC cI cJ cZ oA rA u_26.2] []) (bx_C (bs := [b_g cB cC cI cJ cZ oA rA u_26.2, b_w cB cC cI cJ cZ oA rA u_26.2, b_c cB cC cI cJ cZ oA rA u_26.2]) (bs' := [b_g cB cC cI cJ cZ oA rA u_26.2, b_w cB cC cI cJ cZ oA rA u_26.2, b_c cB cC cI cJ cZ oA rA u_26.2]) (is := [0, 1, 2]) fl_3 fl_3 rfl) (bx_C (bs := [b_g cB cC cI cJ cZ oA rA u_26.2, b_w cB cC cI cJ cZ oA rA u_26.2, b_c cB cC cI cJ cZ oA rA u_26.2]) (bs' := []) (is := []) fl_3 fl_0 rfl) (bx_n (by decide +kernel)) (bx_d (by decide +kernel)) (va_runV (As := [.int 4]) (rest := []) ⟨hx, hb, hml, hown, hts⟩ (k_X2_need l dC dI cB cC cI cJ cZ cP oA rA H.size  4 u_26.2 _ hu_50) (cwV 1 hts (g_gV wq_564 wq_565 wq_2000 wq_3 wq_566) rfl rfl rfl (by decide +kernel) ⟨Nat.le_of_ble_eq_true rfl, Nat.le_of_ble_eq_true rfl⟩) (g_preV g_bl0 hK hPc hDc hS hE hFc g_to0 (q0 := 0) (ci := 2) rfl rfl) rfl rfl hl.1 rfl (lv_room (Nat.le_of_ble_eq_true rfl)) dX2_roomItem_57 ⟨Nat.le_of_ble_eq_true rfl, Nat.le_of_ble_eq_true rfl⟩) (fun u9 H locs hw9 hP' hD' hS => ?_)
          clear hPc hDc hFc
          have hP : va_P (dC, dI) vwCl (b_g cB cC cI cJ cZ oA rA u_50.2 ++ b_w cB cC cI cJ cZ oA rA u_50.2 ++ b_c cB cC cI cJ cZ oA rA u_50.2) H := hP'
          clear hP' hD'
          refine lv_goto (tgt := 98) hx hb dX2_roomItem_60 (by decide) ?_
          exact Jj_29  u_50.2 hF_51 _ _ hP hS ls (lv_sub hl [0, 1] rfl)
theorem dX2_thingItem_0 : decode cX2_thingItem 0 = .ok (.aload_n 0, 1) := by decide +kernel
theorem dX2_thingItem_1 : decode cX2_thingItem 1 = .ok (.iconst 2, 1) := by decide +kernel
theorem dX2_thingItem_2 : decode cX2_thingItem 2 = .ok (.invokevirtual 120, 3) := by decide +kernel
theorem dX2_thingItem_5 : decode cX2_thingItem 5 = .ok (.aload_n 0, 1) := by decide +kernel
theorem dX2_thingItem_6 : decode cX2_thingItem 6 = .ok (.iconst 4, 1) := by decide +kernel
theorem dX2_thingItem_7 : decode cX2_thingItem 7 = .ok (.invokevirtual 120, 3) := by decide +kernel
theorem dX2_thingItem_10 : decode cX2_thingItem 10 = .ok (.aload_n 0, 1) := by decide +kernel
theorem dX2_thingItem_11 : decode cX2_thingItem 11 = .ok (.bipush 123, 2) := by decide +kernel
theorem dX2_thingItem_13 : decode cX2_thingItem 13 = .ok (.invokevirtual 123, 3) := by decide +kernel
theorem dX2_thingItem_16 : decode cX2_thingItem 16 = .ok (.iconst 0, 1) := by decide +kernel
theorem dX2_thingItem_17 : decode cX2_thingItem 17 = .ok (.istore_n 1, 1) := by decide +kernel
theorem dX2_thingItem_18 : decode cX2_thingItem 18 = .ok (.iload_n 1, 1) := by decide +kernel
theorem dX2_thingItem_19 : decode cX2_thingItem 19 = .ok (.aload_n 0, 1) := by decide +kernel
theorem dX2_thingItem_20 : decode cX2_thingItem 20 = .ok (.getfield 9, 3) := by decide +kernel
theorem dX2_thingItem_23 : decode cX2_thingItem 23 = .ok (.getfield 38, 3) := by decide +kernel
theorem dX2_thingItem_26 : decode cX2_thingItem 26 = .ok (.if_icmp .ge 111, 3) := by decide +kernel
theorem dX2_thingItem_29 : decode cX2_thingItem 29 = .ok (.aload_n 0, 1) := by decide +kernel
theorem dX2_thingItem_30 : decode cX2_thingItem 30 = .ok (.getfield 29, 3) := by decide +kernel
theorem dX2_thingItem_33 : decode cX2_thingItem 33 = .ok (.bipush 125, 2) := by decide +kernel
theorem dX2_thingItem_35 : decode cX2_thingItem 35 = .ok (.if_icmp .eq 102, 3) := by decide +kernel
theorem dX2_thingItem_38 : decode cX2_thingItem 38 = .ok (.aload_n 0, 1) := by decide +kernel
theorem dX2_thingItem_39 : decode cX2_thingItem 39 = .ok (.getfield 29, 3) := by decide +kernel
theorem dX2_thingItem_42 : decode cX2_thingItem 42 = .ok (.ifCond .eq 95, 3) := by decide +kernel
theorem dX2_thingItem_45 : decode cX2_thingItem 45 = .ok (.aload_n 0, 1) := by decide +kernel
theorem dX2_thingItem_46 : decode cX2_thingItem 46 = .ok (.sipush 238, 3) := by decide +kernel
theorem dX2_thingItem_49 : decode cX2_thingItem 49 = .ok (.invokevirtual 126, 3) := by decide +kernel
theorem dX2_thingItem_52 : decode cX2_thingItem 52 = .ok (.ifCond .eq 11, 3) := by decide +kernel
theorem dX2_thingItem_55 : decode cX2_thingItem 55 = .ok (.aload_n 0, 1) := by decide +kernel
theorem dX2_thingItem_56 : decode cX2_thingItem 56 = .ok (.iconst 4, 1) := by decide +kernel
theorem dX2_thingItem_57 : decode cX2_thingItem 57 = .ok (.invokevirtual 120, 3) := by decide +kernel
theorem dX2_thingItem_60 : decode cX2_thingItem 60 = .ok (.goto 65, 3) := by decide +kernel
theorem dX2_thingItem_63 : decode cX2_thingItem 63 = .ok (.aload_n 0, 1) := by decide +kernel
theorem dX2_thingItem_64 : decode cX2_thingItem 64 = .ok (.sipush 219, 3) := by decide +kernel
theorem dX2_thingItem_67 : decode cX2_thingItem 67 = .ok (.invokevirtual 126, 3) := by decide +kernel
theorem dX2_thingItem_70 : decode cX2_thingItem 70 = .ok (.ifCond .eq 27, 3) := by decide +kernel
theorem dX2_thingItem_73 : decode cX2_thingItem 73 = .ok (.aload_n 0, 1) := by decide +kernel
theorem dX2_thingItem_74 : decode cX2_thingItem 74 = .ok (.aload_n 0, 1) := by decide +kernel
theorem dX2_thingItem_75 : decode cX2_thingItem 75 = .ok (.getfield 29, 3) := by decide +kernel
theorem dX2_thingItem_78 : decode cX2_thingItem 78 = .ok (.sipush 228, 3) := by decide +kernel
theorem dX2_thingItem_81 : decode cX2_thingItem 81 = .ok (.if_icmp .ne 9, 3) := by decide +kernel
theorem dX2_thingItem_84 : decode cX2_thingItem 84 = .ok (.sipush 228, 3) := by decide +kernel
theorem dX2_thingItem_87 : decode cX2_thingItem 87 = .ok (.goto 4, 3) := by decide +kernel
theorem dX2_thingItem_90 : decode cX2_thingItem 90 = .ok (.iconst 2, 1) := by decide +kernel
theorem dX2_thingItem_91 : decode cX2_thingItem 91 = .ok (.invokevirtual 120, 3) := by decide +kernel
theorem dX2_thingItem_94 : decode cX2_thingItem 94 = .ok (.goto 31, 3) := by decide +kernel
theorem dX2_thingItem_97 : decode cX2_thingItem 97 = .ok (.aload_n 0, 1) := by decide +kernel
theorem dX2_thingItem_98 : decode cX2_thingItem 98 = .ok (.sipush 240, 3) := by decide +kernel
theorem dX2_thingItem_101 : decode cX2_thingItem 101 = .ok (.invokevirtual 126, 3) := by decide +kernel
theorem dX2_thingItem_104 : decode cX2_thingItem 104 = .ok (.ifCond .eq 11, 3) := by decide +kernel
theorem dX2_thingItem_107 : decode cX2_thingItem 107 = .ok (.aload_n 0, 1) := by decide +kernel
theorem dX2_thingItem_108 : decode cX2_thingItem 108 = .ok (.invokevirtual 133, 3) := by decide +kernel
theorem dX2_thingItem_111 : decode cX2_thingItem 111 = .ok (.pop, 1) := by decide +kernel
theorem dX2_thingItem_112 : decode cX2_thingItem 112 = .ok (.goto 13, 3) := by decide +kernel
theorem dX2_thingItem_115 : decode cX2_thingItem 115 = .ok (.aload_n 0, 1) := by decide +kernel
theorem dX2_thingItem_116 : decode cX2_thingItem 116 = .ok (.sipush 206, 3) := by decide +kernel
theorem dX2_thingItem_119 : decode cX2_thingItem 119 = .ok (.sipush 211, 3) := by decide +kernel
theorem dX2_thingItem_122 : decode cX2_thingItem 122 = .ok (.invokevirtual 53, 3) := by decide +kernel
theorem dX2_thingItem_125 : decode cX2_thingItem 125 = .ok (.aload_n 0, 1) := by decide +kernel
theorem dX2_thingItem_126 : decode cX2_thingItem 126 = .ok (.bipush 59, 2) := by decide +kernel
theorem dX2_thingItem_128 : decode cX2_thingItem 128 = .ok (.invokevirtual 120, 3) := by decide +kernel
theorem dX2_thingItem_131 : decode cX2_thingItem 131 = .ok (.iinc 1 1, 3) := by decide +kernel
theorem dX2_thingItem_134 : decode cX2_thingItem 134 = .ok (.goto (-116), 3) := by decide +kernel
theorem dX2_thingItem_137 : decode cX2_thingItem 137 = .ok (.aload_n 0, 1) := by decide +kernel
theorem dX2_thingItem_138 : decode cX2_thingItem 138 = .ok (.bipush 125, 2) := by decide +kernel
theorem dX2_thingItem_140 : decode cX2_thingItem 140 = .ok (.invokevirtual 130, 3) := by decide +kernel
theorem dX2_thingItem_143 : decode cX2_thingItem 143 = .ok (.return_, 1) := by decide +kernel
def F_X2_thingItem  (Γ : HS) : HR :=
  (F_X2_need 2 Γ).bind fun u_1 =>
  (F_X2_need 4 u_1.2).bind fun u_3 =>
  (F_X2_open 123 u_3.2).bind fun u_5 =>
  loopF (fun (again_8 : (Int32 × HS) → HR) (s_7 : Int32 × HS) => (
    bnd (fun  (σ_11 : HS) => (
      (F_X2_shut 125 σ_11).bind fun u_15 =>
      some (0, u_15.2)
    ) : HS → HR) fun j_12 =>
    if ((s_7.2 1).1 2) ≤ s_7.1 then (
      j_12  s_7.2
    ) else (
      if ((s_7.2 2).1 3) = 125 then (
        j_12  s_7.2
      ) else (
        if ((s_7.2 2).1 3) = 0 then (
          j_12  s_7.2
        ) else (
          (F_X2_accept 238 s_7.2).bind fun u_26 =>
          bnd (fun  (σ_28 : HS) => (
            (F_X2_need 59 σ_28).bind fun u_32 =>
            bnd (s_7.1 + 1) fun (x_34 : Int32) =>
            again_8 (x_34, u_32.2)
          ) : HS → HR) fun j_29 =>
          if u_26.1 = 0 then (
            (F_X2_accept 219 u_26.2).bind fun u_38 =>
            if u_38.1 = 0 then (
              (F_X2_accept 240 u_38.2).bind fun u_42 =>
              if u_42.1 = 0 then (
                (F_X2_needFrom 206 211 u_42.2).bind fun u_46 =>
                j_29  u_46.2
              ) else (
                (F_X2_names u_42.2).bind fun u_49 =>
                j_29  u_49.2
              )
            ) else (
              bnd (fun (t_52 : Int32) (σ_53 : HS) => (
                (F_X2_need t_52 σ_53).bind fun u_57 =>
                j_29  u_57.2
              ) : Int32 → HS → HR) fun j_54 =>
              if ((u_38.2 2).1 3) = 228 then (
                j_54 228 u_38.2
              ) else (
                j_54 2 u_38.2
              )
            )
          ) else (
            (F_X2_need 4 u_26.2).bind fun u_63 =>
            j_29  u_63.2
          )
        )
      )
    )
  )) FU (0, u_5.2)
set_option maxHeartbeats 4000000 in
set_option maxRecDepth 100000 in
theorem k_X2_thingItem (l : Launch) (dC : Nat → ClassId) (dI : Nat → Nat → Nat) (cB cC cI cJ cZ cP : ClassId) (oA : Nat → Nat) (rA : Nat → Nat → Nat) (sz : Nat)   (Γ : HS) (res : Int32 × HS) (hF : F_X2_thingItem  Γ = some res) : Met l yX2_thingItem (g_ws yX2_thingItem cX2_thingItem 2 none) ({ frames := 4, cells := 0, slots := 0, locals := 103 }) (va_Pc [.ref (oA 2)] (g_B (dC, dI) [(cB, .byte), (cC, .char), (cI, .int), (cJ, .long), (cZ, .boolean), (cP, .object "StoryHouse$Play")] sz (b_g cB cC cI cJ cZ oA rA Γ ++ b_w cB cC cI cJ cZ oA rA Γ ++ b_c cB cC cI cJ cZ oA rA Γ) g_0)) (va_Qv (fun (_ : Unit) => True) (g_Bo (dC, dI) (va_A (b_g cB cC cI cJ cZ oA rA Γ ++ b_w cB cC cI cJ cZ oA rA Γ ++ b_c cB cC cI cJ cZ oA rA Γ) sz) (fun (_ : Unit) => (b_g cB cC cI cJ cZ oA rA res.2 ++ b_w cB cC cI cJ cZ oA rA res.2 ++ b_c cB cC cI cJ cZ oA rA res.2))) (va_A (b_g cB cC cI cJ cZ oA rA Γ ++ b_w cB cC cI cJ cZ oA rA Γ ++ b_c cB cC cI cJ cZ oA rA Γ) sz)) 0 0 (va_A (b_g cB cC cI cJ cZ oA rA Γ ++ b_w cB cC cI cJ cZ oA rA Γ ++ b_c cB cC cI cJ cZ oA rA Γ) sz) := by
  refine Met.ofW (cc := cX2_thingItem) (maxL := 2) (ret := none) (by decide) rfl ?_
  intro p e s m args below meth c s₁ B hml hv
  obtain ⟨rfl, hsz, hP, hK, hD0, hE, hX⟩ := hv
  have hx := B.exec
  have hb := B.bytes
  have hr := B.returns
  have hts0 := atoms_spec (ws := g_ws yX2_thingItem cX2_thingItem 2 none) B.pre
  have hts : ∀ w ∈ lw_good, w.before ([.ref (oA 2)] : List Value).toArray s = true := fun w z => hts0 w (List.mem_cons_of_mem _ z)
  have hown : s.vm.findClass RX2 = some m.cls := findClass_of_methodNamed B.named
  have hlocks := B.notSynchronized
  subst hsz
  have hD1 := hD0.self (sz := s.heap.size)
  generalize hAe : va_A (b_g cB cC cI cJ cZ oA rA Γ ++ b_w cB cC cI cJ cZ oA rA Γ ++ b_c cB cC cI cJ cZ oA rA Γ) s.heap.size = A at hD1 hE hX ⊢
  have hA : ∀ q : Nat, s.heap.size ≤ q → A q := fun q z => by rw [← hAe]; exact Or.inr z
  have hDD : ∀ Γ : HS, va_D A (b_g cB cC cI cJ cZ oA rA Γ ++ b_w cB cC cI cJ cZ oA rA Γ ++ b_c cB cC cI cJ cZ oA rA Γ) := fun Γ9 => va_D_fst (ws := (b_g cB cC cI cJ cZ oA rA Γ ++ b_w cB cC cI cJ cZ oA rA Γ ++ b_c cB cC cI cJ cZ oA rA Γ)) (ws' := (b_g cB cC cI cJ cZ oA rA Γ9 ++ b_w cB cC cI cJ cZ oA rA Γ9 ++ b_c cB cC cI cJ cZ oA rA Γ9)) rfl hD1
  have hN := hE.1
  have hS : va_S A s.heap s.heap [] := va_S.rf
  have hl := lv_entry ([.ref (oA 2)]) (n := 2) (Nat.le_of_ble_eq_true rfl)
  rw [lg_entry_eq]
  generalize (lg_sl ([.ref (oA 2)]) ++ List.replicate (2 - (lg_sl ([.ref (oA 2)])).length) Slot.unset).toArray = ls at hl ⊢
  have hl : lv_has ls 2 [(0, .ref (oA 2))] := hl
  unfold F_X2_thingItem at hF
  refine lv_aload_n hx hb dX2_thingItem_0 rfl (lv_at hl 0 rfl) ?_
  refine lv_iconst (v := 2) hx hb dX2_thingItem_1 (by decide +kernel) ?_
  obtain ⟨u_1, hu_1, hF_2⟩ := Option.bind_eq_some_iff.mp hF
  clear hF
  have hPc := bx_P (bs := [b_g cB cC cI cJ cZ oA rA Γ, b_w cB cC cI cJ cZ oA rA Γ, b_c cB cC cI cJ cZ oA rA Γ]) (bs' := [b_g cB cC cI cJ cZ oA rA Γ, b_w cB cC cI cJ cZ oA rA Γ, b_c cB cC cI cJ cZ oA rA Γ]) (ws' := (b_g cB cC cI cJ cZ oA rA Γ ++ b_w cB cC cI cJ cZ oA rA Γ ++ b_c cB cC cI cJ cZ oA rA Γ)) hP fl_3 fl_3 [0, 1, 2] rfl
  have hDc := bx_D (bs := [b_g cB cC cI cJ cZ oA rA Γ, b_w cB cC cI cJ cZ oA rA Γ, b_c cB cC cI cJ cZ oA rA Γ]) (bs' := [b_g cB cC cI cJ cZ oA rA Γ, b_w cB cC cI cJ cZ oA rA Γ, b_c cB cC cI cJ cZ oA rA Γ]) (ws' := (b_g cB cC cI cJ cZ oA rA Γ ++ b_w cB cC cI cJ cZ oA rA Γ ++ b_c cB cC cI cJ cZ oA rA Γ)) (hDD Γ) fl_3 fl_3 [0, 1, 2] (by decide +kernel) rfl
  have hFc := bx_F (bs := [b_g cB cC cI cJ cZ oA rA Γ, b_w cB cC cI cJ cZ oA rA Γ, b_c cB cC cI cJ cZ oA rA Γ]) (bs' := [b_g cB cC cI cJ cZ oA rA Γ, b_w cB cC cI cJ cZ oA rA Γ, b_c cB cC cI cJ cZ oA rA Γ]) (wc := (b_g cB cC cI cJ cZ oA rA Γ ++ b_w cB cC cI cJ cZ oA rA Γ ++ b_c cB cC cI cJ cZ oA rA Γ)) (hDD Γ) hS hA fl_3 fl_3 [0, 1, 2] rfl
  refine g_ofv (wc := (b_g cB cC cI cJ cZ oA rA Γ ++ b_w cB cC cI cJ cZ oA rA Γ ++ b_c cB cC cI cJ cZ oA rA Γ)) (wr := ([] : va_W)) hP (hDD Γ) hS hFc (bx_ix [b_g cB cC cI cJ cZ oA rA Γ, b_w cB cC cI cJ cZ oA rA Γ, b_c cB cC cI cJ cZ oA rA Γ] [0, 1, 2]) (bx_ix [b_g cB cC cI cJ cZ oA rA Γ, b_w cB cC cI cJ cZ oA rA Γ, b_c cB cC cI cJ cZ oA rA Γ] []) (bx_C (bs := [b_g cB cC cI cJ cZ oA rA Γ, b_w cB cC cI cJ cZ oA rA Γ, b_c cB cC cI cJ cZ oA rA Γ]) (bs' := [b_g cB cC cI cJ cZ oA rA Γ, b_w cB cC cI cJ cZ oA rA Γ, b_c cB cC cI cJ cZ oA rA Γ]) (is := [0, 1, 2]) fl_3 fl_3 rfl) (bx_C (bs := [b_g cB cC cI cJ cZ oA rA Γ, b_w cB cC cI cJ cZ oA rA Γ, b_c cB cC cI cJ cZ oA rA Γ]) (bs' := []) (is := []) fl_3 fl_0 rfl) (bx_n (by decide +kernel)) (bx_d (by decide +kernel)) (va_runV (As := [.int 2]) (rest := []) ⟨hx, hb, hml, hown, hts⟩ (k_X2_need l dC dI cB cC cI cJ cZ cP oA rA s.heap.size  2 Γ _ hu_1) (cwV 1 hts (g_gV wq_564 wq_565 wq_2000 wq_3 wq_566) rfl rfl rfl (by decide +kernel) ⟨Nat.le_of_ble_eq_true rfl, Nat.le_of_ble_eq_true rfl⟩) (g_preV g_bl0 hK hPc hDc hS hE hFc g_to0 (q0 := 0) (ci := 2) rfl rfl) rfl rfl hl.1 rfl (lv_room (Nat.le_of_ble_eq_true rfl)) dX2_thingItem_2 ⟨Nat.le_of_ble_eq_true rfl, Nat.le_of_ble_eq_true rfl⟩) (fun u9 H locs hw9 hP' hD' hS => ?_)
  clear hPc hDc hFc
  have hP : va_P (dC, dI) vwCl (b_g cB cC cI cJ cZ oA rA u_1.2 ++ b_w cB cC cI cJ cZ oA rA u_1.2 ++ b_c cB cC cI cJ cZ oA rA u_1.2) H := hP'
  clear hP' hD'
  refine lv_aload_n hx hb dX2_thingItem_5 rfl (lv_at hl 0 rfl) ?_
  refine lv_iconst (v := 4) hx hb dX2_thingItem_6 (by decide +kernel) ?_
  obtain ⟨u_3, hu_3, hF_4⟩ := Option.bind_eq_some_iff.mp hF_2
  clear hF_2
  have hPc := bx_P (bs := [b_g cB cC cI cJ cZ oA rA u_1.2, b_w cB cC cI cJ cZ oA rA u_1.2, b_c cB cC cI cJ cZ oA rA u_1.2]) (bs' := [b_g cB cC cI cJ cZ oA rA u_1.2, b_w cB cC cI cJ cZ oA rA u_1.2, b_c cB cC cI cJ cZ oA rA u_1.2]) (ws' := (b_g cB cC cI cJ cZ oA rA u_1.2 ++ b_w cB cC cI cJ cZ oA rA u_1.2 ++ b_c cB cC cI cJ cZ oA rA u_1.2)) hP fl_3 fl_3 [0, 1, 2] rfl
  have hDc := bx_D (bs := [b_g cB cC cI cJ cZ oA rA u_1.2, b_w cB cC cI cJ cZ oA rA u_1.2, b_c cB cC cI cJ cZ oA rA u_1.2]) (bs' := [b_g cB cC cI cJ cZ oA rA u_1.2, b_w cB cC cI cJ cZ oA rA u_1.2, b_c cB cC cI cJ cZ oA rA u_1.2]) (ws' := (b_g cB cC cI cJ cZ oA rA u_1.2 ++ b_w cB cC cI cJ cZ oA rA u_1.2 ++ b_c cB cC cI cJ cZ oA rA u_1.2)) (hDD u_1.2) fl_3 fl_3 [0, 1, 2] (by decide +kernel) rfl
  have hFc := bx_F (bs := [b_g cB cC cI cJ cZ oA rA u_1.2, b_w cB cC cI cJ cZ oA rA u_1.2, b_c cB cC cI cJ cZ oA rA u_1.2]) (bs' := [b_g cB cC cI cJ cZ oA rA u_1.2, b_w cB cC cI cJ cZ oA rA u_1.2, b_c cB cC cI cJ cZ oA rA u_1.2]) (wc := (b_g cB cC cI cJ cZ oA rA u_1.2 ++ b_w cB cC cI cJ cZ oA rA u_1.2 ++ b_c cB cC cI cJ cZ oA rA u_1.2)) (hDD u_1.2) hS hA fl_3 fl_3 [0, 1, 2] rfl
  refine g_ofv (wc := (b_g cB cC cI cJ cZ oA rA u_1.2 ++ b_w cB cC cI cJ cZ oA rA u_1.2 ++ b_c cB cC cI cJ cZ oA rA u_1.2)) (wr := ([] : va_W)) hP (hDD u_1.2) hS hFc (bx_ix [b_g cB cC cI cJ cZ oA rA u_1.2, b_w cB cC cI cJ cZ oA rA u_1.2, b_c cB cC cI cJ cZ oA rA u_1.2] [0, 1, 2]) (bx_ix [b_g cB cC cI cJ cZ oA rA u_1.2, b_w cB cC cI cJ cZ oA rA u_1.2, b_c cB cC cI cJ cZ oA rA u_1.2] []) (bx_C (bs := [b_g cB cC cI cJ cZ oA rA u_1.2, b_w cB cC cI cJ cZ oA rA u_1.2, b_c cB cC cI cJ cZ oA rA u_1.2]) (bs' := [b_g cB cC cI cJ cZ oA rA u_1.2, b_w cB cC cI cJ cZ oA rA u_1.2, b_c cB cC cI cJ cZ oA rA u_1.2]) (is := [0, 1, 2]) fl_3 fl_3 rfl) (bx_C (bs := [b_g cB cC cI cJ cZ oA rA u_1.2, b_w cB cC cI cJ cZ oA rA u_1.2, b_c cB cC cI cJ cZ oA rA u_1.2]) (bs' := []) (is := []) fl_3 fl_0 rfl) (bx_n (by decide +kernel)) (bx_d (by decide +kernel)) (va_runV (As := [.int 4]) (rest := []) ⟨hx, hb, hml, hown, hts⟩ (k_X2_need l dC dI cB cC cI cJ cZ cP oA rA H.size  4 u_1.2 _ hu_3) (cwV 1 hts (g_gV wq_564 wq_565 wq_2000 wq_3 wq_566) rfl rfl rfl (by decide +kernel) ⟨Nat.le_of_ble_eq_true rfl, Nat.le_of_ble_eq_true rfl⟩) (g_preV g_bl0 hK hPc hDc hS hE hFc g_to0 (q0 := 0) (ci := 2) rfl rfl) rfl rfl hl.1 rfl (lv_room (Nat.le_of_ble_eq_true rfl)) dX2_thingItem_7 ⟨Nat.le_of_ble_eq_true rfl, Nat.le_of_ble_eq_true rfl⟩) (fun u9 H locs hw9 hP' hD' hS => ?_)
  clear hPc hDc hFc
  have hP : va_P (dC, dI) vwCl (b_g cB cC cI cJ cZ oA rA u_3.2 ++ b_w cB cC cI cJ cZ oA rA u_3.2 ++ b_c cB cC cI cJ cZ oA rA u_3.2) H := hP'
  clear hP' hD'
  refine lv_aload_n hx hb dX2_thingItem_10 rfl (lv_at hl 0 rfl) ?_
  refine lv_bipush (v := 123) hx hb dX2_thingItem_11 (by decide +kernel) ?_
  obtain ⟨u_5, hu_5, hF_6⟩ := Option.bind_eq_some_iff.mp hF_4
  clear hF_4
  have hPc := bx_P (bs := [b_g cB cC cI cJ cZ oA rA u_3.2, b_w cB cC cI cJ cZ oA rA u_3.2, b_c cB cC cI cJ cZ oA rA u_3.2]) (bs' := [b_g cB cC cI cJ cZ oA rA u_3.2, b_w cB cC cI cJ cZ oA rA u_3.2, b_c cB cC cI cJ cZ oA rA u_3.2]) (ws' := (b_g cB cC cI cJ cZ oA rA u_3.2 ++ b_w cB cC cI cJ cZ oA rA u_3.2 ++ b_c cB cC cI cJ cZ oA rA u_3.2)) hP fl_3 fl_3 [0, 1, 2] rfl
  have hDc := bx_D (bs := [b_g cB cC cI cJ cZ oA rA u_3.2, b_w cB cC cI cJ cZ oA rA u_3.2, b_c cB cC cI cJ cZ oA rA u_3.2]) (bs' := [b_g cB cC cI cJ cZ oA rA u_3.2, b_w cB cC cI cJ cZ oA rA u_3.2, b_c cB cC cI cJ cZ oA rA u_3.2]) (ws' := (b_g cB cC cI cJ cZ oA rA u_3.2 ++ b_w cB cC cI cJ cZ oA rA u_3.2 ++ b_c cB cC cI cJ cZ oA rA u_3.2)) (hDD u_3.2) fl_3 fl_3 [0, 1, 2] (by decide +kernel) rfl
  have hFc := bx_F (bs := [b_g cB cC cI cJ cZ oA rA u_3.2, b_w cB cC cI cJ cZ oA rA u_3.2, b_c cB cC cI cJ cZ oA rA u_3.2]) (bs' := [b_g cB cC cI cJ cZ oA rA u_3.2, b_w cB cC cI cJ cZ oA rA u_3.2, b_c cB cC cI cJ cZ oA rA u_3.2]) (wc := (b_g cB cC cI cJ cZ oA rA u_3.2 ++ b_w cB cC cI cJ cZ oA rA u_3.2 ++ b_c cB cC cI cJ cZ oA rA u_3.2)) (hDD u_3.2) hS hA fl_3 fl_3 [0, 1, 2] rfl
  refine g_ofv (wc := (b_g cB cC cI cJ cZ oA rA u_3.2 ++ b_w cB cC cI cJ cZ oA rA u_3.2 ++ b_c cB cC cI cJ cZ oA rA u_3.2)) (wr := ([] : va_W)) hP (hDD u_3.2) hS hFc (bx_ix [b_g cB cC cI cJ cZ oA rA u_3.2, b_w cB cC cI cJ cZ oA rA u_3.2, b_c cB cC cI cJ cZ oA rA u_3.2] [0, 1, 2]) (bx_ix [b_g cB cC cI cJ cZ oA rA u_3.2, b_w cB cC cI cJ cZ oA rA u_3.2, b_c cB cC cI cJ cZ oA rA u_3.2] []) (bx_C (bs := [b_g cB cC cI cJ cZ oA rA u_3.2, b_w cB cC cI cJ cZ oA rA u_3.2, b_c cB cC cI cJ cZ oA rA u_3.2]) (bs' := [b_g cB cC cI cJ cZ oA rA u_3.2, b_w cB cC cI cJ cZ oA rA u_3.2, b_c cB cC cI cJ cZ oA rA u_3.2]) (is := [0, 1, 2]) fl_3 fl_3 rfl) (bx_C (bs := [b_g cB cC cI cJ cZ oA rA u_3.2, b_w cB cC cI cJ cZ oA rA u_3.2, b_c cB cC cI cJ cZ oA rA u_3.2]) (bs' := []) (is := []) fl_3 fl_0 rfl) (bx_n (by decide +kernel)) (bx_d (by decide +kernel)) (va_runV (As := [.int 123]) (rest := []) ⟨hx, hb, hml, hown, hts⟩ (k_X2_open l dC dI cB cC cI cJ cZ cP oA rA H.size  123 u_3.2 _ hu_5) (cwV 1 hts (g_gV wq_567 wq_568 wq_2001 wq_3 wq_569) rfl rfl rfl (by decide +kernel) ⟨Nat.le_of_ble_eq_true rfl, Nat.le_of_ble_eq_true rfl⟩) (g_preV g_bl0 hK hPc hDc hS hE hFc g_to0 (q0 := 0) (ci := 2) rfl rfl) rfl rfl hl.1 rfl (lv_room (Nat.le_of_ble_eq_true rfl)) dX2_thingItem_13 ⟨Nat.le_of_ble_eq_true rfl, Nat.le_of_ble_eq_true rfl⟩) (fun u9 H locs hw9 hP' hD' hS => ?_)
  clear hPc hDc hFc
  have hP : va_P (dC, dI) vwCl (b_g cB cC cI cJ cZ oA rA u_5.2 ++ b_w cB cC cI cJ cZ oA rA u_5.2 ++ b_c cB cC cI cJ cZ oA rA u_5.2) H := hP'
  clear hP' hD'
  refine lv_iconst (v := 0) hx hb dX2_thingItem_16 (by decide +kernel) ?_
  refine lv_istore_n (lv' := [(1, .int 0), (0, .ref (oA 2))]) hx hb dX2_thingItem_17 rfl hl (by decide) rfl (fun ls hl => ?_)
  refine loopF_ind (P := fun (s_7 : Int32 × HS) => ∀ (H : Heap) (locs : List Loc), va_P (dC, dI) vwCl (b_g cB cC cI cJ cZ oA rA s_7.2 ++ b_w cB cC cI cJ cZ oA rA s_7.2 ++ b_c cB cC cI cJ cZ oA rA s_7.2) H → va_S A s.heap H locs → ∀ ls : Array Slot, lv_has ls 2 [(0, .ref (oA 2)), (1, .int s_7.1)] → W p l e (headSpec (g_ws yX2_thingItem cX2_thingItem 2 none) { frames := 4, cells := 0, slots := 0, locals := 103 }).room s m ([.ref (oA 2)] : List Value).toArray below meth c H locs 0 0 (MQ below (va_Qv (fun (_ : Unit) => True) (g_Bo (dC, dI) A (fun (_ : Unit) => (b_g cB cC cI cJ cZ oA rA res.2 ++ b_w cB cC cI cJ cZ oA rA res.2 ++ b_c cB cC cI cJ cZ oA rA res.2))) A) ([.ref (oA 2)] : List Value).toArray s 0 0 A) (F0 m 18 ls [])) ?_ _ _ hF_6 _ _ hP hS ls (lv_sub hl [1, 0] rfl)
  intro again_8 s_7 ih_9 hF_10
  intro H locs hP hS ls hl
  refine lv_iload_n hx hb dX2_thingItem_18 rfl (lv_at hl 1 rfl) ?_
  refine lv_aload_n hx hb dX2_thingItem_19 rfl (lv_at hl 0 rfl) ?_
  refine va_get (D := (dC, dI)) (ci := 2) (v := .ref (oA 1)) (C := RX2) (T := TX2) (N := 8) hx hb hts ii_X2 hown hK hP 0 rfl rfl 0 (by decide) (hts (.fieldLink RX2 9 "StoryHouse$Grammar" "words" "LStoryHouse$Words;") wq_71) (fun _ h9 => h9) rfl dX2_thingItem_20 ?_
  refine va_get (D := (dC, dI)) (ci := 10) (v := .int ((s_7.2 1).1 2)) (C := RX10) (T := TX10) (N := 12) hx hb hts ii_X10 hown hK hP 1 rfl rfl 2 (by decide) (hts (.fieldLink RX2 38 "StoryHouse$Words" "count" "I") wq_47) (fun _ h9 => h9) rfl dX2_thingItem_23 ?_
  obtain ⟨j_12, ej_12, hF_13⟩ := bnd_e hF_10
  clear hF_10
  have Jj_12 : ∀  (σ_11 : HS), j_12  σ_11 = some res → ∀ (H : Heap) (locs : List Loc), va_P (dC, dI) vwCl (b_g cB cC cI cJ cZ oA rA σ_11 ++ b_w cB cC cI cJ cZ oA rA σ_11 ++ b_c cB cC cI cJ cZ oA rA σ_11) H → va_S A s.heap H locs → ∀ ls : Array Slot, lv_has ls 2 [(0, .ref (oA 2))] → W p l e (headSpec (g_ws yX2_thingItem cX2_thingItem 2 none) { frames := 4, cells := 0, slots := 0, locals := 103 }).room s m ([.ref (oA 2)] : List Value).toArray below meth c H locs 0 0 (MQ below (va_Qv (fun (_ : Unit) => True) (g_Bo (dC, dI) A (fun (_ : Unit) => (b_g cB cC cI cJ cZ oA rA res.2 ++ b_w cB cC cI cJ cZ oA rA res.2 ++ b_c cB cC cI cJ cZ oA rA res.2))) A) ([.ref (oA 2)] : List Value).toArray s 0 0 A) (F0 m 137 ls []) := by
    intro  σ_11 hF0 H locs hP hS ls hl
    subst ej_12
    have hF_14 := hF0
    clear hF0
    refine lv_aload_n hx hb dX2_thingItem_137 rfl (lv_at hl 0 rfl) ?_
    refine lv_bipush (v := 125) hx hb dX2_thingItem_138 (by decide +kernel) ?_
    obtain ⟨u_15, hu_15, hF_16⟩ := Option.bind_eq_some_iff.mp hF_14
    clear hF_14
    have hPc := bx_P (bs := [b_g cB cC cI cJ cZ oA rA σ_11, b_w cB cC cI cJ cZ oA rA σ_11, b_c cB cC cI cJ cZ oA rA σ_11]) (bs' := [b_g cB cC cI cJ cZ oA rA σ_11, b_w cB cC cI cJ cZ oA rA σ_11, b_c cB cC cI cJ cZ oA rA σ_11]) (ws' := (b_g cB cC cI cJ cZ oA rA σ_11 ++ b_w cB cC cI cJ cZ oA rA σ_11 ++ b_c cB cC cI cJ cZ oA rA σ_11)) hP fl_3 fl_3 [0, 1, 2] rfl
    have hDc := bx_D (bs := [b_g cB cC cI cJ cZ oA rA σ_11, b_w cB cC cI cJ cZ oA rA σ_11, b_c cB cC cI cJ cZ oA rA σ_11]) (bs' := [b_g cB cC cI cJ cZ oA rA σ_11, b_w cB cC cI cJ cZ oA rA σ_11, b_c cB cC cI cJ cZ oA rA σ_11]) (ws' := (b_g cB cC cI cJ cZ oA rA σ_11 ++ b_w cB cC cI cJ cZ oA rA σ_11 ++ b_c cB cC cI cJ cZ oA rA σ_11)) (hDD σ_11) fl_3 fl_3 [0, 1, 2] (by decide +kernel) rfl
    have hFc := bx_F (bs := [b_g cB cC cI cJ cZ oA rA σ_11, b_w cB cC cI cJ cZ oA rA σ_11, b_c cB cC cI cJ cZ oA rA σ_11]) (bs' := [b_g cB cC cI cJ cZ oA rA σ_11, b_w cB cC cI cJ cZ oA rA σ_11, b_c cB cC cI cJ cZ oA rA σ_11]) (wc := (b_g cB cC cI cJ cZ oA rA σ_11 ++ b_w cB cC cI cJ cZ oA rA σ_11 ++ b_c cB cC cI cJ cZ oA rA σ_11)) (hDD σ_11) hS hA fl_3 fl_3 [0, 1, 2] rfl
    refine g_ofv (wc := (b_g cB cC cI cJ cZ oA rA σ_11 ++ b_w cB cC cI cJ cZ oA rA σ_11 ++ b_c cB cC cI cJ cZ oA rA σ_11)) (wr := ([] : va_W)) hP (hDD σ_11) hS hFc (bx_ix [b_g cB cC cI cJ cZ oA rA σ_11, b_w cB cC cI cJ cZ oA rA σ_11, b_c cB cC cI cJ cZ oA rA σ_11] [0, 1, 2]) (bx_ix [b_g cB cC cI cJ cZ oA rA σ_11, b_w cB cC cI cJ cZ oA rA σ_11, b_c cB cC cI cJ cZ oA rA σ_11] []) (bx_C (bs := [b_g cB cC cI cJ cZ oA rA σ_11, b_w cB cC cI cJ cZ oA rA σ_11, b_c cB cC cI cJ cZ oA rA σ_11]) (bs' := [b_g cB cC cI cJ cZ oA rA σ_11, b_w cB cC cI cJ cZ oA rA σ_11, b_c cB cC cI cJ cZ oA rA σ_11]) (is := [0, 1, 2]) fl_3 fl_3 rfl) (bx_C (bs := [b_g cB cC cI cJ cZ oA rA σ_11, b_w cB cC cI cJ cZ oA rA σ_11, b_c cB cC cI cJ cZ oA rA σ_11]) (bs' := []) (is := []) fl_3 fl_0 rfl) (bx_n (by decide +kernel)) (bx_d (by decide +kernel)) (va_runV (As := [.int 125]) (rest := []) ⟨hx, hb, hml, hown, hts⟩ (k_X2_shut l dC dI cB cC cI cJ cZ cP oA rA H.size  125 σ_11 _ hu_15) (cwV 1 hts (g_gV wq_576 wq_577 wq_2004 wq_3 wq_578) rfl rfl rfl (by decide +kernel) ⟨Nat.le_of_ble_eq_true rfl, Nat.le_of_ble_eq_true rfl⟩) (g_preV g_bl0 hK hPc hDc hS hE hFc g_to0 (q0 := 0) (ci := 2) rfl rfl) rfl rfl hl.1 rfl (lv_room (Nat.le_of_ble_eq_true rfl)) dX2_thingItem_140 ⟨Nat.le_of_ble_eq_true rfl, Nat.le_of_ble_eq_true rfl⟩) (fun u9 H locs hw9 hP' hD' hS => ?_)
    clear hPc hDc hFc
    have hP : va_P (dC, dI) vwCl (b_g cB cC cI cJ cZ oA rA u_15.2 ++ b_w cB cC cI cJ cZ oA rA u_15.2 ++ b_c cB cC cI cJ cZ oA rA u_15.2) H := hP'
    clear hP' hD'
    have h9 := Option.some.inj hF_16
    subst h9
    exact W.vret hx hb hr (fun t ht hW => ⟨⟨(), rfl, trivial, m_end ht hP, hDD _⟩, hS.F ht⟩) hS.2.2 dX2_thingItem_143
  refine lv_icmp_ge (tgt := 137) hx hb dX2_thingItem_26 (by decide) (fun c_17 => ?_) (fun c_17 => ?_)
  · have hF_18 := ipos c_17 hF_13
    clear hF_13
    exact Jj_12  s_7.2 hF_18 _ _ hP hS ls (lv_sub hl [0] rfl)
  · have hF_19 := ineg c_17 hF_13
    clear hF_13
    refine lv_aload_n hx hb dX2_thingItem_29 rfl (lv_at hl 0 rfl) ?_
    refine va_get (D := (dC, dI)) (ci := 2) (v := .int ((s_7.2 2).1 3)) (C := RX2) (T := TX2) (N := 8) hx hb hts ii_X2 hown hK hP 0 rfl rfl 3 (by decide) (hts (.fieldLink RX2 29 "StoryHouse$Grammar" "kind" "I") wq_74) (fun _ h9 => h9) rfl dX2_thingItem_30 ?_
    refine lv_bipush (v := 125) hx hb dX2_thingItem_33 (by decide +kernel) ?_
    refine lv_icmp_eq (tgt := 137) hx hb dX2_thingItem_35 (by decide) (fun c_20 => ?_) (fun c_20 => ?_)
    · have hF_21 := ipos c_20 hF_19
      clear hF_19
      exact Jj_12  s_7.2 hF_21 _ _ hP hS ls (lv_sub hl [0] rfl)
    · have hF_22 := ineg c_20 hF_19
      clear hF_19
      refine lv_aload_n hx hb dX2_thingItem_38 rfl (lv_at hl 0 rfl) ?_
      refine va_get (D := (dC, dI)) (ci := 2) (v := .int ((s_7.2 2).1 3)) (C := RX2) (T := TX2) (N := 8) hx hb hts ii_X2 hown hK hP 0 rfl rfl 3 (by decide) (hts (.fieldLink RX2 29 "StoryHouse$Grammar" "kind" "I") wq_74) (fun _ h9 => h9) rfl dX2_thingItem_39 ?_
      refine lv_if_eq (tgt := 137) hx hb dX2_thingItem_42 (by decide) (fun c_23 => ?_) (fun c_23 => ?_)
      · have hF_24 := ipos c_23 hF_22
        clear hF_22
        exact Jj_12  s_7.2 hF_24 _ _ hP hS ls (lv_sub hl [0] rfl)
      · have hF_25 := ineg c_23 hF_22
        clear hF_22
        refine lv_aload_n hx hb dX2_thingItem_45 rfl (lv_at hl 0 rfl) ?_
        refine lv_sipush (v := 238) hx hb dX2_thingItem_46 (by decide +kernel) ?_
        obtain ⟨u_26, hu_26, hF_27⟩ := Option.bind_eq_some_iff.mp hF_25
        clear hF_25
        have hPc := bx_P (bs := [b_g cB cC cI cJ cZ oA rA s_7.2, b_w cB cC cI cJ cZ oA rA s_7.2, b_c cB cC cI cJ cZ oA rA s_7.2]) (bs' := [b_g cB cC cI cJ cZ oA rA s_7.2, b_w cB cC cI cJ cZ oA rA s_7.2, b_c cB cC cI cJ cZ oA rA s_7.2]) (ws' := (b_g cB cC cI cJ cZ oA rA s_7.2 ++ b_w cB cC cI cJ cZ oA rA s_7.2 ++ b_c cB cC cI cJ cZ oA rA s_7.2)) hP fl_3 fl_3 [0, 1, 2] rfl
        have hDc := bx_D (bs := [b_g cB cC cI cJ cZ oA rA s_7.2, b_w cB cC cI cJ cZ oA rA s_7.2, b_c cB cC cI cJ cZ oA rA s_7.2]) (bs' := [b_g cB cC cI cJ cZ oA rA s_7.2, b_w cB cC cI cJ cZ oA rA s_7.2, b_c cB cC cI cJ cZ oA rA s_7.2]) (ws' := (b_g cB cC cI cJ cZ oA rA s_7.2 ++ b_w cB cC cI cJ cZ oA rA s_7.2 ++ b_c cB cC cI cJ cZ oA rA s_7.2)) (hDD s_7.2) fl_3 fl_3 [0, 1, 2] (by decide +kernel) rfl
        have hFc := bx_F (bs := [b_g cB cC cI cJ cZ oA rA s_7.2, b_w cB cC cI cJ cZ oA rA s_7.2, b_c cB cC cI cJ cZ oA rA s_7.2]) (bs' := [b_g cB cC cI cJ cZ oA rA s_7.2, b_w cB cC cI cJ cZ oA rA s_7.2, b_c cB cC cI cJ cZ oA rA s_7.2]) (wc := (b_g cB cC cI cJ cZ oA rA s_7.2 ++ b_w cB cC cI cJ cZ oA rA s_7.2 ++ b_c cB cC cI cJ cZ oA rA s_7.2)) (hDD s_7.2) hS hA fl_3 fl_3 [0, 1, 2] rfl
        refine g_ofi (wc := (b_g cB cC cI cJ cZ oA rA s_7.2 ++ b_w cB cC cI cJ cZ oA rA s_7.2 ++ b_c cB cC cI cJ cZ oA rA s_7.2)) (wr := ([] : va_W)) hP (hDD s_7.2) hS hFc (bx_ix [b_g cB cC cI cJ cZ oA rA s_7.2, b_w cB cC cI cJ cZ oA rA s_7.2, b_c cB cC cI cJ cZ oA rA s_7.2] [0, 1, 2]) (bx_ix [b_g cB cC cI cJ cZ oA rA s_7.2, b_w cB cC cI cJ cZ oA rA s_7.2, b_c cB cC cI cJ cZ oA rA s_7.2] []) (bx_C (bs := [b_g cB cC cI cJ cZ oA rA s_7.2, b_w cB cC cI cJ cZ oA rA s_7.2, b_c cB cC cI cJ cZ oA rA s_7.2]) (bs' := [b_g cB cC cI cJ cZ oA rA s_7.2, b_w cB cC cI cJ cZ oA rA s_7.2, b_c cB cC cI cJ cZ oA rA s_7.2]) (is := [0, 1, 2]) fl_3 fl_3 rfl) (bx_C (bs := [b_g cB cC cI cJ cZ oA rA s_7.2, b_w cB cC cI cJ cZ oA rA s_7.2, b_c cB cC cI cJ cZ oA rA s_7.2]) (bs' := []) (is := []) fl_3 fl_0 rfl) (bx_n (by decide +kernel)) (bx_d (by decide +kernel)) (va_runV (As := [.int 238]) (rest := []) ⟨hx, hb, hml, hown, hts⟩ (k_X2_accept l dC dI cB cC cI cJ cZ cP oA rA H.size  238 s_7.2 _ hu_26) (cwV 1 hts (g_gV wq_573 wq_574 wq_2003 wq_3 wq_575) rfl rfl rfl (by decide +kernel) ⟨Nat.le_of_ble_eq_true rfl, Nat.le_of_ble_eq_true rfl⟩) (g_preV g_bl0 hK hPc hDc hS hE hFc g_to0 (q0 := 0) (ci := 2) rfl rfl) rfl rfl hl.1 rfl (lv_room (Nat.le_of_ble_eq_true rfl)) dX2_thingItem_49 ⟨Nat.le_of_ble_eq_true rfl, Nat.le_of_ble_eq_true rfl⟩) (fun r9 u9 H locs hw9 hP' hD' hS => ?_)
        clear hPc hDc hFc
        subst hw9
        have hP : va_P (dC, dI) vwCl (b_g cB cC cI cJ cZ oA rA u_26.2 ++ b_w cB cC cI cJ cZ oA rA u_26.2 ++ b_c cB cC cI cJ cZ oA rA u_26.2) H := hP'
        clear hP' hD'
        obtain ⟨j_29, ej_29, hF_30⟩ := bnd_e hF_27
        clear hF_27
        have Jj_29 : ∀  (σ_28 : HS), j_29  σ_28 = some res → ∀ (H : Heap) (locs : List Loc), va_P (dC, dI) vwCl (b_g cB cC cI cJ cZ oA rA σ_28 ++ b_w cB cC cI cJ cZ oA rA σ_28 ++ b_c cB cC cI cJ cZ oA rA σ_28) H → va_S A s.heap H locs → ∀ ls : Array Slot, lv_has ls 2 [(0, .ref (oA 2)), (1, .int s_7.1)] → W p l e (headSpec (g_ws yX2_thingItem cX2_thingItem 2 none) { frames := 4, cells := 0, slots := 0, locals := 103 }).room s m ([.ref (oA 2)] : List Value).toArray below meth c H locs 0 0 (MQ below (va_Qv (fun (_ : Unit) => True) (g_Bo (dC, dI) A (fun (_ : Unit) => (b_g cB cC cI cJ cZ oA rA res.2 ++ b_w cB cC cI cJ cZ oA rA res.2 ++ b_c cB cC cI cJ cZ oA rA res.2))) A) ([.ref (oA 2)] : List Value).toArray s 0 0 A) (F0 m 125 ls []) := by
          intro  σ_28 hF0 H locs hP hS ls hl
          subst ej_29
          have hF_31 := hF0
          clear hF0
          refine lv_aload_n hx hb dX2_thingItem_125 rfl (lv_at hl 0 rfl) ?_
          refine lv_bipush (v := 59) hx hb dX2_thingItem_126 (by decide +kernel) ?_
          obtain ⟨u_32, hu_32, hF_33⟩ := Option.bind_eq_some_iff.mp hF_31
          clear hF_31
          have hPc := bx_P (bs := [b_g cB cC cI cJ cZ oA rA σ_28, b_w cB cC cI cJ cZ oA rA σ_28, b_c cB cC cI cJ cZ oA rA σ_28]) (bs' := [b_g cB cC cI cJ cZ oA rA σ_28, b_w cB cC cI cJ cZ oA rA σ_28, b_c cB cC cI cJ cZ oA rA σ_28]) (ws' := (b_g cB cC cI cJ cZ oA rA σ_28 ++ b_w cB cC cI cJ cZ oA rA σ_28 ++ b_c cB cC cI cJ cZ oA rA σ_28)) hP fl_3 fl_3 [0, 1, 2] rfl
          have hDc := bx_D (bs := [b_g cB cC cI cJ cZ oA rA σ_28, b_w cB cC cI cJ cZ oA rA σ_28, b_c cB cC cI cJ cZ oA rA σ_28]) (bs' := [b_g cB cC cI cJ cZ oA rA σ_28, b_w cB cC cI cJ cZ oA rA σ_28, b_c cB cC cI cJ cZ oA rA σ_28]) (ws' := (b_g cB cC cI cJ cZ oA rA σ_28 ++ b_w cB cC cI cJ cZ oA rA σ_28 ++ b_c cB cC cI cJ cZ oA rA σ_28)) (hDD σ_28) fl_3 fl_3 [0, 1, 2] (by decide +kernel) rfl
          have hFc := bx_F (bs := [b_g cB cC cI cJ cZ oA rA σ_28, b_w cB cC cI cJ cZ oA rA σ_28, b_c cB cC cI cJ cZ oA rA σ_28]) (bs' := [b_g cB cC cI cJ cZ oA rA σ_28, b_w cB cC cI cJ cZ oA rA σ_28, b_c cB cC cI cJ cZ oA rA σ_28]) (wc := (b_g cB cC cI cJ cZ oA rA σ_28 ++ b_w cB cC cI cJ cZ oA rA σ_28 ++ b_c cB cC cI cJ cZ oA rA σ_28)) (hDD σ_28) hS hA fl_3 fl_3 [0, 1, 2] rfl
          refine g_ofv (wc := (b_g cB cC cI cJ cZ oA rA σ_28 ++ b_w cB cC cI cJ cZ oA rA σ_28 ++ b_c cB cC cI cJ cZ oA rA σ_28)) (wr := ([] : va_W)) hP (hDD σ_28) hS hFc (bx_ix [b_g cB cC cI cJ cZ oA rA σ_28, b_w cB cC cI cJ cZ oA rA σ_28, b_c cB cC cI cJ cZ oA rA σ_28] [0, 1, 2]) (bx_ix [b_g cB cC cI cJ cZ oA rA σ_28, b_w cB cC cI cJ cZ oA rA σ_28, b_c cB cC cI cJ cZ oA rA σ_28] []) (bx_C (bs := [b_g cB cC cI cJ cZ oA rA σ_28, b_w cB cC cI cJ cZ oA rA σ_28, b_c cB cC cI cJ cZ oA rA σ_28]) (bs' := [b_g cB cC cI cJ cZ oA rA σ_28, b_w cB cC cI cJ cZ oA rA σ_28, b_c cB cC cI cJ cZ oA rA σ_28]) (is := [0, 1, 2]) fl_3 fl_3 rfl) (bx_C (bs := [b_g cB cC cI cJ cZ oA rA σ_28, b_w cB cC cI cJ cZ oA rA σ_28, b_c cB cC cI cJ cZ oA rA σ_28]) (bs' := []) (is := []) fl_3 fl_0 rfl) (bx_n (by decide +kernel)) (bx_d (by decide +kernel)) (va_runV (As := [.int 59]) (rest := []) ⟨hx, hb, hml, hown, hts⟩ (k_X2_need l dC dI cB cC cI cJ cZ cP oA rA H.size  59 σ_28 _ hu_32) (cwV 1 hts (g_gV wq_564 wq_565 wq_2000 wq_3 wq_566) rfl rfl rfl (by decide +kernel) ⟨Nat.le_of_ble_eq_true rfl, Nat.le_of_ble_eq_true rfl⟩) (g_preV g_bl0 hK hPc hDc hS hE hFc g_to0 (q0 := 0) (ci := 2) rfl rfl) rfl rfl hl.1 rfl (lv_room (Nat.le_of_ble_eq_true rfl)) dX2_thingItem_128 ⟨Nat.le_of_ble_eq_true rfl, Nat.le_of_ble_eq_true rfl⟩) (fun u9 H locs hw9 hP' hD' hS => ?_)
          clear hPc hDc hFc
          have hP : va_P (dC, dI) vwCl (b_g cB cC cI cJ cZ oA rA u_32.2 ++ b_w cB cC cI cJ cZ oA rA u_32.2 ++ b_c cB cC cI cJ cZ oA rA u_32.2) H := hP'
          clear hP' hD'
          obtain ⟨x_34, ex_34, hF_35⟩ := bnd_e hF_33
          clear hF_33
          refine lv_iinc (v := x_34) (lv' := [(1, .int x_34), (0, .ref (oA 2))]) hx hb dX2_thingItem_131 hl (k := 1) rfl (by rw [ex_34]; rfl) (by decide) rfl (fun ls hl => ?_)
          refine lv_goto (tgt := 18) hx hb dX2_thingItem_134 (by decide) ?_
          exact ih_9 (x_34, u_32.2) hF_35 _ _ hP hS ls (lv_sub hl [1, 0] rfl)
        refine lv_if_eq (tgt := 63) hx hb dX2_thingItem_52 (by decide) (fun c_36 => ?_) (fun c_36 => ?_)
        · have hF_37 := ipos c_36 hF_30
          clear hF_30
          refine lv_aload_n hx hb dX2_thingItem_63 rfl (lv_at hl 0 rfl) ?_
          refine lv_sipush (v := 219) hx hb dX2_thingItem_64 (by decide +kernel) ?_
          obtain ⟨u_38, hu_38, hF_39⟩ := Option.bind_eq_some_iff.mp hF_37
          clear hF_37
          have hPc := bx_P (bs := [b_g cB cC cI cJ cZ oA rA u_26.2, b_w cB cC cI cJ cZ oA rA u_26.2, b_c cB cC cI cJ cZ oA rA u_26.2]) (bs' := [b_g cB cC cI cJ cZ oA rA u_26.2, b_w cB cC cI cJ cZ oA rA u_26.2, b_c cB cC cI cJ cZ oA rA u_26.2]) (ws' := (b_g cB cC cI cJ cZ oA rA u_26.2 ++ b_w cB cC cI cJ cZ oA rA u_26.2 ++ b_c cB cC cI cJ cZ oA rA u_26.2)) hP fl_3 fl_3 [0, 1, 2] rfl
          have hDc := bx_D (bs := [b_g cB cC cI cJ cZ oA rA u_26.2, b_w cB cC cI cJ cZ oA rA u_26.2, b_c cB cC cI cJ cZ oA rA u_26.2]) (bs' := [b_g cB cC cI cJ cZ oA rA u_26.2, b_w cB cC cI cJ cZ oA rA u_26.2, b_c cB cC cI cJ cZ oA rA u_26.2]) (ws' := (b_g cB cC cI cJ cZ oA rA u_26.2 ++ b_w cB cC cI cJ cZ oA rA u_26.2 ++ b_c cB cC cI cJ cZ oA rA u_26.2)) (hDD u_26.2) fl_3 fl_3 [0, 1, 2] (by decide +kernel) rfl
          have hFc := bx_F (bs := [b_g cB cC cI cJ cZ oA rA u_26.2, b_w cB cC cI cJ cZ oA rA u_26.2, b_c cB cC cI cJ cZ oA rA u_26.2]) (bs' := [b_g cB cC cI cJ cZ oA rA u_26.2, b_w cB cC cI cJ cZ oA rA u_26.2, b_c cB cC cI cJ cZ oA rA u_26.2]) (wc := (b_g cB cC cI cJ cZ oA rA u_26.2 ++ b_w cB cC cI cJ cZ oA rA u_26.2 ++ b_c cB cC cI cJ cZ oA rA u_26.2)) (hDD u_26.2) hS hA fl_3 fl_3 [0, 1, 2] rfl
          refine g_ofi (wc := (b_g cB cC cI cJ cZ oA rA u_26.2 ++ b_w cB cC cI cJ cZ oA rA u_26.2 ++ b_c cB cC cI cJ cZ oA rA u_26.2)) (wr := ([] : va_W)) hP (hDD u_26.2) hS hFc (bx_ix [b_g cB cC cI cJ cZ oA rA u_26.2, b_w cB cC cI cJ cZ oA rA u_26.2, b_c cB cC cI cJ cZ oA rA u_26.2] [0, 1, 2]) (bx_ix [b_g cB cC cI cJ cZ oA rA u_26.2, b_w cB cC cI cJ cZ oA rA u_26.2, b_c cB cC cI cJ cZ oA rA u_26.2] []) (bx_C (bs := [b_g cB cC cI cJ cZ oA rA u_26.2, b_w cB cC cI cJ cZ oA rA u_26.2, b_c cB cC cI cJ cZ oA rA u_26.2]) (bs' := [b_g cB cC cI cJ cZ oA rA u_26.2, b_w cB cC cI cJ cZ oA rA u_26.2, b_c cB cC cI cJ cZ oA rA u_26.2]) (is := [0, 1, 2]) fl_3 fl_3 rfl) (bx_C (bs := [b_g cB cC cI cJ cZ oA rA u_26.2, b_w cB cC cI cJ cZ oA rA u_26.2, b_c cB cC cI cJ cZ oA rA u_26.2]) (bs' := []) (is := []) fl_3 fl_0 rfl) (bx_n (by decide +kernel)) (bx_d (by decide +kernel)) (va_runV (As := [.int 219]) (rest := []) ⟨hx, hb, hml, hown, hts⟩ (k_X2_accept l dC dI cB cC cI cJ cZ cP oA rA H.size  219 u_26.2 _ hu_38) (cwV 1 hts (g_gV wq_573 wq_574 wq_2003 wq_3 wq_575) rfl rfl rfl (by decide +kernel) ⟨Nat.le_of_ble_eq_true rfl, Nat.le_of_ble_eq_true rfl⟩) (g_preV g_bl0 hK hPc hDc hS hE hFc g_to0 (q0 := 0) (ci := 2) rfl rfl) rfl rfl hl.1 rfl (lv_room (Nat.le_of_ble_eq_true rfl)) dX2_thingItem_67 ⟨Nat.le_of_ble_eq_true rfl, Nat.le_of_ble_eq_true rfl⟩) (fun r9 u9 H locs hw9 hP' hD' hS => ?_)
          clear hPc hDc hFc
          subst hw9
          have hP : va_P (dC, dI) vwCl (b_g cB cC cI cJ cZ oA rA u_38.2 ++ b_w cB cC cI cJ cZ oA rA u_38.2 ++ b_c cB cC cI cJ cZ oA rA u_38.2) H := hP'
          clear hP' hD'
          refine lv_if_eq (tgt := 97) hx hb dX2_thingItem_70 (by decide) (fun c_40 => ?_) (fun c_40 => ?_)
          · have hF_41 := ipos c_40 hF_39
            clear hF_39
            refine lv_aload_n hx hb dX2_thingItem_97 rfl (lv_at hl 0 rfl) ?_
            refine lv_sipush (v := 240) hx hb dX2_thingItem_98 (by decide +kernel) ?_
            obtain ⟨u_42, hu_42, hF_43⟩ := Option.bind_eq_some_iff.mp hF_41
            clear hF_41
            have hPc := bx_P (bs := [b_g cB cC cI cJ cZ oA rA u_38.2, b_w cB cC cI cJ cZ oA rA u_38.2, b_c cB cC cI cJ cZ oA rA u_38.2]) (bs' := [b_g cB cC cI cJ cZ oA rA u_38.2, b_w cB cC cI cJ cZ oA rA u_38.2, b_c cB cC cI cJ cZ oA rA u_38.2]) (ws' := (b_g cB cC cI cJ cZ oA rA u_38.2 ++ b_w cB cC cI cJ cZ oA rA u_38.2 ++ b_c cB cC cI cJ cZ oA rA u_38.2)) hP fl_3 fl_3 [0, 1, 2] rfl
            have hDc := bx_D (bs := [b_g cB cC cI cJ cZ oA rA u_38.2, b_w cB cC cI cJ cZ oA rA u_38.2, b_c cB cC cI cJ cZ oA rA u_38.2]) (bs' := [b_g cB cC cI cJ cZ oA rA u_38.2, b_w cB cC cI cJ cZ oA rA u_38.2, b_c cB cC cI cJ cZ oA rA u_38.2]) (ws' := (b_g cB cC cI cJ cZ oA rA u_38.2 ++ b_w cB cC cI cJ cZ oA rA u_38.2 ++ b_c cB cC cI cJ cZ oA rA u_38.2)) (hDD u_38.2) fl_3 fl_3 [0, 1, 2] (by decide +kernel) rfl
            have hFc := bx_F (bs := [b_g cB cC cI cJ cZ oA rA u_38.2, b_w cB cC cI cJ cZ oA rA u_38.2, b_c cB cC cI cJ cZ oA rA u_38.2]) (bs' := [b_g cB cC cI cJ cZ oA rA u_38.2, b_w cB cC cI cJ cZ oA rA u_38.2, b_c cB cC cI cJ cZ oA rA u_38.2]) (wc := (b_g cB cC cI cJ cZ oA rA u_38.2 ++ b_w cB cC cI cJ cZ oA rA u_38.2 ++ b_c cB cC cI cJ cZ oA rA u_38.2)) (hDD u_38.2) hS hA fl_3 fl_3 [0, 1, 2] rfl
            refine g_ofi (wc := (b_g cB cC cI cJ cZ oA rA u_38.2 ++ b_w cB cC cI cJ cZ oA rA u_38.2 ++ b_c cB cC cI cJ cZ oA rA u_38.2)) (wr := ([] : va_W)) hP (hDD u_38.2) hS hFc (bx_ix [b_g cB cC cI cJ cZ oA rA u_38.2, b_w cB cC cI cJ cZ oA rA u_38.2, b_c cB cC cI cJ cZ oA rA u_38.2] [0, 1, 2]) (bx_ix [b_g cB cC cI cJ cZ oA rA u_38.2, b_w cB cC cI cJ cZ oA rA u_38.2, b_c cB cC cI cJ cZ oA rA u_38.2] []) (bx_C (bs := [b_g cB cC cI cJ cZ oA rA u_38.2, b_w cB cC cI cJ cZ oA rA u_38.2, b_c cB cC cI cJ cZ oA rA u_38.2]) (bs' := [b_g cB cC cI cJ cZ oA rA u_38.2, b_w cB cC cI cJ cZ oA rA u_38.2, b_c cB cC cI cJ cZ oA rA u_38.2]) (is := [0, 1, 2]) fl_3 fl_3 rfl) (bx_C (bs := [b_g cB cC cI cJ cZ oA rA u_38.2, b_w cB cC cI cJ cZ oA rA u_38.2, b_c cB cC cI cJ cZ oA rA u_38.2]) (bs' := []) (is := []) fl_3 fl_0 rfl) (bx_n (by decide +kernel)) (bx_d (by decide +kernel)) (va_runV (As := [.int 240]) (rest := []) ⟨hx, hb, hml, hown, hts⟩ (k_X2_accept l dC dI cB cC cI cJ cZ cP oA rA H.size  240 u_38.2 _ hu_42) (cwV 1 hts (g_gV wq_573 wq_574 wq_2003 wq_3 wq_575) rfl rfl rfl (by decide +kernel) ⟨Nat.le_of_ble_eq_true rfl, Nat.le_of_ble_eq_true rfl⟩) (g_preV g_bl0 hK hPc hDc hS hE hFc g_to0 (q0 := 0) (ci := 2) rfl rfl) rfl rfl hl.1 rfl (lv_room (Nat.le_of_ble_eq_true rfl)) dX2_thingItem_101 ⟨Nat.le_of_ble_eq_true rfl, Nat.le_of_ble_eq_true rfl⟩) (fun r9 u9 H locs hw9 hP' hD' hS => ?_)
            clear hPc hDc hFc
            subst hw9
            have hP : va_P (dC, dI) vwCl (b_g cB cC cI cJ cZ oA rA u_42.2 ++ b_w cB cC cI cJ cZ oA rA u_42.2 ++ b_c cB cC cI cJ cZ oA rA u_42.2) H := hP'
            clear hP' hD'
            refine lv_if_eq (tgt := 115) hx hb dX2_thingItem_104 (by decide) (fun c_44 => ?_) (fun c_44 => ?_)
            · have hF_45 := ipos c_44 hF_43
              clear hF_43
              refine lv_aload_n hx hb dX2_thingItem_115 rfl (lv_at hl 0 rfl) ?_
              refine lv_sipush (v := 206) hx hb dX2_thingItem_116 (by decide +kernel) ?_
              refine lv_sipush (v := 211) hx hb dX2_thingItem_119 (by decide +kernel) ?_
              obtain ⟨u_46, hu_46, hF_47⟩ := Option.bind_eq_some_iff.mp hF_45
              clear hF_45
              have hPc := bx_P (bs := [b_g cB cC cI cJ cZ oA rA u_42.2, b_w cB cC cI cJ cZ oA rA u_42.2, b_c cB cC cI cJ cZ oA rA u_42.2]) (bs' := [b_g cB cC cI cJ cZ oA rA u_42.2, b_w cB cC cI cJ cZ oA rA u_42.2, b_c cB cC cI cJ cZ oA rA u_42.2]) (ws' := (b_g cB cC cI cJ cZ oA rA u_42.2 ++ b_w cB cC cI cJ cZ oA rA u_42.2 ++ b_c cB cC cI cJ cZ oA rA u_42.2)) hP fl_3 fl_3 [0, 1, 2] rfl
              have hDc := bx_D (bs := [b_g cB cC cI cJ cZ oA rA u_42.2, b_w cB cC cI cJ cZ oA rA u_42.2, b_c cB cC cI cJ cZ oA rA u_42.2]) (bs' := [b_g cB cC cI cJ cZ oA rA u_42.2, b_w cB cC cI cJ cZ oA rA u_42.2, b_c cB cC cI cJ cZ oA rA u_42.2]) (ws' := (b_g cB cC cI cJ cZ oA rA u_42.2 ++ b_w cB cC cI cJ cZ oA rA u_42.2 ++ b_c cB cC cI cJ cZ oA rA u_42.2)) (hDD u_42.2) fl_3 fl_3 [0, 1, 2] (by decide +kernel) rfl
              have hFc := bx_F (bs := [b_g cB cC cI cJ cZ oA rA u_42.2, b_w cB cC cI cJ cZ oA rA u_42.2, b_c cB cC cI cJ cZ oA rA u_42.2]) (bs' := [b_g cB cC cI cJ cZ oA rA u_42.2, b_w cB cC cI cJ cZ oA rA u_42.2, b_c cB cC cI cJ cZ oA rA u_42.2]) (wc := (b_g cB cC cI cJ cZ oA rA u_42.2 ++ b_w cB cC cI cJ cZ oA rA u_42.2 ++ b_c cB cC cI cJ cZ oA rA u_42.2)) (hDD u_42.2) hS hA fl_3 fl_3 [0, 1, 2] rfl
              refine g_ofv (wc := (b_g cB cC cI cJ cZ oA rA u_42.2 ++ b_w cB cC cI cJ cZ oA rA u_42.2 ++ b_c cB cC cI cJ cZ oA rA u_42.2)) (wr := ([] : va_W)) hP (hDD u_42.2) hS hFc (bx_ix [b_g cB cC cI cJ cZ oA rA u_42.2, b_w cB cC cI cJ cZ oA rA u_42.2, b_c cB cC cI cJ cZ oA rA u_42.2] [0, 1, 2]) (bx_ix [b_g cB cC cI cJ cZ oA rA u_42.2, b_w cB cC cI cJ cZ oA rA u_42.2, b_c cB cC cI cJ cZ oA rA u_42.2] []) (bx_C (bs := [b_g cB cC cI cJ cZ oA rA u_42.2, b_w cB cC cI cJ cZ oA rA u_42.2, b_c cB cC cI cJ cZ oA rA u_42.2]) (bs' := [b_g cB cC cI cJ cZ oA rA u_42.2, b_w cB cC cI cJ cZ oA rA u_42.2, b_c cB cC cI cJ cZ oA rA u_42.2]) (is := [0, 1, 2]) fl_3 fl_3 rfl) (bx_C (bs := [b_g cB cC cI cJ cZ oA rA u_42.2, b_w cB cC cI cJ cZ oA rA u_42.2, b_c cB cC cI cJ cZ oA rA u_42.2]) (bs' := []) (is := []) fl_3 fl_0 rfl) (bx_n (by decide +kernel)) (bx_d (by decide +kernel)) (va_runV (As := [.int 206, .int 211]) (rest := []) ⟨hx, hb, hml, hown, hts⟩ (k_X2_needFrom l dC dI cB cC cI cJ cZ cP oA rA H.size  206 211 u_42.2 _ hu_46) (cwV 2 hts (g_gV wq_549 wq_550 wq_1995 wq_3 wq_551) rfl rfl rfl (by decide +kernel) ⟨Nat.le_of_ble_eq_true rfl, Nat.le_of_ble_eq_true rfl⟩) (g_preV g_bl0 hK hPc hDc hS hE hFc g_to0 (q0 := 0) (ci := 2) rfl rfl) rfl rfl hl.1 rfl (lv_room (Nat.le_of_ble_eq_true rfl)) dX2_thingItem_122 ⟨Nat.le_of_ble_eq_true rfl, Nat.le_of_ble_eq_true rfl⟩) (fun u9 H locs hw9 hP' hD' hS => ?_)
              clear hPc hDc hFc
              have hP : va_P (dC, dI) vwCl (b_g cB cC cI cJ cZ oA rA u_46.2 ++ b_w cB cC cI cJ cZ oA rA u_46.2 ++ b_c cB cC cI cJ cZ oA rA u_46.2) H := hP'
              clear hP' hD'
              exact Jj_29  u_46.2 hF_47 _ _ hP hS ls (lv_sub hl [0, 1] rfl)
            · have hF_48 := ineg c_44 hF_43
              clear hF_43
              refine lv_aload_n hx hb dX2_thingItem_107 rfl (lv_at hl 0 rfl) ?_
              obtain ⟨u_49, hu_49, hF_50⟩ := Option.bind_eq_some_iff.mp hF_48
              clear hF_48
              have hPc := bx_P (bs := [b_g cB cC cI cJ cZ oA rA u_42.2, b_w cB cC cI cJ cZ oA rA u_42.2, b_c cB cC cI cJ cZ oA rA u_42.2]) (bs' := [b_g cB cC cI cJ cZ oA rA u_42.2, b_w cB cC cI cJ cZ oA rA u_42.2, b_c cB cC cI cJ cZ oA rA u_42.2]) (ws' := (b_g cB cC cI cJ cZ oA rA u_42.2 ++ b_w cB cC cI cJ cZ oA rA u_42.2 ++ b_c cB cC cI cJ cZ oA rA u_42.2)) hP fl_3 fl_3 [0, 1, 2] rfl
              have hDc := bx_D (bs := [b_g cB cC cI cJ cZ oA rA u_42.2, b_w cB cC cI cJ cZ oA rA u_42.2, b_c cB cC cI cJ cZ oA rA u_42.2]) (bs' := [b_g cB cC cI cJ cZ oA rA u_42.2, b_w cB cC cI cJ cZ oA rA u_42.2, b_c cB cC cI cJ cZ oA rA u_42.2]) (ws' := (b_g cB cC cI cJ cZ oA rA u_42.2 ++ b_w cB cC cI cJ cZ oA rA u_42.2 ++ b_c cB cC cI cJ cZ oA rA u_42.2)) (hDD u_42.2) fl_3 fl_3 [0, 1, 2] (by decide +kernel) rfl
              have hFc := bx_F (bs := [b_g cB cC cI cJ cZ oA rA u_42.2, b_w cB cC cI cJ cZ oA rA u_42.2, b_c cB cC cI cJ cZ oA rA u_42.2]) (bs' := [b_g cB cC cI cJ cZ oA rA u_42.2, b_w cB cC cI cJ cZ oA rA u_42.2, b_c cB cC cI cJ cZ oA rA u_42.2]) (wc := (b_g cB cC cI cJ cZ oA rA u_42.2 ++ b_w cB cC cI cJ cZ oA rA u_42.2 ++ b_c cB cC cI cJ cZ oA rA u_42.2)) (hDD u_42.2) hS hA fl_3 fl_3 [0, 1, 2] rfl
              refine g_ofi (wc := (b_g cB cC cI cJ cZ oA rA u_42.2 ++ b_w cB cC cI cJ cZ oA rA u_42.2 ++ b_c cB cC cI cJ cZ oA rA u_42.2)) (wr := ([] : va_W)) hP (hDD u_42.2) hS hFc (bx_ix [b_g cB cC cI cJ cZ oA rA u_42.2, b_w cB cC cI cJ cZ oA rA u_42.2, b_c cB cC cI cJ cZ oA rA u_42.2] [0, 1, 2]) (bx_ix [b_g cB cC cI cJ cZ oA rA u_42.2, b_w cB cC cI cJ cZ oA rA u_42.2, b_c cB cC cI cJ cZ oA rA u_42.2] []) (bx_C (bs := [b_g cB cC cI cJ cZ oA rA u_42.2, b_w cB cC cI cJ cZ oA rA u_42.2, b_c cB cC cI cJ cZ oA rA u_42.2]) (bs' := [b_g cB cC cI cJ cZ oA rA u_42.2, b_w cB cC cI cJ cZ oA rA u_42.2, b_c cB cC cI cJ cZ oA rA u_42.2]) (is := [0, 1, 2]) fl_3 fl_3 rfl) (bx_C (bs := [b_g cB cC cI cJ cZ oA rA u_42.2, b_w cB cC cI cJ cZ oA rA u_42.2, b_c cB cC cI cJ cZ oA rA u_42.2]) (bs' := []) (is := []) fl_3 fl_0 rfl) (bx_n (by decide +kernel)) (bx_d (by decide +kernel)) (va_runV (As := []) (rest := []) ⟨hx, hb, hml, hown, hts⟩ (k_X2_names l dC dI cB cC cI cJ cZ cP oA rA H.size  u_42.2 _ hu_49) (cwV 0 hts (g_gV wq_582 wq_583 wq_2006 wq_3 wq_584) rfl rfl rfl (by decide +kernel) ⟨Nat.le_of_ble_eq_true rfl, Nat.le_of_ble_eq_true rfl⟩) (g_preV g_bl0 hK hPc hDc hS hE hFc g_to0 (q0 := 0) (ci := 2) rfl rfl) rfl rfl hl.1 rfl (lv_room (Nat.le_of_ble_eq_true rfl)) dX2_thingItem_108 ⟨Nat.le_of_ble_eq_true rfl, Nat.le_of_ble_eq_true rfl⟩) (fun r9 u9 H locs hw9 hP' hD' hS => ?_)
              clear hPc hDc hFc
              subst hw9
              have hP : va_P (dC, dI) vwCl (b_g cB cC cI cJ cZ oA rA u_49.2 ++ b_w cB cC cI cJ cZ oA rA u_49.2 ++ b_c cB cC cI cJ cZ oA rA u_49.2) H := hP'
              clear hP' hD'
              refine lv_pop hx hb dX2_thingItem_111 rfl ?_
              refine lv_goto (tgt := 125) hx hb dX2_thingItem_112 (by decide) ?_
              exact Jj_29  u_49.2 hF_50 _ _ hP hS ls (lv_sub hl [0, 1] rfl)
          · have hF_51 := ineg c_40 hF_39
            clear hF_39
            refine lv_aload_n hx hb dX2_thingItem_73 rfl (lv_at hl 0 rfl) ?_
            refine lv_aload_n hx hb dX2_thingItem_74 rfl (lv_at hl 0 rfl) ?_
            refine va_get (D := (dC, dI)) (ci := 2) (v := .int ((u_38.2 2).1 3)) (C := RX2) (T := TX2) (N := 8) hx hb hts ii_X2 hown hK hP 0 rfl rfl 3 (by decide) (hts (.fieldLink RX2 29 "StoryHouse$Grammar" "kind" "I") wq_74) (fun _ h9 => h9) rfl dX2_thingItem_75 ?_
            refine lv_sipush (v := 228) hx hb dX2_thingItem_78 (by decide +kernel) ?_
            obtain ⟨j_54, ej_54, hF_55⟩ := bnd_e hF_51
            clear hF_51
            have Jj_54 : ∀ (t_52 : Int32) (σ_53 : HS), j_54 t_52 σ_53 = some res → ∀ (H : Heap) (locs : List Loc), va_P (dC, dI) vwCl (b_g cB cC cI cJ cZ oA rA σ_53 ++ b_w cB cC cI cJ cZ oA rA σ_53 ++ b_c cB cC cI cJ cZ oA rA σ_53) H → va_S A s.heap H locs → ∀ ls : Array Slot, lv_has ls 2 [(0, .ref (oA 2)), (1, .int s_7.1)] → W p l e (headSpec (g_ws yX2_thingItem cX2_thingItem 2 none) { frames := 4, cells := 0, slots := 0, locals := 103 }).room s m ([.ref (oA 2)] : List Value).toArray below meth c H locs 0 0 (MQ below (va_Qv (fun (_ : Unit) => True) (g_Bo (dC, dI) A (fun (_ : Unit) => (b_g cB cC cI cJ cZ oA rA res.2 ++ b_w cB cC cI cJ cZ oA rA res.2 ++ b_c cB cC cI cJ cZ oA rA res.2))) A) ([.ref (oA 2)] : List Value).toArray s 0 0 A) (F0 m 91 ls [.int t_52, .ref (oA 2)]) := by
              intro t_52 σ_53 hF0 H locs hP hS ls hl
              subst ej_54
              have hF_56 := hF0
              clear hF0
              obtain ⟨u_57, hu_57, hF_58⟩ := Option.bind_eq_some_iff.mp hF_56
              clear hF_56
              have hPc := bx_P (bs := [b_g cB cC cI cJ cZ oA rA σ_53, b_w cB cC cI cJ cZ oA rA σ_53, b_c cB cC cI cJ cZ oA rA σ_53]) (bs' := [b_g cB cC cI cJ cZ oA rA σ_53, b_w cB cC cI cJ cZ oA rA σ_53, b_c cB cC cI cJ cZ oA rA σ_53]) (ws' := (b_g cB cC cI cJ cZ oA rA σ_53 ++ b_w cB cC cI cJ cZ oA rA σ_53 ++ b_c cB cC cI cJ cZ oA rA σ_53)) hP fl_3 fl_3 [0, 1, 2] rfl
              have hDc := bx_D (bs := [b_g cB cC cI cJ cZ oA rA σ_53, b_w cB cC cI cJ cZ oA rA σ_53, b_c cB cC cI cJ cZ oA rA σ_53]) (bs' := [b_g cB cC cI cJ cZ oA rA σ_53, b_w cB cC cI cJ cZ oA rA σ_53, b_c cB cC cI cJ cZ oA rA σ_53]) (ws' := (b_g cB cC cI cJ cZ oA rA σ_53 ++ b_w cB cC cI cJ cZ oA rA σ_53 ++ b_c cB cC cI cJ cZ oA rA σ_53)) (hDD σ_53) fl_3 fl_3 [0, 1, 2] (by decide +kernel) rfl
              have hFc := bx_F (bs := [b_g cB cC cI cJ cZ oA rA σ_53, b_w cB cC cI cJ cZ oA rA σ_53, b_c cB cC cI cJ cZ oA rA σ_53]) (bs' := [b_g cB cC cI cJ cZ oA rA σ_53, b_w cB cC cI cJ cZ oA rA σ_53, b_c cB cC cI cJ cZ oA rA σ_53]) (wc := (b_g cB cC cI cJ cZ oA rA σ_53 ++ b_w cB cC cI cJ cZ oA rA σ_53 ++ b_c cB cC cI cJ cZ oA rA σ_53)) (hDD σ_53) hS hA fl_3 fl_3 [0, 1, 2] rfl
              refine g_ofv (wc := (b_g cB cC cI cJ cZ oA rA σ_53 ++ b_w cB cC cI cJ cZ oA rA σ_53 ++ b_c cB cC cI cJ cZ oA rA σ_53)) (wr := ([] : va_W)) hP (hDD σ_53) hS hFc (bx_ix [b_g cB cC cI cJ cZ oA rA σ_53, b_w cB cC cI cJ cZ oA rA σ_53, b_c cB cC cI cJ cZ oA rA σ_53] [0, 1, 2]) (bx_ix [b_g cB cC cI cJ cZ oA rA σ_53, b_w cB cC cI cJ cZ oA rA σ_53, b_c cB cC cI cJ cZ oA rA σ_53] []) (bx_C (bs := [b_g cB cC cI cJ cZ oA rA σ_53, b_w cB cC cI cJ cZ oA rA σ_53, b_c cB cC cI cJ cZ oA rA σ_53]) (bs' := [b_g cB cC cI cJ cZ oA rA σ_53, b_w cB cC cI cJ cZ oA rA σ_53, b_c cB cC cI cJ cZ oA rA σ_53]) (is := [0, 1, 2]) fl_3 fl_3 rfl) (bx_C (bs := [b_g cB cC cI cJ cZ oA rA σ_53, b_w cB cC cI cJ cZ oA rA σ_53, b_c cB cC cI cJ cZ oA rA σ_53]) (bs' := []) (is := []) fl_3 fl_0 rfl) (bx_n (by decide +kernel)) (bx_d (by decide +kernel)) (va_runV (As := [.int t_52]) (rest := []) ⟨hx, hb, hml, hown, hts⟩ (k_X2_need l dC dI cB cC cI cJ cZ cP oA rA H.size  t_52 σ_53 _ hu_57) (cwV 1 hts (g_gV wq_564 wq_565 wq_2000 wq_3 wq_566) rfl rfl rfl (by decide +kernel) ⟨Nat.le_of_ble_eq_true rfl, Nat.le_of_ble_eq_true rfl⟩) (g_preV g_bl0 hK hPc hDc hS hE hFc g_to0 (q0 := 0) (ci := 2) rfl rfl) rfl rfl hl.1 rfl (lv_room (Nat.le_of_ble_eq_true rfl)) dX2_thingItem_91 ⟨Nat.le_of_ble_eq_true rfl, Nat.le_of_ble_eq_true rfl⟩) (fun u9 H locs hw9 hP' hD' hS => ?_)
              clear hPc hDc hFc
              have hP : va_P (dC, dI) vwCl (b_g cB cC cI cJ cZ oA rA u_57.2 ++ b_w cB cC cI cJ cZ oA rA u_57.2 ++ b_c cB cC cI cJ cZ oA rA u_57.2) H := hP'
              clear hP' hD'
              refine lv_goto (tgt := 125) hx hb dX2_thingItem_94 (by decide) ?_
              exact Jj_29  u_57.2 hF_58 _ _ hP hS ls (lv_sub hl [0, 1] rfl)
            refine lv_icmp_ne (tgt := 90) hx hb dX2_thingItem_81 (by decide) (fun c_59 => ?_) (fun c_59 => ?_)
            · have hF_61 := ineg c_59 hF_55
              clear hF_55
              refine lv_iconst (v := 2) hx hb dX2_thingItem_90 (by decide +kernel) ?_
              exact Jj_54 2 u_38.2 hF_61 _ _ hP hS ls (lv_sub hl [0, 1] rfl)
            · have hF_60 := ipos c_59 hF_55
              clear hF_55
              refine lv_sipush (v := 228) hx hb dX2_thingItem_84 (by decide +kernel) ?_
              refine lv_goto (tgt := 91) hx hb dX2_thingItem_87 (by decide) ?_
              exact Jj_54 228 u_38.2 hF_60 _ _ hP hS ls (lv_sub hl [0, 1] rfl)
        · have hF_62 := ineg c_36 hF_30
          clear hF_30
          refine lv_aload_n hx hb dX2_thingItem_55 rfl (lv_at hl 0 rfl) ?_
          refine lv_iconst (v := 4) hx hb dX2_thingItem_56 (by decide +kernel) ?_
          obtain ⟨u_63, hu_63, hF_64⟩ := Option.bind_eq_some_iff.mp hF_62
          clear hF_62
          have hPc := bx_P (bs := [b_g cB cC cI cJ cZ oA rA u_26.2, b_w cB cC cI cJ cZ oA rA u_26.2, b_c cB cC cI cJ cZ oA rA u_26.2]) (bs' := [b_g cB cC cI cJ cZ oA rA u_26.2, b_w cB cC cI cJ cZ oA rA u_26.2, b_c cB cC cI cJ cZ oA rA u_26.2]) (ws' := (b_g cB cC cI cJ cZ oA rA u_26.2 ++ b_w cB cC cI cJ cZ oA rA u_26.2 ++ b_c cB cC cI cJ cZ oA rA u_26.2)) hP fl_3 fl_3 [0, 1, 2] rfl
          have hDc := bx_D (bs := [b_g cB cC cI cJ cZ oA rA u_26.2, b_w cB cC cI cJ cZ oA rA u_26.2, b_c cB cC cI cJ cZ oA rA u_26.2]) (bs' := [b_g cB cC cI cJ cZ oA rA u_26.2, b_w cB cC cI cJ cZ oA rA u_26.2, b_c cB cC cI cJ cZ oA rA u_26.2]) (ws' := (b_g cB cC cI cJ cZ oA rA u_26.2 ++ b_w cB cC cI cJ cZ oA rA u_26.2 ++ b_c cB cC cI cJ cZ oA rA u_26.2)) (hDD u_26.2) fl_3 fl_3 [0, 1, 2] (by decide +kernel) rfl
          have hFc := bx_F (bs := [b_g cB cC cI cJ cZ oA rA u_26.2, b_w cB cC cI cJ cZ oA rA u_26.2, b_c cB cC cI cJ cZ oA rA u_26.2]) (bs' := [b_g cB cC cI cJ cZ oA rA u_26.2, b_w cB cC cI cJ cZ oA rA u_26.2, b_c cB cC cI cJ cZ oA rA u_26.2]) (wc := (b_g cB cC cI cJ cZ oA rA u_26.2 ++ b_w cB cC cI cJ cZ oA rA u_26.2 ++ b_c cB cC cI cJ cZ oA rA u_26.2)) (hDD u_26.2) hS hA fl_3 fl_3 [0, 1, 2] rfl
          refine g_ofv (wc := (b_g cB cC cI cJ cZ oA rA u_26.2 ++ b_w cB cC cI cJ cZ oA rA u_26.2 ++ b_c cB cC cI cJ cZ oA rA u_26.2)) (wr := ([] : va_W)) hP (hDD u_26.2) hS hFc (bx_ix [b_g cB cC cI cJ cZ oA rA u_26.2, b_w cB cC cI cJ cZ oA rA u_26.2, b_c cB cC cI cJ cZ oA rA u_26.2] [0, 1, 2]) (bx_ix [b_g cB cC cI cJ cZ oA rA u_26.2, b_w cB cC cI cJ cZ oA rA u_26.2, b_c cB cC cI cJ cZ oA rA u_26.2] []) (bx_C (bs := [b_g cB cC cI cJ cZ oA rA u_26.2, b_w cB cC cI cJ cZ oA rA u_26.2, b_c cB cC cI cJ cZ oA rA u_26.2]) (bs' := [b_g cB cC cI cJ cZ oA rA u_26.2, b_w cB cC cI cJ cZ oA rA u_26.2, b_c cB cC cI cJ cZ oA rA u_26.2]) (is := [0, 1, 2]) fl_3 fl_3 rfl) (bx_C (bs := [b_g cB cC cI cJ cZ oA rA u_26.2, b_w cB cC cI cJ cZ oA rA u_26.2, b_c cB cC cI cJ cZ oA rA u_26.2]) (bs' := []) (is := []) fl_3 fl_0 rfl) (bx_n (by decide +kernel)) (bx_d (by decide +kernel)) (va_runV (As := [.int 4]) (rest := []) ⟨hx, hb, hml, hown, hts⟩ (k_X2_need l dC dI cB cC cI cJ cZ cP oA rA H.size  4 u_26.2 _ hu_63) (cwV 1 hts (g_gV wq_564 wq_565 wq_2000 wq_3 wq_566) rfl rfl rfl (by decide +kernel) ⟨Nat.le_of_ble_eq_true rfl, Nat.le_of_ble_eq_true rfl⟩) (g_preV g_bl0 hK hPc hDc hS hE hFc g_to0 (q0 := 0) (ci := 2) rfl rfl) rfl rfl hl.1 rfl (lv_room (Nat.le_of_ble_eq_true rfl)) dX2_thingItem_57 ⟨Nat.le_of_ble_eq_true rfl, Nat.le_of_ble_eq_true rfl⟩) (fun u9 H locs hw9 hP' hD' hS => ?_)
          clear hPc hDc hFc
          have hP : va_P (dC, dI) vwCl (b_g cB cC cI cJ cZ oA rA u_63.2 ++ b_w cB cC cI cJ cZ oA rA u_63.2 ++ b_c cB cC cI cJ cZ oA rA u_63.2) H := hP'
          clear hP' hD'
          refine lv_goto (tgt := 125) hx hb dX2_thingItem_60 (by decide) ?_
          exact Jj_29  u_63.2 hF_64 _ _ hP hS ls (lv_sub hl [0, 1] rfl)
theorem dX2_varItem_0 : decode cX2_varItem 0 = .ok (.aload_n 0, 1) := by decide +kernel
theorem dX2_varItem_1 : decode cX2_varItem 1 = .ok (.iconst 2, 1) := by decide +kernel
theorem dX2_varItem_2 : decode cX2_varItem 2 = .ok (.invokevirtual 120, 3) := by decide +kernel
theorem dX2_varItem_5 : decode cX2_varItem 5 = .ok (.aload_n 0, 1) := by decide +kernel
theorem dX2_varItem_6 : decode cX2_varItem 6 = .ok (.bipush 61, 2) := by decide +kernel
theorem dX2_varItem_8 : decode cX2_varItem 8 = .ok (.invokevirtual 120, 3) := by decide +kernel
theorem dX2_varItem_11 : decode cX2_varItem 11 = .ok (.aload_n 0, 1) := by decide +kernel
theorem dX2_varItem_12 : decode cX2_varItem 12 = .ok (.bipush 45, 2) := by decide +kernel
theorem dX2_varItem_14 : decode cX2_varItem 14 = .ok (.invokevirtual 126, 3) := by decide +kernel
theorem dX2_varItem_17 : decode cX2_varItem 17 = .ok (.pop, 1) := by decide +kernel
theorem dX2_varItem_18 : decode cX2_varItem 18 = .ok (.aload_n 0, 1) := by decide +kernel
theorem dX2_varItem_19 : decode cX2_varItem 19 = .ok (.iconst 3, 1) := by decide +kernel
theorem dX2_varItem_20 : decode cX2_varItem 20 = .ok (.invokevirtual 120, 3) := by decide +kernel
theorem dX2_varItem_23 : decode cX2_varItem 23 = .ok (.aload_n 0, 1) := by decide +kernel
theorem dX2_varItem_24 : decode cX2_varItem 24 = .ok (.bipush 59, 2) := by decide +kernel
theorem dX2_varItem_26 : decode cX2_varItem 26 = .ok (.invokevirtual 120, 3) := by decide +kernel
theorem dX2_varItem_29 : decode cX2_varItem 29 = .ok (.return_, 1) := by decide +kernel
def F_X2_varItem  (Γ : HS) : HR :=
  (F_X2_need 2 Γ).bind fun u_1 =>
  (F_X2_need 61 u_1.2).bind fun u_3 =>
  (F_X2_accept 45 u_3.2).bind fun u_5 =>
  (F_X2_need 3 u_5.2).bind fun u_7 =>
  (F_X2_need 59 u_7.2).bind fun u_9 =>
  some (0, u_9.2)
set_option maxHeartbeats 4000000 in
set_option maxRecDepth 100000 in
theorem k_X2_varItem (l : Launch) (dC : Nat → ClassId) (dI : Nat → Nat → Nat) (cB cC cI cJ cZ cP : ClassId) (oA : Nat → Nat) (rA : Nat → Nat → Nat) (sz : Nat)   (Γ : HS) (res : Int32 × HS) (hF : F_X2_varItem  Γ = some res) : Met l yX2_varItem (g_ws yX2_varItem cX2_varItem 1 none) ({ frames := 3, cells := 0, slots := 0, locals := 82 }) (va_Pc [.ref (oA 2)] (g_B (dC, dI) [(cB, .byte), (cC, .char), (cI, .int), (cJ, .long), (cZ, .boolean), (cP, .object "StoryHouse$Play")] sz (b_g cB cC cI cJ cZ oA rA Γ ++ b_w cB cC cI cJ cZ oA rA Γ ++ b_c cB cC cI cJ cZ oA rA Γ) g_0)) (va_Qv (fun (_ : Unit) => True) (g_Bo (dC, dI) (va_A (b_g cB cC cI cJ cZ oA rA Γ ++ b_w cB cC cI cJ cZ oA rA Γ ++ b_c cB cC cI cJ cZ oA rA Γ) sz) (fun (_ : Unit) => (b_g cB cC cI cJ cZ oA rA res.2 ++ b_w cB cC cI cJ cZ oA rA res.2 ++ b_c cB cC cI cJ cZ oA rA res.2))) (va_A (b_g cB cC cI cJ cZ oA rA Γ ++ b_w cB cC cI cJ cZ oA rA Γ ++ b_c cB cC cI cJ cZ oA rA Γ) sz)) 0 0 (va_A (b_g cB cC cI cJ cZ oA rA Γ ++ b_w cB cC cI cJ cZ oA rA Γ ++ b_c cB cC cI cJ cZ oA rA Γ) sz) := by
  refine Met.ofW (cc := cX2_varItem) (maxL := 1) (ret := none) (by decide) rfl ?_
  intro p e s m args below meth c s₁ B hml hv
  obtain ⟨rfl, hsz, hP, hK, hD0, hE, hX⟩ := hv
  have hx := B.exec
  have hb := B.bytes
  have hr := B.returns
  have hts0 := atoms_spec (ws := g_ws yX2_varItem cX2_varItem 1 none) B.pre
  have hts : ∀ w ∈ lw_good, w.before ([.ref (oA 2)] : List Value).toArray s = true := fun w z => hts0 w (List.mem_cons_of_mem _ z)
  have hown : s.vm.findClass RX2 = some m.cls := findClass_of_methodNamed B.named
  have hlocks := B.notSynchronized
  subst hsz
  have hD1 := hD0.self (sz := s.heap.size)
  generalize hAe : va_A (b_g cB cC cI cJ cZ oA rA Γ ++ b_w cB cC cI cJ cZ oA rA Γ ++ b_c cB cC cI cJ cZ oA rA Γ) s.heap.size = A at hD1 hE hX ⊢
  have hA : ∀ q : Nat, s.heap.size ≤ q → A q := fun q z => by rw [← hAe]; exact Or.inr z
  have hDD : ∀ Γ : HS, va_D A (b_g cB cC cI cJ cZ oA rA Γ ++ b_w cB cC cI cJ cZ oA rA Γ ++ b_c cB cC cI cJ cZ oA rA Γ) := fun Γ9 => va_D_fst (ws := (b_g cB cC cI cJ cZ oA rA Γ ++ b_w cB cC cI cJ cZ oA rA Γ ++ b_c cB cC cI cJ cZ oA rA Γ)) (ws' := (b_g cB cC cI cJ cZ oA rA Γ9 ++ b_w cB cC cI cJ cZ oA rA Γ9 ++ b_c cB cC cI cJ cZ oA rA Γ9)) rfl hD1
  have hN := hE.1
  have hS : va_S A s.heap s.heap [] := va_S.rf
  have hl := lv_entry ([.ref (oA 2)]) (n := 1) (Nat.le_of_ble_eq_true rfl)
  rw [lg_entry_eq]
  generalize (lg_sl ([.ref (oA 2)]) ++ List.replicate (1 - (lg_sl ([.ref (oA 2)])).length) Slot.unset).toArray = ls at hl ⊢
  have hl : lv_has ls 1 [(0, .ref (oA 2))] := hl
  unfold F_X2_varItem at hF
  refine lv_aload_n hx hb dX2_varItem_0 rfl (lv_at hl 0 rfl) ?_
  refine lv_iconst (v := 2) hx hb dX2_varItem_1 (by decide +kernel) ?_
  obtain ⟨u_1, hu_1, hF_2⟩ := Option.bind_eq_some_iff.mp hF
  clear hF
  have hPc := bx_P (bs := [b_g cB cC cI cJ cZ oA rA Γ, b_w cB cC cI cJ cZ oA rA Γ, b_c cB cC cI cJ cZ oA rA Γ]) (bs' := [b_g cB cC cI cJ cZ oA rA Γ, b_w cB cC cI cJ cZ oA rA Γ, b_c cB cC cI cJ cZ oA rA Γ]) (ws' := (b_g cB cC cI cJ cZ oA rA Γ ++ b_w cB cC cI cJ cZ oA rA Γ ++ b_c cB cC cI cJ cZ oA rA Γ)) hP fl_3 fl_3 [0, 1, 2] rfl
  have hDc := bx_D (bs := [b_g cB cC cI cJ cZ oA rA Γ, b_w cB cC cI cJ cZ oA rA Γ, b_c cB cC cI cJ cZ oA rA Γ]) (bs' := [b_g cB cC cI cJ cZ oA rA Γ, b_w cB cC cI cJ cZ oA rA Γ, b_c cB cC cI cJ cZ oA rA Γ]) (ws' := (b_g cB cC cI cJ cZ oA rA Γ ++ b_w cB cC cI cJ cZ oA rA Γ ++ b_c cB cC cI cJ cZ oA rA Γ)) (hDD Γ) fl_3 fl_3 [0, 1, 2] (by decide +kernel) rfl
  have hFc := bx_F (bs := [b_g cB cC cI cJ cZ oA rA Γ, b_w cB cC cI cJ cZ oA rA Γ, b_c cB cC cI cJ cZ oA rA Γ]) (bs' := [b_g cB cC cI cJ cZ oA rA Γ, b_w cB cC cI cJ cZ oA rA Γ, b_c cB cC cI cJ cZ oA rA Γ]) (wc := (b_g cB cC cI cJ cZ oA rA Γ ++ b_w cB cC cI cJ cZ oA rA Γ ++ b_c cB cC cI cJ cZ oA rA Γ)) (hDD Γ) hS hA fl_3 fl_3 [0, 1, 2] rfl
  refine g_ofv (wc := (b_g cB cC cI cJ cZ oA rA Γ ++ b_w cB cC cI cJ cZ oA rA Γ ++ b_c cB cC cI cJ cZ oA rA Γ)) (wr := ([] : va_W)) hP (hDD Γ) hS hFc (bx_ix [b_g cB cC cI cJ cZ oA rA Γ, b_w cB cC cI cJ cZ oA rA Γ, b_c cB cC cI cJ cZ oA rA Γ] [0, 1, 2]) (bx_ix [b_g cB cC cI cJ cZ oA rA Γ, b_w cB cC cI cJ cZ oA rA Γ, b_c cB cC cI cJ cZ oA rA Γ] []) (bx_C (bs := [b_g cB cC cI cJ cZ oA rA Γ, b_w cB cC cI cJ cZ oA rA Γ, b_c cB cC cI cJ cZ oA rA Γ]) (bs' := [b_g cB cC cI cJ cZ oA rA Γ, b_w cB cC cI cJ cZ oA rA Γ, b_c cB cC cI cJ cZ oA rA Γ]) (is := [0, 1, 2]) fl_3 fl_3 rfl) (bx_C (bs := [b_g cB cC cI cJ cZ oA rA Γ, b_w cB cC cI cJ cZ oA rA Γ, b_c cB cC cI cJ cZ oA rA Γ]) (bs' := []) (is := []) fl_3 fl_0 rfl) (bx_n (by decide +kernel)) (bx_d (by decide +kernel)) (va_runV (As := [.int 2]) (rest := []) ⟨hx, hb, hml, hown, hts⟩ (k_X2_need l dC dI cB cC cI cJ cZ cP oA rA s.heap.size  2 Γ _ hu_1) (cwV 1 hts (g_gV wq_564 wq_565 wq_2000 wq_3 wq_566) rfl rfl rfl (by decide +kernel) ⟨Nat.le_of_ble_eq_true rfl, Nat.le_of_ble_eq_true rfl⟩) (g_preV g_bl0 hK hPc hDc hS hE hFc g_to0 (q0 := 0) (ci := 2) rfl rfl) rfl rfl hl.1 rfl (lv_room (Nat.le_of_ble_eq_true rfl)) dX2_varItem_2 ⟨Nat.le_of_ble_eq_true rfl, Nat.le_of_ble_eq_true rfl⟩) (fun u9 H locs hw9 hP' hD' hS => ?_)
  clear hPc hDc hFc
  have hP : va_P (dC, dI) vwCl (b_g cB cC cI cJ cZ oA rA u_1.2 ++ b_w cB cC cI cJ cZ oA rA u_1.2 ++ b_c cB cC cI cJ cZ oA rA u_1.2) H := hP'
  clear hP' hD'
  refine lv_aload_n hx hb dX2_varItem_5 rfl (lv_at hl 0 rfl) ?_
  refine lv_bipush (v := 61) hx hb dX2_varItem_6 (by decide +kernel) ?_
  obtain ⟨u_3, hu_3, hF_4⟩ := Option.bind_eq_some_iff.mp hF_2
  clear hF_2
  have hPc := bx_P (bs := [b_g cB cC cI cJ cZ oA rA u_1.2, b_w cB cC cI cJ cZ oA rA u_1.2, b_c cB cC cI cJ cZ oA rA u_1.2]) (bs' := [b_g cB cC cI cJ cZ oA rA u_1.2, b_w cB cC cI cJ cZ oA rA u_1.2, b_c cB cC cI cJ cZ oA rA u_1.2]) (ws' := (b_g cB cC cI cJ cZ oA rA u_1.2 ++ b_w cB cC cI cJ cZ oA rA u_1.2 ++ b_c cB cC cI cJ cZ oA rA u_1.2)) hP fl_3 fl_3 [0, 1, 2] rfl
  have hDc := bx_D (bs := [b_g cB cC cI cJ cZ oA rA u_1.2, b_w cB cC cI cJ cZ oA rA u_1.2, b_c cB cC cI cJ cZ oA rA u_1.2]) (bs' := [b_g cB cC cI cJ cZ oA rA u_1.2, b_w cB cC cI cJ cZ oA rA u_1.2, b_c cB cC cI cJ cZ oA rA u_1.2]) (ws' := (b_g cB cC cI cJ cZ oA rA u_1.2 ++ b_w cB cC cI cJ cZ oA rA u_1.2 ++ b_c cB cC cI cJ cZ oA rA u_1.2)) (hDD u_1.2) fl_3 fl_3 [0, 1, 2] (by decide +kernel) rfl
  have hFc := bx_F (bs := [b_g cB cC cI cJ cZ oA rA u_1.2, b_w cB cC cI cJ cZ oA rA u_1.2, b_c cB cC cI cJ cZ oA rA u_1.2]) (bs' := [b_g cB cC cI cJ cZ oA rA u_1.2, b_w cB cC cI cJ cZ oA rA u_1.2, b_c cB cC cI cJ cZ oA rA u_1.2]) (wc := (b_g cB cC cI cJ cZ oA rA u_1.2 ++ b_w cB cC cI cJ cZ oA rA u_1.2 ++ b_c cB cC cI cJ cZ oA rA u_1.2)) (hDD u_1.2) hS hA fl_3 fl_3 [0, 1, 2] rfl
  refine g_ofv (wc := (b_g cB cC cI cJ cZ oA rA u_1.2 ++ b_w cB cC cI cJ cZ oA rA u_1.2 ++ b_c cB cC cI cJ cZ oA rA u_1.2)) (wr := ([] : va_W)) hP (hDD u_1.2) hS hFc (bx_ix [b_g cB cC cI cJ cZ oA rA u_1.2, b_w cB cC cI cJ cZ oA rA u_1.2, b_c cB cC cI cJ cZ oA rA u_1.2] [0, 1, 2]) (bx_ix [b_g cB cC cI cJ cZ oA rA u_1.2, b_w cB cC cI cJ cZ oA rA u_1.2, b_c cB cC cI cJ cZ oA rA u_1.2] []) (bx_C (bs := [b_g cB cC cI cJ cZ oA rA u_1.2, b_w cB cC cI cJ cZ oA rA u_1.2, b_c cB cC cI cJ cZ oA rA u_1.2]) (bs' := [b_g cB cC cI cJ cZ oA rA u_1.2, b_w cB cC cI cJ cZ oA rA u_1.2, b_c cB cC cI cJ cZ oA rA u_1.2]) (is := [0, 1, 2]) fl_3 fl_3 rfl) (bx_C (bs := [b_g cB cC cI cJ cZ oA rA u_1.2, b_w cB cC cI cJ cZ oA rA u_1.2, b_c cB cC cI cJ cZ oA rA u_1.2]) (bs' := []) (is := []) fl_3 fl_0 rfl) (bx_n (by decide +kernel)) (bx_d (by decide +kernel)) (va_runV (As := [.int 61]) (rest := []) ⟨hx, hb, hml, hown, hts⟩ (k_X2_need l dC dI cB cC cI cJ cZ cP oA rA H.size  61 u_1.2 _ hu_3) (cwV 1 hts (g_gV wq_564 wq_565 wq_2000 wq_3 wq_566) rfl rfl rfl (by decide +kernel) ⟨Nat.le_of_ble_eq_true rfl, Nat.le_of_ble_eq_true rfl⟩) (g_preV g_bl0 hK hPc hDc hS hE hFc g_to0 (q0 := 0) (ci := 2) rfl rfl) rfl rfl hl.1 rfl (lv_room (Nat.le_of_ble_eq_true rfl)) dX2_varItem_8 ⟨Nat.le_of_ble_eq_true rfl, Nat.le_of_ble_eq_true rfl⟩) (fun u9 H locs hw9 hP' hD' hS => ?_)
  clear hPc hDc hFc
  have hP : va_P (dC, dI) vwCl (b_g cB cC cI cJ cZ oA rA u_3.2 ++ b_w cB cC cI cJ cZ oA rA u_3.2 ++ b_c cB cC cI cJ cZ oA rA u_3.2) H := hP'
  clear hP' hD'
  refine lv_aload_n hx hb dX2_varItem_11 rfl (lv_at hl 0 rfl) ?_
  refine lv_bipush (v := 45) hx hb dX2_varItem_12 (by decide +kernel) ?_
  obtain ⟨u_5, hu_5, hF_6⟩ := Option.bind_eq_some_iff.mp hF_4
  clear hF_4
  have hPc := bx_P (bs := [b_g cB cC cI cJ cZ oA rA u_3.2, b_w cB cC cI cJ cZ oA rA u_3.2, b_c cB cC cI cJ cZ oA rA u_3.2]) (bs' := [b_g cB cC cI cJ cZ oA rA u_3.2, b_w cB cC cI cJ cZ oA rA u_3.2, b_c cB cC cI cJ cZ oA rA u_3.2]) (ws' := (b_g cB cC cI cJ cZ oA rA u_3.2 ++ b_w cB cC cI cJ cZ oA rA u_3.2 ++ b_c cB cC cI cJ cZ oA rA u_3.2)) hP fl_3 fl_3 [0, 1, 2] rfl
  have hDc := bx_D (bs := [b_g cB cC cI cJ cZ oA rA u_3.2, b_w cB cC cI cJ cZ oA rA u_3.2, b_c cB cC cI cJ cZ oA rA u_3.2]) (bs' := [b_g cB cC cI cJ cZ oA rA u_3.2, b_w cB cC cI cJ cZ oA rA u_3.2, b_c cB cC cI cJ cZ oA rA u_3.2]) (ws' := (b_g cB cC cI cJ cZ oA rA u_3.2 ++ b_w cB cC cI cJ cZ oA rA u_3.2 ++ b_c cB cC cI cJ cZ oA rA u_3.2)) (hDD u_3.2) fl_3 fl_3 [0, 1, 2] (by decide +kernel) rfl
  have hFc := bx_F (bs := [b_g cB cC cI cJ cZ oA rA u_3.2, b_w cB cC cI cJ cZ oA rA u_3.2, b_c cB cC cI cJ cZ oA rA u_3.2]) (bs' := [b_g cB cC cI cJ cZ oA rA u_3.2, b_w cB cC cI cJ cZ oA rA u_3.2, b_c cB cC cI cJ cZ oA rA u_3.2]) (wc := (b_g cB cC cI cJ cZ oA rA u_3.2 ++ b_w cB cC cI cJ cZ oA rA u_3.2 ++ b_c cB cC cI cJ cZ oA rA u_3.2)) (hDD u_3.2) hS hA fl_3 fl_3 [0, 1, 2] rfl
  refine g_ofi (wc := (b_g cB cC cI cJ cZ oA rA u_3.2 ++ b_w cB cC cI cJ cZ oA rA u_3.2 ++ b_c cB cC cI cJ cZ oA rA u_3.2)) (wr := ([] : va_W)) hP (hDD u_3.2) hS hFc (bx_ix [b_g cB cC cI cJ cZ oA rA u_3.2, b_w cB cC cI cJ cZ oA rA u_3.2, b_c cB cC cI cJ cZ oA rA u_3.2] [0, 1, 2]) (bx_ix [b_g cB cC cI cJ cZ oA rA u_3.2, b_w cB cC cI cJ cZ oA rA u_3.2, b_c cB cC cI cJ cZ oA rA u_3.2] []) (bx_C (bs := [b_g cB cC cI cJ cZ oA rA u_3.2, b_w cB cC cI cJ cZ oA rA u_3.2, b_c cB cC cI cJ cZ oA rA u_3.2]) (bs' := [b_g cB cC cI cJ cZ oA rA u_3.2, b_w cB cC cI cJ cZ oA rA u_3.2, b_c cB cC cI cJ cZ oA rA u_3.2]) (is := [0, 1, 2]) fl_3 fl_3 rfl) (bx_C (bs := [b_g cB cC cI cJ cZ oA rA u_3.2, b_w cB cC cI cJ cZ oA rA u_3.2, b_c cB cC cI cJ cZ oA rA u_3.2]) (bs' := []) (is := []) fl_3 fl_0 rfl) (bx_n (by decide +kernel)) (bx_d (by decide +kernel)) (va_runV (As := [.int 45]) (rest := []) ⟨hx, hb, hml, hown, hts⟩ (k_X2_accept l dC dI cB cC cI cJ cZ cP oA rA H.size  45 u_3.2 _ hu_5) (cwV 1 hts (g_gV wq_573 wq_574 wq_2003 wq_3 wq_575) rfl rfl rfl (by decide +kernel) ⟨Nat.le_of_ble_eq_true rfl, Nat.le_of_ble_eq_true rfl⟩) (g_preV g_bl0 hK hPc hDc hS hE hFc g_to0 (q0 := 0) (ci := 2) rfl rfl) rfl rfl hl.1 rfl (lv_room (Nat.le_of_ble_eq_true rfl)) dX2_varItem_14 ⟨Nat.le_of_ble_eq_true rfl, Nat.le_of_ble_eq_true rfl⟩) (fun r9 u9 H locs hw9 hP' hD' hS => ?_)
  clear hPc hDc hFc
  subst hw9
  have hP : va_P (dC, dI) vwCl (b_g cB cC cI cJ cZ oA rA u_5.2 ++ b_w cB cC cI cJ cZ oA rA u_5.2 ++ b_c cB cC cI cJ cZ oA rA u_5.2) H := hP'
  clear hP' hD'
  refine lv_pop hx hb dX2_varItem_17 rfl ?_
  refine lv_aload_n hx hb dX2_varItem_18 rfl (lv_at hl 0 rfl) ?_
  refine lv_iconst (v := 3) hx hb dX2_varItem_19 (by decide +kernel) ?_
  obtain ⟨u_7, hu_7, hF_8⟩ := Option.bind_eq_some_iff.mp hF_6
  clear hF_6
  have hPc := bx_P (bs := [b_g cB cC cI cJ cZ oA rA u_5.2, b_w cB cC cI cJ cZ oA rA u_5.2, b_c cB cC cI cJ cZ oA rA u_5.2]) (bs' := [b_g cB cC cI cJ cZ oA rA u_5.2, b_w cB cC cI cJ cZ oA rA u_5.2, b_c cB cC cI cJ cZ oA rA u_5.2]) (ws' := (b_g cB cC cI cJ cZ oA rA u_5.2 ++ b_w cB cC cI cJ cZ oA rA u_5.2 ++ b_c cB cC cI cJ cZ oA rA u_5.2)) hP fl_3 fl_3 [0, 1, 2] rfl
  have hDc := bx_D (bs := [b_g cB cC cI cJ cZ oA rA u_5.2, b_w cB cC cI cJ cZ oA rA u_5.2, b_c cB cC cI cJ cZ oA rA u_5.2]) (bs' := [b_g cB cC cI cJ cZ oA rA u_5.2, b_w cB cC cI cJ cZ oA rA u_5.2, b_c cB cC cI cJ cZ oA rA u_5.2]) (ws' := (b_g cB cC cI cJ cZ oA rA u_5.2 ++ b_w cB cC cI cJ cZ oA rA u_5.2 ++ b_c cB cC cI cJ cZ oA rA u_5.2)) (hDD u_5.2) fl_3 fl_3 [0, 1, 2] (by decide +kernel) rfl
  have hFc := bx_F (bs := [b_g cB cC cI cJ cZ oA rA u_5.2, b_w cB cC cI cJ cZ oA rA u_5.2, b_c cB cC cI cJ cZ oA rA u_5.2]) (bs' := [b_g cB cC cI cJ cZ oA rA u_5.2, b_w cB cC cI cJ cZ oA rA u_5.2, b_c cB cC cI cJ cZ oA rA u_5.2]) (wc := (b_g cB cC cI cJ cZ oA rA u_5.2 ++ b_w cB cC cI cJ cZ oA rA u_5.2 ++ b_c cB cC cI cJ cZ oA rA u_5.2)) (hDD u_5.2) hS hA fl_3 fl_3 [0, 1, 2] rfl
  refine g_ofv (wc := (b_g cB cC cI cJ cZ oA rA u_5.2 ++ b_w cB cC cI cJ cZ oA rA u_5.2 ++ b_c cB cC cI cJ cZ oA rA u_5.2)) (wr := ([] : va_W)) hP (hDD u_5.2) hS hFc (bx_ix [b_g cB cC cI cJ cZ oA rA u_5.2, b_w cB cC cI cJ cZ oA rA u_5.2, b_c cB cC cI cJ cZ oA rA u_5.2] [0, 1, 2]) (bx_ix [b_g cB cC cI cJ cZ oA rA u_5.2, b_w cB cC cI cJ cZ oA rA u_5.2, b_c cB cC cI cJ cZ oA rA u_5.2] []) (bx_C (bs := [b_g cB cC cI cJ cZ oA rA u_5.2, b_w cB cC cI cJ cZ oA rA u_5.2, b_c cB cC cI cJ cZ oA rA u_5.2]) (bs' := [b_g cB cC cI cJ cZ oA rA u_5.2, b_w cB cC cI cJ cZ oA rA u_5.2, b_c cB cC cI cJ cZ oA rA u_5.2]) (is := [0, 1, 2]) fl_3 fl_3 rfl) (bx_C (bs := [b_g cB cC cI cJ cZ oA rA u_5.2, b_w cB cC cI cJ cZ oA rA u_5.2, b_c cB cC cI cJ cZ oA rA u_5.2]) (bs' := []) (is := []) fl_3 fl_0 rfl) (bx_n (by decide +kernel)) (bx_d (by decide +kernel)) (va_runV (As := [.int 3]) (rest := []) ⟨hx, hb, hml, hown, hts⟩ (k_X2_need l dC dI cB cC cI cJ cZ cP oA rA H.size  3 u_5.2 _ hu_7) (cwV 1 hts (g_gV wq_564 wq_565 wq_2000 wq_3 wq_566) rfl rfl rfl (by decide +kernel) ⟨Nat.le_of_ble_eq_true rfl, Nat.le_of_ble_eq_true rfl⟩) (g_preV g_bl0 hK hPc hDc hS hE hFc g_to0 (q0 := 0) (ci := 2) rfl rfl) rfl rfl hl.1 rfl (lv_room (Nat.le_of_ble_eq_true rfl)) dX2_varItem_20 ⟨Nat.le_of_ble_eq_true rfl, Nat.le_of_ble_eq_true rfl⟩) (fun u9 H locs hw9 hP' hD' hS => ?_)
  clear hPc hDc hFc
  have hP : va_P (dC, dI) vwCl (b_g cB cC cI cJ cZ oA rA u_7.2 ++ b_w cB cC cI cJ cZ oA rA u_7.2 ++ b_c cB cC cI cJ cZ oA rA u_7.2) H := hP'
  clear hP' hD'
  refine lv_aload_n hx hb dX2_varItem_23 rfl (lv_at hl 0 rfl) ?_
  refine lv_bipush (v := 59) hx hb dX2_varItem_24 (by decide +kernel) ?_
  obtain ⟨u_9, hu_9, hF_10⟩ := Option.bind_eq_some_iff.mp hF_8
  clear hF_8
  have hPc := bx_P (bs := [b_g cB cC cI cJ cZ oA rA u_7.2, b_w cB cC cI cJ cZ oA rA u_7.2, b_c cB cC cI cJ cZ oA rA u_7.2]) (bs' := [b_g cB cC cI cJ cZ oA rA u_7.2, b_w cB cC cI cJ cZ oA rA u_7.2, b_c cB cC cI cJ cZ oA rA u_7.2]) (ws' := (b_g cB cC cI cJ cZ oA rA u_7.2 ++ b_w cB cC cI cJ cZ oA rA u_7.2 ++ b_c cB cC cI cJ cZ oA rA u_7.2)) hP fl_3 fl_3 [0, 1, 2] rfl
  have hDc := bx_D (bs := [b_g cB cC cI cJ cZ oA rA u_7.2, b_w cB cC cI cJ cZ oA rA u_7.2, b_c cB cC cI cJ cZ oA rA u_7.2]) (bs' := [b_g cB cC cI cJ cZ oA rA u_7.2, b_w cB cC cI cJ cZ oA rA u_7.2, b_c cB cC cI cJ cZ oA rA u_7.2]) (ws' := (b_g cB cC cI cJ cZ oA rA u_7.2 ++ b_w cB cC cI cJ cZ oA rA u_7.2 ++ b_c cB cC cI cJ cZ oA rA u_7.2)) (hDD u_7.2) fl_3 fl_3 [0, 1, 2] (by decide +kernel) rfl
  have hFc := bx_F (bs := [b_g cB cC cI cJ cZ oA rA u_7.2, b_w cB cC cI cJ cZ oA rA u_7.2, b_c cB cC cI cJ cZ oA rA u_7.2]) (bs' := [b_g cB cC cI cJ cZ oA rA u_7.2, b_w cB cC cI cJ cZ oA rA u_7.2, b_c cB cC cI cJ cZ oA rA u_7.2]) (wc := (b_g cB cC cI cJ cZ oA rA u_7.2 ++ b_w cB cC cI cJ cZ oA rA u_7.2 ++ b_c cB cC cI cJ cZ oA rA u_7.2)) (hDD u_7.2) hS hA fl_3 fl_3 [0, 1, 2] rfl
  refine g_ofv (wc := (b_g cB cC cI cJ cZ oA rA u_7.2 ++ b_w cB cC cI cJ cZ oA rA u_7.2 ++ b_c cB cC cI cJ cZ oA rA u_7.2)) (wr := ([] : va_W)) hP (hDD u_7.2) hS hFc (bx_ix [b_g cB cC cI cJ cZ oA rA u_7.2, b_w cB cC cI cJ cZ oA rA u_7.2, b_c cB cC cI cJ cZ oA rA u_7.2] [0, 1, 2]) (bx_ix [b_g cB cC cI cJ cZ oA rA u_7.2, b_w cB cC cI cJ cZ oA rA u_7.2, b_c cB cC cI cJ cZ oA rA u_7.2] []) (bx_C (bs := [b_g cB cC cI cJ cZ oA rA u_7.2, b_w cB cC cI cJ cZ oA rA u_7.2, b_c cB cC cI cJ cZ oA rA u_7.2]) (bs' := [b_g cB cC cI cJ cZ oA rA u_7.2, b_w cB cC cI cJ cZ oA rA u_7.2, b_c cB cC cI cJ cZ oA rA u_7.2]) (is := [0, 1, 2]) fl_3 fl_3 rfl) (bx_C (bs := [b_g cB cC cI cJ cZ oA rA u_7.2, b_w cB cC cI cJ cZ oA rA u_7.2, b_c cB cC cI cJ cZ oA rA u_7.2]) (bs' := []) (is := []) fl_3 fl_0 rfl) (bx_n (by decide +kernel)) (bx_d (by decide +kernel)) (va_runV (As := [.int 59]) (rest := []) ⟨hx, hb, hml, hown, hts⟩ (k_X2_need l dC dI cB cC cI cJ cZ cP oA rA H.size  59 u_7.2 _ hu_9) (cwV 1 hts (g_gV wq_564 wq_565 wq_2000 wq_3 wq_566) rfl rfl rfl (by decide +kernel) ⟨Nat.le_of_ble_eq_true rfl, Nat.le_of_ble_eq_true rfl⟩) (g_preV g_bl0 hK hPc hDc hS hE hFc g_to0 (q0 := 0) (ci := 2) rfl rfl) rfl rfl hl.1 rfl (lv_room (Nat.le_of_ble_eq_true rfl)) dX2_varItem_26 ⟨Nat.le_of_ble_eq_true rfl, Nat.le_of_ble_eq_true rfl⟩) (fun u9 H locs hw9 hP' hD' hS => ?_)
  clear hPc hDc hFc
  have hP : va_P (dC, dI) vwCl (b_g cB cC cI cJ cZ oA rA u_9.2 ++ b_w cB cC cI cJ cZ oA rA u_9.2 ++ b_c cB cC cI cJ cZ oA rA u_9.2) H := hP'
  clear hP' hD'
  have h9 := Option.some.inj hF_10
  subst h9
  exact W.vret hx hb hr (fun t ht hW => ⟨⟨(), rfl, trivial, m_end ht hP, hDD _⟩, hS.F ht⟩) hS.2.2 dX2_varItem_29
