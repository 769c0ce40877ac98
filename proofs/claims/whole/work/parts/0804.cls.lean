/-! methods of the class: what each does is its function -/
theorem dX2_pass_0 : decode cX2_pass 0 = .ok (.aload_n 0, 1) := by decide +kernel
theorem dX2_pass_1 : decode cX2_pass 1 = .ok (.getfield 19, 3) := by decide +kernel
theorem dX2_pass_4 : decode cX2_pass 4 = .ok (.ifCond .lt 62, 3) := by decide +kernel
theorem dX2_pass_7 : decode cX2_pass 7 = .ok (.aload_n 0, 1) := by decide +kernel
theorem dX2_pass_8 : decode cX2_pass 8 = .ok (.getfield 19, 3) := by decide +kernel
theorem dX2_pass_11 : decode cX2_pass 11 = .ok (.aload_n 0, 1) := by decide +kernel
theorem dX2_pass_12 : decode cX2_pass 12 = .ok (.getfield 9, 3) := by decide +kernel
theorem dX2_pass_15 : decode cX2_pass 15 = .ok (.getfield 38, 3) := by decide +kernel
theorem dX2_pass_18 : decode cX2_pass 18 = .ok (.iconst 1, 1) := by decide +kernel
theorem dX2_pass_19 : decode cX2_pass 19 = .ok (.isub, 1) := by decide +kernel
theorem dX2_pass_20 : decode cX2_pass 20 = .ok (.if_icmp .ge 46, 3) := by decide +kernel
theorem dX2_pass_23 : decode cX2_pass 23 = .ok (.aload_n 0, 1) := by decide +kernel
theorem dX2_pass_24 : decode cX2_pass 24 = .ok (.getfield 19, 3) := by decide +kernel
theorem dX2_pass_27 : decode cX2_pass 27 = .ok (.iconst 1, 1) := by decide +kernel
theorem dX2_pass_28 : decode cX2_pass 28 = .ok (.iadd, 1) := by decide +kernel
theorem dX2_pass_29 : decode cX2_pass 29 = .ok (.aload_n 0, 1) := by decide +kernel
theorem dX2_pass_30 : decode cX2_pass 30 = .ok (.getfield 9, 3) := by decide +kernel
theorem dX2_pass_33 : decode cX2_pass 33 = .ok (.getfield 104, 3) := by decide +kernel
theorem dX2_pass_36 : decode cX2_pass 36 = .ok (.arraylength, 1) := by decide +kernel
theorem dX2_pass_37 : decode cX2_pass 37 = .ok (.if_icmp .ge 29, 3) := by decide +kernel
theorem dX2_pass_40 : decode cX2_pass 40 = .ok (.aload_n 0, 1) := by decide +kernel
theorem dX2_pass_41 : decode cX2_pass 41 = .ok (.dup, 1) := by decide +kernel
theorem dX2_pass_42 : decode cX2_pass 42 = .ok (.getfield 19, 3) := by decide +kernel
theorem dX2_pass_45 : decode cX2_pass 45 = .ok (.iconst 1, 1) := by decide +kernel
theorem dX2_pass_46 : decode cX2_pass 46 = .ok (.iadd, 1) := by decide +kernel
theorem dX2_pass_47 : decode cX2_pass 47 = .ok (.putfield 19, 3) := by decide +kernel
theorem dX2_pass_50 : decode cX2_pass 50 = .ok (.aload_n 0, 1) := by decide +kernel
theorem dX2_pass_51 : decode cX2_pass 51 = .ok (.aload_n 0, 1) := by decide +kernel
theorem dX2_pass_52 : decode cX2_pass 52 = .ok (.getfield 9, 3) := by decide +kernel
theorem dX2_pass_55 : decode cX2_pass 55 = .ok (.getfield 104, 3) := by decide +kernel
theorem dX2_pass_58 : decode cX2_pass 58 = .ok (.aload_n 0, 1) := by decide +kernel
theorem dX2_pass_59 : decode cX2_pass 59 = .ok (.getfield 19, 3) := by decide +kernel
theorem dX2_pass_62 : decode cX2_pass 62 = .ok (.iaload, 1) := by decide +kernel
theorem dX2_pass_63 : decode cX2_pass 63 = .ok (.putfield 29, 3) := by decide +kernel
theorem dX2_pass_66 : decode cX2_pass 66 = .ok (.return_, 1) := by decide +kernel
def F_X2_pass  (Γ : HS) : HR :=
  if ((Γ 2).1 2) < 0 then (
    some (0, Γ)
  ) else (
    if (((Γ 1).1 2) - 1) ≤ ((Γ 2).1 2) then (
      some (0, Γ)
    ) else (
      if 16001 ≤ (((Γ 2).1 2) + 1) then (
        some (0, Γ)
      ) else (
        bnd (cI' Γ 2 2 (((Γ 2).1 2) + 1)) fun σ_10 =>
        bnd (((σ_10 2).1 2)) fun (x_12 : Int32) =>
        if x_12 < 0 ∨ 16001 ≤ x_12.toNatClampNeg then none else
        bnd (((σ_10 1).2.1 3 x_12.toNatClampNeg)) fun (x_16 : Int32) =>
        bnd (cI' σ_10 2 3 x_16) fun σ_18 =>
        some (0, σ_18)
      )
    )
  )
set_option maxHeartbeats 4000000 in
set_option maxRecDepth 100000 in
theorem k_X2_pass (l : Launch) (dC : Nat → ClassId) (dI : Nat → Nat → Nat) (cB cC cI cJ cZ cP : ClassId) (oA : Nat → Nat) (rA : Nat → Nat → Nat) (sz : Nat)   (Γ : HS) (res : Int32 × HS) (hF : F_X2_pass  Γ = some res) : Met l yX2_pass (g_ws yX2_pass cX2_pass 1 none) ({ frames := 1, cells := 0, slots := 0, locals := 40 }) (va_Pc [.ref (oA 2)] (g_B (dC, dI) [(cB, .byte), (cC, .char), (cI, .int), (cJ, .long), (cZ, .boolean), (cP, .object "StoryHouse$Play")] sz (b_g cB cC cI cJ cZ oA rA Γ ++ b_w cB cC cI cJ cZ oA rA Γ ++ b_c cB cC cI cJ cZ oA rA Γ) g_0)) (va_Qv (fun (_ : Unit) => True) (g_Bo (dC, dI) (va_A (b_g cB cC cI cJ cZ oA rA Γ ++ b_w cB cC cI cJ cZ oA rA Γ ++ b_c cB cC cI cJ cZ oA rA Γ) sz) (fun (_ : Unit) => (b_g cB cC cI cJ cZ oA rA res.2 ++ b_w cB cC cI cJ cZ oA rA res.2 ++ b_c cB cC cI cJ cZ oA rA res.2))) (va_A (b_g cB cC cI cJ cZ oA rA Γ ++ b_w cB cC cI cJ cZ oA rA Γ ++ b_c cB cC cI cJ cZ oA rA Γ) sz)) 0 0 (va_A (b_g cB cC cI cJ cZ oA rA Γ ++ b_w cB cC cI cJ cZ oA rA Γ ++ b_c cB cC cI cJ cZ oA rA Γ) sz) := by
  refine Met.ofW (cc := cX2_pass) (maxL := 1) (ret := none) (by decide) rfl ?_
  intro p e s m args below meth c s₁ B hml hv
  obtain ⟨rfl, hsz, hP, hK, hD0, hE, hX⟩ := hv
  have hx := B.exec
  have hb := B.bytes
  have hr := B.returns
  have hts0 := atoms_spec (ws := g_ws yX2_pass cX2_pass 1 none) B.pre
  have hts : ∀ w ∈ lw_good, w.before ([.ref (oA 2)] : List Value).toArray s = true := fun w z => hts0 w (List.mem_cons_of_mem _ z)
  have hown : s.vm.findClass RX2 = some m.cls := findClass_of_methodNamed B.named
  have hlocks := B.notSynchronized
  subst hsz
  have hD1 := hD0.self (sz := s.heap.size)
  generalize hAe : va_A (b_g cB cC cI cJ cZ oA rA Γ ++ b_w cB cC cI cJ cZ oA rA Γ ++ b_c cB cC cI cJ cZ oA rA Γ) s.heap.size = A at hD1 hE hX ⊢
  have hA : ∀ q : Nat, s.heap.size ≤ q → A q := fun q z => by rw [← hAe]; exact Or.inr z
  have hDD : ∀ Γ : HS, va_D A (b_g cB cC cI cJ cZ oA rA Γ ++ b_w cB cC cI cJ cZ oA rA Γ ++ b_c cB cC cI cJ cZ oA rA Γ) := fun Γ9 => va_D_fst (ws := (b_g cB cC cI cJ cZ oA rA Γ ++ b_w cB cC cI cJ cZ oA rA Γ ++ b_c cB cC cI cJ cZ oA rA Γ)) (ws' := (b_g cB cC cI cJ cZ oA rA Γ9 ++ b_w cB cC cI cJ cZ oA rA Γ9 ++ b_c cB cC cI cJ cZ oA rA Γ9)) rfl hD1
  have hN := hE.1
  have hS : va_S A s.heap s.heap [] := va_S.rf
  have hl := lv_entry ([.ref (oA 2)]) (n := 1) (Nat.le_of_ble_eq_true rfl)
  rw [lg_entry_eq]
  generalize (lg_sl ([.ref (oA 2)]) ++ List.replicate (1 - (lg_sl ([.ref (oA 2)])).length) Slot.unset).toArray = ls at hl ⊢
  have hl : lv_has ls 1 [(0, .ref (oA 2))] := hl
  unfold F_X2_pass at hF
  refine lv_aload_n hx hb dX2_pass_0 rfl (lv_at hl 0 rfl) ?_
  refine va_get (D := (dC, dI)) (ci := 2) (v := .int ((Γ 2).1 2)) (C := RX2) (T := TX2) (N := 8) hx hb hts ii_X2 hown hK hP 0 rfl rfl 2 (by decide) (hts (.fieldLink RX2 19 "StoryHouse$Grammar" "at" "I") wq_73) (fun _ h9 => h9) rfl dX2_pass_1 ?_
  refine lv_if_lt (tgt := 66) hx hb dX2_pass_4 (by decide) (fun c_1 => ?_) (fun c_1 => ?_)
  · have hF_2 := ipos c_1 hF
    clear hF
    have h9 := Option.some.inj hF_2
    subst h9
    exact W.vret hx hb hr (fun t ht hW => ⟨⟨(), rfl, trivial, m_end ht hP, hDD _⟩, hS.F ht⟩) hS.2.2 dX2_pass_66
  · have hF_3 := ineg c_1 hF
    clear hF
    refine lv_aload_n hx hb dX2_pass_7 rfl (lv_at hl 0 rfl) ?_
    refine va_get (D := (dC, dI)) (ci := 2) (v := .int ((Γ 2).1 2)) (C := RX2) (T := TX2) (N := 8) hx hb hts ii_X2 hown hK hP 0 rfl rfl 2 (by decide) (hts (.fieldLink RX2 19 "StoryHouse$Grammar" "at" "I") wq_73) (fun _ h9 => h9) rfl dX2_pass_8 ?_
    refine lv_aload_n hx hb dX2_pass_11 rfl (lv_at hl 0 rfl) ?_
    refine va_get (D := (dC, dI)) (ci := 2) (v := .ref (oA 1)) (C := RX2) (T := TX2) (N := 8) hx hb hts ii_X2 hown hK hP 0 rfl rfl 0 (by decide) (hts (.fieldLink RX2 9 "StoryHouse$Grammar" "words" "LStoryHouse$Words;") wq_71) (fun _ h9 => h9) rfl dX2_pass_12 ?_
    refine va_get (D := (dC, dI)) (ci := 10) (v := .int ((Γ 1).1 2)) (C := RX10) (T := TX10) (N := 12) hx hb hts ii_X10 hown hK hP 1 rfl rfl 2 (by decide) (hts (.fieldLink RX2 38 "StoryHouse$Words" "count" "I") wq_47) (fun _ h9 => h9) rfl dX2_pass_15 ?_
    refine lv_iconst (v := 1) hx hb dX2_pass_18 (by decide +kernel) ?_
    refine lv_isub hx hb dX2_pass_19 ?_
    refine lv_icmp_ge (tgt := 66) hx hb dX2_pass_20 (by decide) (fun c_4 => ?_) (fun c_4 => ?_)
    · have hF_5 := ipos c_4 hF_3
      clear hF_3
      have h9 := Option.some.inj hF_5
      subst h9
      exact W.vret hx hb hr (fun t ht hW => ⟨⟨(), rfl, trivial, m_end ht hP, hDD _⟩, hS.F ht⟩) hS.2.2 dX2_pass_66
    · have hF_6 := ineg c_4 hF_3
      clear hF_3
      refine lv_aload_n hx hb dX2_pass_23 rfl (lv_at hl 0 rfl) ?_
      refine va_get (D := (dC, dI)) (ci := 2) (v := .int ((Γ 2).1 2)) (C := RX2) (T := TX2) (N := 8) hx hb hts ii_X2 hown hK hP 0 rfl rfl 2 (by decide) (hts (.fieldLink RX2 19 "StoryHouse$Grammar" "at" "I") wq_73) (fun _ h9 => h9) rfl dX2_pass_24 ?_
      refine lv_iconst (v := 1) hx hb dX2_pass_27 (by decide +kernel) ?_
      refine lv_iadd hx hb dX2_pass_28 ?_
      refine lv_aload_n hx hb dX2_pass_29 rfl (lv_at hl 0 rfl) ?_
      refine va_get (D := (dC, dI)) (ci := 2) (v := .ref (oA 1)) (C := RX2) (T := TX2) (N := 8) hx hb hts ii_X2 hown hK hP 0 rfl rfl 0 (by decide) (hts (.fieldLink RX2 9 "StoryHouse$Grammar" "words" "LStoryHouse$Words;") wq_71) (fun _ h9 => h9) rfl dX2_pass_30 ?_
      refine va_getN (D := (dC, dI)) (ci := 10) (v := .ref (rA 1 3)) (C := RX10) (T := TX10) (N := 12) hx hb hts ii_X10 hown hK hP 1 rfl rfl 3 (by decide) (va_Nw.use rfl hN.2.1) (fun _ h9 => h9) rfl dX2_pass_33 ?_
      refine va_alen (v := 16001) hx hb hK hP 3 2 rfl rfl (by first | rfl | decide +kernel) dX2_pass_36 ?_
      refine lv_icmp_ge (tgt := 66) hx hb dX2_pass_37 (by decide) (fun c_7 => ?_) (fun c_7 => ?_)
      · have hF_8 := ipos c_7 hF_6
        clear hF_6
        have h9 := Option.some.inj hF_8
        subst h9
        exact W.vret hx hb hr (fun t ht hW => ⟨⟨(), rfl, trivial, m_end ht hP, hDD _⟩, hS.F ht⟩) hS.2.2 dX2_pass_66
      · have hF_9 := ineg c_7 hF_6
        clear hF_6
        refine lv_aload_n hx hb dX2_pass_40 rfl (lv_at hl 0 rfl) ?_
        refine lv_dup hx hb dX2_pass_41 rfl ?_
        refine va_get (D := (dC, dI)) (ci := 2) (v := .int ((Γ 2).1 2)) (C := RX2) (T := TX2) (N := 8) hx hb hts ii_X2 hown hK hP 0 rfl rfl 2 (by decide) (hts (.fieldLink RX2 19 "StoryHouse$Grammar" "at" "I") wq_73) (fun _ h9 => h9) rfl dX2_pass_42 ?_
        refine lv_iconst (v := 1) hx hb dX2_pass_45 (by decide +kernel) ?_
        refine lv_iadd hx hb dX2_pass_46 ?_
        obtain ⟨σ_10, eσ_10, hF_11⟩ := bnd_e hF_9
        clear hF_9
        refine va_put (D := (dC, dI)) (ci := 2) (v := .int (((Γ 2).1 2) + 1)) (ty := .int) (C := RX2) (T := TX2) (N := 8) hx hb hts ii_X2 tyX2 tyX2_ok nmX2 hown hK hP (hDD _) hS 0 rfl rfl 2 (by decide) (hts (.fieldLink RX2 19 "StoryHouse$Grammar" "at" "I") wq_73) (fun _ h9 => h9) rfl (by decide +kernel) rfl rfl (Nat.le_of_ble_eq_true rfl) dX2_pass_47 (fun H locs hP' _ hS => ?_)
        have hP : va_P (dC, dI) vwCl (b_g cB cC cI cJ cZ oA rA σ_10 ++ b_w cB cC cI cJ cZ oA rA σ_10 ++ b_c cB cC cI cJ cZ oA rA σ_10) H := by rw [eσ_10]; exact cs_gwc_g_2 ▸ hP'
        clear hP'
        refine lv_aload_n hx hb dX2_pass_50 rfl (lv_at hl 0 rfl) ?_
        refine lv_aload_n hx hb dX2_pass_51 rfl (lv_at hl 0 rfl) ?_
        refine va_get (D := (dC, dI)) (ci := 2) (v := .ref (oA 1)) (C := RX2) (T := TX2) (N := 8) hx hb hts ii_X2 hown hK hP 0 rfl rfl 0 (by decide) (hts (.fieldLink RX2 9 "StoryHouse$Grammar" "words" "LStoryHouse$Words;") wq_71) (fun _ h9 => h9) rfl dX2_pass_52 ?_
        refine va_getN (D := (dC, dI)) (ci := 10) (v := .ref (rA 1 3)) (C := RX10) (T := TX10) (N := 12) hx hb hts ii_X10 hown hK hP 1 rfl rfl 3 (by decide) (va_Nw.use rfl hN.2.1) (fun _ h9 => h9) rfl dX2_pass_55 ?_
        refine lv_aload_n hx hb dX2_pass_58 rfl (lv_at hl 0 rfl) ?_
        refine va_get (D := (dC, dI)) (ci := 2) (v := .int ((σ_10 2).1 2)) (C := RX2) (T := TX2) (N := 8) hx hb hts ii_X2 hown hK hP 0 rfl rfl 2 (by decide) (hts (.fieldLink RX2 19 "StoryHouse$Grammar" "at" "I") wq_73) (fun _ h9 => h9) rfl dX2_pass_59 ?_
        obtain ⟨x_12, ex_12, hF_13⟩ := bnd_e hF_11
        clear hF_11
        refine m_top ex_12 ?_
        obtain ⟨g_14, hF_15⟩ := nif_e hF_13
        clear hF_13
        refine va_iald (f := (σ_10 1).2.1 3) hx hb hK hP 3 2 rfl rfl g_14 dX2_pass_62 ?_
        obtain ⟨x_16, ex_16, hF_17⟩ := bnd_e hF_15
        clear hF_15
        refine m_top ex_16 ?_
        obtain ⟨σ_18, eσ_18, hF_19⟩ := bnd_e hF_17
        clear hF_17
        refine va_put (D := (dC, dI)) (ci := 2) (v := .int x_16) (ty := .int) (C := RX2) (T := TX2) (N := 8) hx hb hts ii_X2 tyX2 tyX2_ok nmX2 hown hK hP (hDD _) hS 0 rfl rfl 3 (by decide) (hts (.fieldLink RX2 29 "StoryHouse$Grammar" "kind" "I") wq_74) (fun _ h9 => h9) rfl (by decide +kernel) rfl rfl (Nat.le_of_ble_eq_true rfl) dX2_pass_63 (fun H locs hP' _ hS => ?_)
        have hP : va_P (dC, dI) vwCl (b_g cB cC cI cJ cZ oA rA σ_18 ++ b_w cB cC cI cJ cZ oA rA σ_18 ++ b_c cB cC cI cJ cZ oA rA σ_18) H := by rw [eσ_18]; exact cs_gwc_g_3 ▸ hP'
        clear hP'
        have h9 := Option.some.inj hF_19
        subst h9
        exact W.vret hx hb hr (fun t ht hW => ⟨⟨(), rfl, trivial, m_end ht hP, hDD _⟩, hS.F ht⟩) hS.2.2 dX2_pass_66
theorem dX2_need_0 : decode cX2_need 0 = .ok (.aload_n 0, 1) := by decide +kernel
theorem dX2_need_1 : decode cX2_need 1 = .ok (.getfield 29, 3) := by decide +kernel
theorem dX2_need_4 : decode cX2_need 4 = .ok (.iload_n 1, 1) := by decide +kernel
theorem dX2_need_5 : decode cX2_need 5 = .ok (.if_icmp .ne 10, 3) := by decide +kernel
theorem dX2_need_8 : decode cX2_need 8 = .ok (.aload_n 0, 1) := by decide +kernel
theorem dX2_need_9 : decode cX2_need 9 = .ok (.invokevirtual 107, 3) := by decide +kernel
theorem dX2_need_12 : decode cX2_need 12 = .ok (.goto 8, 3) := by decide +kernel
theorem dX2_need_15 : decode cX2_need 15 = .ok (.aload_n 0, 1) := by decide +kernel
theorem dX2_need_16 : decode cX2_need 16 = .ok (.iconst 2, 1) := by decide +kernel
theorem dX2_need_17 : decode cX2_need 17 = .ok (.invokevirtual 110, 3) := by decide +kernel
theorem dX2_need_20 : decode cX2_need 20 = .ok (.return_, 1) := by decide +kernel
def F_X2_need (p0 : Int32) (Γ : HS) : HR :=
  if ((Γ 2).1 3) = p0 then (
    (F_X2_pass Γ).bind fun u_3 =>
    some (0, u_3.2)
  ) else (
    (F_X2_fail 2 Γ).bind fun u_6 =>
    some (0, u_6.2)
  )
set_option maxHeartbeats 4000000 in
set_option maxRecDepth 100000 in
theorem k_X2_need (l : Launch) (dC : Nat → ClassId) (dI : Nat → Nat → Nat) (cB cC cI cJ cZ cP : ClassId) (oA : Nat → Nat) (rA : Nat → Nat → Nat) (sz : Nat)  (p0 : Int32) (Γ : HS) (res : Int32 × HS) (hF : F_X2_need p0 Γ = some res) : Met l yX2_need (g_ws yX2_need cX2_need 2 none) ({ frames := 2, cells := 0, slots := 0, locals := 61 }) (va_Pc [.ref (oA 2), .int p0] (g_B (dC, dI) [(cB, .byte), (cC, .char), (cI, .int), (cJ, .long), (cZ, .boolean), (cP, .object "StoryHouse$Play")] sz (b_g cB cC cI cJ cZ oA rA Γ ++ b_w cB cC cI cJ cZ oA rA Γ ++ b_c cB cC cI cJ cZ oA rA Γ) g_0)) (va_Qv (fun (_ : Unit) => True) (g_Bo (dC, dI) (va_A (b_g cB cC cI cJ cZ oA rA Γ ++ b_w cB cC cI cJ cZ oA rA Γ ++ b_c cB cC cI cJ cZ oA rA Γ) sz) (fun (_ : Unit) => (b_g cB cC cI cJ cZ oA rA res.2 ++ b_w cB cC cI cJ cZ oA rA res.2 ++ b_c cB cC cI cJ cZ oA rA res.2))) (va_A (b_g cB cC cI cJ cZ oA rA Γ ++ b_w cB cC cI cJ cZ oA rA Γ ++ b_c cB cC cI cJ cZ oA rA Γ) sz)) 0 0 (va_A (b_g cB cC cI cJ cZ oA rA Γ ++ b_w cB cC cI cJ cZ oA rA Γ ++ b_c cB cC cI cJ cZ oA rA Γ) sz) := by
  refine Met.ofW (cc := cX2_need) (maxL := 2) (ret := none) (by decide) rfl ?_
  intro p e s m args below meth c s₁ B hml hv
  obtain ⟨rfl, hsz, hP, hK, hD0, hE, hX⟩ := hv
  have hx := B.exec
  have hb := B.bytes
  have hr := B.returns
  have hts0 := atoms_spec (ws := g_ws yX2_need cX2_need 2 none) B.pre
  have hts : ∀ w ∈ lw_good, w.before ([.ref (oA 2), .int p0] : List Value).toArray s = true := fun w z => hts0 w (List.mem_cons_of_mem _ z)
  have hown : s.vm.findClass RX2 = some m.cls := findClass_of_methodNamed B.named
  have hlocks := B.notSynchronized
  subst hsz
  have hD1 := hD0.self (sz := s.heap.size)
  generalize hAe : va_A (b_g cB cC cI cJ cZ oA rA Γ ++ b_w cB cC cI cJ cZ oA rA Γ ++ b_c cB cC cI cJ cZ oA rA Γ) s.heap.size = A at hD1 hE hX ⊢
  have hA : ∀ q : Nat, s.heap.size ≤ q → A q := fun q z => by rw [← hAe]; exact Or.inr z
  have hDD : ∀ Γ : HS, va_D A (b_g cB cC cI cJ cZ oA rA Γ ++ b_w cB cC cI cJ cZ oA rA Γ ++ b_c cB cC cI cJ cZ oA rA Γ) := fun Γ9 => va_D_fst (ws := (b_g cB cC cI cJ cZ oA rA Γ ++ b_w cB cC cI cJ cZ oA rA Γ ++ b_c cB cC cI cJ cZ oA rA Γ)) (ws' := (b_g cB cC cI cJ cZ oA rA Γ9 ++ b_w cB cC cI cJ cZ oA rA Γ9 ++ b_c cB cC cI cJ cZ oA rA Γ9)) rfl hD1
  have hN := hE.1
  have hS : va_S A s.heap s.heap [] := va_S.rf
  have hl := lv_entry ([.ref (oA 2), .int p0]) (n := 2) (Nat.le_of_ble_eq_true rfl)
  rw [lg_entry_eq]
  generalize (lg_sl ([.ref (oA 2), .int p0]) ++ List.replicate (2 - (lg_sl ([.ref (oA 2), .int p0])).length) Slot.unset).toArray = ls at hl ⊢
  have hl : lv_has ls 2 [(0, .ref (oA 2)), (1, .int p0)] := hl
  unfold F_X2_need at hF
  refine lv_aload_n hx hb dX2_need_0 rfl (lv_at hl 0 rfl) ?_
  refine va_get (D := (dC, dI)) (ci := 2) (v := .int ((Γ 2).1 3)) (C := RX2) (T := TX2) (N := 8) hx hb hts ii_X2 hown hK hP 0 rfl rfl 3 (by decide) (hts (.fieldLink RX2 29 "StoryHouse$Grammar" "kind" "I") wq_74) (fun _ h9 => h9) rfl dX2_need_1 ?_
  refine lv_iload_n hx hb dX2_need_4 rfl (lv_at hl 1 rfl) ?_
  refine lv_icmp_ne (tgt := 15) hx hb dX2_need_5 (by decide) (fun c_1 => ?_) (fun c_1 => ?_)
  · have hF_5 := ineg c_1 hF
    clear hF
    refine lv_aload_n hx hb dX2_need_15 rfl (lv_at hl 0 rfl) ?_
    refine lv_iconst (v := 2) hx hb dX2_need_16 (by decide +kernel) ?_
    obtain ⟨u_6, hu_6, hF_7⟩ := Option.bind_eq_some_iff.mp hF_5
    clear hF_5
    have hPc := bx_P (bs := [b_g cB cC cI cJ cZ oA rA Γ, b_w cB cC cI cJ cZ oA rA Γ, b_c cB cC cI cJ cZ oA rA Γ]) (bs' := [b_g cB cC cI cJ cZ oA rA Γ, b_w cB cC cI cJ cZ oA rA Γ, b_c cB cC cI cJ cZ oA rA Γ]) (ws' := (b_g cB cC cI cJ cZ oA rA Γ ++ b_w cB cC cI cJ cZ oA rA Γ ++ b_c cB cC cI cJ cZ oA rA Γ)) hP fl_3 fl_3 [0, 1, 2] rfl
    have hDc := bx_D (bs := [b_g cB cC cI cJ cZ oA rA Γ, b_w cB cC cI cJ cZ oA rA Γ, b_c cB cC cI cJ cZ oA rA Γ]) (bs' := [b_g cB cC cI cJ cZ oA rA Γ, b_w cB cC cI cJ cZ oA rA Γ, b_c cB cC cI cJ cZ oA rA Γ]) (ws' := (b_g cB cC cI cJ cZ oA rA Γ ++ b_w cB cC cI cJ cZ oA rA Γ ++ b_c cB cC cI cJ cZ oA rA Γ)) (hDD Γ) fl_3 fl_3 [0, 1, 2] (by decide +kernel) rfl
    have hFc := bx_F (bs := [b_g cB cC cI cJ cZ oA rA Γ, b_w cB cC cI cJ cZ oA rA Γ, b_c cB cC cI cJ cZ oA rA Γ]) (bs' := [b_g cB cC cI cJ cZ oA rA Γ, b_w cB cC cI cJ cZ oA rA Γ, b_c cB cC cI cJ cZ oA rA Γ]) (wc := (b_g cB cC cI cJ cZ oA rA Γ ++ b_w cB cC cI cJ cZ oA rA Γ ++ b_c cB cC cI cJ cZ oA rA Γ)) (hDD Γ) hS hA fl_3 fl_3 [0, 1, 2] rfl
    refine g_ofv (wc := (b_g cB cC cI cJ cZ oA rA Γ ++ b_w cB cC cI cJ cZ oA rA Γ ++ b_c cB cC cI cJ cZ oA rA Γ)) (wr := ([] : va_W)) hP (hDD Γ) hS hFc (bx_ix [b_g cB cC cI cJ cZ oA rA Γ, b_w cB cC cI cJ cZ oA rA Γ, b_c cB cC cI cJ cZ oA rA Γ] [0, 1, 2]) (bx_ix [b_g cB cC cI cJ cZ oA rA Γ, b_w cB cC cI cJ cZ oA rA Γ, b_c cB cC cI cJ cZ oA rA Γ] []) (bx_C (bs := [b_g cB cC cI cJ cZ oA rA Γ, b_w cB cC cI cJ cZ oA rA Γ, b_c cB cC cI cJ cZ oA rA Γ]) (bs' := [b_g cB cC cI cJ cZ oA rA Γ, b_w cB cC cI cJ cZ oA rA Γ, b_c cB cC cI cJ cZ oA rA Γ]) (is := [0, 1, 2]) fl_3 fl_3 rfl) (bx_C (bs := [b_g cB cC cI cJ cZ oA rA Γ, b_w cB cC cI cJ cZ oA rA Γ, b_c cB cC cI cJ cZ oA rA Γ]) (bs' := []) (is := []) fl_3 fl_0 rfl) (bx_n (by decide +kernel)) (bx_d (by decide +kernel)) (va_runV (As := [.int 2]) (rest := []) ⟨hx, hb, hml, hown, hts⟩ (k_X2_fail l dC dI cB cC cI cJ cZ cP oA rA s.heap.size  2 Γ _ hu_6) (cwV 1 hts (g_gV wq_558 wq_559 wq_1998 wq_3 wq_560) rfl rfl rfl (by decide +kernel) ⟨Nat.le_of_ble_eq_true rfl, Nat.le_of_ble_eq_true rfl⟩) (g_preV g_bl0 hK hPc hDc hS hE hFc g_to0 (q0 := 0) (ci := 2) rfl rfl) rfl rfl hl.1 rfl (lv_room (Nat.le_of_ble_eq_true rfl)) dX2_need_17 ⟨Nat.le_of_ble_eq_true rfl, Nat.le_of_ble_eq_true rfl⟩) (fun u9 H locs hw9 hP' hD' hS => ?_)
    clear hPc hDc hFc
    have hP : va_P (dC, dI) vwCl (b_g cB cC cI cJ cZ oA rA u_6.2 ++ b_w cB cC cI cJ cZ oA rA u_6.2 ++ b_c cB cC cI cJ cZ oA rA u_6.2) H := hP'
    clear hP' hD'
    have h9 := Option.some.inj hF_7
    subst h9
    exact W.vret hx hb hr (fun t ht hW => ⟨⟨(), rfl, trivial, m_end ht hP, hDD _⟩, hS.F ht⟩) hS.2.2 dX2_need_20
  · have hF_2 := ipos c_1 hF
    clear hF
    refine lv_aload_n hx hb dX2_need_8 rfl (lv_at hl 0 rfl) ?_
    obtain ⟨u_3, hu_3, hF_4⟩ := Option.bind_eq_some_iff.mp hF_2
    clear hF_2
    have hPc := bx_P (bs := [b_g cB cC cI cJ cZ oA rA Γ, b_w cB cC cI cJ cZ oA rA Γ, b_c cB cC cI cJ cZ oA rA Γ]) (bs' := [b_g cB cC cI cJ cZ oA rA Γ, b_w cB cC cI cJ cZ oA rA Γ, b_c cB cC cI cJ cZ oA rA Γ]) (ws' := (b_g cB cC cI cJ cZ oA rA Γ ++ b_w cB cC cI cJ cZ oA rA Γ ++ b_c cB cC cI cJ cZ oA rA Γ)) hP fl_3 fl_3 [0, 1, 2] rfl
    have hDc := bx_D (bs := [b_g cB cC cI cJ cZ oA rA Γ, b_w cB cC cI cJ cZ oA rA Γ, b_c cB cC cI cJ cZ oA rA Γ]) (bs' := [b_g cB cC cI cJ cZ oA rA Γ, b_w cB cC cI cJ cZ oA rA Γ, b_c cB cC cI cJ cZ oA rA Γ]) (ws' := (b_g cB cC cI cJ cZ oA rA Γ ++ b_w cB cC cI cJ cZ oA rA Γ ++ b_c cB cC cI cJ cZ oA rA Γ)) (hDD Γ) fl_3 fl_3 [0, 1, 2] (by decide +kernel) rfl
    have hFc := bx_F (bs := [b_g cB cC cI cJ cZ oA rA Γ, b_w cB cC cI cJ cZ oA rA Γ, b_c cB cC cI cJ cZ oA rA Γ]) (bs' := [b_g cB cC cI cJ cZ oA rA Γ, b_w cB cC cI cJ cZ oA rA Γ, b_c cB cC cI cJ cZ oA rA Γ]) (wc := (b_g cB cC cI cJ cZ oA rA Γ ++ b_w cB cC cI cJ cZ oA rA Γ ++ b_c cB cC cI cJ cZ oA rA Γ)) (hDD Γ) hS hA fl_3 fl_3 [0, 1, 2] rfl
    refine g_ofv (wc := (b_g cB cC cI cJ cZ oA rA Γ ++ b_w cB cC cI cJ cZ oA rA Γ ++ b_c cB cC cI cJ cZ oA rA Γ)) (wr := ([] : va_W)) hP (hDD Γ) hS hFc (bx_ix [b_g cB cC cI cJ cZ oA rA Γ, b_w cB cC cI cJ cZ oA rA Γ, b_c cB cC cI cJ cZ oA rA Γ] [0, 1, 2]) (bx_ix [b_g cB cC cI cJ cZ oA rA Γ, b_w cB cC cI cJ cZ oA rA Γ, b_c cB cC cI cJ cZ oA rA Γ] []) (bx_C (bs := [b_g cB cC cI cJ cZ oA rA Γ, b_w cB cC cI cJ cZ oA rA Γ, b_c cB cC cI cJ cZ oA rA Γ]) (bs' := [b_g cB cC cI cJ cZ oA rA Γ, b_w cB cC cI cJ cZ oA rA Γ, b_c cB cC cI cJ cZ oA rA Γ]) (is := [0, 1, 2]) fl_3 fl_3 rfl) (bx_C (bs := [b_g cB cC cI cJ cZ oA rA Γ, b_w cB cC cI cJ cZ oA rA Γ, b_c cB cC cI cJ cZ oA rA Γ]) (bs' := []) (is := []) fl_3 fl_0 rfl) (bx_n (by decide +kernel)) (bx_d (by decide +kernel)) (va_runV (As := []) (rest := []) ⟨hx, hb, hml, hown, hts⟩ (k_X2_pass l dC dI cB cC cI cJ cZ cP oA rA s.heap.size  Γ _ hu_3) (cwV 0 hts (g_gV wq_555 wq_556 wq_1997 wq_3 wq_557) rfl rfl rfl (by decide +kernel) ⟨Nat.le_of_ble_eq_true rfl, Nat.le_of_ble_eq_true rfl⟩) (g_preV g_bl0 hK hPc hDc hS hE hFc g_to0 (q0 := 0) (ci := 2) rfl rfl) rfl rfl hl.1 rfl (lv_room (Nat.le_of_ble_eq_true rfl)) dX2_need_9 ⟨Nat.le_of_ble_eq_true rfl, Nat.le_of_ble_eq_true rfl⟩) (fun u9 H locs hw9 hP' hD' hS => ?_)
    clear hPc hDc hFc
    have hP : va_P (dC, dI) vwCl (b_g cB cC cI cJ cZ oA rA u_3.2 ++ b_w cB cC cI cJ cZ oA rA u_3.2 ++ b_c cB cC cI cJ cZ oA rA u_3.2) H := hP'
    clear hP' hD'
    refine lv_goto (tgt := 20) hx hb dX2_need_12 (by decide) ?_
    have h9 := Option.some.inj hF_4
    subst h9
    exact W.vret hx hb hr (fun t ht hW => ⟨⟨(), rfl, trivial, m_end ht hP, hDD _⟩, hS.F ht⟩) hS.2.2 dX2_need_20
theorem dX2_deepen_0 : decode cX2_deepen 0 = .ok (.aload_n 0, 1) := by decide +kernel
theorem dX2_deepen_1 : decode cX2_deepen 1 = .ok (.dup, 1) := by decide +kernel
theorem dX2_deepen_2 : decode cX2_deepen 2 = .ok (.getfield 32, 3) := by decide +kernel
theorem dX2_deepen_5 : decode cX2_deepen 5 = .ok (.iconst 1, 1) := by decide +kernel
theorem dX2_deepen_6 : decode cX2_deepen 6 = .ok (.iadd, 1) := by decide +kernel
theorem dX2_deepen_7 : decode cX2_deepen 7 = .ok (.putfield 32, 3) := by decide +kernel
theorem dX2_deepen_10 : decode cX2_deepen 10 = .ok (.aload_n 0, 1) := by decide +kernel
theorem dX2_deepen_11 : decode cX2_deepen 11 = .ok (.getfield 32, 3) := by decide +kernel
theorem dX2_deepen_14 : decode cX2_deepen 14 = .ok (.bipush 30, 2) := by decide +kernel
theorem dX2_deepen_16 : decode cX2_deepen 16 = .ok (.if_icmp .le 11, 3) := by decide +kernel
theorem dX2_deepen_19 : decode cX2_deepen 19 = .ok (.aload_n 0, 1) := by decide +kernel
theorem dX2_deepen_20 : decode cX2_deepen 20 = .ok (.iconst 5, 1) := by decide +kernel
theorem dX2_deepen_21 : decode cX2_deepen 21 = .ok (.invokevirtual 110, 3) := by decide +kernel
theorem dX2_deepen_24 : decode cX2_deepen 24 = .ok (.goto 7, 3) := by decide +kernel
theorem dX2_deepen_27 : decode cX2_deepen 27 = .ok (.aload_n 0, 1) := by decide +kernel
theorem dX2_deepen_28 : decode cX2_deepen 28 = .ok (.invokevirtual 107, 3) := by decide +kernel
theorem dX2_deepen_31 : decode cX2_deepen 31 = .ok (.return_, 1) := by decide +kernel
def F_X2_deepen  (Γ : HS) : HR :=
  bnd (cI' Γ 2 4 (((Γ 2).1 4) + 1)) fun σ_1 =>
  if ((σ_1 2).1 4) ≤ 30 then (
    (F_X2_pass σ_1).bind fun u_5 =>
    some (0, u_5.2)
  ) else (
    (F_X2_fail 5 σ_1).bind fun u_8 =>
    some (0, u_8.2)
  )
set_option maxHeartbeats 4000000 in
set_option maxRecDepth 100000 in
theorem k_X2_deepen (l : Launch) (dC : Nat → ClassId) (dI : Nat → Nat → Nat) (cB cC cI cJ cZ cP : ClassId) (oA : Nat → Nat) (rA : Nat → Nat → Nat) (sz : Nat)   (Γ : HS) (res : Int32 × HS) (hF : F_X2_deepen  Γ = some res) : Met l yX2_deepen (g_ws yX2_deepen cX2_deepen 1 none) ({ frames := 2, cells := 0, slots := 0, locals := 61 }) (va_Pc [.ref (oA 2)] (g_B (dC, dI) [(cB, .byte), (cC, .char), (cI, .int), (cJ, .long), (cZ, .boolean), (cP, .object "StoryHouse$Play")] sz (b_g cB cC cI cJ cZ oA rA Γ ++ b_w cB cC cI cJ cZ oA rA Γ ++ b_c cB cC cI cJ cZ oA rA Γ) g_0)) (va_Qv (fun (_ : Unit) => True) (g_Bo (dC, dI) (va_A (b_g cB cC cI cJ cZ oA rA Γ ++ b_w cB cC cI cJ cZ oA rA Γ ++ b_c cB cC cI cJ cZ oA rA Γ) sz) (fun (_ : Unit) => (b_g cB cC cI cJ cZ oA rA res.2 ++ b_w cB cC cI cJ cZ oA rA res.2 ++ b_c cB cC cI cJ cZ oA rA res.2))) (va_A (b_g cB cC cI cJ cZ oA rA Γ ++ b_w cB cC cI cJ cZ oA rA Γ ++ b_c cB cC cI cJ cZ oA rA Γ) sz)) 0 0 (va_A (b_g cB cC cI cJ cZ oA rA Γ ++ b_w cB cC cI cJ cZ oA rA Γ ++ b_c cB cC cI cJ cZ oA rA Γ) sz) := by
  refine Met.ofW (cc := cX2_deepen) (maxL := 1) (ret := none) (by decide) rfl ?_
  intro p e s m args below meth c s₁ B hml hv
  obtain ⟨rfl, hsz, hP, hK, hD0, hE, hX⟩ := hv
  have hx := B.exec
  have hb := B.bytes
  have hr := B.returns
  have hts0 := atoms_spec (ws := g_ws yX2_deepen cX2_deepen 1 none) B.pre
  have hts : ∀ w ∈ lw_good, w.before ([.ref (oA 2)] : List Value).toArray s = true := fun w z => hts0 w (List.mem_cons_of_mem _ z)
  have hown : s.vm.findClass RX2 = some m.cls := findClass_of_methodNamed B.named
  have hlocks := B.notSynchronized
  subst hsz
  have hD1 := hD0.self (sz := s.heap.size)
  generalize hAe : va_A (b_g cB cC cI cJ cZ oA rA Γ ++ b_w cB cC cI cJ cZ oA rA Γ ++ b_c cB cC cI cJ cZ oA rA Γ) s.heap.size = A at hD1 hE hX ⊢
  have hA : ∀ q : Nat, s.heap.size ≤ q → A q := fun q z => by rw [← hAe]; exact Or.inr z
  have hDD : ∀ Γ : HS, va_D A (b_g cB cC cI cJ cZ oA rA Γ ++ b_w cB cC cI cJ cZ oA rA Γ ++ b_c cB cC cI cJ cZ oA rA Γ) := fun Γ9 => va_D_fst (ws := (b_g cB cC cI cJ cZ oA rA Γ ++ b_w cB cC cI cJ cZ oA rA Γ ++ b_c cB cC cI cJ cZ oA rA Γ)) (ws' := (b_g cB cC cI cJ cZ oA rA Γ9 ++ b_w cB cC cI cJ cZ oA rA Γ9 ++ b_c cB cC cI cJ cZ oA rA Γ9)) rfl hD1
  have hN := hE.1
  have hS : va_S A s.heap s.heap [] := va_S.rf
  have hl := lv_entry ([.ref (oA 2)]) (n := 1) (Nat.le_of_ble_eq_true rfl)
  rw [lg_entry_eq]
  generalize (lg_sl ([.ref (oA 2)]) ++ List.replicate (1 - (lg_sl ([.ref (oA 2)])).length) Slot.unset).toArray = ls at hl ⊢
  have hl : lv_has ls 1 [(0, .ref (oA 2))] := hl
  unfold F_X2_deepen at hF
  refine lv_aload_n hx hb dX2_deepen_0 rfl (lv_at hl 0 rfl) ?_
  refine lv_dup hx hb dX2_deepen_1 rfl ?_
  refine va_get (D := (dC, dI)) (ci := 2) (v := .int ((Γ 2).1 4)) (C := RX2) (T := TX2) (N := 8) hx hb hts ii_X2 hown hK hP 0 rfl rfl 4 (by decide) (hts (.fieldLink RX2 32 "StoryHouse$Grammar" "nest" "I") wq_75) (fun _ h9 => h9) rfl dX2_deepen_2 ?_
  refine lv_iconst (v := 1) hx hb dX2_deepen_5 (by decide +kernel) ?_
  refine lv_iadd hx hb dX2_deepen_6 ?_
  obtain ⟨σ_1, eσ_1, hF_2⟩ := bnd_e hF
  clear hF
  refine va_put (D := (dC, dI)) (ci := 2) (v := .int (((Γ 2).1 4) + 1)) (ty := .int) (C := RX2) (T := TX2) (N := 8) hx hb hts ii_X2 tyX2 tyX2_ok nmX2 hown hK hP (hDD _) hS 0 rfl rfl 4 (by decide) (hts (.fieldLink RX2 32 "StoryHouse$Grammar" "nest" "I") wq_75) (fun _ h9 => h9) rfl (by decide +kernel) rfl rfl (Nat.le_of_ble_eq_true rfl) dX2_deepen_7 (fun H locs hP' _ hS => ?_)
  have hP : va_P (dC, dI) vwCl (b_g cB cC cI cJ cZ oA rA σ_1 ++ b_w cB cC cI cJ cZ oA rA σ_1 ++ b_c cB cC cI cJ cZ oA rA σ_1) H := by rw [eσ_1]; exact cs_gwc_g_4 ▸ hP'
  clear hP'
  refine lv_aload_n hx hb dX2_deepen_10 rfl (lv_at hl 0 rfl) ?_
  refine va_get (D := (dC, dI)) (ci := 2) (v := .int ((σ_1 2).1 4)) (C := RX2) (T := TX2) (N := 8) hx hb hts ii_X2 hown hK hP 0 rfl rfl 4 (by decide) (hts (.fieldLink RX2 32 "StoryHouse$Grammar" "nest" "I") wq_75) (fun _ h9 => h9) rfl dX2_deepen_11 ?_
  refine lv_bipush (v := 30) hx hb dX2_deepen_14 (by decide +kernel) ?_
  refine lv_icmp_le (tgt := 27) hx hb dX2_deepen_16 (by decide) (fun c_3 => ?_) (fun c_3 => ?_)
  · have hF_4 := ipos c_3 hF_2
    clear hF_2
    refine lv_aload_n hx hb dX2_deepen_27 rfl (lv_at hl 0 rfl) ?_
    obtain ⟨u_5, hu_5, hF_6⟩ := Option.bind_eq_some_iff.mp hF_4
    clear hF_4
    have hPc := bx_P (bs := [b_g cB cC cI cJ cZ oA rA σ_1, b_w cB cC cI cJ cZ oA rA σ_1, b_c cB cC cI cJ cZ oA rA σ_1]) (bs' := [b_g cB cC cI cJ cZ oA rA σ_1, b_w cB cC cI cJ cZ oA rA σ_1, b_c cB cC cI cJ cZ oA rA σ_1]) (ws' := (b_g cB cC cI cJ cZ oA rA σ_1 ++ b_w cB cC cI cJ cZ oA rA σ_1 ++ b_c cB cC cI cJ cZ oA rA σ_1)) hP fl_3 fl_3 [0, 1, 2] rfl
    have hDc := bx_D (bs := [b_g cB cC cI cJ cZ oA rA σ_1, b_w cB cC cI cJ cZ oA rA σ_1, b_c cB cC cI cJ cZ oA rA σ_1]) (bs' := [b_g cB cC cI cJ cZ oA rA σ_1, b_w cB cC cI cJ cZ oA rA σ_1, b_c cB cC cI cJ cZ oA rA σ_1]) (ws' := (b_g cB cC cI cJ cZ oA rA σ_1 ++ b_w cB cC cI cJ cZ oA rA σ_1 ++ b_c cB cC cI cJ cZ oA rA σ_1)) (hDD σ_1) fl_3 fl_3 [0, 1, 2] (by decide +kernel) rfl
    have hFc := bx_F (bs := [b_g cB cC cI cJ cZ oA rA σ_1, b_w cB cC cI cJ cZ oA rA σ_1, b_c cB cC cI cJ cZ oA rA σ_1]) (bs' := [b_g cB cC cI cJ cZ oA rA σ_1, b_w cB cC cI cJ cZ oA rA σ_1, b_c cB cC cI cJ cZ oA rA σ_1]) (wc := (b_g cB cC cI cJ cZ oA rA σ_1 ++ b_w cB cC cI cJ cZ oA rA σ_1 ++ b_c cB cC cI cJ cZ oA rA σ_1)) (hDD σ_1) hS hA fl_3 fl_3 [0, 1, 2] rfl
    refine g_ofv (wc := (b_g cB cC cI cJ cZ oA rA σ_1 ++ b_w cB cC cI cJ cZ oA rA σ_1 ++ b_c cB cC cI cJ cZ oA rA σ_1)) (wr := ([] : va_W)) hP (hDD σ_1) hS hFc (bx_ix [b_g cB cC cI cJ cZ oA rA σ_1, b_w cB cC cI cJ cZ oA rA σ_1, b_c cB cC cI cJ cZ oA rA σ_1] [0, 1, 2]) (bx_ix [b_g cB cC cI cJ cZ oA rA σ_1, b_w cB cC cI cJ cZ oA rA σ_1, b_c cB cC cI cJ cZ oA rA σ_1] []) (bx_C (bs := [b_g cB cC cI cJ cZ oA rA σ_1, b_w cB cC cI cJ cZ oA rA σ_1, b_c cB cC cI cJ cZ oA rA σ_1]) (bs' := [b_g cB cC cI cJ cZ oA rA σ_1, b_w cB cC cI cJ cZ oA rA σ_1, b_c cB cC cI cJ cZ oA rA σ_1]) (is := [0, 1, 2]) fl_3 fl_3 rfl) (bx_C (bs := [b_g cB cC cI cJ cZ oA rA σ_1, b_w cB cC cI cJ cZ oA rA σ_1, b_c cB cC cI cJ cZ oA rA σ_1]) (bs' := []) (is := []) fl_3 fl_0 rfl) (bx_n (by decide +kernel)) (bx_d (by decide +kernel)) (va_runV (As := []) (rest := []) ⟨hx, hb, hml, hown, hts⟩ (k_X2_pass l dC dI cB cC cI cJ cZ cP oA rA H.size  σ_1 _ hu_5) (cwV 0 hts (g_gV wq_555 wq_556 wq_1997 wq_3 wq_557) rfl rfl rfl (by decide +kernel) ⟨Nat.le_of_ble_eq_true rfl, Nat.le_of_ble_eq_true rfl⟩) (g_preV g_bl0 hK hPc hDc hS hE hFc g_to0 (q0 := 0) (ci := 2) rfl rfl) rfl rfl hl.1 rfl (lv_room (Nat.le_of_ble_eq_true rfl)) dX2_deepen_28 ⟨Nat.le_of_ble_eq_true rfl, Nat.le_of_ble_eq_true rfl⟩) (fun u9 H locs hw9 hP' hD' hS => ?_)
    clear hPc hDc hFc
    have hP : va_P (dC, dI) vwCl (b_g cB cC cI cJ cZ oA rA u_5.2 ++ b_w cB cC cI cJ cZ oA rA u_5.2 ++ b_c cB cC cI cJ cZ oA rA u_5.2) H := hP'
    clear hP' hD'
    have h9 := Option.some.inj hF_6
    subst h9
    exact W.vret hx hb hr (fun t ht hW => ⟨⟨(), rfl, trivial, m_end ht hP, hDD _⟩, hS.F ht⟩) hS.2.2 dX2_deepen_31
  · have hF_7 := ineg c_3 hF_2
    clear hF_2
    refine lv_aload_n hx hb dX2_deepen_19 rfl (lv_at hl 0 rfl) ?_
    refine lv_iconst (v := 5) hx hb dX2_deepen_20 (by decide +kernel) ?_
    obtain ⟨u_8, hu_8, hF_9⟩ := Option.bind_eq_some_iff.mp hF_7
    clear hF_7
    have hPc := bx_P (bs := [b_g cB cC cI cJ cZ oA rA σ_1, b_w cB cC cI cJ cZ oA rA σ_1, b_c cB cC cI cJ cZ oA rA σ_1]) (bs' := [b_g cB cC cI cJ cZ oA rA σ_1, b_w cB cC cI cJ cZ oA rA σ_1, b_c cB cC cI cJ cZ oA rA σ_1]) (ws' := (b_g cB cC cI cJ cZ oA rA σ_1 ++ b_w cB cC cI cJ cZ oA rA σ_1 ++ b_c cB cC cI cJ cZ oA rA σ_1)) hP fl_3 fl_3 [0, 1, 2] rfl
    have hDc := bx_D (bs := [b_g cB cC cI cJ cZ oA rA σ_1, b_w cB cC cI cJ cZ oA rA σ_1, b_c cB cC cI cJ cZ oA rA σ_1]) (bs' := [b_g cB cC cI cJ cZ oA rA σ_1, b_w cB cC cI cJ cZ oA rA σ_1, b_c cB cC cI cJ cZ oA rA σ_1]) (ws' := (b_g cB cC cI cJ cZ oA rA σ_1 ++ b_w cB cC cI cJ cZ oA rA σ_1 ++ b_c cB cC cI cJ cZ oA rA σ_1)) (hDD σ_1) fl_3 fl_3 [0, 1, 2] (by decide +kernel) rfl
    have hFc := bx_F (bs := [b_g cB cC cI cJ cZ oA rA σ_1, b_w cB cC cI cJ cZ oA rA σ_1, b_c cB cC cI cJ cZ oA rA σ_1]) (bs' := [b_g cB cC cI cJ cZ oA rA σ_1, b_w cB cC cI cJ cZ oA rA σ_1, b_c cB cC cI cJ cZ oA rA σ_1]) (wc := (b_g cB cC cI cJ cZ oA rA σ_1 ++ b_w cB cC cI cJ cZ oA rA σ_1 ++ b_c cB cC cI cJ cZ oA rA σ_1)) (hDD σ_1) hS hA fl_3 fl_3 [0, 1, 2] rfl
    refine g_ofv (wc := (b_g cB cC cI cJ cZ oA rA σ_1 ++ b_w cB cC cI cJ cZ oA rA σ_1 ++ b_c cB cC cI cJ cZ oA rA σ_1)) (wr := ([] : va_W)) hP (hDD σ_1) hS hFc (bx_ix [b_g cB cC cI cJ cZ oA rA σ_1, b_w cB cC cI cJ cZ oA rA σ_1, b_c cB cC cI cJ cZ oA rA σ_1] [0, 1, 2]) (bx_ix [b_g cB cC cI cJ cZ oA rA σ_1, b_w cB cC cI cJ cZ oA rA σ_1, b_c cB cC cI cJ cZ oA rA σ_1] []) (bx_C (bs := [b_g cB cC cI cJ cZ oA rA σ_1, b_w cB cC cI cJ cZ oA rA σ_1, b_c cB cC cI cJ cZ oA rA σ_1]) (bs' := [b_g cB cC cI cJ cZ oA rA σ_1, b_w cB cC cI cJ cZ oA rA σ_1, b_c cB cC cI cJ cZ oA rA σ_1]) (is := [0, 1, 2]) fl_3 fl_3 rfl) (bx_C (bs := [b_g cB cC cI cJ cZ oA rA σ_1, b_w cB cC cI cJ cZ oA rA σ_1, b_c cB cC cI cJ cZ oA rA σ_1]) (bs' := []) (is := []) fl_3 fl_0 rfl) (bx_n (by decide +kernel)) (bx_d (by decide +kernel)) (va_runV (As := [.int 5]) (rest := []) ⟨hx, hb, hml, hown, hts⟩ (k_X2_fail l dC dI cB cC cI cJ cZ cP oA rA H.size  5 σ_1 _ hu_8) (cwV 1 hts (g_gV wq_558 wq_559 wq_1998 wq_3 wq_560) rfl rfl rfl (by decide +kernel) ⟨Nat.le_of_ble_eq_true rfl, Nat.le_of_ble_eq_true rfl⟩) (g_preV g_bl0 hK hPc hDc hS hE hFc g_to0 (q0 := 0) (ci := 2) rfl rfl) rfl rfl hl.1 rfl (lv_room (Nat.le_of_ble_eq_true rfl)) dX2_deepen_21 ⟨Nat.le_of_ble_eq_true rfl, Nat.le_of_ble_eq_true rfl⟩) (fun u9 H locs hw9 hP' hD' hS => ?_)
    clear hPc hDc hFc
    have hP : va_P (dC, dI) vwCl (b_g cB cC cI cJ cZ oA rA u_8.2 ++ b_w cB cC cI cJ cZ oA rA u_8.2 ++ b_c cB cC cI cJ cZ oA rA u_8.2) H := hP'
    clear hP' hD'
    refine lv_goto (tgt := 31) hx hb dX2_deepen_24 (by decide) ?_
    have h9 := Option.some.inj hF_9
    subst h9
    exact W.vret hx hb hr (fun t ht hW => ⟨⟨(), rfl, trivial, m_end ht hP, hDD _⟩, hS.F ht⟩) hS.2.2 dX2_deepen_31
theorem dX2_open_0 : decode cX2_open 0 = .ok (.aload_n 0, 1) := by decide +kernel
theorem dX2_open_1 : decode cX2_open 1 = .ok (.getfield 29, 3) := by decide +kernel
theorem dX2_open_4 : decode cX2_open 4 = .ok (.iload_n 1, 1) := by decide +kernel
theorem dX2_open_5 : decode cX2_open 5 = .ok (.if_icmp .ne 10, 3) := by decide +kernel
theorem dX2_open_8 : decode cX2_open 8 = .ok (.aload_n 0, 1) := by decide +kernel
theorem dX2_open_9 : decode cX2_open 9 = .ok (.invokevirtual 117, 3) := by decide +kernel
theorem dX2_open_12 : decode cX2_open 12 = .ok (.goto 8, 3) := by decide +kernel
theorem dX2_open_15 : decode cX2_open 15 = .ok (.aload_n 0, 1) := by decide +kernel
theorem dX2_open_16 : decode cX2_open 16 = .ok (.iconst 2, 1) := by decide +kernel
theorem dX2_open_17 : decode cX2_open 17 = .ok (.invokevirtual 110, 3) := by decide +kernel
theorem dX2_open_20 : decode cX2_open 20 = .ok (.return_, 1) := by decide +kernel
def F_X2_open (p0 : Int32) (Γ : HS) : HR :=
  if ((Γ 2).1 3) = p0 then (
    (F_X2_deepen Γ).bind fun u_3 =>
    some (0, u_3.2)
  ) else (
    (F_X2_fail 2 Γ).bind fun u_6 =>
    some (0, u_6.2)
  )
set_option maxHeartbeats 4000000 in
set_option maxRecDepth 100000 in
theorem k_X2_open (l : Launch) (dC : Nat → ClassId) (dI : Nat → Nat → Nat) (cB cC cI cJ cZ cP : ClassId) (oA : Nat → Nat) (rA : Nat → Nat → Nat) (sz : Nat)  (p0 : Int32) (Γ : HS) (res : Int32 × HS) (hF : F_X2_open p0 Γ = some res) : Met l yX2_open (g_ws yX2_open cX2_open 2 none) ({ frames := 3, cells := 0, slots := 0, locals := 81 }) (va_Pc [.ref (oA 2), .int p0] (g_B (dC, dI) [(cB, .byte), (cC, .char), (cI, .int), (cJ, .long), (cZ, .boolean), (cP, .object "StoryHouse$Play")] sz (b_g cB cC cI cJ cZ oA rA Γ ++ b_w cB cC cI cJ cZ oA rA Γ ++ b_c cB cC cI cJ cZ oA rA Γ) g_0)) (va_Qv (fun (_ : Unit) => True) (g_Bo (dC, dI) (va_A (b_g cB cC cI cJ cZ oA rA Γ ++ b_w cB cC cI cJ cZ oA rA Γ ++ b_c cB cC cI cJ cZ oA rA Γ) sz) (fun (_ : Unit) => (b_g cB cC cI cJ cZ oA rA res.2 ++ b_w cB cC cI cJ cZ oA rA res.2 ++ b_c cB cC cI cJ cZ oA rA res.2))) (va_A (b_g cB cC cI cJ cZ oA rA Γ ++ b_w cB cC cI cJ cZ oA rA Γ ++ b_c cB cC cI cJ cZ oA rA Γ) sz)) 0 0 (va_A (b_g cB cC cI cJ cZ oA rA Γ ++ b_w cB cC cI cJ cZ oA rA Γ ++ b_c cB cC cI cJ cZ oA rA Γ) sz) := by
  refine Met.ofW (cc := cX2_open) (maxL := 2) (ret := none) (by decide) rfl ?_
  intro p e s m args below meth c s₁ B hml hv
  obtain ⟨rfl, hsz, hP, hK, hD0, hE, hX⟩ := hv
  have hx := B.exec
  have hb := B.bytes
  have hr := B.returns
  have hts0 := atoms_spec (ws := g_ws yX2_open cX2_open 2 none) B.pre
  have hts : ∀ w ∈ lw_good, w.before ([.ref (oA 2), .int p0] : List Value).toArray s = true := fun w z => hts0 w (List.mem_cons_of_mem _ z)
  have hown : s.vm.findClass RX2 = some m.cls := findClass_of_methodNamed B.named
  have hlocks := B.notSynchronized
  subst hsz
  have hD1 := hD0.self (sz := s.heap.size)
  generalize hAe : va_A (b_g cB cC cI cJ cZ oA rA Γ ++ b_w cB cC cI cJ cZ oA rA Γ ++ b_c cB cC cI cJ cZ oA rA Γ) s.heap.size = A at hD1 hE hX ⊢
  have hA : ∀ q : Nat, s.heap.size ≤ q → A q := fun q z => by rw [← hAe]; exact Or.inr z
  have hDD : ∀ Γ : HS, va_D A (b_g cB cC cI cJ cZ oA rA Γ ++ b_w cB cC cI cJ cZ oA rA Γ ++ b_c cB cC cI cJ cZ oA rA Γ) := fun Γ9 => va_D_fst (ws := (b_g cB cC cI cJ cZ oA rA Γ ++ b_w cB cC cI cJ cZ oA rA Γ ++ b_c cB cC cI cJ cZ oA rA Γ)) (ws' := (b_g cB cC cI cJ cZ oA rA Γ9 ++ b_w cB cC cI cJ cZ oA rA Γ9 ++ b_c cB cC cI cJ cZ oA rA Γ9)) rfl hD1
  have hN := hE.1
  have hS : va_S A s.heap s.heap [] := va_S.rf
  have hl := lv_entry ([.ref (oA 2), .int p0]) (n := 2) (Nat.le_of_ble_eq_true rfl)
  rw [lg_entry_eq]
  generalize (lg_sl ([.ref (oA 2), .int p0]) ++ List.replicate (2 - (lg_sl ([.ref (oA 2), .int p0])).length) Slot.unset).toArray = ls at hl ⊢
  have hl : lv_has ls 2 [(0, .ref (oA 2)), (1, .int p0)] := hl
  unfold F_X2_open at hF
  refine lv_aload_n hx hb dX2_open_0 rfl (lv_at hl 0 rfl) ?_
  refine va_get (D := (dC, dI)) (ci := 2) (v := .int ((Γ 2).1 3)) (C := RX2) (T := TX2) (N := 8) hx hb hts ii_X2 hown hK hP 0 rfl rfl 3 (by decide) (hts (.fieldLink RX2 29 "StoryHouse$Grammar" "kind" "I") wq_74) (fun _ h9 => h9) rfl dX2_open_1 ?_
  refine lv_iload_n hx hb dX2_open_4 rfl (lv_at hl 1 rfl) ?_
  refine lv_icmp_ne (tgt := 15) hx hb dX2_open_5 (by decide) (fun c_1 => ?_) (fun c_1 => ?_)
  · have hF_5 := ineg c_1 hF
    clear hF
    refine lv_aload_n hx hb dX2_open_15 rfl (lv_at hl 0 rfl) ?_
    refine lv_iconst (v := 2) hx hb dX2_open_16 (by decide +kernel) ?_
    obtain ⟨u_6, hu_6, hF_7⟩ := Option.bind_eq_some_iff.mp hF_5
    clear hF_5
    have hPc := bx_P (bs := [b_g cB cC cI cJ cZ oA rA Γ, b_w cB cC cI cJ cZ oA rA Γ, b_c cB cC cI cJ cZ oA rA Γ]) (bs' := [b_g cB cC cI cJ cZ oA rA Γ, b_w cB cC cI cJ cZ oA rA Γ, b_c cB cC cI cJ cZ oA rA Γ]) (ws' := (b_g cB cC cI cJ cZ oA rA Γ ++ b_w cB cC cI cJ cZ oA rA Γ ++ b_c cB cC cI cJ cZ oA rA Γ)) hP fl_3 fl_3 [0, 1, 2] rfl
    have hDc := bx_D (bs := [b_g cB cC cI cJ cZ oA rA Γ, b_w cB cC cI cJ cZ oA rA Γ, b_c cB cC cI cJ cZ oA rA Γ]) (bs' := [b_g cB cC cI cJ cZ oA rA Γ, b_w cB cC cI cJ cZ oA rA Γ, b_c cB cC cI cJ cZ oA rA Γ]) (ws' := (b_g cB cC cI cJ cZ oA rA Γ ++ b_w cB cC cI cJ cZ oA rA Γ ++ b_c cB cC cI cJ cZ oA rA Γ)) (hDD Γ) fl_3 fl_3 [0, 1, 2] (by decide +kernel) rfl
    have hFc := bx_F (bs := [b_g cB cC cI cJ cZ oA rA Γ, b_w cB cC cI cJ cZ oA rA Γ, b_c cB cC cI cJ cZ oA rA Γ]) (bs' := [b_g cB cC cI cJ cZ oA rA Γ, b_w cB cC cI cJ cZ oA rA Γ, b_c cB cC cI cJ cZ oA rA Γ]) (wc := (b_g cB cC cI cJ cZ oA rA Γ ++ b_w cB cC cI cJ cZ oA rA Γ ++ b_c cB cC cI cJ cZ oA rA Γ)) (hDD Γ) hS hA fl_3 fl_3 [0, 1, 2] rfl
    refine g_ofv (wc := (b_g cB cC cI cJ cZ oA rA Γ ++ b_w cB cC cI cJ cZ oA rA Γ ++ b_c cB cC cI cJ cZ oA rA Γ)) (wr := ([] : va_W)) hP (hDD Γ) hS hFc (bx_ix [b_g cB cC cI cJ cZ oA rA Γ, b_w cB cC cI cJ cZ oA rA Γ, b_c cB cC cI cJ cZ oA rA Γ] [0, 1, 2]) (bx_ix [b_g cB cC cI cJ cZ oA rA Γ, b_w cB cC cI cJ cZ oA rA Γ, b_c cB cC cI cJ cZ oA rA Γ] []) (bx_C (bs := [b_g cB cC cI cJ cZ oA rA Γ, b_w cB cC cI cJ cZ oA rA Γ, b_c cB cC cI cJ cZ oA rA Γ]) (bs' := [b_g cB cC cI cJ cZ oA rA Γ, b_w cB cC cI cJ cZ oA rA Γ, b_c cB cC cI cJ cZ oA rA Γ]) (is := [0, 1, 2]) fl_3 fl_3 rfl) (bx_C (bs := [b_g cB cC cI cJ cZ oA rA Γ, b_w cB cC cI cJ cZ oA rA Γ, b_c cB cC cI cJ cZ oA rA Γ]) (bs' := []) (is := []) fl_3 fl_0 rfl) (bx_n (by decide +kernel)) (bx_d (by decide +kernel)) (va_runV (As := [.int 2]) (rest := []) ⟨hx, hb, hml, hown, hts⟩ (k_X2_fail l dC dI cB cC cI cJ cZ cP oA rA s.heap.size  2 Γ _ hu_6) (cwV 1 hts (g_gV wq_558 wq_559 wq_1998 wq_3 wq_560) rfl rfl rfl (by decide +kernel) ⟨Nat.le_of_ble_eq_true rfl, Nat.le_of_ble_eq_true rfl⟩) (g_preV g_bl0 hK hPc hDc hS hE hFc g_to0 (q0 := 0) (ci := 2) rfl rfl) rfl rfl hl.1 rfl (lv_room (Nat.le_of_ble_eq_true rfl)) dX2_open_17 ⟨Nat.le_of_ble_eq_true rfl, Nat.le_of_ble_eq_true rfl⟩) (fun u9 H locs hw9 hP' hD' hS => ?_)
    clear hPc hDc hFc
    have hP : va_P (dC, dI) vwCl (b_g cB cC cI cJ cZ oA rA u_6.2 ++ b_w cB cC cI cJ cZ oA rA u_6.2 ++ b_c cB cC cI cJ cZ oA rA u_6.2) H := hP'
    clear hP' hD'
    have h9 := Option.some.inj hF_7
    subst h9
    exact W.vret hx hb hr (fun t ht hW => ⟨⟨(), rfl, trivial, m_end ht hP, hDD _⟩, hS.F ht⟩) hS.2.2 dX2_open_20
  · have hF_2 := ipos c_1 hF
    clear hF
    refine lv_aload_n hx hb dX2_open_8 rfl (lv_at hl 0 rfl) ?_
    obtain ⟨u_3, hu_3, hF_4⟩ := Option.bind_eq_some_iff.mp hF_2
    clear hF_2
    have hPc := bx_P (bs := [b_g cB cC cI cJ cZ oA rA Γ, b_w cB cC cI cJ cZ oA rA Γ, b_c cB cC cI cJ cZ oA rA Γ]) (bs' := [b_g cB cC cI cJ cZ oA rA Γ, b_w cB cC cI cJ cZ oA rA Γ, b_c cB cC cI cJ cZ oA rA Γ]) (ws' := (b_g cB cC cI cJ cZ oA rA Γ ++ b_w cB cC cI cJ cZ oA rA Γ ++ b_c cB cC cI cJ cZ oA rA Γ)) hP fl_3 fl_3 [0, 1, 2] rfl
    have hDc := bx_D (bs := [b_g cB cC cI cJ cZ oA rA Γ, b_w cB cC cI cJ cZ oA rA Γ, b_c cB cC cI cJ cZ oA rA Γ]) (bs' := [b_g cB cC cI cJ cZ oA rA Γ, b_w cB cC cI cJ cZ oA rA Γ, b_c cB cC cI cJ cZ oA rA Γ]) (ws' := (b_g cB cC cI cJ cZ oA rA Γ ++ b_w cB cC cI cJ cZ oA rA Γ ++ b_c cB cC cI cJ cZ oA rA Γ)) (hDD Γ) fl_3 fl_3 [0, 1, 2] (by decide +kernel) rfl
    have hFc := bx_F (bs := [b_g cB cC cI cJ cZ oA rA Γ, b_w cB cC cI cJ cZ oA rA Γ, b_c cB cC cI cJ cZ oA rA Γ]) (bs' := [b_g cB cC cI cJ cZ oA rA Γ, b_w cB cC cI cJ cZ oA rA Γ, b_c cB cC cI cJ cZ oA rA Γ]) (wc := (b_g cB cC cI cJ cZ oA rA Γ ++ b_w cB cC cI cJ cZ oA rA Γ ++ b_c cB cC cI cJ cZ oA rA Γ)) (hDD Γ) hS hA fl_3 fl_3 [0, 1, 2] rfl
    refine g_ofv (wc := (b_g cB cC cI cJ cZ oA rA Γ ++ b_w cB cC cI cJ cZ oA rA Γ ++ b_c cB cC cI cJ cZ oA rA Γ)) (wr := ([] : va_W)) hP (hDD Γ) hS hFc (bx_ix [b_g cB cC cI cJ cZ oA rA Γ, b_w cB cC cI cJ cZ oA rA Γ, b_c cB cC cI cJ cZ oA rA Γ] [0, 1, 2]) (bx_ix [b_g cB cC cI cJ cZ oA rA Γ, b_w cB cC cI cJ cZ oA rA Γ, b_c cB cC cI cJ cZ oA rA Γ] []) (bx_C (bs := [b_g cB cC cI cJ cZ oA rA Γ, b_w cB cC cI cJ cZ oA rA Γ, b_c cB cC cI cJ cZ oA rA Γ]) (bs' := [b_g cB cC cI cJ cZ oA rA Γ, b_w cB cC cI cJ cZ oA rA Γ, b_c cB cC cI cJ cZ oA rA Γ]) (is := [0, 1, 2]) fl_3 fl_3 rfl) (bx_C (bs := [b_g cB cC cI cJ cZ oA rA Γ, b_w cB cC cI cJ cZ oA rA Γ, b_c cB cC cI cJ cZ oA rA Γ]) (bs' := []) (is := []) fl_3 fl_0 rfl) (bx_n (by decide +kernel)) (bx_d (by decide +kernel)) (va_runV (As := []) (rest := []) ⟨hx, hb, hml, hown, hts⟩ (k_X2_deepen l dC dI cB cC cI cJ cZ cP oA rA s.heap.size  Γ _ hu_3) (cwV 0 hts (g_gV wq_570 wq_571 wq_2002 wq_3 wq_572) rfl rfl rfl (by decide +kernel) ⟨Nat.le_of_ble_eq_true rfl, Nat.le_of_ble_eq_true rfl⟩) (g_preV g_bl0 hK hPc hDc hS hE hFc g_to0 (q0 := 0) (ci := 2) rfl rfl) rfl rfl hl.1 rfl (lv_room (Nat.le_of_ble_eq_true rfl)) dX2_open_9 ⟨Nat.le_of_ble_eq_true rfl, Nat.le_of_ble_eq_true rfl⟩) (fun u9 H locs hw9 hP' hD' hS => ?_)
    clear hPc hDc hFc
    have hP : va_P (dC, dI) vwCl (b_g cB cC cI cJ cZ oA rA u_3.2 ++ b_w cB cC cI cJ cZ oA rA u_3.2 ++ b_c cB cC cI cJ cZ oA rA u_3.2) H := hP'
    clear hP' hD'
    refine lv_goto (tgt := 20) hx hb dX2_open_12 (by decide) ?_
    have h9 := Option.some.inj hF_4
    subst h9
    exact W.vret hx hb hr (fun t ht hW => ⟨⟨(), rfl, trivial, m_end ht hP, hDD _⟩, hS.F ht⟩) hS.2.2 dX2_open_20
theorem dX2_shut_0 : decode cX2_shut 0 = .ok (.aload_n 0, 1) := by decide +kernel
theorem dX2_shut_1 : decode cX2_shut 1 = .ok (.dup, 1) := by decide +kernel
theorem dX2_shut_2 : decode cX2_shut 2 = .ok (.getfield 32, 3) := by decide +kernel
theorem dX2_shut_5 : decode cX2_shut 5 = .ok (.iconst 1, 1) := by decide +kernel
theorem dX2_shut_6 : decode cX2_shut 6 = .ok (.isub, 1) := by decide +kernel
theorem dX2_shut_7 : decode cX2_shut 7 = .ok (.putfield 32, 3) := by decide +kernel
theorem dX2_shut_10 : decode cX2_shut 10 = .ok (.aload_n 0, 1) := by decide +kernel
theorem dX2_shut_11 : decode cX2_shut 11 = .ok (.iload_n 1, 1) := by decide +kernel
theorem dX2_shut_12 : decode cX2_shut 12 = .ok (.invokevirtual 120, 3) := by decide +kernel
theorem dX2_shut_15 : decode cX2_shut 15 = .ok (.return_, 1) := by decide +kernel
def F_X2_shut (p0 : Int32) (Γ : HS) : HR :=
  bnd (cI' Γ 2 4 (((Γ 2).1 4) - 1)) fun σ_1 =>
  (F_X2_need p0 σ_1).bind fun u_3 =>
  some (0, u_3.2)
set_option maxHeartbeats 4000000 in
set_option maxRecDepth 100000 in
theorem k_X2_shut (l : Launch) (dC : Nat → ClassId) (dI : Nat → Nat → Nat) (cB cC cI cJ cZ cP : ClassId) (oA : Nat → Nat) (rA : Nat → Nat → Nat) (sz : Nat)  (p0 : Int32) (Γ : HS) (res : Int32 × HS) (hF : F_X2_shut p0 Γ = some res) : Met l yX2_shut (g_ws yX2_shut cX2_shut 2 none) ({ frames := 3, cells := 0, slots := 0, locals := 82 }) (va_Pc [.ref (oA 2), .int p0] (g_B (dC, dI) [(cB, .byte), (cC, .char), (cI, .int), (cJ, .long), (cZ, .boolean), (cP, .object "StoryHouse$Play")] sz (b_g cB cC cI cJ cZ oA rA Γ ++ b_w cB cC cI cJ cZ oA rA Γ ++ b_c cB cC cI cJ cZ oA rA Γ) g_0)) (va_Qv (fun (_ : Unit) => True) (g_Bo (dC, dI) (va_A (b_g cB cC cI cJ cZ oA rA Γ ++ b_w cB cC cI cJ cZ oA rA Γ ++ b_c cB cC cI cJ cZ oA rA Γ) sz) (fun (_ : Unit) => (b_g cB cC cI cJ cZ oA rA res.2 ++ b_w cB cC cI cJ cZ oA rA res.2 ++ b_c cB cC cI cJ cZ oA rA res.2))) (va_A (b_g cB cC cI cJ cZ oA rA Γ ++ b_w cB cC cI cJ cZ oA rA Γ ++ b_c cB cC cI cJ cZ oA rA Γ) sz)) 0 0 (va_A (b_g cB cC cI cJ cZ oA rA Γ ++ b_w cB cC cI cJ cZ oA rA Γ ++ b_c cB cC cI cJ cZ oA rA Γ) sz) := by
  refine Met.ofW (cc := cX2_shut) (maxL := 2) (ret := none) (by decide) rfl ?_
  intro p e s m args below meth c s₁ B hml hv
  obtain ⟨rfl, hsz, hP, hK, hD0, hE, hX⟩ := hv
  have hx := B.exec
  have hb := B.bytes
  have hr := B.returns
  have hts0 := atoms_spec (ws := g_ws yX2_shut cX2_shut 2 none) B.pre
  have hts : ∀ w ∈ lw_good, w.before ([.ref (oA 2), .int p0] : List Value).toArray s = true := fun w z => hts0 w (List.mem_cons_of_mem _ z)
  have hown : s.vm.findClass RX2 = some m.cls := findClass_of_methodNamed B.named
  have hlocks := B.notSynchronized
  subst hsz
  have hD1 := hD0.self (sz := s.heap.size)
  generalize hAe : va_A (b_g cB cC cI cJ cZ oA rA Γ ++ b_w cB cC cI cJ cZ oA rA Γ ++ b_c cB cC cI cJ cZ oA rA Γ) s.heap.size = A at hD1 hE hX ⊢
  have hA : ∀ q : Nat, s.heap.size ≤ q → A q := fun q z => by rw [← hAe]; exact Or.inr z
  have hDD : ∀ Γ : HS, va_D A (b_g cB cC cI cJ cZ oA rA Γ ++ b_w cB cC cI cJ cZ oA rA Γ ++ b_c cB cC cI cJ cZ oA rA Γ) := fun Γ9 => va_D_fst (ws := (b_g cB cC cI cJ cZ oA rA Γ ++ b_w cB cC cI cJ cZ oA rA Γ ++ b_c cB cC cI cJ cZ oA rA Γ)) (ws' := (b_g cB cC cI cJ cZ oA rA Γ9 ++ b_w cB cC cI cJ cZ oA rA Γ9 ++ b_c cB cC cI cJ cZ oA rA Γ9)) rfl hD1
  have hN := hE.1
  have hS : va_S A s.heap s.heap [] := va_S.rf
  have hl := lv_entry ([.ref (oA 2), .int p0]) (n := 2) (Nat.le_of_ble_eq_true rfl)
  rw [lg_entry_eq]
  generalize (lg_sl ([.ref (oA 2), .int p0]) ++ List.replicate (2 - (lg_sl ([.ref (oA 2), .int p0])).length) Slot.unset).toArray = ls at hl ⊢
  have hl : lv_has ls 2 [(0, .ref (oA 2)), (1, .int p0)] := hl
  unfold F_X2_shut at hF
  refine lv_aload_n hx hb dX2_shut_0 rfl (lv_at hl 0 rfl) ?_
  refine lv_dup hx hb dX2_shut_1 rfl ?_
  refine va_get (D := (dC, dI)) (ci := 2) (v := .int ((Γ 2).1 4)) (C := RX2) (T := TX2) (N := 8) hx hb hts ii_X2 hown hK hP 0 rfl rfl 4 (by decide) (hts (.fieldLink RX2 32 "StoryHouse$Grammar" "nest" "I") wq_75) (fun _ h9 => h9) rfl dX2_shut_2 ?_
  refine lv_iconst (v := 1) hx hb dX2_shut_5 (by decide +kernel) ?_
  refine lv_isub hx hb dX2_shut_6 ?_
  obtain ⟨σ_1, eσ_1, hF_2⟩ := bnd_e hF
  clear hF
  refine va_put (D := (dC, dI)) (ci := 2) (v := .int (((Γ 2).1 4) - 1)) (ty := .int) (C := RX2) (T := TX2) (N := 8) hx hb hts ii_X2 tyX2 tyX2_ok nmX2 hown hK hP (hDD _) hS 0 rfl rfl 4 (by decide) (hts (.fieldLink RX2 32 "StoryHouse$Grammar" "nest" "I") wq_75) (fun _ h9 => h9) rfl (by decide +kernel) rfl rfl (Nat.le_of_ble_eq_true rfl) dX2_shut_7 (fun H locs hP' _ hS => ?_)
  have hP : va_P (dC, dI) vwCl (b_g cB cC cI cJ cZ oA rA σ_1 ++ b_w cB cC cI cJ cZ oA rA σ_1 ++ b_c cB cC cI cJ cZ oA rA σ_1) H := by rw [eσ_1]; exact cs_gwc_g_4 ▸ hP'
  clear hP'
  refine lv_aload_n hx hb dX2_shut_10 rfl (lv_at hl 0 rfl) ?_
  refine lv_iload_n hx hb dX2_shut_11 rfl (lv_at hl 1 rfl) ?_
  obtain ⟨u_3, hu_3, hF_4⟩ := Option.bind_eq_some_iff.mp hF_2
  clear hF_2
  have hPc := bx_P (bs := [b_g cB cC cI cJ cZ oA rA σ_1, b_w cB cC cI cJ cZ oA rA σ_1, b_c cB cC cI cJ cZ oA rA σ_1]) (bs' := [b_g cB cC cI cJ cZ oA rA σ_1, b_w cB cC cI cJ cZ oA rA σ_1, b_c cB cC cI cJ cZ oA rA σ_1]) (ws' := (b_g cB cC cI cJ cZ oA rA σ_1 ++ b_w cB cC cI cJ cZ oA rA σ_1 ++ b_c cB cC cI cJ cZ oA rA σ_1)) hP fl_3 fl_3 [0, 1, 2] rfl
  have hDc := bx_D (bs := [b_g cB cC cI cJ cZ oA rA σ_1, b_w cB cC cI cJ cZ oA rA σ_1, b_c cB cC cI cJ cZ oA rA σ_1]) (bs' := [b_g cB cC cI cJ cZ oA rA σ_1, b_w cB cC cI cJ cZ oA rA σ_1, b_c cB cC cI cJ cZ oA rA σ_1]) (ws' := (b_g cB cC cI cJ cZ oA rA σ_1 ++ b_w cB cC cI cJ cZ oA rA σ_1 ++ b_c cB cC cI cJ cZ oA rA σ_1)) (hDD σ_1) fl_3 fl_3 [0, 1, 2] (by decide +kernel) rfl
  have hFc := bx_F (bs := [b_g cB cC cI cJ cZ oA rA σ_1, b_w cB cC cI cJ cZ oA rA σ_1, b_c cB cC cI cJ cZ oA rA σ_1]) (bs' := [b_g cB cC cI cJ cZ oA rA σ_1, b_w cB cC cI cJ cZ oA rA σ_1, b_c cB cC cI cJ cZ oA rA σ_1]) (wc := (b_g cB cC cI cJ cZ oA rA σ_1 ++ b_w cB cC cI cJ cZ oA rA σ_1 ++ b_c cB cC cI cJ cZ oA rA σ_1)) (hDD σ_1) hS hA fl_3 fl_3 [0, 1, 2] rfl
  refine g_ofv (wc := (b_g cB cC cI cJ cZ oA rA σ_1 ++ b_w cB cC cI cJ cZ oA rA σ_1 ++ b_c cB cC cI cJ cZ oA rA σ_1)) (wr := ([] : va_W)) hP (hDD σ_1) hS hFc (bx_ix [b_g cB cC cI cJ cZ oA rA σ_1, b_w cB cC cI cJ cZ oA rA σ_1, b_c cB cC cI cJ cZ oA rA σ_1] [0, 1, 2]) (bx_ix [b_g cB cC cI cJ cZ oA rA σ_1, b_w cB cC cI cJ cZ oA rA σ_1, b_c cB cC cI cJ cZ oA rA σ_1] []) (bx_C (bs := [b_g cB cC cI cJ cZ oA rA σ_1, b_w cB cC cI cJ cZ oA rA σ_1, b_c cB cC cI cJ cZ oA rA σ_1]) (bs' := [b_g cB cC cI cJ cZ oA rA σ_1, b_w cB cC cI cJ cZ oA rA σ_1, b_c cB cC cI cJ cZ oA rA σ_1]) (is := [0, 1, 2]) fl_3 fl_3 rfl) (bx_C (bs := [b_g cB cC cI cJ cZ oA rA σ_1, b_w cB cC cI cJ cZ oA rA σ_1, b_c cB cC cI cJ cZ oA rA σ_1]) (bs' := []) (is := []) fl_3 fl_0 rfl) (bx_n (by decide +kernel)) (bx_d (by decide +kernel)) (va_runV (As := [.int p0]) (rest := []) ⟨hx, hb, hml, hown, hts⟩ (k_X2_need l dC dI cB cC cI cJ cZ cP oA rA H.size  p0 σ_1 _ hu_3) (cwV 1 hts (g_gV wq_564 wq_565 wq_2000 wq_3 wq_566) rfl rfl rfl (by decide +kernel) ⟨Nat.le_of_ble_eq_true rfl, Nat.le_of_ble_eq_true rfl⟩) (g_preV g_bl0 hK hPc hDc hS hE hFc g_to0 (q0 := 0) (ci := 2) rfl rfl) rfl rfl hl.1 rfl (lv_room (Nat.le_of_ble_eq_true rfl)) dX2_shut_12 ⟨Nat.le_of_ble_eq_true rfl, Nat.le_of_ble_eq_true rfl⟩) (fun u9 H locs hw9 hP' hD' hS => ?_)
  clear hPc hDc hFc
  have hP : va_P (dC, dI) vwCl (b_g cB cC cI cJ cZ oA rA u_3.2 ++ b_w cB cC cI cJ cZ oA rA u_3.2 ++ b_c cB cC cI cJ cZ oA rA u_3.2) H := hP'
  clear hP' hD'
  have h9 := Option.some.inj hF_4
  subst h9
  exact W.vret hx hb hr (fun t ht hW => ⟨⟨(), rfl, trivial, m_end ht hP, hDD _⟩, hS.F ht⟩) hS.2.2 dX2_shut_15
theorem dX2_arrayItem_0 : decode cX2_arrayItem 0 = .ok (.aload_n 0, 1) := by decide +kernel
theorem dX2_arrayItem_1 : decode cX2_arrayItem 1 = .ok (.iconst 2, 1) := by decide +kernel
theorem dX2_arrayItem_2 : decode cX2_arrayItem 2 = .ok (.invokevirtual 120, 3) := by decide +kernel
theorem dX2_arrayItem_5 : decode cX2_arrayItem 5 = .ok (.aload_n 0, 1) := by decide +kernel
theorem dX2_arrayItem_6 : decode cX2_arrayItem 6 = .ok (.bipush 91, 2) := by decide +kernel
theorem dX2_arrayItem_8 : decode cX2_arrayItem 8 = .ok (.invokevirtual 123, 3) := by decide +kernel
theorem dX2_arrayItem_11 : decode cX2_arrayItem 11 = .ok (.aload_n 0, 1) := by decide +kernel
theorem dX2_arrayItem_12 : decode cX2_arrayItem 12 = .ok (.iconst 3, 1) := by decide +kernel
theorem dX2_arrayItem_13 : decode cX2_arrayItem 13 = .ok (.invokevirtual 120, 3) := by decide +kernel
theorem dX2_arrayItem_16 : decode cX2_arrayItem 16 = .ok (.aload_n 0, 1) := by decide +kernel
theorem dX2_arrayItem_17 : decode cX2_arrayItem 17 = .ok (.bipush 93, 2) := by decide +kernel
theorem dX2_arrayItem_19 : decode cX2_arrayItem 19 = .ok (.invokevirtual 130, 3) := by decide +kernel
theorem dX2_arrayItem_22 : decode cX2_arrayItem 22 = .ok (.aload_n 0, 1) := by decide +kernel
theorem dX2_arrayItem_23 : decode cX2_arrayItem 23 = .ok (.bipush 59, 2) := by decide +kernel
theorem dX2_arrayItem_25 : decode cX2_arrayItem 25 = .ok (.invokevirtual 120, 3) := by decide +kernel
theorem dX2_arrayItem_28 : decode cX2_arrayItem 28 = .ok (.return_, 1) := by decide +kernel
def F_X2_arrayItem  (Γ : HS) : HR :=
  (F_X2_need 2 Γ).bind fun u_1 =>
  (F_X2_open 91 u_1.2).bind fun u_3 =>
  (F_X2_need 3 u_3.2).bind fun u_5 =>
  (F_X2_shut 93 u_5.2).bind fun u_7 =>
  (F_X2_need 59 u_7.2).bind fun u_9 =>
  some (0, u_9.2)
set_option maxHeartbeats 4000000 in
set_option maxRecDepth 100000 in
theorem k_X2_arrayItem (l : Launch) (dC : Nat → ClassId) (dI : Nat → Nat → Nat) (cB cC cI cJ cZ cP : ClassId) (oA : Nat → Nat) (rA : Nat → Nat → Nat) (sz : Nat)   (Γ : HS) (res : Int32 × HS) (hF : F_X2_arrayItem  Γ = some res) : Met l yX2_arrayItem (g_ws yX2_arrayItem cX2_arrayItem 1 none) ({ frames := 4, cells := 0, slots := 0, locals := 103 }) (va_Pc [.ref (oA 2)] (g_B (dC, dI) [(cB, .byte), (cC, .char), (cI, .int), (cJ, .long), (cZ, .boolean), (cP, .object "StoryHouse$Play")] sz (b_g cB cC cI cJ cZ oA rA Γ ++ b_w cB cC cI cJ cZ oA rA Γ ++ b_c cB cC cI cJ cZ oA rA Γ) g_0)) (va_Qv (fun (_ : Unit) => True) (g_Bo (dC, dI) (va_A (b_g cB cC cI cJ cZ oA rA Γ ++ b_w cB cC cI cJ cZ oA rA Γ ++ b_c cB cC cI cJ cZ oA rA Γ) sz) (fun (_ : Unit) => (b_g cB cC cI cJ cZ oA rA res.2 ++ b_w cB cC cI cJ cZ oA rA res.2 ++ b_c cB cC cI cJ cZ oA rA res.2))) (va_A (b_g cB cC cI cJ cZ oA rA Γ ++ b_w cB cC cI cJ cZ oA rA Γ ++ b_c cB cC cI cJ cZ oA rA Γ) sz)) 0 0 (va_A (b_g cB cC cI cJ cZ oA rA Γ ++ b_w cB cC cI cJ cZ oA rA Γ ++ b_c cB cC cI cJ cZ oA rA Γ) sz) := by
  refine Met.ofW (cc := cX2_arrayItem) (maxL := 1) (ret := none) (by decide) rfl ?_
  intro p e s m args below meth c s₁ B hml hv
  obtain ⟨rfl, hsz, hP, hK, hD0, hE, hX⟩ := hv
  have hx := B.exec
  have hb := B.bytes
  have hr := B.returns
  have hts0 := atoms_spec (ws := g_ws yX2_arrayItem cX2_arrayItem 1 none) B.pre
  have hts : ∀ w ∈ lw_good, w.before ([.ref (oA 2)] : List Value).toArray s = true := fun w z => hts0 w (List.mem_cons_of_mem _ z)
  have hown : s.vm.findClass RX2 = some m.cls := findClass_of_methodNamed B.named
  have hlocks := B.notSynchronized
  subst hsz
  have hD1 := hD0.self (sz := s.heap.size)
  generalize hAe : va_A (b_g cB cC cI cJ cZ oA rA Γ ++ b_w cB cC cI cJ cZ oA rA Γ ++ b_c cB cC cI cJ cZ oA rA Γ) s.heap.size = A at hD1 hE hX ⊢
  have hA : ∀ q : Nat, s.heap.size ≤ q → A q := fun q z => by rw [← hAe]; exact Or.inr z
  have hDD : ∀ Γ : HS, va_D A (b_g cB cC cI cJ cZ oA rA Γ ++ b_w cB cC cI cJ cZ oA rA Γ ++ b_c cB cC cI cJ cZ oA rA Γ) := fun Γ9 => va_D_fst (ws := (b_g cB cC cI cJ cZ oA rA Γ ++ b_w cB cC cI cJ cZ oA rA Γ ++ b_c cB cC cI cJ cZ oA rA Γ)) (ws' := (b_g cB cC cI cJ cZ oA rA Γ9 ++ b_w cB cC cI cJ cZ oA rA Γ9 ++ b_c cB cC cI cJ cZ oA rA Γ9)) rfl hD1
  have hN := hE.1
  have hS : va_S A s.heap s.heap [] := va_S.rf
  have hl := lv_entry ([.ref (oA 2)]) (n := 1) (Nat.le_of_ble_eq_true rfl)
  rw [lg_entry_eq]
  generalize (lg_sl ([.ref (oA 2)]) ++ List.replicate (1 - (lg_sl ([.ref (oA 2)])).length) Slot.unset).toArray = ls at hl ⊢
  have hl : lv_has ls 1 [(0, .ref (oA 2))] := hl
  unfold F_X2_arrayItem at hF
  refine lv_aload_n hx hb dX2_arrayItem_0 rfl (lv_at hl 0 rfl) ?_
  refine lv_iconst (v := 2) hx hb dX2_arrayItem_1 (by decide +kernel) ?_
  obtain ⟨u_1, hu_1, hF_2⟩ := Option.bind_eq_some_iff.mp hF
  clear hF
  have hPc := bx_P (bs := [b_g cB cC cI cJ cZ oA rA Γ, b_w cB cC cI cJ cZ oA rA Γ, b_c cB cC cI cJ cZ oA rA Γ]) (bs' := [b_g cB cC cI cJ cZ oA rA Γ, b_w cB cC cI cJ cZ oA rA Γ, b_c cB cC cI cJ cZ oA rA Γ]) (ws' := (b_g cB cC cI cJ cZ oA rA Γ ++ b_w cB cC cI cJ cZ oA rA Γ ++ b_c cB cC cI cJ cZ oA rA Γ)) hP fl_3 fl_3 [0, 1, 2] rfl
  have hDc := bx_D (bs := [b_g cB cC cI cJ cZ oA rA Γ, b_w cB cC cI cJ cZ oA rA Γ, b_c cB cC cI cJ cZ oA rA Γ]) (bs' := [b_g cB cC cI cJ cZ oA rA Γ, b_w cB cC cI cJ cZ oA rA Γ, b_c cB cC cI cJ cZ oA rA Γ]) (ws' := (b_g cB cC cI cJ cZ oA rA Γ ++ b_w cB cC cI cJ cZ oA rA Γ ++ b_c cB cC cI cJ cZ oA rA Γ)) (hDD Γ) fl_3 fl_3 [0, 1, 2] (by decide +kernel) rfl
  have hFc := bx_F (bs := [b_g cB cC cI cJ cZ oA rA Γ, b_w cB cC cI cJ cZ oA rA Γ, b_c cB cC cI cJ cZ oA rA Γ]) (bs' := [b_g cB cC cI cJ cZ oA rA Γ, b_w cB cC cI cJ cZ oA rA Γ, b_c cB cC cI cJ cZ oA rA Γ]) (wc := (b_g cB cC cI cJ cZ oA rA Γ ++ b_w cB cC cI cJ cZ oA rA Γ ++ b_c cB cC cI cJ cZ oA rA Γ)) (hDD Γ) hS hA fl_3 fl_3 [0, 1, 2] rfl
  refine g_ofv (wc := (b_g cB cC cI cJ cZ oA rA Γ ++ b_w cB cC cI cJ cZ oA rA Γ ++ b_c cB cC cI cJ cZ oA rA Γ)) (wr := ([] : va_W)) hP (hDD Γ) hS hFc (bx_ix [b_g cB cC cI cJ cZ oA rA Γ, b_w cB cC cI cJ cZ oA rA Γ, b_c cB cC cI cJ cZ oA rA Γ] [0, 1, 2]) (bx_ix [b_g cB cC cI cJ cZ oA rA Γ, b_w cB cC cI cJ cZ oA rA Γ, b_c cB cC cI cJ cZ oA rA Γ] []) (bx_C (bs := [b_g cB cC cI cJ cZ oA rA Γ, b_w cB cC cI cJ cZ oA rA Γ, b_c cB cC cI cJ cZ oA rA Γ]) (bs' := [b_g cB cC cI cJ cZ oA rA Γ, b_w cB cC cI cJ cZ oA rA Γ, b_c cB cC cI cJ cZ oA rA Γ]) (is := [0, 1, 2]) fl_3 fl_3 rfl) (bx_C (bs := [b_g cB cC cI cJ cZ oA rA Γ, b_w cB cC cI cJ cZ oA rA Γ, b_c cB cC cI cJ cZ oA rA Γ]) (bs' := []) (is := []) fl_3 fl_0 rfl) (bx_n (by decide +kernel)) (bx_d (by decide +kernel)) (va_runV (As := [.int 2]) (rest := []) ⟨hx, hb, hml, hown, hts⟩ (k_X2_need l dC dI cB cC cI cJ cZ cP oA rA s.heap.size  2 Γ _ hu_1) (cwV 1 hts (g_gV wq_564 wq_565 wq_2000 wq_3 wq_566) rfl rfl rfl (by decide +kernel) ⟨Nat.le_of_ble_eq_true rfl, Nat.le_of_ble_eq_true rfl⟩) (g_preV g_bl0 hK hPc hDc hS hE hFc g_to0 (q0 := 0) (ci := 2) rfl rfl) rfl rfl hl.1 rfl (lv_room (Nat.le_of_ble_eq_true rfl)) dX2_arrayItem_2 ⟨Nat.le_of_ble_eq_true rfl, Nat.le_of_ble_eq_true rfl⟩) (fun u9 H locs hw9 hP' hD' hS => ?_)
  clear hPc hDc hFc
  have hP : va_P (dC, dI) vwCl (b_g cB cC cI cJ cZ oA rA u_1.2 ++ b_w cB cC cI cJ cZ oA rA u_1.2 ++ b_c cB cC cI cJ cZ oA rA u_1.2) H := hP'
  clear hP' hD'
  refine lv_aload_n hx hb dX2_arrayItem_5 rfl (lv_at hl 0 rfl) ?_
  refine lv_bipush (v := 91) hx hb dX2_arrayItem_6 (by decide +kernel) ?_
  obtain ⟨u_3, hu_3, hF_4⟩ := Option.bind_eq_some_iff.mp hF_2
  clear hF_2
  have hPc := bx_P (bs := [b_g cB cC cI cJ cZ oA rA u_1.2, b_w cB cC cI cJ cZ oA rA u_1.2, b_c cB cC cI cJ cZ oA rA u_1.2]) (bs' := [b_g cB cC cI cJ cZ oA rA u_1.2, b_w cB cC cI cJ cZ oA rA u_1.2, b_c cB cC cI cJ cZ oA rA u_1.2]) (ws' := (b_g cB cC cI cJ cZ oA rA u_1.2 ++ b_w cB cC cI cJ cZ oA rA u_1.2 ++ b_c cB cC cI cJ cZ oA rA u_1.2)) hP fl_3 fl_3 [0, 1, 2] rfl
  have hDc := bx_D (bs := [b_g cB cC cI cJ cZ oA rA u_1.2, b_w cB cC cI cJ cZ oA rA u_1.2, b_c cB cC cI cJ cZ oA rA u_1.2]) (bs' := [b_g cB cC cI cJ cZ oA rA u_1.2, b_w cB cC cI cJ cZ oA rA u_1.2, b_c cB cC cI cJ cZ oA rA u_1.2]) (ws' := (b_g cB cC cI cJ cZ oA rA u_1.2 ++ b_w cB cC cI cJ cZ oA rA u_1.2 ++ b_c cB cC cI cJ cZ oA rA u_1.2)) (hDD u_1.2) fl_3 fl_3 [0, 1, 2] (by decide +kernel) rfl
  have hFc := bx_F (bs := [b_g cB cC cI cJ cZ oA rA u_1.2, b_w cB cC cI cJ cZ oA rA u_1.2, b_c cB cC cI cJ cZ oA rA u_1.2]) (bs' := [b_g cB cC cI cJ cZ oA rA u_1.2, b_w cB cC cI cJ cZ oA rA u_1.2, b_c cB cC cI cJ cZ oA rA u_1.2]) (wc := (b_g cB cC cI cJ cZ oA rA u_1.2 ++ b_w cB cC cI cJ cZ oA rA u_1.2 ++ b_c cB cC cI cJ cZ oA rA u_1.2)) (hDD u_1.2) hS hA fl_3 fl_3 [0, 1, 2] rfl
  refine g_ofv (wc := (b_g cB cC cI cJ cZ oA rA u_1.2 ++ b_w cB cC cI cJ cZ oA rA u_1.2 ++ b_c cB cC cI cJ cZ oA rA u_1.2)) (wr := ([] : va_W)) hP (hDD u_1.2) hS hFc (bx_ix [b_g cB cC cI cJ cZ oA rA u_1.2, b_w cB cC cI cJ cZ oA rA u_1.2, b_c cB cC cI cJ cZ oA rA u_1.2] [0, 1, 2]) (bx_ix [b_g cB cC cI cJ cZ oA rA u_1.2, b_w cB cC cI cJ cZ oA rA u_1.2, b_c cB cC cI cJ cZ oA rA u_1.2] []) (bx_C (bs := [b_g cB cC cI cJ cZ oA rA u_1.2, b_w cB cC cI cJ cZ oA rA u_1.2, b_c cB cC cI cJ cZ oA rA u_1.2]) (bs' := [b_g cB cC cI cJ cZ oA rA u_1.2, b_w cB cC cI cJ cZ oA rA u_1.2, b_c cB cC cI cJ cZ oA rA u_1.2]) (is := [0, 1, 2]) fl_3 fl_3 rfl) (bx_C (bs := [b_g cB cC cI cJ cZ oA rA u_1.2, b_w cB cC cI cJ cZ oA rA u_1.2, b_c cB cC cI cJ cZ oA rA u_1.2]) (bs' := []) (is := []) fl_3 fl_0 rfl) (bx_n (by decide +kernel)) (bx_d (by decide +kernel)) (va_runV (As := [.int 91]) (rest := []) ⟨hx, hb, hml, hown, hts⟩ (k_X2_open l dC dI cB cC cI cJ cZ cP oA rA H.size  91 u_1.2 _ hu_3) (cwV 1 hts (g_gV wq_567 wq_568 wq_2001 wq_3 wq_569) rfl rfl rfl (by decide +kernel) ⟨Nat.le_of_ble_eq_true rfl, Nat.le_of_ble_eq_true rfl⟩) (g_preV g_bl0 hK hPc hDc hS hE hFc g_to0 (q0 := 0) (ci := 2) rfl rfl) rfl rfl hl.1 rfl (lv_room (Nat.le_of_ble_eq_true rfl)) dX2_arrayItem_8 ⟨Nat.le_of_ble_eq_true rfl, Nat.le_of_ble_eq_true rfl⟩) (fun u9 H locs hw9 hP' hD' hS => ?_)
  clear hPc hDc hFc
  have hP : va_P (dC, dI) vwCl (b_g cB cC cI cJ cZ oA rA u_3.2 ++ b_w cB cC cI cJ cZ oA rA u_3.2 ++ b_c cB cC cI cJ cZ oA rA u_3.2) H := hP'
  clear hP' hD'
  refine lv_aload_n hx hb dX2_arrayItem_11 rfl (lv_at hl 0 rfl) ?_
  refine lv_iconst (v := 3) hx hb dX2_arrayItem_12 (by decide +kernel) ?_
  obtain ⟨u_5, hu_5, hF_6⟩ := Option.bind_eq_some_iff.mp hF_4
  clear hF_4
  have hPc := bx_P (bs := [b_g cB cC cI cJ cZ oA rA u_3.2, b_w cB cC cI cJ cZ oA rA u_3.2, b_c cB cC cI cJ cZ oA rA u_3.2]) (bs' := [b_g cB cC cI cJ cZ oA rA u_3.2, b_w cB cC cI cJ cZ oA rA u_3.2, b_c cB cC cI cJ cZ oA rA u_3.2]) (ws' := (b_g cB cC cI cJ cZ oA rA u_3.2 ++ b_w cB cC cI cJ cZ oA rA u_3.2 ++ b_c cB cC cI cJ cZ oA rA u_3.2)) hP fl_3 fl_3 [0, 1, 2] rfl
  have hDc := bx_D (bs := [b_g cB cC cI cJ cZ oA rA u_3.2, b_w cB cC cI cJ cZ oA rA u_3.2, b_c cB cC cI cJ cZ oA rA u_3.2]) (bs' := [b_g cB cC cI cJ cZ oA rA u_3.2, b_w cB cC cI cJ cZ oA rA u_3.2, b_c cB cC cI cJ cZ oA rA u_3.2]) (ws' := (b_g cB cC cI cJ cZ oA rA u_3.2 ++ b_w cB cC cI cJ cZ oA rA u_3.2 ++ b_c cB cC cI cJ cZ oA rA u_3.2)) (hDD u_3.2) fl_3 fl_3 [0, 1, 2] (by decide +kernel) rfl
  have hFc := bx_F (bs := [b_g cB cC cI cJ cZ oA rA u_3.2, b_w cB cC cI cJ cZ oA rA u_3.2, b_c cB cC cI cJ cZ oA rA u_3.2]) (bs' := [b_g cB cC cI cJ cZ oA rA u_3.2, b_w cB cC cI cJ cZ oA rA u_3.2, b_c cB cC cI cJ cZ oA rA u_3.2]) (wc := (b_g cB cC cI cJ cZ oA rA u_3.2 ++ b_w cB cC cI cJ cZ oA rA u_3.2 ++ b_c cB cC cI cJ cZ oA rA u_3.2)) (hDD u_3.2) hS hA fl_3 fl_3 [0, 1, 2] rfl
  refine g_ofv (wc := (b_g cB cC cI cJ cZ oA rA u_3.2 ++ b_w cB cC cI cJ cZ oA rA u_3.2 ++ b_c cB cC cI cJ cZ oA rA u_3.2)) (wr := ([] : va_W)) hP (hDD u_3.2) hS hFc (bx_ix [b_g cB cC cI cJ cZ oA rA u_3.2, b_w cB cC cI cJ cZ oA rA u_3.2, b_c cB cC cI cJ cZ oA rA u_3.2] [0, 1, 2]) (bx_ix [b_g cB cC cI cJ cZ oA rA u_3.2, b_w cB cC cI cJ cZ oA rA u_3.2, b_c cB cC cI cJ cZ oA rA u_3.2] []) (bx_C (bs := [b_g cB cC cI cJ cZ oA rA u_3.2, b_w cB cC cI cJ cZ oA rA u_3.2, b_c cB cC cI cJ cZ oA rA u_3.2]) (bs' := [b_g cB cC cI cJ cZ oA rA u_3.2, b_w cB cC cI cJ cZ oA rA u_3.2, b_c cB cC cI cJ cZ oA rA u_3.2]) (is := [0, 1, 2]) fl_3 fl_3 rfl) (bx_C (bs := [b_g cB cC cI cJ cZ oA rA u_3.2, b_w cB cC cI cJ cZ oA rA u_3.2, b_c cB cC cI cJ cZ oA rA u_3.2]) (bs' := []) (is := []) fl_3 fl_0 rfl) (bx_n (by decide +kernel)) (bx_d (by decide +kernel)) (va_runV (As := [.int 3]) (rest := []) ⟨hx, hb, hml, hown, hts⟩ (k_X2_need l dC dI cB cC cI cJ cZ cP oA rA H.size  3 u_3.2 _ hu_5) (cwV 1 hts (g_gV wq_564 wq_565 wq_2000 wq_3 wq_566) rfl rfl rfl (by decide +kernel) ⟨Nat.le_of_ble_eq_true rfl, Nat.le_of_ble_eq_true rfl⟩) (g_preV g_bl0 hK hPc hDc hS hE hFc g_to0 (q0 := 0) (ci := 2) rfl rfl) rfl rfl hl.1 rfl (lv_room (Nat.le_of_ble_eq_true rfl)) dX2_arrayItem_13 ⟨Nat.le_of_ble_eq_true rfl, Nat.le_of_ble_eq_true rfl⟩) (fun u9 H locs hw9 hP' hD' hS => ?_)
  clear hPc hDc hFc
  have hP : va_P (dC, dI) vwCl (b_g cB cC cI cJ cZ oA rA u_5.2 ++ b_w cB cC cI cJ cZ oA rA u_5.2 ++ b_c cB cC cI cJ cZ oA rA u_5.2) H := hP'
  clear hP' hD'
  refine lv_aload_n hx hb dX2_arrayItem_16 rfl (lv_at hl 0 rfl) ?_
  refine lv_bipush (v := 93) hx hb dX2_arrayItem_17 (by decide +kernel) ?_
  obtain ⟨u_7, hu_7, hF_8⟩ := Option.bind_eq_some_iff.mp hF_6
  clear hF_6
  have hPc := bx_P (bs := [b_g cB cC cI cJ cZ oA rA u_5.2, b_w cB cC cI cJ cZ oA rA u_5.2, b_c cB cC cI cJ cZ oA rA u_5.2]) (bs' := [b_g cB cC cI cJ cZ oA rA u_5.2, b_w cB cC cI cJ cZ oA rA u_5.2, b_c cB cC cI cJ cZ oA rA u_5.2]) (ws' := (b_g cB cC cI cJ cZ oA rA u_5.2 ++ b_w cB cC cI cJ cZ oA rA u_5.2 ++ b_c cB cC cI cJ cZ oA rA u_5.2)) hP fl_3 fl_3 [0, 1, 2] rfl
  have hDc := bx_D (bs := [b_g cB cC cI cJ cZ oA rA u_5.2, b_w cB cC cI cJ cZ oA rA u_5.2, b_c cB cC cI cJ cZ oA rA u_5.2]) (bs' := [b_g cB cC cI cJ cZ oA rA u_5.2, b_w cB cC cI cJ cZ oA rA u_5.2, b_c cB cC cI cJ cZ oA rA u_5.2]) (ws' := (b_g cB cC cI cJ cZ oA rA u_5.2 ++ b_w cB cC cI cJ cZ oA rA u_5.2 ++ b_c cB cC cI cJ cZ oA rA u_5.2)) (hDD u_5.2) fl_3 fl_3 [0, 1, 2] (by decide +kernel) rfl
  have hFc := bx_F (bs := [b_g cB cC cI cJ cZ oA rA u_5.2, b_w cB cC cI cJ cZ oA rA u_5.2, b_c cB cC cI cJ cZ oA rA u_5.2]) (bs' := [b_g cB cC cI cJ cZ oA rA u_5.2, b_w cB cC cI cJ cZ oA rA u_5.2, b_c cB cC cI cJ cZ oA rA u_5.2]) (wc := (b_g cB cC cI cJ cZ oA rA u_5.2 ++ b_w cB cC cI cJ cZ oA rA u_5.2 ++ b_c cB cC cI cJ cZ oA rA u_5.2)) (hDD u_5.2) hS hA fl_3 fl_3 [0, 1, 2] rfl
  refine g_ofv (wc := (b_g cB cC cI cJ cZ oA rA u_5.2 ++ b_w cB cC cI cJ cZ oA rA u_5.2 ++ b_c cB cC cI cJ cZ oA rA u_5.2)) (wr := ([] : va_W)) hP (hDD u_5.2) hS hFc (bx_ix [b_g cB cC cI cJ cZ oA rA u_5.2, b_w cB cC cI cJ cZ oA rA u_5.2, b_c cB cC cI cJ cZ oA rA u_5.2] [0, 1, 2]) (bx_ix [b_g cB cC cI cJ cZ oA rA u_5.2, b_w cB cC cI cJ cZ oA rA u_5.2, b_c cB cC cI cJ cZ oA rA u_5.2] []) (bx_C (bs := [b_g cB cC cI cJ cZ oA rA u_5.2, b_w cB cC cI cJ cZ oA rA u_5.2, b_c cB cC cI cJ cZ oA rA u_5.2]) (bs' := [b_g cB cC cI cJ cZ oA rA u_5.2, b_w cB cC cI cJ cZ oA rA u_5.2, b_c cB cC cI cJ cZ oA rA u_5.2]) (is := [0, 1, 2]) fl_3 fl_3 rfl) (bx_C (bs := [b_g cB cC cI cJ cZ oA rA u_5.2, b_w cB cC cI cJ cZ oA rA u_5.2, b_c cB cC cI cJ cZ oA rA u_5.2]) (bs' := []) (is := []) fl_3 fl_0 rfl) (bx_n (by decide +kernel)) (bx_d (by decide +kernel)) (va_runV (As := [.int 93]) (rest := []) ⟨hx, hb, hml, hown, hts⟩ (k_X2_shut l dC dI cB cC cI cJ cZ cP oA rA H.size  93 u_5.2 _ hu_7) (cwV 1 hts (g_gV wq_576 wq_577 wq_2004 wq_3 wq_578) rfl rfl rfl (by decide +kernel) ⟨Nat.le_of_ble_eq_true rfl, Nat.le_of_ble_eq_true rfl⟩) (g_preV g_bl0 hK hPc hDc hS hE hFc g_to0 (q0 := 0) (ci := 2) rfl rfl) rfl rfl hl.1 rfl (lv_room (Nat.le_of_ble_eq_true rfl)) dX2_arrayItem_19 ⟨Nat.le_of_ble_eq_true rfl, Nat.le_of_ble_eq_true rfl⟩) (fun u9 H locs hw9 hP' hD' hS => ?_)
  clear hPc hDc hFc
  have hP : va_P (dC, dI) vwCl (b_g cB cC cI cJ cZ oA rA u_7.2 ++ b_w cB cC cI cJ cZ oA rA u_7.2 ++ b_c cB cC cI cJ cZ oA rA u_7.2) H := hP'
  clear hP' hD'
  refine lv_aload_n hx hb dX2_arrayItem_22 rfl (lv_at hl 0 rfl) ?_
  refine lv_bipush (v := 59) hx hb dX2_arrayItem_23 (by decide +kernel) ?_
  obtain ⟨u_9, hu_9, hF_10⟩ := Option.bind_eq_some_iff.mp hF_8
  clear hF_8
  have hPc := bx_P (bs := [b_g cB cC cI cJ cZ oA rA u_7.2, b_w cB cC cI cJ cZ oA rA u_7.2, b_c cB cC cI cJ cZ oA rA u_7.2]) (bs' := [b_g cB cC cI cJ cZ oA rA u_7.2, b_w cB cC cI cJ cZ oA rA u_7.2, b_c cB cC cI cJ cZ oA rA u_7.2]) (ws' := (b_g cB cC cI cJ cZ oA rA u_7.2 ++ b_w cB cC cI cJ cZ oA rA u_7.2 ++ b_c cB cC cI cJ cZ oA rA u_7.2)) hP fl_3 fl_3 [0, 1, 2] rfl
  have hDc := bx_D (bs := [b_g cB cC cI cJ cZ oA rA u_7.2, b_w cB cC cI cJ cZ oA rA u_7.2, b_c cB cC cI cJ cZ oA rA u_7.2]) (bs' := [b_g cB cC cI cJ cZ oA rA u_7.2, b_w cB cC cI cJ cZ oA rA u_7.2, b_c cB cC cI cJ cZ oA rA u_7.2]) (ws' := (b_g cB cC cI cJ cZ oA rA u_7.2 ++ b_w cB cC cI cJ cZ oA rA u_7.2 ++ b_c cB cC cI cJ cZ oA rA u_7.2)) (hDD u_7.2) fl_3 fl_3 [0, 1, 2] (by decide +kernel) rfl
  have hFc := bx_F (bs := [b_g cB cC cI cJ cZ oA rA u_7.2, b_w cB cC cI cJ cZ oA rA u_7.2, b_c cB cC cI cJ cZ oA rA u_7.2]) (bs' := [b_g cB cC cI cJ cZ oA rA u_7.2, b_w cB cC cI cJ cZ oA rA u_7.2, b_c cB cC cI cJ cZ oA rA u_7.2]) (wc := (b_g cB cC cI cJ cZ oA rA u_7.2 ++ b_w cB cC cI cJ cZ oA rA u_7.2 ++ b_c cB cC cI cJ cZ oA rA u_7.2)) (hDD u_7.2) hS hA fl_3 fl_3 [0, 1, 2] rfl
  refine g_ofv (wc := (b_g cB cC cI cJ cZ oA rA u_7.2 ++ b_w cB cC cI cJ cZ oA rA u_7.2 ++ b_c cB cC cI cJ cZ oA rA u_7.2)) (wr := ([] : va_W)) hP (hDD u_7.2) hS hFc (bx_ix [b_g cB cC cI cJ cZ oA rA u_7.2, b_w cB cC cI cJ cZ oA rA u_7.2, b_c cB cC cI cJ cZ oA rA u_7.2] [0, 1, 2]) (bx_ix [b_g cB cC cI cJ cZ oA rA u_7.2, b_w cB cC cI cJ cZ oA rA u_7.2, b_c cB cC cI cJ cZ oA rA u_7.2] []) (bx_C (bs := [b_g cB cC cI cJ cZ oA rA u_7.2, b_w cB cC cI cJ cZ oA rA u_7.2, b_c cB cC cI cJ cZ oA rA u_7.2]) (bs' := [b_g cB cC cI cJ cZ oA rA u_7.2, b_w cB cC cI cJ cZ oA rA u_7.2, b_c cB cC cI cJ cZ oA rA u_7.2]) (is := [0, 1, 2]) fl_3 fl_3 rfl) (bx_C (bs := [b_g cB cC cI cJ cZ oA rA u_7.2, b_w cB cC cI cJ cZ oA rA u_7.2, b_c cB cC cI cJ cZ oA rA u_7.2]) (bs' := []) (is := []) fl_3 fl_0 rfl) (bx_n (by decide +kernel)) (bx_d (by decide +kernel)) (va_runV (As := [.int 59]) (rest := []) ⟨hx, hb, hml, hown, hts⟩ (k_X2_need l dC dI cB cC cI cJ cZ cP oA rA H.size  59 u_7.2 _ hu_9) (cwV 1 hts (g_gV wq_564 wq_565 wq_2000 wq_3 wq_566) rfl rfl rfl (by decide +kernel) ⟨Nat.le_of_ble_eq_true rfl, Nat.le_of_ble_eq_true rfl⟩) (g_preV g_bl0 hK hPc hDc hS hE hFc g_to0 (q0 := 0) (ci := 2) rfl rfl) rfl rfl hl.1 rfl (lv_room (Nat.le_of_ble_eq_true rfl)) dX2_arrayItem_25 ⟨Nat.le_of_ble_eq_true rfl, Nat.le_of_ble_eq_true rfl⟩) (fun u9 H locs hw9 hP' hD' hS => ?_)
  clear hPc hDc hFc
  have hP : va_P (dC, dI) vwCl (b_g cB cC cI cJ cZ oA rA u_9.2 ++ b_w cB cC cI cJ cZ oA rA u_9.2 ++ b_c cB cC cI cJ cZ oA rA u_9.2) H := hP'
  clear hP' hD'
  have h9 := Option.some.inj hF_10
  subst h9
  exact W.vret hx hb hr (fun t ht hW => ⟨⟨(), rfl, trivial, m_end ht hP, hDD _⟩, hS.F ht⟩) hS.2.2 dX2_arrayItem_28
theorem dX2_accept_0 : decode cX2_accept 0 = .ok (.aload_n 0, 1) := by decide +kernel
theorem dX2_accept_1 : decode cX2_accept 1 = .ok (.getfield 29, 3) := by decide +kernel
theorem dX2_accept_4 : decode cX2_accept 4 = .ok (.iload_n 1, 1) := by decide +kernel
theorem dX2_accept_5 : decode cX2_accept 5 = .ok (.if_icmp .eq 5, 3) := by decide +kernel
theorem dX2_accept_8 : decode cX2_accept 8 = .ok (.iconst 0, 1) := by decide +kernel
theorem dX2_accept_9 : decode cX2_accept 9 = .ok (.ireturn, 1) := by decide +kernel
theorem dX2_accept_10 : decode cX2_accept 10 = .ok (.aload_n 0, 1) := by decide +kernel
theorem dX2_accept_11 : decode cX2_accept 11 = .ok (.invokevirtual 107, 3) := by decide +kernel
theorem dX2_accept_14 : decode cX2_accept 14 = .ok (.iconst 1, 1) := by decide +kernel
theorem dX2_accept_15 : decode cX2_accept 15 = .ok (.ireturn, 1) := by decide +kernel
def F_X2_accept (p0 : Int32) (Γ : HS) : HR :=
  if ((Γ 2).1 3) = p0 then (
    (F_X2_pass Γ).bind fun u_3 =>
    some (1, u_3.2)
  ) else (
    some (0, Γ)
  )
set_option maxHeartbeats 4000000 in
set_option maxRecDepth 100000 in
theorem k_X2_accept (l : Launch) (dC : Nat → ClassId) (dI : Nat → Nat → Nat) (cB cC cI cJ cZ cP : ClassId) (oA : Nat → Nat) (rA : Nat → Nat → Nat) (sz : Nat)  (p0 : Int32) (Γ : HS) (res : Int32 × HS) (hF : F_X2_accept p0 Γ = some res) : Met l yX2_accept (g_ws yX2_accept cX2_accept 2 (some .boolean)) ({ frames := 2, cells := 0, slots := 0, locals := 60 }) (va_Pc [.ref (oA 2), .int p0] (g_B (dC, dI) [(cB, .byte), (cC, .char), (cI, .int), (cJ, .long), (cZ, .boolean), (cP, .object "StoryHouse$Play")] sz (b_g cB cC cI cJ cZ oA rA Γ ++ b_w cB cC cI cJ cZ oA rA Γ ++ b_c cB cC cI cJ cZ oA rA Γ) g_0)) (va_Qi (fun r (_ : Unit) => r = res.1) (g_Bo (dC, dI) (va_A (b_g cB cC cI cJ cZ oA rA Γ ++ b_w cB cC cI cJ cZ oA rA Γ ++ b_c cB cC cI cJ cZ oA rA Γ) sz) (fun (_ : Unit) => (b_g cB cC cI cJ cZ oA rA res.2 ++ b_w cB cC cI cJ cZ oA rA res.2 ++ b_c cB cC cI cJ cZ oA rA res.2))) (va_A (b_g cB cC cI cJ cZ oA rA Γ ++ b_w cB cC cI cJ cZ oA rA Γ ++ b_c cB cC cI cJ cZ oA rA Γ) sz)) 0 0 (va_A (b_g cB cC cI cJ cZ oA rA Γ ++ b_w cB cC cI cJ cZ oA rA Γ ++ b_c cB cC cI cJ cZ oA rA Γ) sz) := by
  refine Met.ofW (cc := cX2_accept) (maxL := 2) (ret := (some .boolean)) (by decide) rfl ?_
  intro p e s m args below meth c s₁ B hml hv
  obtain ⟨rfl, hsz, hP, hK, hD0, hE, hX⟩ := hv
  have hx := B.exec
  have hb := B.bytes
  have hr := B.returns
  have hts0 := atoms_spec (ws := g_ws yX2_accept cX2_accept 2 (some .boolean)) B.pre
  have hts : ∀ w ∈ lw_good, w.before ([.ref (oA 2), .int p0] : List Value).toArray s = true := fun w z => hts0 w (List.mem_cons_of_mem _ z)
  have hown : s.vm.findClass RX2 = some m.cls := findClass_of_methodNamed B.named
  have hlocks := B.notSynchronized
  subst hsz
  have hD1 := hD0.self (sz := s.heap.size)
  generalize hAe : va_A (b_g cB cC cI cJ cZ oA rA Γ ++ b_w cB cC cI cJ cZ oA rA Γ ++ b_c cB cC cI cJ cZ oA rA Γ) s.heap.size = A at hD1 hE hX ⊢
  have hA : ∀ q : Nat, s.heap.size ≤ q → A q := fun q z => by rw [← hAe]; exact Or.inr z
  have hDD : ∀ Γ : HS, va_D A (b_g cB cC cI cJ cZ oA rA Γ ++ b_w cB cC cI cJ cZ oA rA Γ ++ b_c cB cC cI cJ cZ oA rA Γ) := fun Γ9 => va_D_fst (ws := (b_g cB cC cI cJ cZ oA rA Γ ++ b_w cB cC cI cJ cZ oA rA Γ ++ b_c cB cC cI cJ cZ oA rA Γ)) (ws' := (b_g cB cC cI cJ cZ oA rA Γ9 ++ b_w cB cC cI cJ cZ oA rA Γ9 ++ b_c cB cC cI cJ cZ oA rA Γ9)) rfl hD1
  have hN := hE.1
  have hS : va_S A s.heap s.heap [] := va_S.rf
  have hl := lv_entry ([.ref (oA 2), .int p0]) (n := 2) (Nat.le_of_ble_eq_true rfl)
  rw [lg_entry_eq]
  generalize (lg_sl ([.ref (oA 2), .int p0]) ++ List.replicate (2 - (lg_sl ([.ref (oA 2), .int p0])).length) Slot.unset).toArray = ls at hl ⊢
  have hl : lv_has ls 2 [(0, .ref (oA 2)), (1, .int p0)] := hl
  unfold F_X2_accept at hF
  refine lv_aload_n hx hb dX2_accept_0 rfl (lv_at hl 0 rfl) ?_
  refine va_get (D := (dC, dI)) (ci := 2) (v := .int ((Γ 2).1 3)) (C := RX2) (T := TX2) (N := 8) hx hb hts ii_X2 hown hK hP 0 rfl rfl 3 (by decide) (hts (.fieldLink RX2 29 "StoryHouse$Grammar" "kind" "I") wq_74) (fun _ h9 => h9) rfl dX2_accept_1 ?_
  refine lv_iload_n hx hb dX2_accept_4 rfl (lv_at hl 1 rfl) ?_
  refine lv_icmp_eq (tgt := 10) hx hb dX2_accept_5 (by decide) (fun c_1 => ?_) (fun c_1 => ?_)
  · have hF_2 := ipos c_1 hF
    clear hF
    refine lv_aload_n hx hb dX2_accept_10 rfl (lv_at hl 0 rfl) ?_
    obtain ⟨u_3, hu_3, hF_4⟩ := Option.bind_eq_some_iff.mp hF_2
    clear hF_2
    have hPc := bx_P (bs := [b_g cB cC cI cJ cZ oA rA Γ, b_w cB cC cI cJ cZ oA rA Γ, b_c cB cC cI cJ cZ oA rA Γ]) (bs' := [b_g cB cC cI cJ cZ oA rA Γ, b_w cB cC cI cJ cZ oA rA Γ, b_c cB cC cI cJ cZ oA rA Γ]) (ws' := (b_g cB cC cI cJ cZ oA rA Γ ++ b_w cB cC cI cJ cZ oA rA Γ ++ b_c cB cC cI cJ cZ oA rA Γ)) hP fl_3 fl_3 [0, 1, 2] rfl
    have hDc := bx_D (bs := [b_g cB cC cI cJ cZ oA rA Γ, b_w cB cC cI cJ cZ oA rA Γ, b_c cB cC cI cJ cZ oA rA Γ]) (bs' := [b_g cB cC cI cJ cZ oA rA Γ, b_w cB cC cI cJ cZ oA rA Γ, b_c cB cC cI cJ cZ oA rA Γ]) (ws' := (b_g cB cC cI cJ cZ oA rA Γ ++ b_w cB cC cI cJ cZ oA rA Γ ++ b_c cB cC cI cJ cZ oA rA Γ)) (hDD Γ) fl_3 fl_3 [0, 1, 2] (by decide +kernel) rfl
    have hFc := bx_F (bs := [b_g cB cC cI cJ cZ oA rA Γ, b_w cB cC cI cJ cZ oA rA Γ, b_c cB cC cI cJ cZ oA rA Γ]) (bs' := [b_g cB cC cI cJ cZ oA rA Γ, b_w cB cC cI cJ cZ oA rA Γ, b_c cB cC cI cJ cZ oA rA Γ]) (wc := (b_g cB cC cI cJ cZ oA rA Γ ++ b_w cB cC cI cJ cZ oA rA Γ ++ b_c cB cC cI cJ cZ oA rA Γ)) (hDD Γ) hS hA fl_3 fl_3 [0, 1, 2] rfl
    refine g_ofv (wc := (b_g cB cC cI cJ cZ oA rA Γ ++ b_w cB cC cI cJ cZ oA rA Γ ++ b_c cB cC cI cJ cZ oA rA Γ)) (wr := ([] : va_W)) hP (hDD Γ) hS hFc (bx_ix [b_g cB cC cI cJ cZ oA rA Γ, b_w cB cC cI cJ cZ oA rA Γ, b_c cB cC cI cJ cZ oA rA Γ] [0, 1, 2]) (bx_ix [b_g cB cC cI cJ cZ oA rA Γ, b_w cB cC cI cJ cZ oA rA Γ, b_c cB cC cI cJ cZ oA rA Γ] []) (bx_C (bs := [b_g cB cC cI cJ cZ oA rA Γ, b_w cB cC cI cJ cZ oA rA Γ, b_c cB cC cI cJ cZ oA rA Γ]) (bs' := [b_g cB cC cI cJ cZ oA rA Γ, b_w cB cC cI cJ cZ oA rA Γ, b_c cB cC cI cJ cZ oA rA Γ]) (is := [0, 1, 2]) fl_3 fl_3 rfl) (bx_C (bs := [b_g cB cC cI cJ cZ oA rA Γ, b_w cB cC cI cJ cZ oA rA Γ, b_c cB cC cI cJ cZ oA rA Γ]) (bs' := []) (is := []) fl_3 fl_0 rfl) (bx_n (by decide +kernel)) (bx_d (by decide +kernel)) (va_runV (As := []) (rest := []) ⟨hx, hb, hml, hown, hts⟩ (k_X2_pass l dC dI cB cC cI cJ cZ cP oA rA s.heap.size  Γ _ hu_3) (cwV 0 hts (g_gV wq_555 wq_556 wq_1997 wq_3 wq_557) rfl rfl rfl (by decide +kernel) ⟨Nat.le_of_ble_eq_true rfl, Nat.le_of_ble_eq_true rfl⟩) (g_preV g_bl0 hK hPc hDc hS hE hFc g_to0 (q0 := 0) (ci := 2) rfl rfl) rfl rfl hl.1 rfl (lv_room (Nat.le_of_ble_eq_true rfl)) dX2_accept_11 ⟨Nat.le_of_ble_eq_true rfl, Nat.le_of_ble_eq_true rfl⟩) (fun u9 H locs hw9 hP' hD' hS => ?_)
    clear hPc hDc hFc
    have hP : va_P (dC, dI) vwCl (b_g cB cC cI cJ cZ oA rA u_3.2 ++ b_w cB cC cI cJ cZ oA rA u_3.2 ++ b_c cB cC cI cJ cZ oA rA u_3.2) H := hP'
    clear hP' hD'
    refine lv_iconst (v := 1) hx hb dX2_accept_14 (by decide +kernel) ?_
    have h9 := Option.some.inj hF_4
    subst h9
    exact W.zret (v := 1) hx hb hr (by decide +kernel) (fun t ht hW => ⟨⟨1, (), rfl, rfl, m_end ht hP, hDD _⟩, hS.F ht⟩) hS.2.2 dX2_accept_15
  · have hF_5 := ineg c_1 hF
    clear hF
    refine lv_iconst (v := 0) hx hb dX2_accept_8 (by decide +kernel) ?_
    have h9 := Option.some.inj hF_5
    subst h9
    exact W.zret (v := 0) hx hb hr (by decide +kernel) (fun t ht hW => ⟨⟨0, (), rfl, rfl, m_end ht hP, hDD _⟩, hS.F ht⟩) hS.2.2 dX2_accept_9
theorem dX2_isFrom_0 : decode cX2_isFrom 0 = .ok (.aload_n 0, 1) := by decide +kernel
theorem dX2_isFrom_1 : decode cX2_isFrom 1 = .ok (.getfield 29, 3) := by decide +kernel
theorem dX2_isFrom_4 : decode cX2_isFrom 4 = .ok (.iload_n 1, 1) := by decide +kernel
theorem dX2_isFrom_5 : decode cX2_isFrom 5 = .ok (.if_icmp .lt 15, 3) := by decide +kernel
theorem dX2_isFrom_8 : decode cX2_isFrom 8 = .ok (.aload_n 0, 1) := by decide +kernel
theorem dX2_isFrom_9 : decode cX2_isFrom 9 = .ok (.getfield 29, 3) := by decide +kernel
theorem dX2_isFrom_12 : decode cX2_isFrom 12 = .ok (.iload_n 2, 1) := by decide +kernel
theorem dX2_isFrom_13 : decode cX2_isFrom 13 = .ok (.if_icmp .gt 7, 3) := by decide +kernel
theorem dX2_isFrom_16 : decode cX2_isFrom 16 = .ok (.iconst 1, 1) := by decide +kernel
theorem dX2_isFrom_17 : decode cX2_isFrom 17 = .ok (.goto 4, 3) := by decide +kernel
theorem dX2_isFrom_20 : decode cX2_isFrom 20 = .ok (.iconst 0, 1) := by decide +kernel
theorem dX2_isFrom_21 : decode cX2_isFrom 21 = .ok (.ireturn, 1) := by decide +kernel
def F_X2_isFrom (p0 : Int32) (p1 : Int32) (Γ : HS) : HR :=
  if ((Γ 2).1 3) < p0 then (
    some (0, Γ)
  ) else (
    if p1 < ((Γ 2).1 3) then (
      some (0, Γ)
    ) else (
      some (1, Γ)
    )
  )
set_option maxHeartbeats 4000000 in
set_option maxRecDepth 100000 in
theorem k_X2_isFrom (l : Launch) (dC : Nat → ClassId) (dI : Nat → Nat → Nat) (cB cC cI cJ cZ cP : ClassId) (oA : Nat → Nat) (rA : Nat → Nat → Nat) (sz : Nat)  (p0 : Int32) (p1 : Int32) (Γ : HS) (res : Int32 × HS) (hF : F_X2_isFrom p0 p1 Γ = some res) : Met l yX2_isFrom (g_ws yX2_isFrom cX2_isFrom 3 (some .boolean)) ({ frames := 1, cells := 0, slots := 0, locals := 40 }) (va_Pc [.ref (oA 2), .int p0, .int p1] (g_B (dC, dI) [(cB, .byte), (cC, .char), (cI, .int), (cJ, .long), (cZ, .boolean), (cP, .object "StoryHouse$Play")] sz (b_g cB cC cI cJ cZ oA rA Γ ++ b_w cB cC cI cJ cZ oA rA Γ ++ b_c cB cC cI cJ cZ oA rA Γ) g_0)) (va_Qi (fun r (_ : Unit) => r = res.1) (g_Bo (dC, dI) (va_A (b_g cB cC cI cJ cZ oA rA Γ ++ b_w cB cC cI cJ cZ oA rA Γ ++ b_c cB cC cI cJ cZ oA rA Γ) sz) (fun (_ : Unit) => (b_g cB cC cI cJ cZ oA rA res.2 ++ b_w cB cC cI cJ cZ oA rA res.2 ++ b_c cB cC cI cJ cZ oA rA res.2))) (va_A (b_g cB cC cI cJ cZ oA rA Γ ++ b_w cB cC cI cJ cZ oA rA Γ ++ b_c cB cC cI cJ cZ oA rA Γ) sz)) 0 0 (va_A (b_g cB cC cI cJ cZ oA rA Γ ++ b_w cB cC cI cJ cZ oA rA Γ ++ b_c cB cC cI cJ cZ oA rA Γ) sz) := by
  refine Met.ofW (cc := cX2_isFrom) (maxL := 3) (ret := (some .boolean)) (by decide) rfl ?_
  intro p e s m args below meth c s₁ B hml hv
  obtain ⟨rfl, hsz, hP, hK, hD0, hE, hX⟩ := hv
  have hx := B.exec
  have hb := B.bytes
  have hr := B.returns
  have hts0 := atoms_spec (ws := g_ws yX2_isFrom cX2_isFrom 3 (some .boolean)) B.pre
  have hts : ∀ w ∈ lw_good, w.before ([.ref (oA 2), .int p0, .int p1] : List Value).toArray s = true := fun w z => hts0 w (List.mem_cons_of_mem _ z)
  have hown : s.vm.findClass RX2 = some m.cls := findClass_of_methodNamed B.named
  have hlocks := B.notSynchronized
  subst hsz
  have hD1 := hD0.self (sz := s.heap.size)
  generalize hAe : va_A (b_g cB cC cI cJ cZ oA rA Γ ++ b_w cB cC cI cJ cZ oA rA Γ ++ b_c cB cC cI cJ cZ oA rA Γ) s.heap.size = A at hD1 hE hX ⊢
  have hA : ∀ q : Nat, s.heap.size ≤ q → A q := fun q z => by rw [← hAe]; exact Or.inr z
  have hDD : ∀ Γ : HS, va_D A (b_g cB cC cI cJ cZ oA rA Γ ++ b_w cB cC cI cJ cZ oA rA Γ ++ b_c cB cC cI cJ cZ oA rA Γ) := fun Γ9 => va_D_fst (ws := (b_g cB cC cI cJ cZ oA rA Γ ++ b_w cB cC cI cJ cZ oA rA Γ ++ b_c cB cC cI cJ cZ oA rA Γ)) (ws' := (b_g cB cC cI cJ cZ oA rA Γ9 ++ b_w cB cC cI cJ cZ oA rA Γ9 ++ b_c cB cC cI cJ cZ oA rA Γ9)) rfl hD1
  have hN := hE.1
  have hS : va_S A s.heap s.heap [] := va_S.rf
  have hl := lv_entry ([.ref (oA 2), .int p0, .int p1]) (n := 3) (Nat.le_of_ble_eq_true rfl)
  rw [lg_entry_eq]
  generalize (lg_sl ([.ref (oA 2), .int p0, .int p1]) ++ List.replicate (3 - (lg_sl ([.ref (oA 2), .int p0, .int p1])).length) Slot.unset).toArray = ls at hl ⊢
  have hl : lv_has ls 3 [(0, .ref (oA 2)), (1, .int p0), (2, .int p1)] := hl
  unfold F_X2_isFrom at hF
  refine lv_aload_n hx hb dX2_isFrom_0 rfl (lv_at hl 0 rfl) ?_
  refine va_get (D := (dC, dI)) (ci := 2) (v := .int ((Γ 2).1 3)) (C := RX2) (T := TX2) (N := 8) hx hb hts ii_X2 hown hK hP 0 rfl rfl 3 (by decide) (hts (.fieldLink RX2 29 "StoryHouse$Grammar" "kind" "I") wq_74) (fun _ h9 => h9) rfl dX2_isFrom_1 ?_
  refine lv_iload_n hx hb dX2_isFrom_4 rfl (lv_at hl 1 rfl) ?_
  refine lv_icmp_lt (tgt := 20) hx hb dX2_isFrom_5 (by decide) (fun c_1 => ?_) (fun c_1 => ?_)
  · have hF_2 := ipos c_1 hF
    clear hF
    refine lv_iconst (v := 0) hx hb dX2_isFrom_20 (by decide +kernel) ?_
    have h9 := Option.some.inj hF_2
    subst h9
    exact W.zret (v := 0) hx hb hr (by decide +kernel) (fun t ht hW => ⟨⟨0, (), rfl, rfl, m_end ht hP, hDD _⟩, hS.F ht⟩) hS.2.2 dX2_isFrom_21
  · have hF_3 := ineg c_1 hF
    clear hF
    refine lv_aload_n hx hb dX2_isFrom_8 rfl (lv_at hl 0 rfl) ?_
    refine va_get (D := (dC, dI)) (ci := 2) (v := .int ((Γ 2).1 3)) (C := RX2) (T := TX2) (N := 8) hx hb hts ii_X2 hown hK hP 0 rfl rfl 3 (by decide) (hts (.fieldLink RX2 29 "StoryHouse$Grammar" "kind" "I") wq_74) (fun _ h9 => h9) rfl dX2_isFrom_9 ?_
    refine lv_iload_n hx hb dX2_isFrom_12 rfl (lv_at hl 2 rfl) ?_
    refine lv_icmp_gt (tgt := 20) hx hb dX2_isFrom_13 (by decide) (fun c_4 => ?_) (fun c_4 => ?_)
    · have hF_5 := ipos c_4 hF_3
      clear hF_3
      refine lv_iconst (v := 0) hx hb dX2_isFrom_20 (by decide +kernel) ?_
      have h9 := Option.some.inj hF_5
      subst h9
      exact W.zret (v := 0) hx hb hr (by decide +kernel) (fun t ht hW => ⟨⟨0, (), rfl, rfl, m_end ht hP, hDD _⟩, hS.F ht⟩) hS.2.2 dX2_isFrom_21
    · have hF_6 := ineg c_4 hF_3
      clear hF_3
      refine lv_iconst (v := 1) hx hb dX2_isFrom_16 (by decide +kernel) ?_
      refine lv_goto (tgt := 21) hx hb dX2_isFrom_17 (by decide) ?_
      have h9 := Option.some.inj hF_6
      subst h9
      exact W.zret (v := 1) hx hb hr (by decide +kernel) (fun t ht hW => ⟨⟨1, (), rfl, rfl, m_end ht hP, hDD _⟩, hS.F ht⟩) hS.2.2 dX2_isFrom_21
theorem dX2_attribute_0 : decode cX2_attribute 0 = .ok (.aload_n 0, 1) := by decide +kernel
theorem dX2_attribute_1 : decode cX2_attribute 1 = .ok (.getfield 15, 3) := by decide +kernel
theorem dX2_attribute_4 : decode cX2_attribute 4 = .ok (.iload_n 1, 1) := by decide +kernel
theorem dX2_attribute_5 : decode cX2_attribute 5 = .ok (.aload_n 0, 1) := by decide +kernel
theorem dX2_attribute_6 : decode cX2_attribute 6 = .ok (.getfield 29, 3) := by decide +kernel
theorem dX2_attribute_9 : decode cX2_attribute 9 = .ok (.sipush 206, 3) := by decide +kernel
theorem dX2_attribute_12 : decode cX2_attribute 12 = .ok (.isub, 1) := by decide +kernel
theorem dX2_attribute_13 : decode cX2_attribute 13 = .ok (.invokevirtual 176, 3) := by decide +kernel
theorem dX2_attribute_16 : decode cX2_attribute 16 = .ok (.pop, 1) := by decide +kernel
theorem dX2_attribute_17 : decode cX2_attribute 17 = .ok (.aload_n 0, 1) := by decide +kernel
theorem dX2_attribute_18 : decode cX2_attribute 18 = .ok (.sipush 206, 3) := by decide +kernel
theorem dX2_attribute_21 : decode cX2_attribute 21 = .ok (.sipush 211, 3) := by decide +kernel
theorem dX2_attribute_24 : decode cX2_attribute 24 = .ok (.invokevirtual 113, 3) := by decide +kernel
theorem dX2_attribute_27 : decode cX2_attribute 27 = .ok (.ifCond .eq 10, 3) := by decide +kernel
theorem dX2_attribute_30 : decode cX2_attribute 30 = .ok (.aload_n 0, 1) := by decide +kernel
theorem dX2_attribute_31 : decode cX2_attribute 31 = .ok (.invokevirtual 107, 3) := by decide +kernel
theorem dX2_attribute_34 : decode cX2_attribute 34 = .ok (.goto 8, 3) := by decide +kernel
theorem dX2_attribute_37 : decode cX2_attribute 37 = .ok (.aload_n 0, 1) := by decide +kernel
theorem dX2_attribute_38 : decode cX2_attribute 38 = .ok (.iconst 2, 1) := by decide +kernel
theorem dX2_attribute_39 : decode cX2_attribute 39 = .ok (.invokevirtual 110, 3) := by decide +kernel
theorem dX2_attribute_42 : decode cX2_attribute 42 = .ok (.return_, 1) := by decide +kernel
def F_X2_attribute (p0 : Int32) (Γ : HS) : HR :=
  (F_X0_add_ p0 (((Γ 2).1 3) - 206) Γ).bind fun u_1 =>
  bnd (mrg (fun j => j == 5) Γ u_1.2) fun σ_3 =>
  (F_X2_isFrom 206 211 σ_3).bind fun u_5 =>
  if u_5.1 = 0 then (
    (F_X2_fail 2 u_5.2).bind fun u_9 =>
    some (0, u_9.2)
  ) else (
    (F_X2_pass u_5.2).bind fun u_12 =>
    some (0, u_12.2)
  )
set_option maxHeartbeats 4000000 in
set_option maxRecDepth 100000 in
theorem k_X2_attribute (l : Launch) (dC : Nat → ClassId) (dI : Nat → Nat → Nat) (cB cC cI cJ cZ cP : ClassId) (oA : Nat → Nat) (rA : Nat → Nat → Nat) (sz : Nat)  (p0 : Int32) (Γ : HS) (res : Int32 × HS) (hF : F_X2_attribute p0 Γ = some res) : Met l yX2_attribute (g_ws yX2_attribute cX2_attribute 2 none) ({ frames := 2, cells := 0, slots := 0, locals := 62 }) (va_Pc [.ref (oA 2), .int p0] (g_B (dC, dI) [(cB, .byte), (cC, .char), (cI, .int), (cJ, .long), (cZ, .boolean), (cP, .object "StoryHouse$Play")] sz (b_g cB cC cI cJ cZ oA rA Γ ++ b_w cB cC cI cJ cZ oA rA Γ ++ b_c cB cC cI cJ cZ oA rA Γ) g_0)) (va_Qv (fun (_ : Unit) => True) (g_Bo (dC, dI) (va_A (b_g cB cC cI cJ cZ oA rA Γ ++ b_w cB cC cI cJ cZ oA rA Γ ++ b_c cB cC cI cJ cZ oA rA Γ) sz) (fun (_ : Unit) => (b_g cB cC cI cJ cZ oA rA res.2 ++ b_w cB cC cI cJ cZ oA rA res.2 ++ b_c cB cC cI cJ cZ oA rA res.2))) (va_A (b_g cB cC cI cJ cZ oA rA Γ ++ b_w cB cC cI cJ cZ oA rA Γ ++ b_c cB cC cI cJ cZ oA rA Γ) sz)) 0 0 (va_A (b_g cB cC cI cJ cZ oA rA Γ ++ b_w cB cC cI cJ cZ oA rA Γ ++ b_c cB cC cI cJ cZ oA rA Γ) sz) := by
  refine Met.ofW (cc := cX2_attribute) (maxL := 2) (ret := none) (by decide) rfl ?_
  intro p e s m args below meth c s₁ B hml hv
  obtain ⟨rfl, hsz, hP, hK, hD0, hE, hX⟩ := hv
  have hx := B.exec
  have hb := B.bytes
  have hr := B.returns
  have hts0 := atoms_spec (ws := g_ws yX2_attribute cX2_attribute 2 none) B.pre
  have hts : ∀ w ∈ lw_good, w.before ([.ref (oA 2), .int p0] : List Value).toArray s = true := fun w z => hts0 w (List.mem_cons_of_mem _ z)
  have hown : s.vm.findClass RX2 = some m.cls := findClass_of_methodNamed B.named
  have hlocks := B.notSynchronized
  subst hsz
  have hD1 := hD0.self (sz := s.heap.size)
  generalize hAe : va_A (b_g cB cC cI cJ cZ oA rA Γ ++ b_w cB cC cI cJ cZ oA rA Γ ++ b_c cB cC cI cJ cZ oA rA Γ) s.heap.size = A at hD1 hE hX ⊢
  have hA : ∀ q : Nat, s.heap.size ≤ q → A q := fun q z => by rw [← hAe]; exact Or.inr z
  have hDD : ∀ Γ : HS, va_D A (b_g cB cC cI cJ cZ oA rA Γ ++ b_w cB cC cI cJ cZ oA rA Γ ++ b_c cB cC cI cJ cZ oA rA Γ) := fun Γ9 => va_D_fst (ws := (b_g cB cC cI cJ cZ oA rA Γ ++ b_w cB cC cI cJ cZ oA rA Γ ++ b_c cB cC cI cJ cZ oA rA Γ)) (ws' := (b_g cB cC cI cJ cZ oA rA Γ9 ++ b_w cB cC cI cJ cZ oA rA Γ9 ++ b_c cB cC cI cJ cZ oA rA Γ9)) rfl hD1
  have hN := hE.1
  have hS : va_S A s.heap s.heap [] := va_S.rf
  have hl := lv_entry ([.ref (oA 2), .int p0]) (n := 2) (Nat.le_of_ble_eq_true rfl)
  rw [lg_entry_eq]
  generalize (lg_sl ([.ref (oA 2), .int p0]) ++ List.replicate (2 - (lg_sl ([.ref (oA 2), .int p0])).length) Slot.unset).toArray = ls at hl ⊢
  have hl : lv_has ls 2 [(0, .ref (oA 2)), (1, .int p0)] := hl
  unfold F_X2_attribute at hF
  refine lv_aload_n hx hb dX2_attribute_0 rfl (lv_at hl 0 rfl) ?_
  refine va_get (D := (dC, dI)) (ci := 2) (v := .ref (oA 5)) (C := RX2) (T := TX2) (N := 8) hx hb hts ii_X2 hown hK hP 0 rfl rfl 1 (by decide) (hts (.fieldLink RX2 15 "StoryHouse$Grammar" "code" "LStoryHouse$Code;") wq_72) (fun _ h9 => h9) rfl dX2_attribute_1 ?_
  refine lv_iload_n hx hb dX2_attribute_4 rfl (lv_at hl 1 rfl) ?_
  refine lv_aload_n hx hb dX2_attribute_5 rfl (lv_at hl 0 rfl) ?_
  refine va_get (D := (dC, dI)) (ci := 2) (v := .int ((Γ 2).1 3)) (C := RX2) (T := TX2) (N := 8) hx hb hts ii_X2 hown hK hP 0 rfl rfl 3 (by decide) (hts (.fieldLink RX2 29 "StoryHouse$Grammar" "kind" "I") wq_74) (fun _ h9 => h9) rfl dX2_attribute_6 ?_
  refine lv_sipush (v := 206) hx hb dX2_attribute_9 (by decide +kernel) ?_
  refine lv_isub hx hb dX2_attribute_12 ?_
  obtain ⟨u_1, hu_1, hF_2⟩ := Option.bind_eq_some_iff.mp hF
  clear hF
  have hPc := bx_P (bs := [b_g cB cC cI cJ cZ oA rA Γ, b_w cB cC cI cJ cZ oA rA Γ, b_c cB cC cI cJ cZ oA rA Γ]) (bs' := [b_c cB cC cI cJ cZ oA rA Γ]) (ws' := (b_c cB cC cI cJ cZ oA rA Γ)) hP fl_3 fl_1 [2] rfl
  have hDc := bx_D (bs := [b_g cB cC cI cJ cZ oA rA Γ, b_w cB cC cI cJ cZ oA rA Γ, b_c cB cC cI cJ cZ oA rA Γ]) (bs' := [b_c cB cC cI cJ cZ oA rA Γ]) (ws' := (b_c cB cC cI cJ cZ oA rA Γ)) (hDD Γ) fl_3 fl_1 [2] (by decide +kernel) rfl
  have hFc := bx_F (bs := [b_g cB cC cI cJ cZ oA rA Γ, b_w cB cC cI cJ cZ oA rA Γ, b_c cB cC cI cJ cZ oA rA Γ]) (bs' := [b_c cB cC cI cJ cZ oA rA Γ]) (wc := (b_c cB cC cI cJ cZ oA rA Γ)) (hDD Γ) hS hA fl_3 fl_1 [2] rfl
  refine g_ofi (wc := (b_c cB cC cI cJ cZ oA rA Γ)) (wr := (b_g cB cC cI cJ cZ oA rA Γ ++ b_w cB cC cI cJ cZ oA rA Γ)) hP (hDD Γ) hS hFc (bx_ix [b_g cB cC cI cJ cZ oA rA Γ, b_w cB cC cI cJ cZ oA rA Γ, b_c cB cC cI cJ cZ oA rA Γ] [2]) (bx_ix [b_g cB cC cI cJ cZ oA rA Γ, b_w cB cC cI cJ cZ oA rA Γ, b_c cB cC cI cJ cZ oA rA Γ] [0, 1]) (bx_C (bs := [b_g cB cC cI cJ cZ oA rA Γ, b_w cB cC cI cJ cZ oA rA Γ, b_c cB cC cI cJ cZ oA rA Γ]) (bs' := [b_c cB cC cI cJ cZ oA rA Γ]) (is := [2]) fl_3 fl_1 rfl) (bx_C (bs := [b_g cB cC cI cJ cZ oA rA Γ, b_w cB cC cI cJ cZ oA rA Γ, b_c cB cC cI cJ cZ oA rA Γ]) (bs' := [b_g cB cC cI cJ cZ oA rA Γ, b_w cB cC cI cJ cZ oA rA Γ]) (is := [0, 1]) fl_3 fl_2 rfl) (bx_n (by decide +kernel)) (bx_d (by decide +kernel)) (va_runV (As := [.int p0, .int (((Γ 2).1 3) - 206)]) (rest := []) ⟨hx, hb, hml, hown, hts⟩ (k_X0_add_ l dC dI cB cC cI cJ cZ cP oA rA s.heap.size  p0 (((Γ 2).1 3) - 206) Γ _ hu_1) (cwV 2 hts (g_gV wq_656 wq_657 wq_658 wq_6 wq_659) rfl rfl rfl (by decide +kernel) ⟨Nat.le_of_ble_eq_true rfl, Nat.le_of_ble_eq_true rfl⟩) (g_preV g_bl0 hK hPc hDc hS hE hFc g_to0 (q0 := 0) (ci := 0) rfl rfl) rfl rfl hl.1 rfl (lv_room (Nat.le_of_ble_eq_true rfl)) dX2_attribute_13 ⟨Nat.le_of_ble_eq_true rfl, Nat.le_of_ble_eq_true rfl⟩) (fun r9 u9 H locs hw9 hP' hD' hS => ?_)
  clear hPc hDc hFc
  subst hw9
  obtain ⟨σ_3, eσ_3, hF_4⟩ := bnd_e hF_2
  clear hF_2
  have hP : va_P (dC, dI) vwCl (b_g cB cC cI cJ cZ oA rA σ_3 ++ b_w cB cC cI cJ cZ oA rA σ_3 ++ b_c cB cC cI cJ cZ oA rA σ_3) H := by rw [eσ_3]; exact bx_P (bs := [b_g cB cC cI cJ cZ oA rA Γ, b_w cB cC cI cJ cZ oA rA Γ] ++ [b_c cB cC cI cJ cZ oA rA u_1.2]) (bs' := [b_g cB cC cI cJ cZ oA rA (mrg (fun j => j == 5) Γ u_1.2), b_w cB cC cI cJ cZ oA rA (mrg (fun j => j == 5) Γ u_1.2), b_c cB cC cI cJ cZ oA rA (mrg (fun j => j == 5) Γ u_1.2)]) hP' (fl_a fl_2 fl_1) fl_3 [0, 1, 2] rfl
  clear hP' hD'
  refine lv_pop hx hb dX2_attribute_16 rfl ?_
  refine lv_aload_n hx hb dX2_attribute_17 rfl (lv_at hl 0 rfl) ?_
  refine lv_sipush (v := 206) hx hb dX2_attribute_18 (by decide +kernel) ?_
  refine lv_sipush (v := 211) hx hb dX2_attribute_21 (by decide +kernel) ?_
  obtain ⟨u_5, hu_5, hF_6⟩ := Option.bind_eq_some_iff.mp hF_4
  clear hF_4
  have hPc := bx_P (bs := [b_g cB cC cI cJ cZ oA rA σ_3, b_w cB cC cI cJ cZ oA rA σ_3, b_c cB cC cI cJ cZ oA rA σ_3]) (bs' := [b_g cB cC cI cJ cZ oA rA σ_3, b_w cB cC cI cJ cZ oA rA σ_3, b_c cB cC cI cJ cZ oA rA σ_3]) (ws' := (b_g cB cC cI cJ cZ oA rA σ_3 ++ b_w cB cC cI cJ cZ oA rA σ_3 ++ b_c cB cC cI cJ cZ oA rA σ_3)) hP fl_3 fl_3 [0, 1, 2] rfl
  have hDc := bx_D (bs := [b_g cB cC cI cJ cZ oA rA σ_3, b_w cB cC cI cJ cZ oA rA σ_3, b_c cB cC cI cJ cZ oA rA σ_3]) (bs' := [b_g cB cC cI cJ cZ oA rA σ_3, b_w cB cC cI cJ cZ oA rA σ_3, b_c cB cC cI cJ cZ oA rA σ_3]) (ws' := (b_g cB cC cI cJ cZ oA rA σ_3 ++ b_w cB cC cI cJ cZ oA rA σ_3 ++ b_c cB cC cI cJ cZ oA rA σ_3)) (hDD σ_3) fl_3 fl_3 [0, 1, 2] (by decide +kernel) rfl
  have hFc := bx_F (bs := [b_g cB cC cI cJ cZ oA rA σ_3, b_w cB cC cI cJ cZ oA rA σ_3, b_c cB cC cI cJ cZ oA rA σ_3]) (bs' := [b_g cB cC cI cJ cZ oA rA σ_3, b_w cB cC cI cJ cZ oA rA σ_3, b_c cB cC cI cJ cZ oA rA σ_3]) (wc := (b_g cB cC cI cJ cZ oA rA σ_3 ++ b_w cB cC cI cJ cZ oA rA σ_3 ++ b_c cB cC cI cJ cZ oA rA σ_3)) (hDD σ_3) hS hA fl_3 fl_3 [0, 1, 2] rfl
  refine g_ofi (wc := (b_g cB cC cI cJ cZ oA rA σ_3 ++ b_w cB cC cI cJ cZ oA rA σ_3 ++ b_c cB cC cI cJ cZ oA rA σ_3)) (wr := ([] : va_W)) hP (hDD σ_3) hS hFc (bx_ix [b_g cB cC cI cJ cZ oA rA σ_3, b_w cB cC cI cJ cZ oA rA σ_3, b_c cB cC cI cJ cZ oA rA σ_3] [0, 1, 2]) (bx_ix [b_g cB cC cI cJ cZ oA rA σ_3, b_w cB cC cI cJ cZ oA rA σ_3, b_c cB cC cI cJ cZ oA rA σ_3] []) (bx_C (bs := [b_g cB cC cI cJ cZ oA rA σ_3, b_w cB cC cI cJ cZ oA rA σ_3, b_c cB cC cI cJ cZ oA rA σ_3]) (bs' := [b_g cB cC cI cJ cZ oA rA σ_3, b_w cB cC cI cJ cZ oA rA σ_3, b_c cB cC cI cJ cZ oA rA σ_3]) (is := [0, 1, 2]) fl_3 fl_3 rfl) (bx_C (bs := [b_g cB cC cI cJ cZ oA rA σ_3, b_w cB cC cI cJ cZ oA rA σ_3, b_c cB cC cI cJ cZ oA rA σ_3]) (bs' := []) (is := []) fl_3 fl_0 rfl) (bx_n (by decide +kernel)) (bx_d (by decide +kernel)) (va_runV (As := [.int 206, .int 211]) (rest := []) ⟨hx, hb, hml, hown, hts⟩ (k_X2_isFrom l dC dI cB cC cI cJ cZ cP oA rA H.size  206 211 σ_3 _ hu_5) (cwV 2 hts (g_gV wq_552 wq_553 wq_1996 wq_3 wq_554) rfl rfl rfl (by decide +kernel) ⟨Nat.le_of_ble_eq_true rfl, Nat.le_of_ble_eq_true rfl⟩) (g_preV g_bl0 hK hPc hDc hS hE hFc g_to0 (q0 := 0) (ci := 2) rfl rfl) rfl rfl hl.1 rfl (lv_room (Nat.le_of_ble_eq_true rfl)) dX2_attribute_24 ⟨Nat.le_of_ble_eq_true rfl, Nat.le_of_ble_eq_true rfl⟩) (fun r9 u9 H locs hw9 hP' hD' hS => ?_)
  clear hPc hDc hFc
  subst hw9
  have hP : va_P (dC, dI) vwCl (b_g cB cC cI cJ cZ oA rA u_5.2 ++ b_w cB cC cI cJ cZ oA rA u_5.2 ++ b_c cB cC cI cJ cZ oA rA u_5.2) H := hP'
  clear hP' hD'
  refine lv_if_eq (tgt := 37) hx hb dX2_attribute_27 (by decide) (fun c_7 => ?_) (fun c_7 => ?_)
  · have hF_8 := ipos c_7 hF_6
    clear hF_6
    refine lv_aload_n hx hb dX2_attribute_37 rfl (lv_at hl 0 rfl) ?_
    refine lv_iconst (v := 2) hx hb dX2_attribute_38 (by decide +kernel) ?_
    obtain ⟨u_9, hu_9, hF_10⟩ := Option.bind_eq_some_iff.mp hF_8
    clear hF_8
    have hPc := bx_P (bs := [b_g cB cC cI cJ cZ oA rA u_5.2, b_w cB cC cI cJ cZ oA rA u_5.2, b_c cB cC cI cJ cZ oA rA u_5.2]) (bs' := [b_g cB cC cI cJ cZ oA rA u_5.2, b_w cB cC cI cJ cZ oA rA u_5.2, b_c cB cC cI cJ cZ oA rA u_5.2]) (ws' := (b_g cB cC cI cJ cZ oA rA u_5.2 ++ b_w cB cC cI cJ cZ oA rA u_5.2 ++ b_c cB cC cI cJ cZ oA rA u_5.2)) hP fl_3 fl_3 [0, 1, 2] rfl
    have hDc := bx_D (bs := [b_g cB cC cI cJ cZ oA rA u_5.2, b_w cB cC cI cJ cZ oA rA u_5.2, b_c cB cC cI cJ cZ oA rA u_5.2]) (bs' := [b_g cB cC cI cJ cZ oA rA u_5.2, b_w cB cC cI cJ cZ oA rA u_5.2, b_c cB cC cI cJ cZ oA rA u_5.2]) (ws' := (b_g cB cC cI cJ cZ oA rA u_5.2 ++ b_w cB cC cI cJ cZ oA rA u_5.2 ++ b_c cB cC cI cJ cZ oA rA u_5.2)) (hDD u_5.2) fl_3 fl_3 [0, 1, 2] (by decide +kernel) rfl
    have hFc := bx_F (bs := [b_g cB cC cI cJ cZ oA rA u_5.2, b_w cB cC cI cJ cZ oA rA u_5.2, b_c cB cC cI cJ cZ oA rA u_5.2]) (bs' := [b_g cB cC cI cJ cZ oA rA u_5.2, b_w cB cC cI cJ cZ oA rA u_5.2, b_c cB cC cI cJ cZ oA rA u_5.2]) (wc := (b_g cB cC cI cJ cZ oA rA u_5.2 ++ b_w cB cC cI cJ cZ oA rA u_5.2 ++ b_c cB cC cI cJ cZ oA rA u_5.2)) (hDD u_5.2) hS hA fl_3 fl_3 [0, 1, 2] rfl
    refine g_ofv (wc := (b_g cB cC cI cJ cZ oA rA u_5.2 ++ b_w cB cC cI cJ cZ oA rA u_5.2 ++ b_c cB cC cI cJ cZ oA rA u_5.2)) (wr := ([] : va_W)) hP (hDD u_5.2) hS hFc (bx_ix [b_g cB cC cI cJ cZ oA rA u_5.2, b_w cB cC cI cJ cZ oA rA u_5.2, b_c cB cC cI cJ cZ oA rA u_5.2] [0, 1, 2]) (bx_ix [b_g cB cC cI cJ cZ oA rA u_5.2, b_w cB cC cI cJ cZ oA rA u_5.2, b_c cB cC cI cJ cZ oA rA u_5.2] []) (bx_C (bs := [b_g cB cC cI cJ cZ oA rA u_5.2, b_w cB cC cI cJ cZ oA rA u_5.2, b_c cB cC cI cJ cZ oA rA u_5.2]) (bs' := [b_g cB cC cI cJ cZ oA rA u_5.2, b_w cB cC cI cJ cZ oA rA u_5.2, b_c cB cC cI cJ cZ oA rA u_5.2]) (is := [0, 1, 2]) fl_3 fl_3 rfl) (bx_C (bs := [b_g cB cC cI cJ cZ oA rA u_5.2, b_w cB cC cI cJ cZ oA rA u_5.2, b_c cB cC cI cJ cZ oA rA u_5.2]) (bs' := []) (is := []) fl_3 fl_0 rfl) (bx_n (by decide +kernel)) (bx_d (by decide +kernel)) (va_runV (As := [.int 2]) (rest := []) ⟨hx, hb, hml, hown, hts⟩ (k_X2_fail l dC dI cB cC cI cJ cZ cP oA rA H.size  2 u_5.2 _ hu_9) (cwV 1 hts (g_gV wq_558 wq_559 wq_1998 wq_3 wq_560) rfl rfl rfl (by decide +kernel) ⟨Nat.le_of_ble_eq_true rfl, Nat.le_of_ble_eq_true rfl⟩) (g_preV g_bl0 hK hPc hDc hS hE hFc g_to0 (q0 := 0) (ci := 2) rfl rfl) rfl rfl hl.1 rfl (lv_room (Nat.le_of_ble_eq_true rfl)) dX2_attribute_39 ⟨Nat.le_of_ble_eq_true rfl, Nat.le_of_ble_eq_true rfl⟩) (fun u9 H locs hw9 hP' hD' hS => ?_)
    clear hPc hDc hFc
    have hP : va_P (dC, dI) vwCl (b_g cB cC cI cJ cZ oA rA u_9.2 ++ b_w cB cC cI cJ cZ oA rA u_9.2 ++ b_c cB cC cI cJ cZ oA rA u_9.2) H := hP'
    clear hP' hD'
    have h9 := Option.some.inj hF_10
    subst h9
    exact W.vret hx hb hr (fun t ht hW => ⟨⟨(), rfl, trivial, m_end ht hP, hDD _⟩, hS.F ht⟩) hS.2.2 dX2_attribute_42
  · have hF_11 := ineg c_7 hF_6
    clear hF_6
    refine lv_aload_n hx hb dX2_attribute_30 rfl (lv_at hl 0 rfl) ?_
    obtain ⟨u_12, hu_12, hF_13⟩ := Option.bind_eq_some_iff.mp hF_11
    clear hF_11
    have hPc := bx_P (bs := [b_g cB cC cI cJ cZ oA rA u_5.2, b_w cB cC cI cJ cZ oA rA u_5.2, b_c cB cC cI cJ cZ oA rA u_5.2]) (bs' := [b_g cB cC cI cJ cZ oA rA u_5.2, b_w cB cC cI cJ cZ oA rA u_5.2, b_c cB cC cI cJ cZ oA rA u_5.2]) (ws' := (b_g cB cC cI cJ cZ oA rA u_5.2 ++ b_w cB cC cI cJ cZ oA rA u_5.2 ++ b_c cB cC cI cJ cZ oA rA u_5.2)) hP fl_3 fl_3 [0, 1, 2] rfl
    have hDc := bx_D (bs := [b_g cB cC cI cJ cZ oA rA u_5.2, b_w cB cC cI cJ cZ oA rA u_5.2, b_c cB cC cI cJ cZ oA rA u_5.2]) (bs' := [b_g cB cC cI cJ cZ oA rA u_5.2, b_w cB cC cI cJ cZ oA rA u_5.2, b_c cB cC cI cJ cZ oA rA u_5.2]) (ws' := (b_g cB cC cI cJ cZ oA rA u_5.2 ++ b_w cB cC cI cJ cZ oA rA u_5.2 ++ b_c cB cC cI cJ cZ oA rA u_5.2)) (hDD u_5.2) fl_3 fl_3 [0, 1, 2] (by decide +kernel) rfl
    have hFc := bx_F (bs := [b_g cB cC cI cJ cZ oA rA u_5.2, b_w cB cC cI cJ cZ oA rA u_5.2, b_c cB cC cI cJ cZ oA rA u_5.2]) (bs' := [b_g cB cC cI cJ cZ oA rA u_5.2, b_w cB cC cI cJ cZ oA rA u_5.2, b_c cB cC cI cJ cZ oA rA u_5.2]) (wc := (b_g cB cC cI cJ cZ oA rA u_5.2 ++ b_w cB cC cI cJ cZ oA rA u_5.2 ++ b_c cB cC cI cJ cZ oA rA u_5.2)) (hDD u_5.2) hS hA fl_3 fl_3 [0, 1, 2] rfl
    refine g_ofv (wc := (b_g cB cC cI cJ cZ oA rA u_5.2 ++ b_w cB cC cI cJ cZ oA rA u_5.2 ++ b_c cB cC cI cJ cZ oA rA u_5.2)) (wr := ([] : va_W)) hP (hDD u_5.2) hS hFc (bx_ix [b_g cB cC cI cJ cZ oA rA u_5.2, b_w cB cC cI cJ cZ oA rA u_5.2, b_c cB cC cI cJ cZ oA rA u_5.2] [0, 1, 2]) (bx_ix [b_g cB cC cI cJ cZ oA rA u_5.2, b_w cB cC cI cJ cZ oA rA u_5.2, b_c cB cC cI cJ cZ oA rA u_5.2] []) (bx_C (bs := [b_g cB cC cI cJ cZ oA rA u_5.2, b_w cB cC cI cJ cZ oA rA u_5.2, b_c cB cC cI cJ cZ oA rA u_5.2]) (bs' := [b_g cB cC cI cJ cZ oA rA u_5.2, b_w cB cC cI cJ cZ oA rA u_5.2, b_c cB cC cI cJ cZ oA rA u_5.2]) (is := [0, 1, 2]) fl_3 fl_3 rfl) (bx_C (bs := [b_g cB cC cI cJ cZ oA rA u_5.2, b_w cB cC cI cJ cZ oA rA u_5.2, b_c cB cC cI cJ cZ oA rA u_5.2]) (bs' := []) (is := []) fl_3 fl_0 rfl) (bx_n (by decide +kernel)) (bx_d (by decide +kernel)) (va_runV (As := []) (rest := []) ⟨hx, hb, hml, hown, hts⟩ (k_X2_pass l dC dI cB cC cI cJ cZ cP oA rA H.size  u_5.2 _ hu_12) (cwV 0 hts (g_gV wq_555 wq_556 wq_1997 wq_3 wq_557) rfl rfl rfl (by decide +kernel) ⟨Nat.le_of_ble_eq_true rfl, Nat.le_of_ble_eq_true rfl⟩) (g_preV g_bl0 hK hPc hDc hS hE hFc g_to0 (q0 := 0) (ci := 2) rfl rfl) rfl rfl hl.1 rfl (lv_room (Nat.le_of_ble_eq_true rfl)) dX2_attribute_31 ⟨Nat.le_of_ble_eq_true rfl, Nat.le_of_ble_eq_true rfl⟩) (fun u9 H locs hw9 hP' hD' hS => ?_)
    clear hPc hDc hFc
    have hP : va_P (dC, dI) vwCl (b_g cB cC cI cJ cZ oA rA u_12.2 ++ b_w cB cC cI cJ cZ oA rA u_12.2 ++ b_c cB cC cI cJ cZ oA rA u_12.2) H := hP'
    clear hP' hD'
    refine lv_goto (tgt := 42) hx hb dX2_attribute_34 (by decide) ?_
    have h9 := Option.some.inj hF_13
    subst h9
    exact W.vret hx hb hr (fun t ht hW => ⟨⟨(), rfl, trivial, m_end ht hP, hDD _⟩, hS.F ht⟩) hS.2.2 dX2_attribute_42
theorem dX2_comparing_0 : decode cX2_comparing 0 = .ok (.iload_n 0, 1) := by decide +kernel
theorem dX2_comparing_1 : decode cX2_comparing 1 = .ok (.lookupswitch 99 #[(5, 75), (6, 78), (7, 84), (8, 90), (60, 81), (62, 87), (219, 93), (220, 96)], 75) := by decide +kernel
theorem dX2_comparing_76 : decode cX2_comparing 76 = .ok (.bipush 15, 2) := by decide +kernel
theorem dX2_comparing_78 : decode cX2_comparing 78 = .ok (.ireturn, 1) := by decide +kernel
theorem dX2_comparing_79 : decode cX2_comparing 79 = .ok (.bipush 16, 2) := by decide +kernel
theorem dX2_comparing_81 : decode cX2_comparing 81 = .ok (.ireturn, 1) := by decide +kernel
theorem dX2_comparing_82 : decode cX2_comparing 82 = .ok (.bipush 17, 2) := by decide +kernel
theorem dX2_comparing_84 : decode cX2_comparing 84 = .ok (.ireturn, 1) := by decide +kernel
theorem dX2_comparing_85 : decode cX2_comparing 85 = .ok (.bipush 18, 2) := by decide +kernel
theorem dX2_comparing_87 : decode cX2_comparing 87 = .ok (.ireturn, 1) := by decide +kernel
theorem dX2_comparing_88 : decode cX2_comparing 88 = .ok (.bipush 19, 2) := by decide +kernel
theorem dX2_comparing_90 : decode cX2_comparing 90 = .ok (.ireturn, 1) := by decide +kernel
theorem dX2_comparing_91 : decode cX2_comparing 91 = .ok (.bipush 20, 2) := by decide +kernel
theorem dX2_comparing_93 : decode cX2_comparing 93 = .ok (.ireturn, 1) := by decide +kernel
theorem dX2_comparing_94 : decode cX2_comparing 94 = .ok (.bipush 23, 2) := by decide +kernel
theorem dX2_comparing_96 : decode cX2_comparing 96 = .ok (.ireturn, 1) := by decide +kernel
theorem dX2_comparing_97 : decode cX2_comparing 97 = .ok (.bipush 46, 2) := by decide +kernel
theorem dX2_comparing_99 : decode cX2_comparing 99 = .ok (.ireturn, 1) := by decide +kernel
theorem dX2_comparing_100 : decode cX2_comparing 100 = .ok (.iconst (-1), 1) := by decide +kernel
theorem dX2_comparing_101 : decode cX2_comparing 101 = .ok (.ireturn, 1) := by decide +kernel
def F_X2_comparing (p0 : Int32) (Γ : HS) : HR :=
  if p0 = 5 then (
    some (15, Γ)
  ) else
  if p0 = 6 then (
    some (16, Γ)
  ) else
  if p0 = 7 then (
    some (18, Γ)
  ) else
  if p0 = 8 then (
    some (20, Γ)
  ) else
  if p0 = 60 then (
    some (17, Γ)
  ) else
  if p0 = 62 then (
    some (19, Γ)
  ) else
  if p0 = 219 then (
    some (23, Γ)
  ) else
  if p0 = 220 then (
    some (46, Γ)
  ) else
  (
    some ((-1), Γ)
  )
set_option maxHeartbeats 4000000 in
set_option maxRecDepth 100000 in
theorem k_X2_comparing (l : Launch) (dC : Nat → ClassId) (dI : Nat → Nat → Nat) (cB cC cI cJ cZ cP : ClassId) (oA : Nat → Nat) (rA : Nat → Nat → Nat) (sz : Nat)  (p0 : Int32) (Γ : HS) (res : Int32 × HS) (hF : F_X2_comparing p0 Γ = some res) : Met l yX2_comparing (g_ws yX2_comparing cX2_comparing 1 (some .int)) ({ frames := 1, cells := 0, slots := 0, locals := 40 }) (va_Pc [.int p0] (g_B (dC, dI) [(cB, .byte), (cC, .char), (cI, .int), (cJ, .long), (cZ, .boolean), (cP, .object "StoryHouse$Play")] sz ([] : va_W) g_0)) (va_Qi (fun r (_ : Unit) => r = res.1) (g_Bo (dC, dI) (va_A ([] : va_W) sz) (fun (_ : Unit) => ([] : va_W))) (va_A ([] : va_W) sz)) 0 0 (va_A ([] : va_W) sz) := by
  refine Met.ofW (cc := cX2_comparing) (maxL := 1) (ret := (some .int)) (by decide) rfl ?_
  intro p e s m args below meth c s₁ B hml hv
  obtain ⟨rfl, hsz, hP, hK, hD0, hE, hX⟩ := hv
  have hx := B.exec
  have hb := B.bytes
  have hr := B.returns
  have hts0 := atoms_spec (ws := g_ws yX2_comparing cX2_comparing 1 (some .int)) B.pre
  have hts : ∀ w ∈ lw_good, w.before ([.int p0] : List Value).toArray s = true := fun w z => hts0 w (List.mem_cons_of_mem _ z)
  have hown : s.vm.findClass RX2 = some m.cls := findClass_of_methodNamed B.named
  have hlocks := B.notSynchronized
  subst hsz
  have hD1 := hD0.self (sz := s.heap.size)
  generalize hAe : va_A ([] : va_W) s.heap.size = A at hD1 hE hX ⊢
  have hA : ∀ q : Nat, s.heap.size ≤ q → A q := fun q z => by rw [← hAe]; exact Or.inr z
  have hDD : ∀ Γ : HS, va_D A ([] : va_W) := fun Γ9 => va_D_fst (ws := ([] : va_W)) (ws' := ([] : va_W)) rfl hD1
  have hN := hE.1
  have hS : va_S A s.heap s.heap [] := va_S.rf
  have hl := lv_entry ([.int p0]) (n := 1) (Nat.le_of_ble_eq_true rfl)
  rw [lg_entry_eq]
  generalize (lg_sl ([.int p0]) ++ List.replicate (1 - (lg_sl ([.int p0])).length) Slot.unset).toArray = ls at hl ⊢
  have hl : lv_has ls 1 [(0, .int p0)] := hl
  unfold F_X2_comparing at hF
  refine lv_iload_n hx hb dX2_comparing_0 rfl (lv_at hl 0 rfl) ?_
  by_cases c_1 : p0 = 5
  · have hF_2 := ipos c_1 hF
    clear hF
    refine lv_lookup (off := 75) (tgt := 76) hx hb dX2_comparing_1 (by decide +kernel) (by rw [c_1]; decide +kernel) (by decide) ?_
    refine lv_bipush (v := 15) hx hb dX2_comparing_76 (by decide +kernel) ?_
    have h9 := Option.some.inj hF_2
    subst h9
    exact W.iret (v := 15) hx hb hr (fun t ht hW => ⟨⟨15, (), rfl, rfl, m_end ht hP, hDD Γ⟩, hS.F ht⟩) hS.2.2 dX2_comparing_78
  have hF_3 := ineg c_1 hF
  clear hF
  by_cases c_4 : p0 = 6
  · have hF_5 := ipos c_4 hF_3
    clear hF_3
    refine lv_lookup (off := 78) (tgt := 79) hx hb dX2_comparing_1 (by decide +kernel) (by rw [c_4]; decide +kernel) (by decide) ?_
    refine lv_bipush (v := 16) hx hb dX2_comparing_79 (by decide +kernel) ?_
    have h9 := Option.some.inj hF_5
    subst h9
    exact W.iret (v := 16) hx hb hr (fun t ht hW => ⟨⟨16, (), rfl, rfl, m_end ht hP, hDD Γ⟩, hS.F ht⟩) hS.2.2 dX2_comparing_81
  have hF_6 := ineg c_4 hF_3
  clear hF_3
  by_cases c_7 : p0 = 7
  · have hF_8 := ipos c_7 hF_6
    clear hF_6
    refine lv_lookup (off := 84) (tgt := 85) hx hb dX2_comparing_1 (by decide +kernel) (by rw [c_7]; decide +kernel) (by decide) ?_
    refine lv_bipush (v := 18) hx hb dX2_comparing_85 (by decide +kernel) ?_
    have h9 := Option.some.inj hF_8
    subst h9
    exact W.iret (v := 18) hx hb hr (fun t ht hW => ⟨⟨18, (), rfl, rfl, m_end ht hP, hDD Γ⟩, hS.F ht⟩) hS.2.2 dX2_comparing_87
  have hF_9 := ineg c_7 hF_6
  clear hF_6
  by_cases c_10 : p0 = 8
  · have hF_11 := ipos c_10 hF_9
    clear hF_9
    refine lv_lookup (off := 90) (tgt := 91) hx hb dX2_comparing_1 (by decide +kernel) (by rw [c_10]; decide +kernel) (by decide) ?_
    refine lv_bipush (v := 20) hx hb dX2_comparing_91 (by decide +kernel) ?_
    have h9 := Option.some.inj hF_11
    subst h9
    exact W.iret (v := 20) hx hb hr (fun t ht hW => ⟨⟨20, (), rfl, rfl, m_end ht hP, hDD Γ⟩, hS.F ht⟩) hS.2.2 dX2_comparing_93
  have hF_12 := ineg c_10 hF_9
  clear hF_9
  by_cases c_13 : p0 = 60
  · have hF_14 := ipos c_13 hF_12
    clear hF_12
    refine lv_lookup (off := 81) (tgt := 82) hx hb dX2_comparing_1 (by decide +kernel) (by rw [c_13]; decide +kernel) (by decide) ?_
    refine lv_bipush (v := 17) hx hb dX2_comparing_82 (by decide +kernel) ?_
    have h9 := Option.some.inj hF_14
    subst h9
    exact W.iret (v := 17) hx hb hr (fun t ht hW => ⟨⟨17, (), rfl, rfl, m_end ht hP, hDD Γ⟩, hS.F ht⟩) hS.2.2 dX2_comparing_84
  have hF_15 := ineg c_13 hF_12
  clear hF_12
  by_cases c_16 : p0 = 62
  · have hF_17 := ipos c_16 hF_15
    clear hF_15
    refine lv_lookup (off := 87) (tgt := 88) hx hb dX2_comparing_1 (by decide +kernel) (by rw [c_16]; decide +kernel) (by decide) ?_
    refine lv_bipush (v := 19) hx hb dX2_comparing_88 (by decide +kernel) ?_
    have h9 := Option.some.inj hF_17
    subst h9
    exact W.iret (v := 19) hx hb hr (fun t ht hW => ⟨⟨19, (), rfl, rfl, m_end ht hP, hDD Γ⟩, hS.F ht⟩) hS.2.2 dX2_comparing_90
  have hF_18 := ineg c_16 hF_15
  clear hF_15
  by_cases c_19 : p0 = 219
  · have hF_20 := ipos c_19 hF_18
    clear hF_18
    refine lv_lookup (off := 93) (tgt := 94) hx hb dX2_comparing_1 (by decide +kernel) (by rw [c_19]; decide +kernel) (by decide) ?_
    refine lv_bipush (v := 23) hx hb dX2_comparing_94 (by decide +kernel) ?_
    have h9 := Option.some.inj hF_20
    subst h9
    exact W.iret (v := 23) hx hb hr (fun t ht hW => ⟨⟨23, (), rfl, rfl, m_end ht hP, hDD Γ⟩, hS.F ht⟩) hS.2.2 dX2_comparing_96
  have hF_21 := ineg c_19 hF_18
  clear hF_18
  by_cases c_22 : p0 = 220
  · have hF_23 := ipos c_22 hF_21
    clear hF_21
    refine lv_lookup (off := 96) (tgt := 97) hx hb dX2_comparing_1 (by decide +kernel) (by rw [c_22]; decide +kernel) (by decide) ?_
    refine lv_bipush (v := 46) hx hb dX2_comparing_97 (by decide +kernel) ?_
    have h9 := Option.some.inj hF_23
    subst h9
    exact W.iret (v := 46) hx hb hr (fun t ht hW => ⟨⟨46, (), rfl, rfl, m_end ht hP, hDD Γ⟩, hS.F ht⟩) hS.2.2 dX2_comparing_99
  have hF_24 := ineg c_22 hF_21
  clear hF_21
  refine lv_lookup (off := 99) (tgt := 100) hx hb dX2_comparing_1 (by decide +kernel) ((lv_osw (k := 5) c_1 (by decide +kernel)).trans ((lv_osw (k := 6) c_4 (by decide +kernel)).trans ((lv_osw (k := 7) c_7 (by decide +kernel)).trans ((lv_osw (k := 8) c_10 (by decide +kernel)).trans ((lv_osw (k := 60) c_13 (by decide +kernel)).trans ((lv_osw (k := 62) c_16 (by decide +kernel)).trans ((lv_osw (k := 219) c_19 (by decide +kernel)).trans ((lv_osw (k := 220) c_22 (by decide +kernel)).trans rfl)))))))) (by decide) ?_
  refine lv_iconst (v := (-1)) hx hb dX2_comparing_100 (by decide +kernel) ?_
  have h9 := Option.some.inj hF_24
  subst h9
  exact W.iret (v := (-1)) hx hb hr (fun t ht hW => ⟨⟨(-1), (), rfl, rfl, m_end ht hP, hDD Γ⟩, hS.F ht⟩) hS.2.2 dX2_comparing_101
theorem dX10_worthOf_0 : decode cX10_worthOf 0 = .ok (.iload_n 1, 1) := by decide +kernel
theorem dX10_worthOf_1 : decode cX10_worthOf 1 = .ok (.ifCond .lt 22, 3) := by decide +kernel
theorem dX10_worthOf_4 : decode cX10_worthOf 4 = .ok (.iload_n 1, 1) := by decide +kernel
theorem dX10_worthOf_5 : decode cX10_worthOf 5 = .ok (.aload_n 0, 1) := by decide +kernel
theorem dX10_worthOf_6 : decode cX10_worthOf 6 = .ok (.getfield 57, 3) := by decide +kernel
theorem dX10_worthOf_9 : decode cX10_worthOf 9 = .ok (.if_icmp .ge 14, 3) := by decide +kernel
theorem dX10_worthOf_12 : decode cX10_worthOf 12 = .ok (.aload_n 0, 1) := by decide +kernel
theorem dX10_worthOf_13 : decode cX10_worthOf 13 = .ok (.getfield 22, 3) := by decide +kernel
theorem dX10_worthOf_16 : decode cX10_worthOf 16 = .ok (.iload_n 1, 1) := by decide +kernel
theorem dX10_worthOf_17 : decode cX10_worthOf 17 = .ok (.invokestatic 97, 3) := by decide +kernel
theorem dX10_worthOf_20 : decode cX10_worthOf 20 = .ok (.goto 4, 3) := by decide +kernel
theorem dX10_worthOf_23 : decode cX10_worthOf 23 = .ok (.iconst 0, 1) := by decide +kernel
theorem dX10_worthOf_24 : decode cX10_worthOf 24 = .ok (.ireturn, 1) := by decide +kernel
def F_X10_worthOf (p0 : Int32) (Γ : HS) : HR :=
  if p0 < 0 then (
    some (0, Γ)
  ) else (
    if ((Γ 1).1 2) ≤ p0 then (
      some (0, Γ)
    ) else (
      bnd ((g_at 16001 ((Γ 1).2.1 5) p0)) fun (x_7 : Int32) =>
      some (x_7, Γ)
    )
  )
set_option maxHeartbeats 4000000 in
set_option maxRecDepth 100000 in
theorem k_X10_worthOf (l : Launch) (dC : Nat → ClassId) (dI : Nat → Nat → Nat) (cB cC cI cJ cZ cP : ClassId) (oA : Nat → Nat) (rA : Nat → Nat → Nat) (sz : Nat)  (p0 : Int32) (Γ : HS) (res : Int32 × HS) (hF : F_X10_worthOf p0 Γ = some res) : Met l yX10_worthOf (g_ws yX10_worthOf cX10_worthOf 2 (some .int)) ({ frames := 3, cells := 0, slots := 0, locals := 81 }) (va_Pc [.ref (oA 1), .int p0] (g_B (dC, dI) [(cB, .byte), (cC, .char), (cI, .int), (cJ, .long), (cZ, .boolean), (cP, .object "StoryHouse$Play")] sz (b_w cB cC cI cJ cZ oA rA Γ) g_0)) (va_Qi (fun r (_ : Unit) => r = res.1) (g_Bo (dC, dI) (va_A (b_w cB cC cI cJ cZ oA rA Γ) sz) (fun (_ : Unit) => (b_w cB cC cI cJ cZ oA rA res.2))) (va_A (b_w cB cC cI cJ cZ oA rA Γ) sz)) 0 0 (va_A (b_w cB cC cI cJ cZ oA rA Γ) sz) := by
  refine Met.ofW (cc := cX10_worthOf) (maxL := 2) (ret := (some .int)) (by decide) rfl ?_
  intro p e s m args below meth c s₁ B hml hv
  obtain ⟨rfl, hsz, hP, hK, hD0, hE, hX⟩ := hv
  have hx := B.exec
  have hb := B.bytes
  have hr := B.returns
  have hts0 := atoms_spec (ws := g_ws yX10_worthOf cX10_worthOf 2 (some .int)) B.pre
  have hts : ∀ w ∈ lw_good, w.before ([.ref (oA 1), .int p0] : List Value).toArray s = true := fun w z => hts0 w (List.mem_cons_of_mem _ z)
  have hown : s.vm.findClass RX10 = some m.cls := findClass_of_methodNamed B.named
  have hlocks := B.notSynchronized
  subst hsz
  have hD1 := hD0.self (sz := s.heap.size)
  generalize hAe : va_A (b_w cB cC cI cJ cZ oA rA Γ) s.heap.size = A at hD1 hE hX ⊢
  have hA : ∀ q : Nat, s.heap.size ≤ q → A q := fun q z => by rw [← hAe]; exact Or.inr z
  have hDD : ∀ Γ : HS, va_D A (b_w cB cC cI cJ cZ oA rA Γ) := fun Γ9 => va_D_fst (ws := (b_w cB cC cI cJ cZ oA rA Γ)) (ws' := (b_w cB cC cI cJ cZ oA rA Γ9)) rfl hD1
  have hN := hE.1
  have hS : va_S A s.heap s.heap [] := va_S.rf
  have hl := lv_entry ([.ref (oA 1), .int p0]) (n := 2) (Nat.le_of_ble_eq_true rfl)
  rw [lg_entry_eq]
  generalize (lg_sl ([.ref (oA 1), .int p0]) ++ List.replicate (2 - (lg_sl ([.ref (oA 1), .int p0])).length) Slot.unset).toArray = ls at hl ⊢
  have hl : lv_has ls 2 [(0, .ref (oA 1)), (1, .int p0)] := hl
  unfold F_X10_worthOf at hF
  refine lv_iload_n hx hb dX10_worthOf_0 rfl (lv_at hl 1 rfl) ?_
  refine lv_if_lt (tgt := 23) hx hb dX10_worthOf_1 (by decide) (fun c_1 => ?_) (fun c_1 => ?_)
  · have hF_2 := ipos c_1 hF
    clear hF
    refine lv_iconst (v := 0) hx hb dX10_worthOf_23 (by decide +kernel) ?_
    have h9 := Option.some.inj hF_2
    subst h9
    exact W.iret (v := 0) hx hb hr (fun t ht hW => ⟨⟨0, (), rfl, rfl, m_end ht hP, hDD _⟩, hS.F ht⟩) hS.2.2 dX10_worthOf_24
  · have hF_3 := ineg c_1 hF
    clear hF
    refine lv_iload_n hx hb dX10_worthOf_4 rfl (lv_at hl 1 rfl) ?_
    refine lv_aload_n hx hb dX10_worthOf_5 rfl (lv_at hl 0 rfl) ?_
    refine va_get (D := (dC, dI)) (ci := 10) (v := .int ((Γ 1).1 2)) (C := RX10) (T := TX10) (N := 12) hx hb hts ii_X10 hown hK hP 0 rfl rfl 2 (by decide) (hts (.fieldLink RX10 57 "StoryHouse$Words" "count" "I") wq_46) (fun _ h9 => h9) rfl dX10_worthOf_6 ?_
    refine lv_icmp_ge (tgt := 23) hx hb dX10_worthOf_9 (by decide) (fun c_4 => ?_) (fun c_4 => ?_)
    · have hF_5 := ipos c_4 hF_3
      clear hF_3
      refine lv_iconst (v := 0) hx hb dX10_worthOf_23 (by decide +kernel) ?_
      have h9 := Option.some.inj hF_5
      subst h9
      exact W.iret (v := 0) hx hb hr (fun t ht hW => ⟨⟨0, (), rfl, rfl, m_end ht hP, hDD _⟩, hS.F ht⟩) hS.2.2 dX10_worthOf_24
    · have hF_6 := ineg c_4 hF_3
      clear hF_3
      refine lv_aload_n hx hb dX10_worthOf_12 rfl (lv_at hl 0 rfl) ?_
      refine va_get (D := (dC, dI)) (ci := 10) (v := .ref (rA 1 5)) (C := RX10) (T := TX10) (N := 12) hx hb hts ii_X10 hown hK hP 0 rfl rfl 5 (by decide) (hts (.fieldLink RX10 22 "StoryHouse$Words" "values" "[I") wq_51) (fun _ h9 => h9) rfl dX10_worthOf_13 ?_
      refine lv_iload_n hx hb dX10_worthOf_16 rfl (lv_at hl 1 rfl) ?_
      have hq9 : ((b_w cB cC cI cJ cZ oA rA Γ))[4]? = some (rA 1 5, .inl (cI, 16001, .inl ((Γ 1).2.1 5))) := rfl
      have hPc := hP.sub (ws' := [(rA 1 5, .inl (cI, 16001, .inl ((Γ 1).2.1 5)))]) [4] (pk_fm (er_C hq9))
      have hDc := (hDD Γ).sub (ws' := [(rA 1 5, .inl (cI, 16001, .inl ((Γ 1).2.1 5)))]) [4] (by decide +kernel) (er_C hq9)
      have hFc := va_free (wc := [(rA 1 5, .inl (cI, 16001, .inl ((Γ 1).2.1 5)))]) (hDD Γ) hS hA [4] (er_C hq9)
      refine g_ofi (wc := [(rA 1 5, .inl (cI, 16001, .inl ((Γ 1).2.1 5)))]) (wr := (((b_w cB cC cI cJ cZ oA rA Γ)).eraseIdx 4)) hP (hDD Γ) hS hFc [4] ((List.range ((b_w cB cC cI cJ cZ oA rA Γ)).length).eraseIdx 4) (er_C hq9) er_R er_n er_d (va_runSN (As := [.ref (rA 1 5), .int p0]) (rest := []) ⟨hx, hb, hml, hown, hts⟩ (c_X11_at l dC dI cB cC cI cJ cZ cP s.heap.size (rA 1 5) p0 16001 ((Γ 1).2.1 5) (by decide)) ⟨va_cnB 2 hts (g_gA wq_407) rfl rfl rfl (nw_9 hN) (hts (.initialized RX11) wq_1) (by decide +kernel) ⟨Nat.le_of_ble_eq_true rfl, Nat.le_of_ble_eq_true rfl⟩, (hts (.static yX11_at) wq_406), trivial⟩ (g_preS g_bl0 hK hPc hDc hS hE hFc g_to0) rfl rfl hl.1 rfl (lv_room (Nat.le_of_ble_eq_true rfl)) dX10_worthOf_17 ⟨Nat.le_of_ble_eq_true rfl, Nat.le_of_ble_eq_true rfl⟩) (fun r9 u9 H locs hw9 hP' hD' hS => ?_)
      clear hPc hDc hFc hD'
      have hP : va_P (dC, dI) vwCl (b_w cB cC cI cJ cZ oA rA Γ) H := er_I hP' hq9
      clear hP' hq9
      subst hw9
      obtain ⟨x_7, ex_7, hF_8⟩ := bnd_e hF_6
      clear hF_6
      refine m_top ex_7 ?_
      refine lv_goto (tgt := 24) hx hb dX10_worthOf_20 (by decide) ?_
      have h9 := Option.some.inj hF_8
      subst h9
      exact W.iret (v := x_7) hx hb hr (fun t ht hW => ⟨⟨x_7, (), rfl, rfl, m_end ht hP, hDD _⟩, hS.F ht⟩) hS.2.2 dX10_worthOf_24
