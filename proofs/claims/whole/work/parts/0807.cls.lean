/-! methods of the class: what each does is its function -/
theorem dX2_say_0 : decode cX2_say 0 = .ok (.iconst 1, 1) := by decide +kernel
theorem dX2_say_1 : decode cX2_say 1 = .ok (.istore_n 1, 1) := by decide +kernel
theorem dX2_say_2 : decode cX2_say 2 = .ok (.iconst 0, 1) := by decide +kernel
theorem dX2_say_3 : decode cX2_say 3 = .ok (.istore_n 2, 1) := by decide +kernel
theorem dX2_say_4 : decode cX2_say 4 = .ok (.iload_n 2, 1) := by decide +kernel
theorem dX2_say_5 : decode cX2_say 5 = .ok (.aload_n 0, 1) := by decide +kernel
theorem dX2_say_6 : decode cX2_say 6 = .ok (.getfield 9, 3) := by decide +kernel
theorem dX2_say_9 : decode cX2_say 9 = .ok (.getfield 38, 3) := by decide +kernel
theorem dX2_say_12 : decode cX2_say 12 = .ok (.if_icmp .ge 95, 3) := by decide +kernel
theorem dX2_say_15 : decode cX2_say 15 = .ok (.iload_n 1, 1) := by decide +kernel
theorem dX2_say_16 : decode cX2_say 16 = .ok (.ifCond .eq 91, 3) := by decide +kernel
theorem dX2_say_19 : decode cX2_say 19 = .ok (.aload_n 0, 1) := by decide +kernel
theorem dX2_say_20 : decode cX2_say 20 = .ok (.getfield 29, 3) := by decide +kernel
theorem dX2_say_23 : decode cX2_say 23 = .ok (.iconst 4, 1) := by decide +kernel
theorem dX2_say_24 : decode cX2_say 24 = .ok (.if_icmp .ne 31, 3) := by decide +kernel
theorem dX2_say_27 : decode cX2_say 27 = .ok (.aload_n 0, 1) := by decide +kernel
theorem dX2_say_28 : decode cX2_say 28 = .ok (.getfield 15, 3) := by decide +kernel
theorem dX2_say_31 : decode cX2_say 31 = .ok (.bipush 45, 2) := by decide +kernel
theorem dX2_say_33 : decode cX2_say 33 = .ok (.aload_n 0, 1) := by decide +kernel
theorem dX2_say_34 : decode cX2_say 34 = .ok (.getfield 9, 3) := by decide +kernel
theorem dX2_say_37 : decode cX2_say 37 = .ok (.aload_n 0, 1) := by decide +kernel
theorem dX2_say_38 : decode cX2_say 38 = .ok (.getfield 19, 3) := by decide +kernel
theorem dX2_say_41 : decode cX2_say 41 = .ok (.invokevirtual 173, 3) := by decide +kernel
theorem dX2_say_44 : decode cX2_say 44 = .ok (.invokevirtual 176, 3) := by decide +kernel
theorem dX2_say_47 : decode cX2_say 47 = .ok (.pop, 1) := by decide +kernel
theorem dX2_say_48 : decode cX2_say 48 = .ok (.aload_n 0, 1) := by decide +kernel
theorem dX2_say_49 : decode cX2_say 49 = .ok (.invokevirtual 107, 3) := by decide +kernel
theorem dX2_say_52 : decode cX2_say 52 = .ok (.goto 42, 3) := by decide +kernel
theorem dX2_say_55 : decode cX2_say 55 = .ok (.aload_n 0, 1) := by decide +kernel
theorem dX2_say_56 : decode cX2_say 56 = .ok (.sipush 229, 3) := by decide +kernel
theorem dX2_say_59 : decode cX2_say 59 = .ok (.invokevirtual 126, 3) := by decide +kernel
theorem dX2_say_62 : decode cX2_say 62 = .ok (.ifCond .eq 19, 3) := by decide +kernel
theorem dX2_say_65 : decode cX2_say 65 = .ok (.aload_n 0, 1) := by decide +kernel
theorem dX2_say_66 : decode cX2_say 66 = .ok (.invokevirtual 179, 3) := by decide +kernel
theorem dX2_say_69 : decode cX2_say 69 = .ok (.aload_n 0, 1) := by decide +kernel
theorem dX2_say_70 : decode cX2_say 70 = .ok (.getfield 15, 3) := by decide +kernel
theorem dX2_say_73 : decode cX2_say 73 = .ok (.bipush 21, 2) := by decide +kernel
theorem dX2_say_75 : decode cX2_say 75 = .ok (.invokevirtual 90, 3) := by decide +kernel
theorem dX2_say_78 : decode cX2_say 78 = .ok (.goto 16, 3) := by decide +kernel
theorem dX2_say_81 : decode cX2_say 81 = .ok (.aload_n 0, 1) := by decide +kernel
theorem dX2_say_82 : decode cX2_say 82 = .ok (.invokevirtual 167, 3) := by decide +kernel
theorem dX2_say_85 : decode cX2_say 85 = .ok (.aload_n 0, 1) := by decide +kernel
theorem dX2_say_86 : decode cX2_say 86 = .ok (.getfield 15, 3) := by decide +kernel
theorem dX2_say_89 : decode cX2_say 89 = .ok (.bipush 31, 2) := by decide +kernel
theorem dX2_say_91 : decode cX2_say 91 = .ok (.invokevirtual 90, 3) := by decide +kernel
theorem dX2_say_94 : decode cX2_say 94 = .ok (.aload_n 0, 1) := by decide +kernel
theorem dX2_say_95 : decode cX2_say 95 = .ok (.bipush 44, 2) := by decide +kernel
theorem dX2_say_97 : decode cX2_say 97 = .ok (.invokevirtual 126, 3) := by decide +kernel
theorem dX2_say_100 : decode cX2_say 100 = .ok (.istore_n 1, 1) := by decide +kernel
theorem dX2_say_101 : decode cX2_say 101 = .ok (.iinc 2 1, 3) := by decide +kernel
theorem dX2_say_104 : decode cX2_say 104 = .ok (.goto (-100), 3) := by decide +kernel
theorem dX2_say_107 : decode cX2_say 107 = .ok (.return_, 1) := by decide +kernel
def F_X2_say  (Γ : HS) : HR :=
  loopF (fun (again_2 : (Int32 × Int32 × HS) → HR) (s_1 : Int32 × Int32 × HS) => (
    if ((s_1.2.2 1).1 2) ≤ s_1.2.1 then (
      some (0, s_1.2.2)
    ) else (
      if s_1.1 = 0 then (
        some (0, s_1.2.2)
      ) else (
        bnd (fun  (σ_11 : HS) => (
          (F_X2_accept 44 σ_11).bind fun u_15 =>
          bnd (s_1.2.1 + 1) fun (x_17 : Int32) =>
          again_2 (u_15.1, x_17, u_15.2)
        ) : HS → HR) fun j_12 =>
        if ((s_1.2.2 2).1 3) = 4 then (
          (F_X10_worthOf ((s_1.2.2 2).1 2) s_1.2.2).bind fun u_21 =>
          bnd (mrg (fun j => j == 1) s_1.2.2 u_21.2) fun σ_23 =>
          (F_X0_add_ 45 u_21.1 σ_23).bind fun u_25 =>
          bnd (mrg (fun j => j == 5) σ_23 u_25.2) fun σ_27 =>
          (F_X2_pass σ_27).bind fun u_29 =>
          j_12  u_29.2
        ) else (
          (F_X2_accept 229 s_1.2.2).bind fun u_32 =>
          if u_32.1 = 0 then (
            (G_X2_expression u_32.2).bind fun u_36 =>
            (F_X0_add 31 u_36.2).bind fun u_38 =>
            bnd (mrg (fun j => j == 5) u_36.2 u_38.2) fun σ_40 =>
            j_12  σ_40
          ) else (
            (G_X2_primary u_32.2).bind fun u_43 =>
            (F_X0_add 21 u_43.2).bind fun u_45 =>
            bnd (mrg (fun j => j == 5) u_43.2 u_45.2) fun σ_47 =>
            j_12  σ_47
          )
        )
      )
    )
  )) FU (1, 0, Γ)
set_option maxHeartbeats 4000000 in
set_option maxRecDepth 100000 in
theorem k_X2_say (l : Launch) (dC : Nat → ClassId) (dI : Nat → Nat → Nat) (cB cC cI cJ cZ cP : ClassId) (oA : Nat → Nat) (rA : Nat → Nat → Nat) (sz : Nat)   (Γ : HS) (res : Int32 × HS) (hF : F_X2_say  Γ = some res) : Met l yX2_say (g_ws yX2_say cX2_say 3 none) ({ frames := 305, cells := 0, slots := 0, locals := 6724 }) (va_Pc [.ref (oA 2)] (g_B (dC, dI) [(cB, .byte), (cC, .char), (cI, .int), (cJ, .long), (cZ, .boolean), (cP, .object "StoryHouse$Play")] sz (b_g cB cC cI cJ cZ oA rA Γ ++ b_w cB cC cI cJ cZ oA rA Γ ++ b_c cB cC cI cJ cZ oA rA Γ) g_0)) (va_Qv (fun (_ : Unit) => True) (g_Bo (dC, dI) (va_A (b_g cB cC cI cJ cZ oA rA Γ ++ b_w cB cC cI cJ cZ oA rA Γ ++ b_c cB cC cI cJ cZ oA rA Γ) sz) (fun (_ : Unit) => (b_g cB cC cI cJ cZ oA rA res.2 ++ b_w cB cC cI cJ cZ oA rA res.2 ++ b_c cB cC cI cJ cZ oA rA res.2))) (va_A (b_g cB cC cI cJ cZ oA rA Γ ++ b_w cB cC cI cJ cZ oA rA Γ ++ b_c cB cC cI cJ cZ oA rA Γ) sz)) 0 0 (va_A (b_g cB cC cI cJ cZ oA rA Γ ++ b_w cB cC cI cJ cZ oA rA Γ ++ b_c cB cC cI cJ cZ oA rA Γ) sz) := by
  refine Met.ofW (cc := cX2_say) (maxL := 3) (ret := none) (by decide) rfl ?_
  intro p e s m args below meth c s₁ B hml hv
  obtain ⟨rfl, hsz, hP, hK, hD0, hE, hX⟩ := hv
  have hx := B.exec
  have hb := B.bytes
  have hr := B.returns
  have hts0 := atoms_spec (ws := g_ws yX2_say cX2_say 3 none) B.pre
  have hts : ∀ w ∈ lw_good, w.before ([.ref (oA 2)] : List Value).toArray s = true := fun w z => hts0 w (List.mem_cons_of_mem _ z)
  have hown : s.vm.findClass RX2 = some m.cls := findClass_of_methodNamed B.named
  have hlocks := B.notSynchronized
  subst hsz
  have hD1 := hD0.self (sz := s.heap.size)
  generalize hAe : va_A (b_g cB cC cI cJ cZ oA rA Γ ++ b_w cB cC cI cJ cZ oA rA Γ ++ b_c cB cC cI cJ cZ oA rA Γ) s.heap.size = A at hD1 hE hX ⊢
  have hA : ∀ q : Nat, s.heap.size ≤ q → A q := fun q z => by rw [← hAe]; exact Or.inr z
  have hDD : ∀ Γ : HS, va_D A (b_g cB cC cI cJ cZ oA rA Γ ++ b_w cB cC cI cJ cZ oA rA Γ ++ b_c cB cC cI cJ cZ oA rA Γ) := fun Γ9 => va_D_fst (ws := (b_g cB cC cI cJ cZ oA rA Γ ++ b_w cB cC cI cJ cZ oA rA Γ ++ b_c cB cC cI cJ cZ oA rA Γ)) (ws' := (b_g cB cC cI cJ cZ oA rA Γ9 ++ b_w cB cC cI cJ cZ oA rA Γ9 ++ b_c cB cC cI cJ cZ oA rA Γ9)) rfl hD1
  have hN := hE.1
  have hS : va_S A s.heap s.heap [] := va_S.rf
  have hl := lv_entry ([.ref (oA 2)]) (n := 3) (Nat.le_of_ble_eq_true rfl)
  rw [lg_entry_eq]
  generalize (lg_sl ([.ref (oA 2)]) ++ List.replicate (3 - (lg_sl ([.ref (oA 2)])).length) Slot.unset).toArray = ls at hl ⊢
  have hl : lv_has ls 3 [(0, .ref (oA 2))] := hl
  unfold F_X2_say at hF
  refine lv_iconst (v := 1) hx hb dX2_say_0 (by decide +kernel) ?_
  refine lv_istore_n (lv' := [(1, .int 1), (0, .ref (oA 2))]) hx hb dX2_say_1 rfl hl (by decide) rfl (fun ls hl => ?_)
  refine lv_iconst (v := 0) hx hb dX2_say_2 (by decide +kernel) ?_
  refine lv_istore_n (lv' := [(2, .int 0), (1, .int 1), (0, .ref (oA 2))]) hx hb dX2_say_3 rfl hl (by decide) rfl (fun ls hl => ?_)
  refine loopF_ind (P := fun (s_1 : Int32 × Int32 × HS) => ∀ (H : Heap) (locs : List Loc), va_P (dC, dI) vwCl (b_g cB cC cI cJ cZ oA rA s_1.2.2 ++ b_w cB cC cI cJ cZ oA rA s_1.2.2 ++ b_c cB cC cI cJ cZ oA rA s_1.2.2) H → va_S A s.heap H locs → ∀ ls : Array Slot, lv_has ls 3 [(0, .ref (oA 2)), (1, .int s_1.1), (2, .int s_1.2.1)] → W p l e (headSpec (g_ws yX2_say cX2_say 3 none) { frames := 305, cells := 0, slots := 0, locals := 6724 }).room s m ([.ref (oA 2)] : List Value).toArray below meth c H locs 0 0 (MQ below (va_Qv (fun (_ : Unit) => True) (g_Bo (dC, dI) A (fun (_ : Unit) => (b_g cB cC cI cJ cZ oA rA res.2 ++ b_w cB cC cI cJ cZ oA rA res.2 ++ b_c cB cC cI cJ cZ oA rA res.2))) A) ([.ref (oA 2)] : List Value).toArray s 0 0 A) (F0 m 4 ls [])) ?_ _ _ hF _ _ hP hS ls (lv_sub hl [2, 1, 0] rfl)
  intro again_2 s_1 ih_3 hF_4
  intro H locs hP hS ls hl
  refine lv_iload_n hx hb dX2_say_4 rfl (lv_at hl 2 rfl) ?_
  refine lv_aload_n hx hb dX2_say_5 rfl (lv_at hl 0 rfl) ?_
  refine va_get (D := (dC, dI)) (ci := 2) (v := .ref (oA 1)) (C := RX2) (T := TX2) (N := 8) hx hb hts ii_X2 hown hK hP 0 rfl rfl 0 (by decide) (hts (.fieldLink RX2 9 "StoryHouse$Grammar" "words" "LStoryHouse$Words;") wq_71) (fun _ h9 => h9) rfl dX2_say_6 ?_
  refine va_get (D := (dC, dI)) (ci := 10) (v := .int ((s_1.2.2 1).1 2)) (C := RX10) (T := TX10) (N := 12) hx hb hts ii_X10 hown hK hP 1 rfl rfl 2 (by decide) (hts (.fieldLink RX2 38 "StoryHouse$Words" "count" "I") wq_47) (fun _ h9 => h9) rfl dX2_say_9 ?_
  refine lv_icmp_ge (tgt := 107) hx hb dX2_say_12 (by decide) (fun c_5 => ?_) (fun c_5 => ?_)
  · have hF_6 := ipos c_5 hF_4
    clear hF_4
    have h9 := Option.some.inj hF_6
    subst h9
    exact W.vret hx hb hr (fun t ht hW => ⟨⟨(), rfl, trivial, m_end ht hP, hDD _⟩, hS.F ht⟩) hS.2.2 dX2_say_107
  · have hF_7 := ineg c_5 hF_4
    clear hF_4
    refine lv_iload_n hx hb dX2_say_15 rfl (lv_at hl 1 rfl) ?_
    refine lv_if_eq (tgt := 107) hx hb dX2_say_16 (by decide) (fun c_8 => ?_) (fun c_8 => ?_)
    · have hF_9 := ipos c_8 hF_7
      clear hF_7
      have h9 := Option.some.inj hF_9
      subst h9
      exact W.vret hx hb hr (fun t ht hW => ⟨⟨(), rfl, trivial, m_end ht hP, hDD _⟩, hS.F ht⟩) hS.2.2 dX2_say_107
    · have hF_10 := ineg c_8 hF_7
      clear hF_7
      refine lv_aload_n hx hb dX2_say_19 rfl (lv_at hl 0 rfl) ?_
      refine va_get (D := (dC, dI)) (ci := 2) (v := .int ((s_1.2.2 2).1 3)) (C := RX2) (T := TX2) (N := 8) hx hb hts ii_X2 hown hK hP 0 rfl rfl 3 (by decide) (hts (.fieldLink RX2 29 "StoryHouse$Grammar" "kind" "I") wq_74) (fun _ h9 => h9) rfl dX2_say_20 ?_
      refine lv_iconst (v := 4) hx hb dX2_say_23 (by decide +kernel) ?_
      obtain ⟨j_12, ej_12, hF_13⟩ := bnd_e hF_10
      clear hF_10
      have Jj_12 : ∀  (σ_11 : HS), j_12  σ_11 = some res → ∀ (H : Heap) (locs : List Loc), va_P (dC, dI) vwCl (b_g cB cC cI cJ cZ oA rA σ_11 ++ b_w cB cC cI cJ cZ oA rA σ_11 ++ b_c cB cC cI cJ cZ oA rA σ_11) H → va_S A s.heap H locs → ∀ ls : Array Slot, lv_has ls 3 [(0, .ref (oA 2)), (2, .int s_1.2.1)] → W p l e (headSpec (g_ws yX2_say cX2_say 3 none) { frames := 305, cells := 0, slots := 0, locals := 6724 }).room s m ([.ref (oA 2)] : List Value).toArray below meth c H locs 0 0 (MQ below (va_Qv (fun (_ : Unit) => True) (g_Bo (dC, dI) A (fun (_ : Unit) => (b_g cB cC cI cJ cZ oA rA res.2 ++ b_w cB cC cI cJ cZ oA rA res.2 ++ b_c cB cC cI cJ cZ oA rA res.2))) A) ([.ref (oA 2)] : List Value).toArray s 0 0 A) (F0 m 94 ls []) := by
        intro  σ_11 hF0 H locs hP hS ls hl
        subst ej_12
        have hF_14 := hF0
        clear hF0
        refine lv_aload_n hx hb dX2_say_94 rfl (lv_at hl 0 rfl) ?_
        refine lv_bipush (v := 44) hx hb dX2_say_95 (by decide +kernel) ?_
        obtain ⟨u_15, hu_15, hF_16⟩ := Option.bind_eq_some_iff.mp hF_14
        clear hF_14
        have hPc := bx_P (bs := [b_g cB cC cI cJ cZ oA rA σ_11, b_w cB cC cI cJ cZ oA rA σ_11, b_c cB cC cI cJ cZ oA rA σ_11]) (bs' := [b_g cB cC cI cJ cZ oA rA σ_11, b_w cB cC cI cJ cZ oA rA σ_11, b_c cB cC cI cJ cZ oA rA σ_11]) (ws' := (b_g cB cC cI cJ cZ oA rA σ_11 ++ b_w cB cC cI cJ cZ oA rA σ_11 ++ b_c cB cC cI cJ cZ oA rA σ_11)) hP fl_3 fl_3 [0, 1, 2] rfl
        have hDc := bx_D (bs := [b_g cB cC cI cJ cZ oA rA σ_11, b_w cB cC cI cJ cZ oA rA σ_11, b_c cB cC cI cJ cZ oA rA σ_11]) (bs' := [b_g cB cC cI cJ cZ oA rA σ_11, b_w cB cC cI cJ cZ oA rA σ_11, b_c cB cC cI cJ cZ oA rA σ_11]) (ws' := (b_g cB cC cI cJ cZ oA rA σ_11 ++ b_w cB cC cI cJ cZ oA rA σ_11 ++ b_c cB cC cI cJ cZ oA rA σ_11)) (hDD σ_11) fl_3 fl_3 [0, 1, 2] (by decide +kernel) rfl
        have hFc := bx_F (bs := [b_g cB cC cI cJ cZ oA rA σ_11, b_w cB cC cI cJ cZ oA rA σ_11, b_c cB cC cI cJ cZ oA rA σ_11]) (bs' := [b_g cB cC cI cJ cZ oA rA σ_11, b_w cB cC cI cJ cZ oA rA σ_11, b_c cB cC cI cJ cZ oA rA σ_11]) (wc := (b_g cB cC cI cJ cZ oA rA σ_11 ++ b_w cB cC cI cJ cZ oA rA σ_11 ++ b_c cB cC cI cJ cZ oA rA σ_11)) (hDD σ_11) hS hA fl_3 fl_3 [0, 1, 2] rfl
        refine g_ofi (wc := (b_g cB cC cI cJ cZ oA rA σ_11 ++ b_w cB cC cI cJ cZ oA rA σ_11 ++ b_c cB cC cI cJ cZ oA rA σ_11)) (wr := ([] : va_W)) hP (hDD σ_11) hS hFc (bx_ix [b_g cB cC cI cJ cZ oA rA σ_11, b_w cB cC cI cJ cZ oA rA σ_11, b_c cB cC cI cJ cZ oA rA σ_11] [0, 1, 2]) (bx_ix [b_g cB cC cI cJ cZ oA rA σ_11, b_w cB cC cI cJ cZ oA rA σ_11, b_c cB cC cI cJ cZ oA rA σ_11] []) (bx_C (bs := [b_g cB cC cI cJ cZ oA rA σ_11, b_w cB cC cI cJ cZ oA rA σ_11, b_c cB cC cI cJ cZ oA rA σ_11]) (bs' := [b_g cB cC cI cJ cZ oA rA σ_11, b_w cB cC cI cJ cZ oA rA σ_11, b_c cB cC cI cJ cZ oA rA σ_11]) (is := [0, 1, 2]) fl_3 fl_3 rfl) (bx_C (bs := [b_g cB cC cI cJ cZ oA rA σ_11, b_w cB cC cI cJ cZ oA rA σ_11, b_c cB cC cI cJ cZ oA rA σ_11]) (bs' := []) (is := []) fl_3 fl_0 rfl) (bx_n (by decide +kernel)) (bx_d (by decide +kernel)) (va_runV (As := [.int 44]) (rest := []) ⟨hx, hb, hml, hown, hts⟩ (k_X2_accept l dC dI cB cC cI cJ cZ cP oA rA H.size  44 σ_11 _ hu_15) (cwV 1 hts (g_gV wq_573 wq_574 wq_2003 wq_3 wq_575) rfl rfl rfl (by decide +kernel) ⟨Nat.le_of_ble_eq_true rfl, Nat.le_of_ble_eq_true rfl⟩) (g_preV g_bl0 hK hPc hDc hS hE hFc g_to0 (q0 := 0) (ci := 2) rfl rfl) rfl rfl hl.1 rfl (lv_room (Nat.le_of_ble_eq_true rfl)) dX2_say_97 ⟨Nat.le_of_ble_eq_true rfl, Nat.le_of_ble_eq_true rfl⟩) (fun r9 u9 H locs hw9 hP' hD' hS => ?_)
        clear hPc hDc hFc
        subst hw9
        have hP : va_P (dC, dI) vwCl (b_g cB cC cI cJ cZ oA rA u_15.2 ++ b_w cB cC cI cJ cZ oA rA u_15.2 ++ b_c cB cC cI cJ cZ oA rA u_15.2) H := hP'
        clear hP' hD'
        refine lv_istore_n (lv' := [(1, .int u_15.1), (0, .ref (oA 2)), (2, .int s_1.2.1)]) hx hb dX2_say_100 rfl hl (by decide) rfl (fun ls hl => ?_)
        obtain ⟨x_17, ex_17, hF_18⟩ := bnd_e hF_16
        clear hF_16
        refine lv_iinc (v := x_17) (lv' := [(2, .int x_17), (1, .int u_15.1), (0, .ref (oA 2))]) hx hb dX2_say_101 hl (k := 2) rfl (by rw [ex_17]; rfl) (by decide) rfl (fun ls hl => ?_)
        refine lv_goto (tgt := 4) hx hb dX2_say_104 (by decide) ?_
        exact ih_3 (u_15.1, x_17, u_15.2) hF_18 _ _ hP hS ls (lv_sub hl [2, 1, 0] rfl)
      refine lv_icmp_ne (tgt := 55) hx hb dX2_say_24 (by decide) (fun c_19 => ?_) (fun c_19 => ?_)
      · have hF_31 := ineg c_19 hF_13
        clear hF_13
        refine lv_aload_n hx hb dX2_say_55 rfl (lv_at hl 0 rfl) ?_
        refine lv_sipush (v := 229) hx hb dX2_say_56 (by decide +kernel) ?_
        obtain ⟨u_32, hu_32, hF_33⟩ := Option.bind_eq_some_iff.mp hF_31
        clear hF_31
        have hPc := bx_P (bs := [b_g cB cC cI cJ cZ oA rA s_1.2.2, b_w cB cC cI cJ cZ oA rA s_1.2.2, b_c cB cC cI cJ cZ oA rA s_1.2.2]) (bs' := [b_g cB cC cI cJ cZ oA rA s_1.2.2, b_w cB cC cI cJ cZ oA rA s_1.2.2, b_c cB cC cI cJ cZ oA rA s_1.2.2]) (ws' := (b_g cB cC cI cJ cZ oA rA s_1.2.2 ++ b_w cB cC cI cJ cZ oA rA s_1.2.2 ++ b_c cB cC cI cJ cZ oA rA s_1.2.2)) hP fl_3 fl_3 [0, 1, 2] rfl
        have hDc := bx_D (bs := [b_g cB cC cI cJ cZ oA rA s_1.2.2, b_w cB cC cI cJ cZ oA rA s_1.2.2, b_c cB cC cI cJ cZ oA rA s_1.2.2]) (bs' := [b_g cB cC cI cJ cZ oA rA s_1.2.2, b_w cB cC cI cJ cZ oA rA s_1.2.2, b_c cB cC cI cJ cZ oA rA s_1.2.2]) (ws' := (b_g cB cC cI cJ cZ oA rA s_1.2.2 ++ b_w cB cC cI cJ cZ oA rA s_1.2.2 ++ b_c cB cC cI cJ cZ oA rA s_1.2.2)) (hDD s_1.2.2) fl_3 fl_3 [0, 1, 2] (by decide +kernel) rfl
        have hFc := bx_F (bs := [b_g cB cC cI cJ cZ oA rA s_1.2.2, b_w cB cC cI cJ cZ oA rA s_1.2.2, b_c cB cC cI cJ cZ oA rA s_1.2.2]) (bs' := [b_g cB cC cI cJ cZ oA rA s_1.2.2, b_w cB cC cI cJ cZ oA rA s_1.2.2, b_c cB cC cI cJ cZ oA rA s_1.2.2]) (wc := (b_g cB cC cI cJ cZ oA rA s_1.2.2 ++ b_w cB cC cI cJ cZ oA rA s_1.2.2 ++ b_c cB cC cI cJ cZ oA rA s_1.2.2)) (hDD s_1.2.2) hS hA fl_3 fl_3 [0, 1, 2] rfl
        refine g_ofi (wc := (b_g cB cC cI cJ cZ oA rA s_1.2.2 ++ b_w cB cC cI cJ cZ oA rA s_1.2.2 ++ b_c cB cC cI cJ cZ oA rA s_1.2.2)) (wr := ([] : va_W)) hP (hDD s_1.2.2) hS hFc (bx_ix [b_g cB cC cI cJ cZ oA rA s_1.2.2, b_w cB cC cI cJ cZ oA rA s_1.2.2, b_c cB cC cI cJ cZ oA rA s_1.2.2] [0, 1, 2]) (bx_ix [b_g cB cC cI cJ cZ oA rA s_1.2.2, b_w cB cC cI cJ cZ oA rA s_1.2.2, b_c cB cC cI cJ cZ oA rA s_1.2.2] []) (bx_C (bs := [b_g cB cC cI cJ cZ oA rA s_1.2.2, b_w cB cC cI cJ cZ oA rA s_1.2.2, b_c cB cC cI cJ cZ oA rA s_1.2.2]) (bs' := [b_g cB cC cI cJ cZ oA rA s_1.2.2, b_w cB cC cI cJ cZ oA rA s_1.2.2, b_c cB cC cI cJ cZ oA rA s_1.2.2]) (is := [0, 1, 2]) fl_3 fl_3 rfl) (bx_C (bs := [b_g cB cC cI cJ cZ oA rA s_1.2.2, b_w cB cC cI cJ cZ oA rA s_1.2.2, b_c cB cC cI cJ cZ oA rA s_1.2.2]) (bs' := []) (is := []) fl_3 fl_0 rfl) (bx_n (by decide +kernel)) (bx_d (by decide +kernel)) (va_runV (As := [.int 229]) (rest := []) ⟨hx, hb, hml, hown, hts⟩ (k_X2_accept l dC dI cB cC cI cJ cZ cP oA rA H.size  229 s_1.2.2 _ hu_32) (cwV 1 hts (g_gV wq_573 wq_574 wq_2003 wq_3 wq_575) rfl rfl rfl (by decide +kernel) ⟨Nat.le_of_ble_eq_true rfl, Nat.le_of_ble_eq_true rfl⟩) (g_preV g_bl0 hK hPc hDc hS hE hFc g_to0 (q0 := 0) (ci := 2) rfl rfl) rfl rfl hl.1 rfl (lv_room (Nat.le_of_ble_eq_true rfl)) dX2_say_59 ⟨Nat.le_of_ble_eq_true rfl, Nat.le_of_ble_eq_true rfl⟩) (fun r9 u9 H locs hw9 hP' hD' hS => ?_)
        clear hPc hDc hFc
        subst hw9
        have hP : va_P (dC, dI) vwCl (b_g cB cC cI cJ cZ oA rA u_32.2 ++ b_w cB cC cI cJ cZ oA rA u_32.2 ++ b_c cB cC cI cJ cZ oA rA u_32.2) H := hP'
        clear hP' hD'
        refine lv_if_eq (tgt := 81) hx hb dX2_say_62 (by decide) (fun c_34 => ?_) (fun c_34 => ?_)
        · have hF_35 := ipos c_34 hF_33
          clear hF_33
          refine lv_aload_n hx hb dX2_say_81 rfl (lv_at hl 0 rfl) ?_
          obtain ⟨u_36, hu_36, hF_37⟩ := Option.bind_eq_some_iff.mp hF_35
          clear hF_35
          have hPc := bx_P (bs := [b_g cB cC cI cJ cZ oA rA u_32.2, b_w cB cC cI cJ cZ oA rA u_32.2, b_c cB cC cI cJ cZ oA rA u_32.2]) (bs' := [b_g cB cC cI cJ cZ oA rA u_32.2, b_w cB cC cI cJ cZ oA rA u_32.2, b_c cB cC cI cJ cZ oA rA u_32.2]) (ws' := (b_g cB cC cI cJ cZ oA rA u_32.2 ++ b_w cB cC cI cJ cZ oA rA u_32.2 ++ b_c cB cC cI cJ cZ oA rA u_32.2)) hP fl_3 fl_3 [0, 1, 2] rfl
          have hDc := bx_D (bs := [b_g cB cC cI cJ cZ oA rA u_32.2, b_w cB cC cI cJ cZ oA rA u_32.2, b_c cB cC cI cJ cZ oA rA u_32.2]) (bs' := [b_g cB cC cI cJ cZ oA rA u_32.2, b_w cB cC cI cJ cZ oA rA u_32.2, b_c cB cC cI cJ cZ oA rA u_32.2]) (ws' := (b_g cB cC cI cJ cZ oA rA u_32.2 ++ b_w cB cC cI cJ cZ oA rA u_32.2 ++ b_c cB cC cI cJ cZ oA rA u_32.2)) (hDD u_32.2) fl_3 fl_3 [0, 1, 2] (by decide +kernel) rfl
          have hFc := bx_F (bs := [b_g cB cC cI cJ cZ oA rA u_32.2, b_w cB cC cI cJ cZ oA rA u_32.2, b_c cB cC cI cJ cZ oA rA u_32.2]) (bs' := [b_g cB cC cI cJ cZ oA rA u_32.2, b_w cB cC cI cJ cZ oA rA u_32.2, b_c cB cC cI cJ cZ oA rA u_32.2]) (wc := (b_g cB cC cI cJ cZ oA rA u_32.2 ++ b_w cB cC cI cJ cZ oA rA u_32.2 ++ b_c cB cC cI cJ cZ oA rA u_32.2)) (hDD u_32.2) hS hA fl_3 fl_3 [0, 1, 2] rfl
          refine g_ofv (wc := (b_g cB cC cI cJ cZ oA rA u_32.2 ++ b_w cB cC cI cJ cZ oA rA u_32.2 ++ b_c cB cC cI cJ cZ oA rA u_32.2)) (wr := ([] : va_W)) hP (hDD u_32.2) hS hFc (bx_ix [b_g cB cC cI cJ cZ oA rA u_32.2, b_w cB cC cI cJ cZ oA rA u_32.2, b_c cB cC cI cJ cZ oA rA u_32.2] [0, 1, 2]) (bx_ix [b_g cB cC cI cJ cZ oA rA u_32.2, b_w cB cC cI cJ cZ oA rA u_32.2, b_c cB cC cI cJ cZ oA rA u_32.2] []) (bx_C (bs := [b_g cB cC cI cJ cZ oA rA u_32.2, b_w cB cC cI cJ cZ oA rA u_32.2, b_c cB cC cI cJ cZ oA rA u_32.2]) (bs' := [b_g cB cC cI cJ cZ oA rA u_32.2, b_w cB cC cI cJ cZ oA rA u_32.2, b_c cB cC cI cJ cZ oA rA u_32.2]) (is := [0, 1, 2]) fl_3 fl_3 rfl) (bx_C (bs := [b_g cB cC cI cJ cZ oA rA u_32.2, b_w cB cC cI cJ cZ oA rA u_32.2, b_c cB cC cI cJ cZ oA rA u_32.2]) (bs' := []) (is := []) fl_3 fl_0 rfl) (bx_n (by decide +kernel)) (bx_d (by decide +kernel)) (va_runV (As := []) (rest := []) ⟨hx, hb, hml, hown, hts⟩ (k_X2_expression l dC dI cB cC cI cJ cZ cP oA rA H.size  u_32.2 _ hu_36) (cwV 0 hts (g_gV wq_627 wq_628 wq_2016 wq_3 wq_629) rfl rfl rfl (by decide +kernel) ⟨Nat.le_of_ble_eq_true rfl, Nat.le_of_ble_eq_true rfl⟩) (g_preV g_bl0 hK hPc hDc hS hE hFc g_to0 (q0 := 0) (ci := 2) rfl rfl) rfl rfl hl.1 rfl (lv_room (Nat.le_of_ble_eq_true rfl)) dX2_say_82 ⟨Nat.le_of_ble_eq_true rfl, Nat.le_of_ble_eq_true rfl⟩) (fun u9 H locs hw9 hP' hD' hS => ?_)
          clear hPc hDc hFc
          have hP : va_P (dC, dI) vwCl (b_g cB cC cI cJ cZ oA rA u_36.2 ++ b_w cB cC cI cJ cZ oA rA u_36.2 ++ b_c cB cC cI cJ cZ oA rA u_36.2) H := hP'
          clear hP' hD'
          refine lv_aload_n hx hb dX2_say_85 rfl (lv_at hl 0 rfl) ?_
          refine va_get (D := (dC, dI)) (ci := 2) (v := .ref (oA 5)) (C := RX2) (T := TX2) (N := 8) hx hb hts ii_X2 hown hK hP 0 rfl rfl 1 (by decide) (hts (.fieldLink RX2 15 "StoryHouse$Grammar" "code" "LStoryHouse$Code;") wq_72) (fun _ h9 => h9) rfl dX2_say_86 ?_
          refine lv_bipush (v := 31) hx hb dX2_say_89 (by decide +kernel) ?_
          obtain ⟨u_38, hu_38, hF_39⟩ := Option.bind_eq_some_iff.mp hF_37
          clear hF_37
          have hPc := bx_P (bs := [b_g cB cC cI cJ cZ oA rA u_36.2, b_w cB cC cI cJ cZ oA rA u_36.2, b_c cB cC cI cJ cZ oA rA u_36.2]) (bs' := [b_c cB cC cI cJ cZ oA rA u_36.2]) (ws' := (b_c cB cC cI cJ cZ oA rA u_36.2)) hP fl_3 fl_1 [2] rfl
          have hDc := bx_D (bs := [b_g cB cC cI cJ cZ oA rA u_36.2, b_w cB cC cI cJ cZ oA rA u_36.2, b_c cB cC cI cJ cZ oA rA u_36.2]) (bs' := [b_c cB cC cI cJ cZ oA rA u_36.2]) (ws' := (b_c cB cC cI cJ cZ oA rA u_36.2)) (hDD u_36.2) fl_3 fl_1 [2] (by decide +kernel) rfl
          have hFc := bx_F (bs := [b_g cB cC cI cJ cZ oA rA u_36.2, b_w cB cC cI cJ cZ oA rA u_36.2, b_c cB cC cI cJ cZ oA rA u_36.2]) (bs' := [b_c cB cC cI cJ cZ oA rA u_36.2]) (wc := (b_c cB cC cI cJ cZ oA rA u_36.2)) (hDD u_36.2) hS hA fl_3 fl_1 [2] rfl
          refine g_ofv (wc := (b_c cB cC cI cJ cZ oA rA u_36.2)) (wr := (b_g cB cC cI cJ cZ oA rA u_36.2 ++ b_w cB cC cI cJ cZ oA rA u_36.2)) hP (hDD u_36.2) hS hFc (bx_ix [b_g cB cC cI cJ cZ oA rA u_36.2, b_w cB cC cI cJ cZ oA rA u_36.2, b_c cB cC cI cJ cZ oA rA u_36.2] [2]) (bx_ix [b_g cB cC cI cJ cZ oA rA u_36.2, b_w cB cC cI cJ cZ oA rA u_36.2, b_c cB cC cI cJ cZ oA rA u_36.2] [0, 1]) (bx_C (bs := [b_g cB cC cI cJ cZ oA rA u_36.2, b_w cB cC cI cJ cZ oA rA u_36.2, b_c cB cC cI cJ cZ oA rA u_36.2]) (bs' := [b_c cB cC cI cJ cZ oA rA u_36.2]) (is := [2]) fl_3 fl_1 rfl) (bx_C (bs := [b_g cB cC cI cJ cZ oA rA u_36.2, b_w cB cC cI cJ cZ oA rA u_36.2, b_c cB cC cI cJ cZ oA rA u_36.2]) (bs' := [b_g cB cC cI cJ cZ oA rA u_36.2, b_w cB cC cI cJ cZ oA rA u_36.2]) (is := [0, 1]) fl_3 fl_2 rfl) (bx_n (by decide +kernel)) (bx_d (by decide +kernel)) (va_runV (As := [.int 31]) (rest := []) ⟨hx, hb, hml, hown, hts⟩ (k_X0_add l dC dI cB cC cI cJ cZ cP oA rA H.size  31 u_36.2 _ hu_38) (cwV 1 hts (g_gV wq_636 wq_637 wq_638 wq_6 wq_639) rfl rfl rfl (by decide +kernel) ⟨Nat.le_of_ble_eq_true rfl, Nat.le_of_ble_eq_true rfl⟩) (g_preV g_bl0 hK hPc hDc hS hE hFc g_to0 (q0 := 0) (ci := 0) rfl rfl) rfl rfl hl.1 rfl (lv_room (Nat.le_of_ble_eq_true rfl)) dX2_say_91 ⟨Nat.le_of_ble_eq_true rfl, Nat.le_of_ble_eq_true rfl⟩) (fun u9 H locs hw9 hP' hD' hS => ?_)
          clear hPc hDc hFc
          obtain ⟨σ_40, eσ_40, hF_41⟩ := bnd_e hF_39
          clear hF_39
          have hP : va_P (dC, dI) vwCl (b_g cB cC cI cJ cZ oA rA σ_40 ++ b_w cB cC cI cJ cZ oA rA σ_40 ++ b_c cB cC cI cJ cZ oA rA σ_40) H := by rw [eσ_40]; exact bx_P (bs := [b_g cB cC cI cJ cZ oA rA u_36.2, b_w cB cC cI cJ cZ oA rA u_36.2] ++ [b_c cB cC cI cJ cZ oA rA u_38.2]) (bs' := [b_g cB cC cI cJ cZ oA rA (mrg (fun j => j == 5) u_36.2 u_38.2), b_w cB cC cI cJ cZ oA rA (mrg (fun j => j == 5) u_36.2 u_38.2), b_c cB cC cI cJ cZ oA rA (mrg (fun j => j == 5) u_36.2 u_38.2)]) hP' (fl_a fl_2 fl_1) fl_3 [0, 1, 2] rfl
          clear hP' hD'
          exact Jj_12  σ_40 hF_41 _ _ hP hS ls (lv_sub hl [0, 2] rfl)
        · have hF_42 := ineg c_34 hF_33
          clear hF_33
          refine lv_aload_n hx hb dX2_say_65 rfl (lv_at hl 0 rfl) ?_
          obtain ⟨u_43, hu_43, hF_44⟩ := Option.bind_eq_some_iff.mp hF_42
          clear hF_42
          have hPc := bx_P (bs := [b_g cB cC cI cJ cZ oA rA u_32.2, b_w cB cC cI cJ cZ oA rA u_32.2, b_c cB cC cI cJ cZ oA rA u_32.2]) (bs' := [b_g cB cC cI cJ cZ oA rA u_32.2, b_w cB cC cI cJ cZ oA rA u_32.2, b_c cB cC cI cJ cZ oA rA u_32.2]) (ws' := (b_g cB cC cI cJ cZ oA rA u_32.2 ++ b_w cB cC cI cJ cZ oA rA u_32.2 ++ b_c cB cC cI cJ cZ oA rA u_32.2)) hP fl_3 fl_3 [0, 1, 2] rfl
          have hDc := bx_D (bs := [b_g cB cC cI cJ cZ oA rA u_32.2, b_w cB cC cI cJ cZ oA rA u_32.2, b_c cB cC cI cJ cZ oA rA u_32.2]) (bs' := [b_g cB cC cI cJ cZ oA rA u_32.2, b_w cB cC cI cJ cZ oA rA u_32.2, b_c cB cC cI cJ cZ oA rA u_32.2]) (ws' := (b_g cB cC cI cJ cZ oA rA u_32.2 ++ b_w cB cC cI cJ cZ oA rA u_32.2 ++ b_c cB cC cI cJ cZ oA rA u_32.2)) (hDD u_32.2) fl_3 fl_3 [0, 1, 2] (by decide +kernel) rfl
          have hFc := bx_F (bs := [b_g cB cC cI cJ cZ oA rA u_32.2, b_w cB cC cI cJ cZ oA rA u_32.2, b_c cB cC cI cJ cZ oA rA u_32.2]) (bs' := [b_g cB cC cI cJ cZ oA rA u_32.2, b_w cB cC cI cJ cZ oA rA u_32.2, b_c cB cC cI cJ cZ oA rA u_32.2]) (wc := (b_g cB cC cI cJ cZ oA rA u_32.2 ++ b_w cB cC cI cJ cZ oA rA u_32.2 ++ b_c cB cC cI cJ cZ oA rA u_32.2)) (hDD u_32.2) hS hA fl_3 fl_3 [0, 1, 2] rfl
          refine g_ofv (wc := (b_g cB cC cI cJ cZ oA rA u_32.2 ++ b_w cB cC cI cJ cZ oA rA u_32.2 ++ b_c cB cC cI cJ cZ oA rA u_32.2)) (wr := ([] : va_W)) hP (hDD u_32.2) hS hFc (bx_ix [b_g cB cC cI cJ cZ oA rA u_32.2, b_w cB cC cI cJ cZ oA rA u_32.2, b_c cB cC cI cJ cZ oA rA u_32.2] [0, 1, 2]) (bx_ix [b_g cB cC cI cJ cZ oA rA u_32.2, b_w cB cC cI cJ cZ oA rA u_32.2, b_c cB cC cI cJ cZ oA rA u_32.2] []) (bx_C (bs := [b_g cB cC cI cJ cZ oA rA u_32.2, b_w cB cC cI cJ cZ oA rA u_32.2, b_c cB cC cI cJ cZ oA rA u_32.2]) (bs' := [b_g cB cC cI cJ cZ oA rA u_32.2, b_w cB cC cI cJ cZ oA rA u_32.2, b_c cB cC cI cJ cZ oA rA u_32.2]) (is := [0, 1, 2]) fl_3 fl_3 rfl) (bx_C (bs := [b_g cB cC cI cJ cZ oA rA u_32.2, b_w cB cC cI cJ cZ oA rA u_32.2, b_c cB cC cI cJ cZ oA rA u_32.2]) (bs' := []) (is := []) fl_3 fl_0 rfl) (bx_n (by decide +kernel)) (bx_d (by decide +kernel)) (va_runV (As := []) (rest := []) ⟨hx, hb, hml, hown, hts⟩ (k_X2_primary l dC dI cB cC cI cJ cZ cP oA rA H.size  u_32.2 _ hu_43) (cwV 0 hts (g_gV wq_649 wq_650 wq_2022 wq_3 wq_651) rfl rfl rfl (by decide +kernel) ⟨Nat.le_of_ble_eq_true rfl, Nat.le_of_ble_eq_true rfl⟩) (g_preV g_bl0 hK hPc hDc hS hE hFc g_to0 (q0 := 0) (ci := 2) rfl rfl) rfl rfl hl.1 rfl (lv_room (Nat.le_of_ble_eq_true rfl)) dX2_say_66 ⟨Nat.le_of_ble_eq_true rfl, Nat.le_of_ble_eq_true rfl⟩) (fun u9 H locs hw9 hP' hD' hS => ?_)
          clear hPc hDc hFc
          have hP : va_P (dC, dI) vwCl (b_g cB cC cI cJ cZ oA rA u_43.2 ++ b_w cB cC cI cJ cZ oA rA u_43.2 ++ b_c cB cC cI cJ cZ oA rA u_43.2) H := hP'
          clear hP' hD'
          refine lv_aload_n hx hb dX2_say_69 rfl (lv_at hl 0 rfl) ?_
          refine va_get (D := (dC, dI)) (ci := 2) (v := .ref (oA 5)) (C := RX2) (T := TX2) (N := 8) hx hb hts ii_X2 hown hK hP 0 rfl rfl 1 (by decide) (hts (.fieldLink RX2 15 "StoryHouse$Grammar" "code" "LStoryHouse$Code;") wq_72) (fun _ h9 => h9) rfl dX2_say_70 ?_
          refine lv_bipush (v := 21) hx hb dX2_say_73 (by decide +kernel) ?_
          obtain ⟨u_45, hu_45, hF_46⟩ := Option.bind_eq_some_iff.mp hF_44
          clear hF_44
          have hPc := bx_P (bs := [b_g cB cC cI cJ cZ oA rA u_43.2, b_w cB cC cI cJ cZ oA rA u_43.2, b_c cB cC cI cJ cZ oA rA u_43.2]) (bs' := [b_c cB cC cI cJ cZ oA rA u_43.2]) (ws' := (b_c cB cC cI cJ cZ oA rA u_43.2)) hP fl_3 fl_1 [2] rfl
          have hDc := bx_D (bs := [b_g cB cC cI cJ cZ oA rA u_43.2, b_w cB cC cI cJ cZ oA rA u_43.2, b_c cB cC cI cJ cZ oA rA u_43.2]) (bs' := [b_c cB cC cI cJ cZ oA rA u_43.2]) (ws' := (b_c cB cC cI cJ cZ oA rA u_43.2)) (hDD u_43.2) fl_3 fl_1 [2] (by decide +kernel) rfl
          have hFc := bx_F (bs := [b_g cB cC cI cJ cZ oA rA u_43.2, b_w cB cC cI cJ cZ oA rA u_43.2, b_c cB cC cI cJ cZ oA rA u_43.2]) (bs' := [b_c cB cC cI cJ cZ oA rA u_43.2]) (wc := (b_c cB cC cI cJ cZ oA rA u_43.2)) (hDD u_43.2) hS hA fl_3 fl_1 [2] rfl
          refine g_ofv (wc := (b_c cB cC cI cJ cZ oA rA u_43.2)) (wr := (b_g cB cC cI cJ cZ oA rA u_43.2 ++ b_w cB cC cI cJ cZ oA rA u_43.2)) hP (hDD u_43.2) hS hFc (bx_ix [b_g cB cC cI cJ cZ oA rA u_43.2, b_w cB cC cI cJ cZ oA rA u_43.2, b_c cB cC cI cJ cZ oA rA u_43.2] [2]) (bx_ix [b_g cB cC cI cJ cZ oA rA u_43.2, b_w cB cC cI cJ cZ oA rA u_43.2, b_c cB cC cI cJ cZ oA rA u_43.2] [0, 1]) (bx_C (bs := [b_g cB cC cI cJ cZ oA rA u_43.2, b_w cB cC cI cJ cZ oA rA u_43.2, b_c cB cC cI cJ cZ oA rA u_43.2]) (bs' := [b_c cB cC cI cJ cZ oA rA u_43.2]) (is := [2]) fl_3 fl_1 rfl) (bx_C (bs := [b_g cB cC cI cJ cZ oA rA u_43.2, b_w cB cC cI cJ cZ oA rA u_43.2, b_c cB cC cI cJ cZ oA rA u_43.2]) (bs' := [b_g cB cC cI cJ cZ oA rA u_43.2, b_w cB cC cI cJ cZ oA rA u_43.2]) (is := [0, 1]) fl_3 fl_2 rfl) (bx_n (by decide +kernel)) (bx_d (by decide +kernel)) (va_runV (As := [.int 21]) (rest := []) ⟨hx, hb, hml, hown, hts⟩ (k_X0_add l dC dI cB cC cI cJ cZ cP oA rA H.size  21 u_43.2 _ hu_45) (cwV 1 hts (g_gV wq_636 wq_637 wq_638 wq_6 wq_639) rfl rfl rfl (by decide +kernel) ⟨Nat.le_of_ble_eq_true rfl, Nat.le_of_ble_eq_true rfl⟩) (g_preV g_bl0 hK hPc hDc hS hE hFc g_to0 (q0 := 0) (ci := 0) rfl rfl) rfl rfl hl.1 rfl (lv_room (Nat.le_of_ble_eq_true rfl)) dX2_say_75 ⟨Nat.le_of_ble_eq_true rfl, Nat.le_of_ble_eq_true rfl⟩) (fun u9 H locs hw9 hP' hD' hS => ?_)
          clear hPc hDc hFc
          obtain ⟨σ_47, eσ_47, hF_48⟩ := bnd_e hF_46
          clear hF_46
          have hP : va_P (dC, dI) vwCl (b_g cB cC cI cJ cZ oA rA σ_47 ++ b_w cB cC cI cJ cZ oA rA σ_47 ++ b_c cB cC cI cJ cZ oA rA σ_47) H := by rw [eσ_47]; exact bx_P (bs := [b_g cB cC cI cJ cZ oA rA u_43.2, b_w cB cC cI cJ cZ oA rA u_43.2] ++ [b_c cB cC cI cJ cZ oA rA u_45.2]) (bs' := [b_g cB cC cI cJ cZ oA rA (mrg (fun j => j == 5) u_43.2 u_45.2), b_w cB cC cI cJ cZ oA rA (mrg (fun j => j == 5) u_43.2 u_45.2), b_c cB cC cI cJ cZ oA rA (mrg (fun j => j == 5) u_43.2 u_45.2)]) hP' (fl_a fl_2 fl_1) fl_3 [0, 1, 2] rfl
          clear hP' hD'
          refine lv_goto (tgt := 94) hx hb dX2_say_78 (by decide) ?_
          exact Jj_12  σ_47 hF_48 _ _ hP hS ls (lv_sub hl [0, 2] rfl)
      · have hF_20 := ipos c_19 hF_13
        clear hF_13
        refine lv_aload_n hx hb dX2_say_27 rfl (lv_at hl 0 rfl) ?_
        refine va_get (D := (dC, dI)) (ci := 2) (v := .ref (oA 5)) (C := RX2) (T := TX2) (N := 8) hx hb hts ii_X2 hown hK hP 0 rfl rfl 1 (by decide) (hts (.fieldLink RX2 15 "StoryHouse$Grammar" "code" "LStoryHouse$Code;") wq_72) (fun _ h9 => h9) rfl dX2_say_28 ?_
        refine lv_bipush (v := 45) hx hb dX2_say_31 (by decide +kernel) ?_
        refine lv_aload_n hx hb dX2_say_33 rfl (lv_at hl 0 rfl) ?_
        refine va_get (D := (dC, dI)) (ci := 2) (v := .ref (oA 1)) (C := RX2) (T := TX2) (N := 8) hx hb hts ii_X2 hown hK hP 0 rfl rfl 0 (by decide) (hts (.fieldLink RX2 9 "StoryHouse$Grammar" "words" "LStoryHouse$Words;") wq_71) (fun _ h9 => h9) rfl dX2_say_34 ?_
        refine lv_aload_n hx hb dX2_say_37 rfl (lv_at hl 0 rfl) ?_
        refine va_get (D := (dC, dI)) (ci := 2) (v := .int ((s_1.2.2 2).1 2)) (C := RX2) (T := TX2) (N := 8) hx hb hts ii_X2 hown hK hP 0 rfl rfl 2 (by decide) (hts (.fieldLink RX2 19 "StoryHouse$Grammar" "at" "I") wq_73) (fun _ h9 => h9) rfl dX2_say_38 ?_
        obtain ⟨u_21, hu_21, hF_22⟩ := Option.bind_eq_some_iff.mp hF_20
        clear hF_20
        have hPc := bx_P (bs := [b_g cB cC cI cJ cZ oA rA s_1.2.2, b_w cB cC cI cJ cZ oA rA s_1.2.2, b_c cB cC cI cJ cZ oA rA s_1.2.2]) (bs' := [b_w cB cC cI cJ cZ oA rA s_1.2.2]) (ws' := (b_w cB cC cI cJ cZ oA rA s_1.2.2)) hP fl_3 fl_1 [1] rfl
        have hDc := bx_D (bs := [b_g cB cC cI cJ cZ oA rA s_1.2.2, b_w cB cC cI cJ cZ oA rA s_1.2.2, b_c cB cC cI cJ cZ oA rA s_1.2.2]) (bs' := [b_w cB cC cI cJ cZ oA rA s_1.2.2]) (ws' := (b_w cB cC cI cJ cZ oA rA s_1.2.2)) (hDD s_1.2.2) fl_3 fl_1 [1] (by decide +kernel) rfl
        have hFc := bx_F (bs := [b_g cB cC cI cJ cZ oA rA s_1.2.2, b_w cB cC cI cJ cZ oA rA s_1.2.2, b_c cB cC cI cJ cZ oA rA s_1.2.2]) (bs' := [b_w cB cC cI cJ cZ oA rA s_1.2.2]) (wc := (b_w cB cC cI cJ cZ oA rA s_1.2.2)) (hDD s_1.2.2) hS hA fl_3 fl_1 [1] rfl
        refine g_ofi (wc := (b_w cB cC cI cJ cZ oA rA s_1.2.2)) (wr := (b_g cB cC cI cJ cZ oA rA s_1.2.2 ++ b_c cB cC cI cJ cZ oA rA s_1.2.2)) hP (hDD s_1.2.2) hS hFc (bx_ix [b_g cB cC cI cJ cZ oA rA s_1.2.2, b_w cB cC cI cJ cZ oA rA s_1.2.2, b_c cB cC cI cJ cZ oA rA s_1.2.2] [1]) (bx_ix [b_g cB cC cI cJ cZ oA rA s_1.2.2, b_w cB cC cI cJ cZ oA rA s_1.2.2, b_c cB cC cI cJ cZ oA rA s_1.2.2] [0, 2]) (bx_C (bs := [b_g cB cC cI cJ cZ oA rA s_1.2.2, b_w cB cC cI cJ cZ oA rA s_1.2.2, b_c cB cC cI cJ cZ oA rA s_1.2.2]) (bs' := [b_w cB cC cI cJ cZ oA rA s_1.2.2]) (is := [1]) fl_3 fl_1 rfl) (bx_C (bs := [b_g cB cC cI cJ cZ oA rA s_1.2.2, b_w cB cC cI cJ cZ oA rA s_1.2.2, b_c cB cC cI cJ cZ oA rA s_1.2.2]) (bs' := [b_g cB cC cI cJ cZ oA rA s_1.2.2, b_c cB cC cI cJ cZ oA rA s_1.2.2]) (is := [0, 2]) fl_3 fl_2 rfl) (bx_n (by decide +kernel)) (bx_d (by decide +kernel)) (va_runV (As := [.int ((s_1.2.2 2).1 2)]) (rest := [.int 45, .ref (oA 5)]) ⟨hx, hb, hml, hown, hts⟩ (k_X10_worthOf l dC dI cB cC cI cJ cZ cP oA rA H.size  ((s_1.2.2 2).1 2) s_1.2.2 _ hu_21) (cwV 1 hts (g_gV wq_652 wq_653 wq_654 wq_2 wq_655) rfl rfl rfl (by decide +kernel) ⟨Nat.le_of_ble_eq_true rfl, Nat.le_of_ble_eq_true rfl⟩) (g_preV g_bl0 hK hPc hDc hS hE hFc g_to0 (q0 := 0) (ci := 10) rfl rfl) rfl rfl hl.1 rfl (lv_room (Nat.le_of_ble_eq_true rfl)) dX2_say_41 ⟨Nat.le_of_ble_eq_true rfl, Nat.le_of_ble_eq_true rfl⟩) (fun r9 u9 H locs hw9 hP' hD' hS => ?_)
        clear hPc hDc hFc
        subst hw9
        obtain ⟨σ_23, eσ_23, hF_24⟩ := bnd_e hF_22
        clear hF_22
        have hP : va_P (dC, dI) vwCl (b_g cB cC cI cJ cZ oA rA σ_23 ++ b_w cB cC cI cJ cZ oA rA σ_23 ++ b_c cB cC cI cJ cZ oA rA σ_23) H := by rw [eσ_23]; exact bx_P (bs := [b_g cB cC cI cJ cZ oA rA s_1.2.2, b_c cB cC cI cJ cZ oA rA s_1.2.2] ++ [b_w cB cC cI cJ cZ oA rA u_21.2]) (bs' := [b_g cB cC cI cJ cZ oA rA (mrg (fun j => j == 1) s_1.2.2 u_21.2), b_w cB cC cI cJ cZ oA rA (mrg (fun j => j == 1) s_1.2.2 u_21.2), b_c cB cC cI cJ cZ oA rA (mrg (fun j => j == 1) s_1.2.2 u_21.2)]) hP' (fl_a fl_2 fl_1) fl_3 [0, 2, 1] rfl
        clear hP' hD'
        obtain ⟨u_25, hu_25, hF_26⟩ := Option.bind_eq_some_iff.mp hF_24
        clear hF_24
        have hPc := bx_P (bs := [b_g cB cC cI cJ cZ oA rA σ_23, b_w cB cC cI cJ cZ oA rA σ_23, b_c cB cC cI cJ cZ oA rA σ_23]) (bs' := [b_c cB cC cI cJ cZ oA rA σ_23]) (ws' := (b_c cB cC cI cJ cZ oA rA σ_23)) hP fl_3 fl_1 [2] rfl
        have hDc := bx_D (bs := [b_g cB cC cI cJ cZ oA rA σ_23, b_w cB cC cI cJ cZ oA rA σ_23, b_c cB cC cI cJ cZ oA rA σ_23]) (bs' := [b_c cB cC cI cJ cZ oA rA σ_23]) (ws' := (b_c cB cC cI cJ cZ oA rA σ_23)) (hDD σ_23) fl_3 fl_1 [2] (by decide +kernel) rfl
        have hFc := bx_F (bs := [b_g cB cC cI cJ cZ oA rA σ_23, b_w cB cC cI cJ cZ oA rA σ_23, b_c cB cC cI cJ cZ oA rA σ_23]) (bs' := [b_c cB cC cI cJ cZ oA rA σ_23]) (wc := (b_c cB cC cI cJ cZ oA rA σ_23)) (hDD σ_23) hS hA fl_3 fl_1 [2] rfl
        refine g_ofi (wc := (b_c cB cC cI cJ cZ oA rA σ_23)) (wr := (b_g cB cC cI cJ cZ oA rA σ_23 ++ b_w cB cC cI cJ cZ oA rA σ_23)) hP (hDD σ_23) hS hFc (bx_ix [b_g cB cC cI cJ cZ oA rA σ_23, b_w cB cC cI cJ cZ oA rA σ_23, b_c cB cC cI cJ cZ oA rA σ_23] [2]) (bx_ix [b_g cB cC cI cJ cZ oA rA σ_23, b_w cB cC cI cJ cZ oA rA σ_23, b_c cB cC cI cJ cZ oA rA σ_23] [0, 1]) (bx_C (bs := [b_g cB cC cI cJ cZ oA rA σ_23, b_w cB cC cI cJ cZ oA rA σ_23, b_c cB cC cI cJ cZ oA rA σ_23]) (bs' := [b_c cB cC cI cJ cZ oA rA σ_23]) (is := [2]) fl_3 fl_1 rfl) (bx_C (bs := [b_g cB cC cI cJ cZ oA rA σ_23, b_w cB cC cI cJ cZ oA rA σ_23, b_c cB cC cI cJ cZ oA rA σ_23]) (bs' := [b_g cB cC cI cJ cZ oA rA σ_23, b_w cB cC cI cJ cZ oA rA σ_23]) (is := [0, 1]) fl_3 fl_2 rfl) (bx_n (by decide +kernel)) (bx_d (by decide +kernel)) (va_runV (As := [.int 45, .int u_21.1]) (rest := []) ⟨hx, hb, hml, hown, hts⟩ (k_X0_add_ l dC dI cB cC cI cJ cZ cP oA rA H.size  45 u_21.1 σ_23 _ hu_25) (cwV 2 hts (g_gV wq_656 wq_657 wq_658 wq_6 wq_659) rfl rfl rfl (by decide +kernel) ⟨Nat.le_of_ble_eq_true rfl, Nat.le_of_ble_eq_true rfl⟩) (g_preV g_bl0 hK hPc hDc hS hE hFc g_to0 (q0 := 0) (ci := 0) rfl rfl) rfl rfl hl.1 rfl (lv_room (Nat.le_of_ble_eq_true rfl)) dX2_say_44 ⟨Nat.le_of_ble_eq_true rfl, Nat.le_of_ble_eq_true rfl⟩) (fun r9 u9 H locs hw9 hP' hD' hS => ?_)
        clear hPc hDc hFc
        subst hw9
        obtain ⟨σ_27, eσ_27, hF_28⟩ := bnd_e hF_26
        clear hF_26
        have hP : va_P (dC, dI) vwCl (b_g cB cC cI cJ cZ oA rA σ_27 ++ b_w cB cC cI cJ cZ oA rA σ_27 ++ b_c cB cC cI cJ cZ oA rA σ_27) H := by rw [eσ_27]; exact bx_P (bs := [b_g cB cC cI cJ cZ oA rA σ_23, b_w cB cC cI cJ cZ oA rA σ_23] ++ [b_c cB cC cI cJ cZ oA rA u_25.2]) (bs' := [b_g cB cC cI cJ cZ oA rA (mrg (fun j => j == 5) σ_23 u_25.2), b_w cB cC cI cJ cZ oA rA (mrg (fun j => j == 5) σ_23 u_25.2), b_c cB cC cI cJ cZ oA rA (mrg (fun j => j == 5) σ_23 u_25.2)]) hP' (fl_a fl_2 fl_1) fl_3 [0, 1, 2] rfl
        clear hP' hD'
        refine lv_pop hx hb dX2_say_47 rfl ?_
        refine lv_aload_n hx hb dX2_say_48 rfl (lv_at hl 0 rfl) ?_
        obtain ⟨u_29, hu_29, hF_30⟩ := Option.bind_eq_some_iff.mp hF_28
        clear hF_28
        have hPc := bx_P (bs := [b_g cB cC cI cJ cZ oA rA σ_27, b_w cB cC cI cJ cZ oA rA σ_27, b_c cB cC cI cJ cZ oA rA σ_27]) (bs' := [b_g cB cC cI cJ cZ oA rA σ_27, b_w cB cC cI cJ cZ oA rA σ_27, b_c cB cC cI cJ cZ oA rA σ_27]) (ws' := (b_g cB cC cI cJ cZ oA rA σ_27 ++ b_w cB cC cI cJ cZ oA rA σ_27 ++ b_c cB cC cI cJ cZ oA rA σ_27)) hP fl_3 fl_3 [0, 1, 2] rfl
        have hDc := bx_D (bs := [b_g cB cC cI cJ cZ oA rA σ_27, b_w cB cC cI cJ cZ oA rA σ_27, b_c cB cC cI cJ cZ oA rA σ_27]) (bs' := [b_g cB cC cI cJ cZ oA rA σ_27, b_w cB cC cI cJ cZ oA rA σ_27, b_c cB cC cI cJ cZ oA rA σ_27]) (ws' := (b_g cB cC cI cJ cZ oA rA σ_27 ++ b_w cB cC cI cJ cZ oA rA σ_27 ++ b_c cB cC cI cJ cZ oA rA σ_27)) (hDD σ_27) fl_3 fl_3 [0, 1, 2] (by decide +kernel) rfl
        have hFc := bx_F (bs := [b_g cB cC cI cJ cZ oA rA σ_27, b_w cB cC cI cJ cZ oA rA σ_27, b_c cB cC cI cJ cZ oA rA σ_27]) (bs' := [b_g cB cC cI cJ cZ oA rA σ_27, b_w cB cC cI cJ cZ oA rA σ_27, b_c cB cC cI cJ cZ oA rA σ_27]) (wc := (b_g cB cC cI cJ cZ oA rA σ_27 ++ b_w cB cC cI cJ cZ oA rA σ_27 ++ b_c cB cC cI cJ cZ oA rA σ_27)) (hDD σ_27) hS hA fl_3 fl_3 [0, 1, 2] rfl
        refine g_ofv (wc := (b_g cB cC cI cJ cZ oA rA σ_27 ++ b_w cB cC cI cJ cZ oA rA σ_27 ++ b_c cB cC cI cJ cZ oA rA σ_27)) (wr := ([] : va_W)) hP (hDD σ_27) hS hFc (bx_ix [b_g cB cC cI cJ cZ oA rA σ_27, b_w cB cC cI cJ cZ oA rA σ_27, b_c cB cC cI cJ cZ oA rA σ_27] [0, 1, 2]) (bx_ix [b_g cB cC cI cJ cZ oA rA σ_27, b_w cB cC cI cJ cZ oA rA σ_27, b_c cB cC cI cJ cZ oA rA σ_27] []) (bx_C (bs := [b_g cB cC cI cJ cZ oA rA σ_27, b_w cB cC cI cJ cZ oA rA σ_27, b_c cB cC cI cJ cZ oA rA σ_27]) (bs' := [b_g cB cC cI cJ cZ oA rA σ_27, b_w cB cC cI cJ cZ oA rA σ_27, b_c cB cC cI cJ cZ oA rA σ_27]) (is := [0, 1, 2]) fl_3 fl_3 rfl) (bx_C (bs := [b_g cB cC cI cJ cZ oA rA σ_27, b_w cB cC cI cJ cZ oA rA σ_27, b_c cB cC cI cJ cZ oA rA σ_27]) (bs' := []) (is := []) fl_3 fl_0 rfl) (bx_n (by decide +kernel)) (bx_d (by decide +kernel)) (va_runV (As := []) (rest := []) ⟨hx, hb, hml, hown, hts⟩ (k_X2_pass l dC dI cB cC cI cJ cZ cP oA rA H.size  σ_27 _ hu_29) (cwV 0 hts (g_gV wq_555 wq_556 wq_1997 wq_3 wq_557) rfl rfl rfl (by decide +kernel) ⟨Nat.le_of_ble_eq_true rfl, Nat.le_of_ble_eq_true rfl⟩) (g_preV g_bl0 hK hPc hDc hS hE hFc g_to0 (q0 := 0) (ci := 2) rfl rfl) rfl rfl hl.1 rfl (lv_room (Nat.le_of_ble_eq_true rfl)) dX2_say_49 ⟨Nat.le_of_ble_eq_true rfl, Nat.le_of_ble_eq_true rfl⟩) (fun u9 H locs hw9 hP' hD' hS => ?_)
        clear hPc hDc hFc
        have hP : va_P (dC, dI) vwCl (b_g cB cC cI cJ cZ oA rA u_29.2 ++ b_w cB cC cI cJ cZ oA rA u_29.2 ++ b_c cB cC cI cJ cZ oA rA u_29.2) H := hP'
        clear hP' hD'
        refine lv_goto (tgt := 94) hx hb dX2_say_52 (by decide) ?_
        exact Jj_12  u_29.2 hF_30 _ _ hP hS ls (lv_sub hl [0, 2] rfl)
