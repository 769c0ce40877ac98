/-! methods of the class: what each does is its function -/
theorem dX4_ownWords_0 : decode cX4_ownWords 0 = .ok (.iload_n 2, 1) := by decide +kernel
theorem dX4_ownWords_1 : decode cX4_ownWords 1 = .ok (.istore_n 3, 1) := by decide +kernel
theorem dX4_ownWords_2 : decode cX4_ownWords 2 = .ok (.iload_n 3, 1) := by decide +kernel
theorem dX4_ownWords_3 : decode cX4_ownWords 3 = .ok (.aload_n 0, 1) := by decide +kernel
theorem dX4_ownWords_4 : decode cX4_ownWords 4 = .ok (.getfield 32, 3) := by decide +kernel
theorem dX4_ownWords_7 : decode cX4_ownWords 7 = .ok (.getfield 53, 3) := by decide +kernel
theorem dX4_ownWords_10 : decode cX4_ownWords 10 = .ok (.if_icmp .ge 69, 3) := by decide +kernel
theorem dX4_ownWords_13 : decode cX4_ownWords 13 = .ok (.aload_n 0, 1) := by decide +kernel
theorem dX4_ownWords_14 : decode cX4_ownWords 14 = .ok (.getfield 32, 3) := by decide +kernel
theorem dX4_ownWords_17 : decode cX4_ownWords 17 = .ok (.iload_n 3, 1) := by decide +kernel
theorem dX4_ownWords_18 : decode cX4_ownWords 18 = .ok (.invokevirtual 116, 3) := by decide +kernel
theorem dX4_ownWords_21 : decode cX4_ownWords 21 = .ok (.iconst 2, 1) := by decide +kernel
theorem dX4_ownWords_22 : decode cX4_ownWords 22 = .ok (.if_icmp .eq 16, 3) := by decide +kernel
theorem dX4_ownWords_25 : decode cX4_ownWords 25 = .ok (.aload_n 0, 1) := by decide +kernel
theorem dX4_ownWords_26 : decode cX4_ownWords 26 = .ok (.getfield 32, 3) := by decide +kernel
theorem dX4_ownWords_29 : decode cX4_ownWords 29 = .ok (.iload_n 3, 1) := by decide +kernel
theorem dX4_ownWords_30 : decode cX4_ownWords 30 = .ok (.invokevirtual 116, 3) := by decide +kernel
theorem dX4_ownWords_33 : decode cX4_ownWords 33 = .ok (.bipush 44, 2) := by decide +kernel
theorem dX4_ownWords_35 : decode cX4_ownWords 35 = .ok (.if_icmp .ne 44, 3) := by decide +kernel
theorem dX4_ownWords_38 : decode cX4_ownWords 38 = .ok (.aload_n 0, 1) := by decide +kernel
theorem dX4_ownWords_39 : decode cX4_ownWords 39 = .ok (.getfield 32, 3) := by decide +kernel
theorem dX4_ownWords_42 : decode cX4_ownWords 42 = .ok (.iload_n 3, 1) := by decide +kernel
theorem dX4_ownWords_43 : decode cX4_ownWords 43 = .ok (.invokevirtual 116, 3) := by decide +kernel
theorem dX4_ownWords_46 : decode cX4_ownWords 46 = .ok (.iconst 2, 1) := by decide +kernel
theorem dX4_ownWords_47 : decode cX4_ownWords 47 = .ok (.if_icmp .ne 26, 3) := by decide +kernel
theorem dX4_ownWords_50 : decode cX4_ownWords 50 = .ok (.aload_n 0, 1) := by decide +kernel
theorem dX4_ownWords_51 : decode cX4_ownWords 51 = .ok (.getfield 36, 3) := by decide +kernel
theorem dX4_ownWords_54 : decode cX4_ownWords 54 = .ok (.iload_n 1, 1) := by decide +kernel
theorem dX4_ownWords_55 : decode cX4_ownWords 55 = .ok (.aload_n 0, 1) := by decide +kernel
theorem dX4_ownWords_56 : decode cX4_ownWords 56 = .ok (.getfield 32, 3) := by decide +kernel
theorem dX4_ownWords_59 : decode cX4_ownWords 59 = .ok (.aload_n 0, 1) := by decide +kernel
theorem dX4_ownWords_60 : decode cX4_ownWords 60 = .ok (.getfield 32, 3) := by decide +kernel
theorem dX4_ownWords_63 : decode cX4_ownWords 63 = .ok (.iload_n 3, 1) := by decide +kernel
theorem dX4_ownWords_64 : decode cX4_ownWords 64 = .ok (.invokevirtual 119, 3) := by decide +kernel
theorem dX4_ownWords_67 : decode cX4_ownWords 67 = .ok (.invokevirtual 230, 3) := by decide +kernel
theorem dX4_ownWords_70 : decode cX4_ownWords 70 = .ok (.invokevirtual 234, 3) := by decide +kernel
theorem dX4_ownWords_73 : decode cX4_ownWords 73 = .ok (.iinc 3 1, 3) := by decide +kernel
theorem dX4_ownWords_76 : decode cX4_ownWords 76 = .ok (.goto (-74), 3) := by decide +kernel
theorem dX4_ownWords_79 : decode cX4_ownWords 79 = .ok (.iload_n 3, 1) := by decide +kernel
theorem dX4_ownWords_80 : decode cX4_ownWords 80 = .ok (.ireturn, 1) := by decide +kernel
def F_X4_ownWords (p0 : Int32) (p1 : Int32) (Γ : HS) : HR :=
  loopF (fun (again_2 : (Int32 × HS) → HR) (s_1 : Int32 × HS) => (
    if ((s_1.2 1).1 2) ≤ s_1.1 then (
      some (s_1.1, s_1.2)
    ) else (
      (F_X10_kindOf s_1.1 s_1.2).bind fun u_8 =>
      bnd (mrg (fun j => j == 1) s_1.2 u_8.2) fun σ_10 =>
      bnd (fun  (σ_12 : HS) => (
        (F_X10_kindOf s_1.1 σ_12).bind fun u_16 =>
        bnd (mrg (fun j => j == 1) σ_12 u_16.2) fun σ_18 =>
        bnd (fun  (σ_20 : HS) => (
          bnd (s_1.1 + 1) fun (x_24 : Int32) =>
          again_2 (x_24, σ_20)
        ) : HS → HR) fun j_21 =>
        if u_16.1 = 2 then (
          (F_X10_worthOf s_1.1 σ_18).bind fun u_28 =>
          bnd (mrg (fun j => j == 1) σ_18 u_28.2) fun σ_30 =>
          (F_X10_termOf u_28.1 σ_30).bind fun u_32 =>
          bnd (mrg (fun j => j == 1) σ_30 u_32.2) fun σ_34 =>
          (F_X7_addWord p0 u_32.1 σ_34).bind fun u_36 =>
          bnd (mrg (fun j => j == 4 || j == 5 || j == 6 || j == 7) σ_34 u_36.2) fun σ_38 =>
          j_21  σ_38
        ) else (
          j_21  σ_18
        )
      ) : HS → HR) fun j_13 =>
      if u_8.1 = 2 then (
        j_13  σ_10
      ) else (
        (F_X10_kindOf s_1.1 σ_10).bind fun u_44 =>
        bnd (mrg (fun j => j == 1) σ_10 u_44.2) fun σ_46 =>
        if u_44.1 = 44 then (
          j_13  σ_46
        ) else (
          some (s_1.1, σ_46)
        )
      )
    )
  )) FU (p1, Γ)
set_option maxHeartbeats 4000000 in
set_option maxRecDepth 100000 in
theorem k_X4_ownWords (l : Launch) (dC : Nat → ClassId) (dI : Nat → Nat → Nat) (cB cC cI cJ cZ cP : ClassId) (oA : Nat → Nat) (rA : Nat → Nat → Nat) (sz : Nat)  (p0 : Int32) (p1 : Int32) (Γ : HS) (res : Int32 × HS) (hF : F_X4_ownWords p0 p1 Γ = some res) : Met l yX4_ownWords (g_ws yX4_ownWords cX4_ownWords 4 (some .int)) ({ frames := 5, cells := 0, slots := 0, locals := 129 }) (va_Pc [.ref (oA 3), .int p0, .int p1] (g_B (dC, dI) [(cB, .byte), (cC, .char), (cI, .int), (cJ, .long), (cZ, .boolean), (cP, .object "StoryHouse$Play")] sz (b_m cB cC cI cJ cZ oA rA Γ ++ b_w cB cC cI cJ cZ oA rA Γ ++ b_s cB cC cI cJ cZ oA rA Γ ++ b_c cB cC cI cJ cZ oA rA Γ ++ b_t cB cC cI cJ cZ oA rA Γ ++ b_d cB cC cI cJ cZ oA rA Γ) g_0)) (va_Qi (fun r (_ : Unit) => r = res.1) (g_Bo (dC, dI) (va_A (b_m cB cC cI cJ cZ oA rA Γ ++ b_w cB cC cI cJ cZ oA rA Γ ++ b_s cB cC cI cJ cZ oA rA Γ ++ b_c cB cC cI cJ cZ oA rA Γ ++ b_t cB cC cI cJ cZ oA rA Γ ++ b_d cB cC cI cJ cZ oA rA Γ) sz) (fun (_ : Unit) => (b_m cB cC cI cJ cZ oA rA res.2 ++ b_w cB cC cI cJ cZ oA rA res.2 ++ b_s cB cC cI cJ cZ oA rA res.2 ++ b_c cB cC cI cJ cZ oA rA res.2 ++ b_t cB cC cI cJ cZ oA rA res.2 ++ b_d cB cC cI cJ cZ oA rA res.2))) (va_A (b_m cB cC cI cJ cZ oA rA Γ ++ b_w cB cC cI cJ cZ oA rA Γ ++ b_s cB cC cI cJ cZ oA rA Γ ++ b_c cB cC cI cJ cZ oA rA Γ ++ b_t cB cC cI cJ cZ oA rA Γ ++ b_d cB cC cI cJ cZ oA rA Γ) sz)) 0 0 (va_A (b_m cB cC cI cJ cZ oA rA Γ ++ b_w cB cC cI cJ cZ oA rA Γ ++ b_s cB cC cI cJ cZ oA rA Γ ++ b_c cB cC cI cJ cZ oA rA Γ ++ b_t cB cC cI cJ cZ oA rA Γ ++ b_d cB cC cI cJ cZ oA rA Γ) sz) := by
  refine Met.ofW (cc := cX4_ownWords) (maxL := 4) (ret := (some .int)) (by decide) rfl ?_
  intro p e s m args below meth c s₁ B hml hv
  obtain ⟨rfl, hsz, hP, hK, hD0, hE, hX⟩ := hv
  have hx := B.exec
  have hb := B.bytes
  have hr := B.returns
  have hts0 := atoms_spec (ws := g_ws yX4_ownWords cX4_ownWords 4 (some .int)) B.pre
  have hts : ∀ w ∈ lw_good, w.before ([.ref (oA 3), .int p0, .int p1] : List Value).toArray s = true := fun w z => hts0 w (List.mem_cons_of_mem _ z)
  have hown : s.vm.findClass RX4 = some m.cls := findClass_of_methodNamed B.named
  have hlocks := B.notSynchronized
  subst hsz
  have hD1 := hD0.self (sz := s.heap.size)
  generalize hAe : va_A (b_m cB cC cI cJ cZ oA rA Γ ++ b_w cB cC cI cJ cZ oA rA Γ ++ b_s cB cC cI cJ cZ oA rA Γ ++ b_c cB cC cI cJ cZ oA rA Γ ++ b_t cB cC cI cJ cZ oA rA Γ ++ b_d cB cC cI cJ cZ oA rA Γ) s.heap.size = A at hD1 hE hX ⊢
  have hA : ∀ q : Nat, s.heap.size ≤ q → A q := fun q z => by rw [← hAe]; exact Or.inr z
  have hDD : ∀ Γ : HS, va_D A (b_m cB cC cI cJ cZ oA rA Γ ++ b_w cB cC cI cJ cZ oA rA Γ ++ b_s cB cC cI cJ cZ oA rA Γ ++ b_c cB cC cI cJ cZ oA rA Γ ++ b_t cB cC cI cJ cZ oA rA Γ ++ b_d cB cC cI cJ cZ oA rA Γ) := fun Γ9 => va_D_fst (ws := (b_m cB cC cI cJ cZ oA rA Γ ++ b_w cB cC cI cJ cZ oA rA Γ ++ b_s cB cC cI cJ cZ oA rA Γ ++ b_c cB cC cI cJ cZ oA rA Γ ++ b_t cB cC cI cJ cZ oA rA Γ ++ b_d cB cC cI cJ cZ oA rA Γ)) (ws' := (b_m cB cC cI cJ cZ oA rA Γ9 ++ b_w cB cC cI cJ cZ oA rA Γ9 ++ b_s cB cC cI cJ cZ oA rA Γ9 ++ b_c cB cC cI cJ cZ oA rA Γ9 ++ b_t cB cC cI cJ cZ oA rA Γ9 ++ b_d cB cC cI cJ cZ oA rA Γ9)) rfl hD1
  have hN := hE.1
  have hS : va_S A s.heap s.heap [] := va_S.rf
  have hl := lv_entry ([.ref (oA 3), .int p0, .int p1]) (n := 4) (Nat.le_of_ble_eq_true rfl)
  rw [lg_entry_eq]
  generalize (lg_sl ([.ref (oA 3), .int p0, .int p1]) ++ List.replicate (4 - (lg_sl ([.ref (oA 3), .int p0, .int p1])).length) Slot.unset).toArray = ls at hl ⊢
  have hl : lv_has ls 4 [(0, .ref (oA 3)), (1, .int p0), (2, .int p1)] := hl
  unfold F_X4_ownWords at hF
  refine lv_iload_n hx hb dX4_ownWords_0 rfl (lv_at hl 2 rfl) ?_
  refine lv_istore_n (lv' := [(3, .int p1), (0, .ref (oA 3)), (1, .int p0), (2, .int p1)]) hx hb dX4_ownWords_1 rfl hl (by decide) rfl (fun ls hl => ?_)
  refine loopF_ind (P := fun (s_1 : Int32 × HS) => ∀ (H : Heap) (locs : List Loc), va_P (dC, dI) vwCl (b_m cB cC cI cJ cZ oA rA s_1.2 ++ b_w cB cC cI cJ cZ oA rA s_1.2 ++ b_s cB cC cI cJ cZ oA rA s_1.2 ++ b_c cB cC cI cJ cZ oA rA s_1.2 ++ b_t cB cC cI cJ cZ oA rA s_1.2 ++ b_d cB cC cI cJ cZ oA rA s_1.2) H → va_S A s.heap H locs → ∀ ls : Array Slot, lv_has ls 4 [(0, .ref (oA 3)), (1, .int p0), (3, .int s_1.1)] → W p l e (headSpec (g_ws yX4_ownWords cX4_ownWords 4 (some .int)) { frames := 5, cells := 0, slots := 0, locals := 129 }).room s m ([.ref (oA 3), .int p0, .int p1] : List Value).toArray below meth c H locs 0 0 (MQ below (va_Qi (fun r (_ : Unit) => r = res.1) (g_Bo (dC, dI) A (fun (_ : Unit) => (b_m cB cC cI cJ cZ oA rA res.2 ++ b_w cB cC cI cJ cZ oA rA res.2 ++ b_s cB cC cI cJ cZ oA rA res.2 ++ b_c cB cC cI cJ cZ oA rA res.2 ++ b_t cB cC cI cJ cZ oA rA res.2 ++ b_d cB cC cI cJ cZ oA rA res.2))) A) ([.ref (oA 3), .int p0, .int p1] : List Value).toArray s 0 0 A) (F0 m 2 ls [])) ?_ _ _ hF _ _ hP hS ls (lv_sub hl [1, 2, 0] rfl)
  intro again_2 s_1 ih_3 hF_4
  intro H locs hP hS ls hl
  refine lv_iload_n hx hb dX4_ownWords_2 rfl (lv_at hl 2 rfl) ?_
  refine lv_aload_n hx hb dX4_ownWords_3 rfl (lv_at hl 0 rfl) ?_
  refine va_get (D := (dC, dI)) (ci := 4) (v := .ref (oA 1)) (C := RX4) (T := TX4) (N := 18) hx hb hts ii_X4 hown hK hP 0 rfl rfl 0 (by decide) (hts (.fieldLink RX4 32 "StoryHouse$Meanings" "words" "LStoryHouse$Words;") wq_86) (fun _ h9 => h9) rfl dX4_ownWords_4 ?_
  refine va_get (D := (dC, dI)) (ci := 10) (v := .int ((s_1.2 1).1 2)) (C := RX10) (T := TX10) (N := 12) hx hb hts ii_X10 hown hK hP 7 rfl rfl 2 (by decide) (hts (.fieldLink RX4 53 "StoryHouse$Words" "count" "I") wq_45) (fun _ h9 => h9) rfl dX4_ownWords_7 ?_
  refine lv_icmp_ge (tgt := 79) hx hb dX4_ownWords_10 (by decide) (fun c_5 => ?_) (fun c_5 => ?_)
  · have hF_6 := ipos c_5 hF_4
    clear hF_4
    refine lv_iload_n hx hb dX4_ownWords_79 rfl (lv_at hl 2 rfl) ?_
    have h9 := Option.some.inj hF_6
    subst h9
    exact W.iret (v := s_1.1) hx hb hr (fun t ht hW => ⟨⟨s_1.1, (), rfl, rfl, m_end ht hP, hDD _⟩, hS.F ht⟩) hS.2.2 dX4_ownWords_80
  · have hF_7 := ineg c_5 hF_4
    clear hF_4
    refine lv_aload_n hx hb dX4_ownWords_13 rfl (lv_at hl 0 rfl) ?_
    refine va_get (D := (dC, dI)) (ci := 4) (v := .ref (oA 1)) (C := RX4) (T := TX4) (N := 18) hx hb hts ii_X4 hown hK hP 0 rfl rfl 0 (by decide) (hts (.fieldLink RX4 32 "StoryHouse$Meanings" "words" "LStoryHouse$Words;") wq_86) (fun _ h9 => h9) rfl dX4_ownWords_14 ?_
    refine lv_iload_n hx hb dX4_ownWords_17 rfl (lv_at hl 2 rfl) ?_
    obtain ⟨u_8, hu_8, hF_9⟩ := Option.bind_eq_some_iff.mp hF_7
    clear hF_7
    have hPc := bx_P (bs := [b_m cB cC cI cJ cZ oA rA s_1.2, b_w cB cC cI cJ cZ oA rA s_1.2, b_s cB cC cI cJ cZ oA rA s_1.2, b_c cB cC cI cJ cZ oA rA s_1.2, b_t cB cC cI cJ cZ oA rA s_1.2, b_d cB cC cI cJ cZ oA rA s_1.2]) (bs' := [b_w cB cC cI cJ cZ oA rA s_1.2]) (ws' := (b_w cB cC cI cJ cZ oA rA s_1.2)) hP fl_6 fl_1 [1] rfl
    have hDc := bx_D (bs := [b_m cB cC cI cJ cZ oA rA s_1.2, b_w cB cC cI cJ cZ oA rA s_1.2, b_s cB cC cI cJ cZ oA rA s_1.2, b_c cB cC cI cJ cZ oA rA s_1.2, b_t cB cC cI cJ cZ oA rA s_1.2, b_d cB cC cI cJ cZ oA rA s_1.2]) (bs' := [b_w cB cC cI cJ cZ oA rA s_1.2]) (ws' := (b_w cB cC cI cJ cZ oA rA s_1.2)) (hDD s_1.2) fl_6 fl_1 [1] (by decide +kernel) rfl
    have hFc := bx_F (bs := [b_m cB cC cI cJ cZ oA rA s_1.2, b_w cB cC cI cJ cZ oA rA s_1.2, b_s cB cC cI cJ cZ oA rA s_1.2, b_c cB cC cI cJ cZ oA rA s_1.2, b_t cB cC cI cJ cZ oA rA s_1.2, b_d cB cC cI cJ cZ oA rA s_1.2]) (bs' := [b_w cB cC cI cJ cZ oA rA s_1.2]) (wc := (b_w cB cC cI cJ cZ oA rA s_1.2)) (hDD s_1.2) hS hA fl_6 fl_1 [1] rfl
    refine g_ofi (wc := (b_w cB cC cI cJ cZ oA rA s_1.2)) (wr := (b_m cB cC cI cJ cZ oA rA s_1.2 ++ b_s cB cC cI cJ cZ oA rA s_1.2 ++ b_c cB cC cI cJ cZ oA rA s_1.2 ++ b_t cB cC cI cJ cZ oA rA s_1.2 ++ b_d cB cC cI cJ cZ oA rA s_1.2)) hP (hDD s_1.2) hS hFc (bx_ix [b_m cB cC cI cJ cZ oA rA s_1.2, b_w cB cC cI cJ cZ oA rA s_1.2, b_s cB cC cI cJ cZ oA rA s_1.2, b_c cB cC cI cJ cZ oA rA s_1.2, b_t cB cC cI cJ cZ oA rA s_1.2, b_d cB cC cI cJ cZ oA rA s_1.2] [1]) (bx_ix [b_m cB cC cI cJ cZ oA rA s_1.2, b_w cB cC cI cJ cZ oA rA s_1.2, b_s cB cC cI cJ cZ oA rA s_1.2, b_c cB cC cI cJ cZ oA rA s_1.2, b_t cB cC cI cJ cZ oA rA s_1.2, b_d cB cC cI cJ cZ oA rA s_1.2] [0, 2, 3, 4, 5]) (bx_C (bs := [b_m cB cC cI cJ cZ oA rA s_1.2, b_w cB cC cI cJ cZ oA rA s_1.2, b_s cB cC cI cJ cZ oA rA s_1.2, b_c cB cC cI cJ cZ oA rA s_1.2, b_t cB cC cI cJ cZ oA rA s_1.2, b_d cB cC cI cJ cZ oA rA s_1.2]) (bs' := [b_w cB cC cI cJ cZ oA rA s_1.2]) (is := [1]) fl_6 fl_1 rfl) (bx_C (bs := [b_m cB cC cI cJ cZ oA rA s_1.2, b_w cB cC cI cJ cZ oA rA s_1.2, b_s cB cC cI cJ cZ oA rA s_1.2, b_c cB cC cI cJ cZ oA rA s_1.2, b_t cB cC cI cJ cZ oA rA s_1.2, b_d cB cC cI cJ cZ oA rA s_1.2]) (bs' := [b_m cB cC cI cJ cZ oA rA s_1.2, b_s cB cC cI cJ cZ oA rA s_1.2, b_c cB cC cI cJ cZ oA rA s_1.2, b_t cB cC cI cJ cZ oA rA s_1.2, b_d cB cC cI cJ cZ oA rA s_1.2]) (is := [0, 2, 3, 4, 5]) fl_6 fl_5 rfl) (bx_n (by decide +kernel)) (bx_d (by decide +kernel)) (va_runV (As := [.int s_1.1]) (rest := []) ⟨hx, hb, hml, hown, hts⟩ (k_X10_kindOf l dC dI cB cC cI cJ cZ cP oA rA H.size  s_1.1 s_1.2 _ hu_8) (cwV 1 hts (g_gV wq_714 wq_543 wq_544 wq_2 wq_545) rfl rfl rfl (by decide +kernel) ⟨Nat.le_of_ble_eq_true rfl, Nat.le_of_ble_eq_true rfl⟩) (g_preV g_bl0 hK hPc hDc hS hE hFc g_to0 (q0 := 0) (ci := 10) rfl rfl) rfl rfl hl.1 rfl (lv_room (Nat.le_of_ble_eq_true rfl)) dX4_ownWords_18 ⟨Nat.le_of_ble_eq_true rfl, Nat.le_of_ble_eq_true rfl⟩) (fun r9 u9 H locs hw9 hP' hD' hS => ?_)
    clear hPc hDc hFc
    subst hw9
    obtain ⟨σ_10, eσ_10, hF_11⟩ := bnd_e hF_9
    clear hF_9
    have hP : va_P (dC, dI) vwCl (b_m cB cC cI cJ cZ oA rA σ_10 ++ b_w cB cC cI cJ cZ oA rA σ_10 ++ b_s cB cC cI cJ cZ oA rA σ_10 ++ b_c cB cC cI cJ cZ oA rA σ_10 ++ b_t cB cC cI cJ cZ oA rA σ_10 ++ b_d cB cC cI cJ cZ oA rA σ_10) H := by rw [eσ_10]; exact bx_P (bs := [b_m cB cC cI cJ cZ oA rA s_1.2, b_s cB cC cI cJ cZ oA rA s_1.2, b_c cB cC cI cJ cZ oA rA s_1.2, b_t cB cC cI cJ cZ oA rA s_1.2, b_d cB cC cI cJ cZ oA rA s_1.2] ++ [b_w cB cC cI cJ cZ oA rA u_8.2]) (bs' := [b_m cB cC cI cJ cZ oA rA (mrg (fun j => j == 1) s_1.2 u_8.2), b_w cB cC cI cJ cZ oA rA (mrg (fun j => j == 1) s_1.2 u_8.2), b_s cB cC cI cJ cZ oA rA (mrg (fun j => j == 1) s_1.2 u_8.2), b_c cB cC cI cJ cZ oA rA (mrg (fun j => j == 1) s_1.2 u_8.2), b_t cB cC cI cJ cZ oA rA (mrg (fun j => j == 1) s_1.2 u_8.2), b_d cB cC cI cJ cZ oA rA (mrg (fun j => j == 1) s_1.2 u_8.2)]) hP' (fl_a fl_5 fl_1) fl_6 [0, 5, 1, 2, 3, 4] rfl
    clear hP' hD'
    refine lv_iconst (v := 2) hx hb dX4_ownWords_21 (by decide +kernel) ?_
    obtain ⟨j_13, ej_13, hF_14⟩ := bnd_e hF_11
    clear hF_11
    have Jj_13 : ∀  (σ_12 : HS), j_13  σ_12 = some res → ∀ (H : Heap) (locs : List Loc), va_P (dC, dI) vwCl (b_m cB cC cI cJ cZ oA rA σ_12 ++ b_w cB cC cI cJ cZ oA rA σ_12 ++ b_s cB cC cI cJ cZ oA rA σ_12 ++ b_c cB cC cI cJ cZ oA rA σ_12 ++ b_t cB cC cI cJ cZ oA rA σ_12 ++ b_d cB cC cI cJ cZ oA rA σ_12) H → va_S A s.heap H locs → ∀ ls : Array Slot, lv_has ls 4 [(0, .ref (oA 3)), (1, .int p0), (3, .int s_1.1)] → W p l e (headSpec (g_ws yX4_ownWords cX4_ownWords 4 (some .int)) { frames := 5, cells := 0, slots := 0, locals := 129 }).room s m ([.ref (oA 3), .int p0, .int p1] : List Value).toArray below meth c H locs 0 0 (MQ below (va_Qi (fun r (_ : Unit) => r = res.1) (g_Bo (dC, dI) A (fun (_ : Unit) => (b_m cB cC cI cJ cZ oA rA res.2 ++ b_w cB cC cI cJ cZ oA rA res.2 ++ b_s cB cC cI cJ cZ oA rA res.2 ++ b_c cB cC cI cJ cZ oA rA res.2 ++ b_t cB cC cI cJ cZ oA rA res.2 ++ b_d cB cC cI cJ cZ oA rA res.2))) A) ([.ref (oA 3), .int p0, .int p1] : List Value).toArray s 0 0 A) (F0 m 38 ls []) := by
      intro  σ_12 hF0 H locs hP hS ls hl
      subst ej_13
      have hF_15 := hF0
      clear hF0
      refine lv_aload_n hx hb dX4_ownWords_38 rfl (lv_at hl 0 rfl) ?_
      refine va_get (D := (dC, dI)) (ci := 4) (v := .ref (oA 1)) (C := RX4) (T := TX4) (N := 18) hx hb hts ii_X4 hown hK hP 0 rfl rfl 0 (by decide) (hts (.fieldLink RX4 32 "StoryHouse$Meanings" "words" "LStoryHouse$Words;") wq_86) (fun _ h9 => h9) rfl dX4_ownWords_39 ?_
      refine lv_iload_n hx hb dX4_ownWords_42 rfl (lv_at hl 2 rfl) ?_
      obtain ⟨u_16, hu_16, hF_17⟩ := Option.bind_eq_some_iff.mp hF_15
      clear hF_15
      have hPc := bx_P (bs := [b_m cB cC cI cJ cZ oA rA σ_12, b_w cB cC cI cJ cZ oA rA σ_12, b_s cB cC cI cJ cZ oA rA σ_12, b_c cB cC cI cJ cZ oA rA σ_12, b_t cB cC cI cJ cZ oA rA σ_12, b_d cB cC cI cJ cZ oA rA σ_12]) (bs' := [b_w cB cC cI cJ cZ oA rA σ_12]) (ws' := (b_w cB cC cI cJ cZ oA rA σ_12)) hP fl_6 fl_1 [1] rfl
      have hDc := bx_D (bs := [b_m cB cC cI cJ cZ oA rA σ_12, b_w cB cC cI cJ cZ oA rA σ_12, b_s cB cC cI cJ cZ oA rA σ_12, b_c cB cC cI cJ cZ oA rA σ_12, b_t cB cC cI cJ cZ oA rA σ_12, b_d cB cC cI cJ cZ oA rA σ_12]) (bs' := [b_w cB cC cI cJ cZ oA rA σ_12]) (ws' := (b_w cB cC cI cJ cZ oA rA σ_12)) (hDD σ_12) fl_6 fl_1 [1] (by decide +kernel) rfl
      have hFc := bx_F (bs := [b_m cB cC cI cJ cZ oA rA σ_12, b_w cB cC cI cJ cZ oA rA σ_12, b_s cB cC cI cJ cZ oA rA σ_12, b_c cB cC cI cJ cZ oA rA σ_12, b_t cB cC cI cJ cZ oA rA σ_12, b_d cB cC cI cJ cZ oA rA σ_12]) (bs' := [b_w cB cC cI cJ cZ oA rA σ_12]) (wc := (b_w cB cC cI cJ cZ oA rA σ_12)) (hDD σ_12) hS hA fl_6 fl_1 [1] rfl
      refine g_ofi (wc := (b_w cB cC cI cJ cZ oA rA σ_12)) (wr := (b_m cB cC cI cJ cZ oA rA σ_12 ++ b_s cB cC cI cJ cZ oA rA σ_12 ++ b_c cB cC cI cJ cZ oA rA σ_12 ++ b_t cB cC cI cJ cZ oA rA σ_12 ++ b_d cB cC cI cJ cZ oA rA σ_12)) hP (hDD σ_12) hS hFc (bx_ix [b_m cB cC cI cJ cZ oA rA σ_12, b_w cB cC cI cJ cZ oA rA σ_12, b_s cB cC cI cJ cZ oA rA σ_12, b_c cB cC cI cJ cZ oA rA σ_12, b_t cB cC cI cJ cZ oA rA σ_12, b_d cB cC cI cJ cZ oA rA σ_12] [1]) (bx_ix [b_m cB cC cI cJ cZ oA rA σ_12, b_w cB cC cI cJ cZ oA rA σ_12, b_s cB cC cI cJ cZ oA rA σ_12, b_c cB cC cI cJ cZ oA rA σ_12, b_t cB cC cI cJ cZ oA rA σ_12, b_d cB cC cI cJ cZ oA rA σ_12] [0, 2, 3, 4, 5]) (bx_C (bs := [b_m cB cC cI cJ cZ oA rA σ_12, b_w cB cC cI cJ cZ oA rA σ_12, b_s cB cC cI cJ cZ oA rA σ_12, b_c cB cC cI cJ cZ oA rA σ_12, b_t cB cC cI cJ cZ oA rA σ_12, b_d cB cC cI cJ cZ oA rA σ_12]) (bs' := [b_w cB cC cI cJ cZ oA rA σ_12]) (is := [1]) fl_6 fl_1 rfl) (bx_C (bs := [b_m cB cC cI cJ cZ oA rA σ_12, b_w cB cC cI cJ cZ oA rA σ_12, b_s cB cC cI cJ cZ oA rA σ_12, b_c cB cC cI cJ cZ oA rA σ_12, b_t cB cC cI cJ cZ oA rA σ_12, b_d cB cC cI cJ cZ oA rA σ_12]) (bs' := [b_m cB cC cI cJ cZ oA rA σ_12, b_s cB cC cI cJ cZ oA rA σ_12, b_c cB cC cI cJ cZ oA rA σ_12, b_t cB cC cI cJ cZ oA rA σ_12, b_d cB cC cI cJ cZ oA rA σ_12]) (is := [0, 2, 3, 4, 5]) fl_6 fl_5 rfl) (bx_n (by decide +kernel)) (bx_d (by decide +kernel)) (va_runV (As := [.int s_1.1]) (rest := []) ⟨hx, hb, hml, hown, hts⟩ (k_X10_kindOf l dC dI cB cC cI cJ cZ cP oA rA H.size  s_1.1 σ_12 _ hu_16) (cwV 1 hts (g_gV wq_714 wq_543 wq_544 wq_2 wq_545) rfl rfl rfl (by decide +kernel) ⟨Nat.le_of_ble_eq_true rfl, Nat.le_of_ble_eq_true rfl⟩) (g_preV g_bl0 hK hPc hDc hS hE hFc g_to0 (q0 := 0) (ci := 10) rfl rfl) rfl rfl hl.1 rfl (lv_room (Nat.le_of_ble_eq_true rfl)) dX4_ownWords_43 ⟨Nat.le_of_ble_eq_true rfl, Nat.le_of_ble_eq_true rfl⟩) (fun r9 u9 H locs hw9 hP' hD' hS => ?_)
      clear hPc hDc hFc
      subst hw9
      obtain ⟨σ_18, eσ_18, hF_19⟩ := bnd_e hF_17
      clear hF_17
      have hP : va_P (dC, dI) vwCl (b_m cB cC cI cJ cZ oA rA σ_18 ++ b_w cB cC cI cJ cZ oA rA σ_18 ++ b_s cB cC cI cJ cZ oA rA σ_18 ++ b_c cB cC cI cJ cZ oA rA σ_18 ++ b_t cB cC cI cJ cZ oA rA σ_18 ++ b_d cB cC cI cJ cZ oA rA σ_18) H := by rw [eσ_18]; exact bx_P (bs := [b_m cB cC cI cJ cZ oA rA σ_12, b_s cB cC cI cJ cZ oA rA σ_12, b_c cB cC cI cJ cZ oA rA σ_12, b_t cB cC cI cJ cZ oA rA σ_12, b_d cB cC cI cJ cZ oA rA σ_12] ++ [b_w cB cC cI cJ cZ oA rA u_16.2]) (bs' := [b_m cB cC cI cJ cZ oA rA (mrg (fun j => j == 1) σ_12 u_16.2), b_w cB cC cI cJ cZ oA rA (mrg (fun j => j == 1) σ_12 u_16.2), b_s cB cC cI cJ cZ oA rA (mrg (fun j => j == 1) σ_12 u_16.2), b_c cB cC cI cJ cZ oA rA (mrg (fun j => j == 1) σ_12 u_16.2), b_t cB cC cI cJ cZ oA rA (mrg (fun j => j == 1) σ_12 u_16.2), b_d cB cC cI cJ cZ oA rA (mrg (fun j => j == 1) σ_12 u_16.2)]) hP' (fl_a fl_5 fl_1) fl_6 [0, 5, 1, 2, 3, 4] rfl
      clear hP' hD'
      refine lv_iconst (v := 2) hx hb dX4_ownWords_46 (by decide +kernel) ?_
      obtain ⟨j_21, ej_21, hF_22⟩ := bnd_e hF_19
      clear hF_19
      have Jj_21 : ∀  (σ_20 : HS), j_21  σ_20 = some res → ∀ (H : Heap) (locs : List Loc), va_P (dC, dI) vwCl (b_m cB cC cI cJ cZ oA rA σ_20 ++ b_w cB cC cI cJ cZ oA rA σ_20 ++ b_s cB cC cI cJ cZ oA rA σ_20 ++ b_c cB cC cI cJ cZ oA rA σ_20 ++ b_t cB cC cI cJ cZ oA rA σ_20 ++ b_d cB cC cI cJ cZ oA rA σ_20) H → va_S A s.heap H locs → ∀ ls : Array Slot, lv_has ls 4 [(0, .ref (oA 3)), (1, .int p0), (3, .int s_1.1)] → W p l e (headSpec (g_ws yX4_ownWords cX4_ownWords 4 (some .int)) { frames := 5, cells := 0, slots := 0, locals := 129 }).room s m ([.ref (oA 3), .int p0, .int p1] : List Value).toArray below meth c H locs 0 0 (MQ below (va_Qi (fun r (_ : Unit) => r = res.1) (g_Bo (dC, dI) A (fun (_ : Unit) => (b_m cB cC cI cJ cZ oA rA res.2 ++ b_w cB cC cI cJ cZ oA rA res.2 ++ b_s cB cC cI cJ cZ oA rA res.2 ++ b_c cB cC cI cJ cZ oA rA res.2 ++ b_t cB cC cI cJ cZ oA rA res.2 ++ b_d cB cC cI cJ cZ oA rA res.2))) A) ([.ref (oA 3), .int p0, .int p1] : List Value).toArray s 0 0 A) (F0 m 73 ls []) := by
        intro  σ_20 hF0 H locs hP hS ls hl
        subst ej_21
        have hF_23 := hF0
        clear hF0
        obtain ⟨x_24, ex_24, hF_25⟩ := bnd_e hF_23
        clear hF_23
        refine lv_iinc (v := x_24) (lv' := [(3, .int x_24), (0, .ref (oA 3)), (1, .int p0)]) hx hb dX4_ownWords_73 hl (k := 2) rfl (by rw [ex_24]; rfl) (by decide) rfl (fun ls hl => ?_)
        refine lv_goto (tgt := 2) hx hb dX4_ownWords_76 (by decide) ?_
        exact ih_3 (x_24, σ_20) hF_25 _ _ hP hS ls (lv_sub hl [1, 2, 0] rfl)
      refine lv_icmp_ne (tgt := 73) hx hb dX4_ownWords_47 (by decide) (fun c_26 => ?_) (fun c_26 => ?_)
      · have hF_40 := ineg c_26 hF_22
        clear hF_22
        exact Jj_21  σ_18 hF_40 _ _ hP hS ls (lv_sub hl [0, 1, 2] rfl)
      · have hF_27 := ipos c_26 hF_22
        clear hF_22
        refine lv_aload_n hx hb dX4_ownWords_50 rfl (lv_at hl 0 rfl) ?_
        refine va_get (D := (dC, dI)) (ci := 4) (v := .ref (oA 4)) (C := RX4) (T := TX4) (N := 18) hx hb hts ii_X4 hown hK hP 0 rfl rfl 1 (by decide) (hts (.fieldLink RX4 36 "StoryHouse$Meanings" "story" "LStoryHouse$Story;") wq_87) (fun _ h9 => h9) rfl dX4_ownWords_51 ?_
        refine lv_iload_n hx hb dX4_ownWords_54 rfl (lv_at hl 1 rfl) ?_
        refine lv_aload_n hx hb dX4_ownWords_55 rfl (lv_at hl 0 rfl) ?_
        refine va_get (D := (dC, dI)) (ci := 4) (v := .ref (oA 1)) (C := RX4) (T := TX4) (N := 18) hx hb hts ii_X4 hown hK hP 0 rfl rfl 0 (by decide) (hts (.fieldLink RX4 32 "StoryHouse$Meanings" "words" "LStoryHouse$Words;") wq_86) (fun _ h9 => h9) rfl dX4_ownWords_56 ?_
        refine lv_aload_n hx hb dX4_ownWords_59 rfl (lv_at hl 0 rfl) ?_
        refine va_get (D := (dC, dI)) (ci := 4) (v := .ref (oA 1)) (C := RX4) (T := TX4) (N := 18) hx hb hts ii_X4 hown hK hP 0 rfl rfl 0 (by decide) (hts (.fieldLink RX4 32 "StoryHouse$Meanings" "words" "LStoryHouse$Words;") wq_86) (fun _ h9 => h9) rfl dX4_ownWords_60 ?_
        refine lv_iload_n hx hb dX4_ownWords_63 rfl (lv_at hl 2 rfl) ?_
        obtain ⟨u_28, hu_28, hF_29⟩ := Option.bind_eq_some_iff.mp hF_27
        clear hF_27
        have hPc := bx_P (bs := [b_m cB cC cI cJ cZ oA rA σ_18, b_w cB cC cI cJ cZ oA rA σ_18, b_s cB cC cI cJ cZ oA rA σ_18, b_c cB cC cI cJ cZ oA rA σ_18, b_t cB cC cI cJ cZ oA rA σ_18, b_d cB cC cI cJ cZ oA rA σ_18]) (bs' := [b_w cB cC cI cJ cZ oA rA σ_18]) (ws' := (b_w cB cC cI cJ cZ oA rA σ_18)) hP fl_6 fl_1 [1] rfl
        have hDc := bx_D (bs := [b_m cB cC cI cJ cZ oA rA σ_18, b_w cB cC cI cJ cZ oA rA σ_18, b_s cB cC cI cJ cZ oA rA σ_18, b_c cB cC cI cJ cZ oA rA σ_18, b_t cB cC cI cJ cZ oA rA σ_18, b_d cB cC cI cJ cZ oA rA σ_18]) (bs' := [b_w cB cC cI cJ cZ oA rA σ_18]) (ws' := (b_w cB cC cI cJ cZ oA rA σ_18)) (hDD σ_18) fl_6 fl_1 [1] (by decide +kernel) rfl
        have hFc := bx_F (bs := [b_m cB cC cI cJ cZ oA rA σ_18, b_w cB cC cI cJ cZ oA rA σ_18, b_s cB cC cI cJ cZ oA rA σ_18, b_c cB cC cI cJ cZ oA rA σ_18, b_t cB cC cI cJ cZ oA rA σ_18, b_d cB cC cI cJ cZ oA rA σ_18]) (bs' := [b_w cB cC cI cJ cZ oA rA σ_18]) (wc := (b_w cB cC cI cJ cZ oA rA σ_18)) (hDD σ_18) hS hA fl_6 fl_1 [1] rfl
        refine g_ofi (wc := (b_w cB cC cI cJ cZ oA rA σ_18)) (wr := (b_m cB cC cI cJ cZ oA rA σ_18 ++ b_s cB cC cI cJ cZ oA rA σ_18 ++ b_c cB cC cI cJ cZ oA rA σ_18 ++ b_t cB cC cI cJ cZ oA rA σ_18 ++ b_d cB cC cI cJ cZ oA rA σ_18)) hP (hDD σ_18) hS hFc (bx_ix [b_m cB cC cI cJ cZ oA rA σ_18, b_w cB cC cI cJ cZ oA rA σ_18, b_s cB cC cI cJ cZ oA rA σ_18, b_c cB cC cI cJ cZ oA rA σ_18, b_t cB cC cI cJ cZ oA rA σ_18, b_d cB cC cI cJ cZ oA rA σ_18] [1]) (bx_ix [b_m cB cC cI cJ cZ oA rA σ_18, b_w cB cC cI cJ cZ oA rA σ_18, b_s cB cC cI cJ cZ oA rA σ_18, b_c cB cC cI cJ cZ oA rA σ_18, b_t cB cC cI cJ cZ oA rA σ_18, b_d cB cC cI cJ cZ oA rA σ_18] [0, 2, 3, 4, 5]) (bx_C (bs := [b_m cB cC cI cJ cZ oA rA σ_18, b_w cB cC cI cJ cZ oA rA σ_18, b_s cB cC cI cJ cZ oA rA σ_18, b_c cB cC cI cJ cZ oA rA σ_18, b_t cB cC cI cJ cZ oA rA σ_18, b_d cB cC cI cJ cZ oA rA σ_18]) (bs' := [b_w cB cC cI cJ cZ oA rA σ_18]) (is := [1]) fl_6 fl_1 rfl) (bx_C (bs := [b_m cB cC cI cJ cZ oA rA σ_18, b_w cB cC cI cJ cZ oA rA σ_18, b_s cB cC cI cJ cZ oA rA σ_18, b_c cB cC cI cJ cZ oA rA σ_18, b_t cB cC cI cJ cZ oA rA σ_18, b_d cB cC cI cJ cZ oA rA σ_18]) (bs' := [b_m cB cC cI cJ cZ oA rA σ_18, b_s cB cC cI cJ cZ oA rA σ_18, b_c cB cC cI cJ cZ oA rA σ_18, b_t cB cC cI cJ cZ oA rA σ_18, b_d cB cC cI cJ cZ oA rA σ_18]) (is := [0, 2, 3, 4, 5]) fl_6 fl_5 rfl) (bx_n (by decide +kernel)) (bx_d (by decide +kernel)) (va_runV (As := [.int s_1.1]) (rest := [.ref (oA 1), .int p0, .ref (oA 4)]) ⟨hx, hb, hml, hown, hts⟩ (k_X10_worthOf l dC dI cB cC cI cJ cZ cP oA rA H.size  s_1.1 σ_18 _ hu_28) (cwV 1 hts (g_gV wq_715 wq_653 wq_654 wq_2 wq_655) rfl rfl rfl (by decide +kernel) ⟨Nat.le_of_ble_eq_true rfl, Nat.le_of_ble_eq_true rfl⟩) (g_preV g_bl0 hK hPc hDc hS hE hFc g_to0 (q0 := 0) (ci := 10) rfl rfl) rfl rfl hl.1 rfl (lv_room (Nat.le_of_ble_eq_true rfl)) dX4_ownWords_64 ⟨Nat.le_of_ble_eq_true rfl, Nat.le_of_ble_eq_true rfl⟩) (fun r9 u9 H locs hw9 hP' hD' hS => ?_)
        clear hPc hDc hFc
        subst hw9
        obtain ⟨σ_30, eσ_30, hF_31⟩ := bnd_e hF_29
        clear hF_29
        have hP : va_P (dC, dI) vwCl (b_m cB cC cI cJ cZ oA rA σ_30 ++ b_w cB cC cI cJ cZ oA rA σ_30 ++ b_s cB cC cI cJ cZ oA rA σ_30 ++ b_c cB cC cI cJ cZ oA rA σ_30 ++ b_t cB cC cI cJ cZ oA rA σ_30 ++ b_d cB cC cI cJ cZ oA rA σ_30) H := by rw [eσ_30]; exact bx_P (bs := [b_m cB cC cI cJ cZ oA rA σ_18, b_s cB cC cI cJ cZ oA rA σ_18, b_c cB cC cI cJ cZ oA rA σ_18, b_t cB cC cI cJ cZ oA rA σ_18, b_d cB cC cI cJ cZ oA rA σ_18] ++ [b_w cB cC cI cJ cZ oA rA u_28.2]) (bs' := [b_m cB cC cI cJ cZ oA rA (mrg (fun j => j == 1) σ_18 u_28.2), b_w cB cC cI cJ cZ oA rA (mrg (fun j => j == 1) σ_18 u_28.2), b_s cB cC cI cJ cZ oA rA (mrg (fun j => j == 1) σ_18 u_28.2), b_c cB cC cI cJ cZ oA rA (mrg (fun j => j == 1) σ_18 u_28.2), b_t cB cC cI cJ cZ oA rA (mrg (fun j => j == 1) σ_18 u_28.2), b_d cB cC cI cJ cZ oA rA (mrg (fun j => j == 1) σ_18 u_28.2)]) hP' (fl_a fl_5 fl_1) fl_6 [0, 5, 1, 2, 3, 4] rfl
        clear hP' hD'
        obtain ⟨u_32, hu_32, hF_33⟩ := Option.bind_eq_some_iff.mp hF_31
        clear hF_31
        have hPc := bx_P (bs := [b_m cB cC cI cJ cZ oA rA σ_30, b_w cB cC cI cJ cZ oA rA σ_30, b_s cB cC cI cJ cZ oA rA σ_30, b_c cB cC cI cJ cZ oA rA σ_30, b_t cB cC cI cJ cZ oA rA σ_30, b_d cB cC cI cJ cZ oA rA σ_30]) (bs' := [b_w cB cC cI cJ cZ oA rA σ_30]) (ws' := (b_w cB cC cI cJ cZ oA rA σ_30)) hP fl_6 fl_1 [1] rfl
        have hDc := bx_D (bs := [b_m cB cC cI cJ cZ oA rA σ_30, b_w cB cC cI cJ cZ oA rA σ_30, b_s cB cC cI cJ cZ oA rA σ_30, b_c cB cC cI cJ cZ oA rA σ_30, b_t cB cC cI cJ cZ oA rA σ_30, b_d cB cC cI cJ cZ oA rA σ_30]) (bs' := [b_w cB cC cI cJ cZ oA rA σ_30]) (ws' := (b_w cB cC cI cJ cZ oA rA σ_30)) (hDD σ_30) fl_6 fl_1 [1] (by decide +kernel) rfl
        have hFc := bx_F (bs := [b_m cB cC cI cJ cZ oA rA σ_30, b_w cB cC cI cJ cZ oA rA σ_30, b_s cB cC cI cJ cZ oA rA σ_30, b_c cB cC cI cJ cZ oA rA σ_30, b_t cB cC cI cJ cZ oA rA σ_30, b_d cB cC cI cJ cZ oA rA σ_30]) (bs' := [b_w cB cC cI cJ cZ oA rA σ_30]) (wc := (b_w cB cC cI cJ cZ oA rA σ_30)) (hDD σ_30) hS hA fl_6 fl_1 [1] rfl
        refine g_ofl (wc := (b_w cB cC cI cJ cZ oA rA σ_30)) (wr := (b_m cB cC cI cJ cZ oA rA σ_30 ++ b_s cB cC cI cJ cZ oA rA σ_30 ++ b_c cB cC cI cJ cZ oA rA σ_30 ++ b_t cB cC cI cJ cZ oA rA σ_30 ++ b_d cB cC cI cJ cZ oA rA σ_30)) hP (hDD σ_30) hS hFc (bx_ix [b_m cB cC cI cJ cZ oA rA σ_30, b_w cB cC cI cJ cZ oA rA σ_30, b_s cB cC cI cJ cZ oA rA σ_30, b_c cB cC cI cJ cZ oA rA σ_30, b_t cB cC cI cJ cZ oA rA σ_30, b_d cB cC cI cJ cZ oA rA σ_30] [1]) (bx_ix [b_m cB cC cI cJ cZ oA rA σ_30, b_w cB cC cI cJ cZ oA rA σ_30, b_s cB cC cI cJ cZ oA rA σ_30, b_c cB cC cI cJ cZ oA rA σ_30, b_t cB cC cI cJ cZ oA rA σ_30, b_d cB cC cI cJ cZ oA rA σ_30] [0, 2, 3, 4, 5]) (bx_C (bs := [b_m cB cC cI cJ cZ oA rA σ_30, b_w cB cC cI cJ cZ oA rA σ_30, b_s cB cC cI cJ cZ oA rA σ_30, b_c cB cC cI cJ cZ oA rA σ_30, b_t cB cC cI cJ cZ oA rA σ_30, b_d cB cC cI cJ cZ oA rA σ_30]) (bs' := [b_w cB cC cI cJ cZ oA rA σ_30]) (is := [1]) fl_6 fl_1 rfl) (bx_C (bs := [b_m cB cC cI cJ cZ oA rA σ_30, b_w cB cC cI cJ cZ oA rA σ_30, b_s cB cC cI cJ cZ oA rA σ_30, b_c cB cC cI cJ cZ oA rA σ_30, b_t cB cC cI cJ cZ oA rA σ_30, b_d cB cC cI cJ cZ oA rA σ_30]) (bs' := [b_m cB cC cI cJ cZ oA rA σ_30, b_s cB cC cI cJ cZ oA rA σ_30, b_c cB cC cI cJ cZ oA rA σ_30, b_t cB cC cI cJ cZ oA rA σ_30, b_d cB cC cI cJ cZ oA rA σ_30]) (is := [0, 2, 3, 4, 5]) fl_6 fl_5 rfl) (bx_n (by decide +kernel)) (bx_d (by decide +kernel)) (va_runV (As := [.int u_28.1]) (rest := [.int p0, .ref (oA 4)]) ⟨hx, hb, hml, hown, hts⟩ (k_X10_termOf l dC dI cB cC cI cJ cZ cP oA rA H.size  u_28.1 σ_30 _ hu_32) (cwV 1 hts (g_gV wq_788 wq_789 wq_790 wq_2 wq_791) rfl rfl rfl (by decide +kernel) ⟨Nat.le_of_ble_eq_true rfl, Nat.le_of_ble_eq_true rfl⟩) (g_preV g_bl0 hK hPc hDc hS hE hFc g_to0 (q0 := 0) (ci := 10) rfl rfl) rfl rfl hl.1 rfl (lv_room (Nat.le_of_ble_eq_true rfl)) dX4_ownWords_67 ⟨Nat.le_of_ble_eq_true rfl, Nat.le_of_ble_eq_true rfl⟩) (fun r9 u9 H locs hw9 hP' hD' hS => ?_)
        clear hPc hDc hFc
        subst hw9
        obtain ⟨σ_34, eσ_34, hF_35⟩ := bnd_e hF_33
        clear hF_33
        have hP : va_P (dC, dI) vwCl (b_m cB cC cI cJ cZ oA rA σ_34 ++ b_w cB cC cI cJ cZ oA rA σ_34 ++ b_s cB cC cI cJ cZ oA rA σ_34 ++ b_c cB cC cI cJ cZ oA rA σ_34 ++ b_t cB cC cI cJ cZ oA rA σ_34 ++ b_d cB cC cI cJ cZ oA rA σ_34) H := by rw [eσ_34]; exact bx_P (bs := [b_m cB cC cI cJ cZ oA rA σ_30, b_s cB cC cI cJ cZ oA rA σ_30, b_c cB cC cI cJ cZ oA rA σ_30, b_t cB cC cI cJ cZ oA rA σ_30, b_d cB cC cI cJ cZ oA rA σ_30] ++ [b_w cB cC cI cJ cZ oA rA u_32.2]) (bs' := [b_m cB cC cI cJ cZ oA rA (mrg (fun j => j == 1) σ_30 u_32.2), b_w cB cC cI cJ cZ oA rA (mrg (fun j => j == 1) σ_30 u_32.2), b_s cB cC cI cJ cZ oA rA (mrg (fun j => j == 1) σ_30 u_32.2), b_c cB cC cI cJ cZ oA rA (mrg (fun j => j == 1) σ_30 u_32.2), b_t cB cC cI cJ cZ oA rA (mrg (fun j => j == 1) σ_30 u_32.2), b_d cB cC cI cJ cZ oA rA (mrg (fun j => j == 1) σ_30 u_32.2)]) hP' (fl_a fl_5 fl_1) fl_6 [0, 5, 1, 2, 3, 4] rfl
        clear hP' hD'
        obtain ⟨u_36, hu_36, hF_37⟩ := Option.bind_eq_some_iff.mp hF_35
        clear hF_35
        have hPc := bx_P (bs := [b_m cB cC cI cJ cZ oA rA σ_34, b_w cB cC cI cJ cZ oA rA σ_34, b_s cB cC cI cJ cZ oA rA σ_34, b_c cB cC cI cJ cZ oA rA σ_34, b_t cB cC cI cJ cZ oA rA σ_34, b_d cB cC cI cJ cZ oA rA σ_34]) (bs' := [b_s cB cC cI cJ cZ oA rA σ_34, b_c cB cC cI cJ cZ oA rA σ_34, b_t cB cC cI cJ cZ oA rA σ_34, b_d cB cC cI cJ cZ oA rA σ_34]) (ws' := (b_s cB cC cI cJ cZ oA rA σ_34 ++ b_c cB cC cI cJ cZ oA rA σ_34 ++ b_t cB cC cI cJ cZ oA rA σ_34 ++ b_d cB cC cI cJ cZ oA rA σ_34)) hP fl_6 fl_4 [2, 3, 4, 5] rfl
        have hDc := bx_D (bs := [b_m cB cC cI cJ cZ oA rA σ_34, b_w cB cC cI cJ cZ oA rA σ_34, b_s cB cC cI cJ cZ oA rA σ_34, b_c cB cC cI cJ cZ oA rA σ_34, b_t cB cC cI cJ cZ oA rA σ_34, b_d cB cC cI cJ cZ oA rA σ_34]) (bs' := [b_s cB cC cI cJ cZ oA rA σ_34, b_c cB cC cI cJ cZ oA rA σ_34, b_t cB cC cI cJ cZ oA rA σ_34, b_d cB cC cI cJ cZ oA rA σ_34]) (ws' := (b_s cB cC cI cJ cZ oA rA σ_34 ++ b_c cB cC cI cJ cZ oA rA σ_34 ++ b_t cB cC cI cJ cZ oA rA σ_34 ++ b_d cB cC cI cJ cZ oA rA σ_34)) (hDD σ_34) fl_6 fl_4 [2, 3, 4, 5] (by decide +kernel) rfl
        have hFc := bx_F (bs := [b_m cB cC cI cJ cZ oA rA σ_34, b_w cB cC cI cJ cZ oA rA σ_34, b_s cB cC cI cJ cZ oA rA σ_34, b_c cB cC cI cJ cZ oA rA σ_34, b_t cB cC cI cJ cZ oA rA σ_34, b_d cB cC cI cJ cZ oA rA σ_34]) (bs' := [b_s cB cC cI cJ cZ oA rA σ_34, b_c cB cC cI cJ cZ oA rA σ_34, b_t cB cC cI cJ cZ oA rA σ_34, b_d cB cC cI cJ cZ oA rA σ_34]) (wc := (b_s cB cC cI cJ cZ oA rA σ_34 ++ b_c cB cC cI cJ cZ oA rA σ_34 ++ b_t cB cC cI cJ cZ oA rA σ_34 ++ b_d cB cC cI cJ cZ oA rA σ_34)) (hDD σ_34) hS hA fl_6 fl_4 [2, 3, 4, 5] rfl
        refine g_ofv (wc := (b_s cB cC cI cJ cZ oA rA σ_34 ++ b_c cB cC cI cJ cZ oA rA σ_34 ++ b_t cB cC cI cJ cZ oA rA σ_34 ++ b_d cB cC cI cJ cZ oA rA σ_34)) (wr := (b_m cB cC cI cJ cZ oA rA σ_34 ++ b_w cB cC cI cJ cZ oA rA σ_34)) hP (hDD σ_34) hS hFc (bx_ix [b_m cB cC cI cJ cZ oA rA σ_34, b_w cB cC cI cJ cZ oA rA σ_34, b_s cB cC cI cJ cZ oA rA σ_34, b_c cB cC cI cJ cZ oA rA σ_34, b_t cB cC cI cJ cZ oA rA σ_34, b_d cB cC cI cJ cZ oA rA σ_34] [2, 3, 4, 5]) (bx_ix [b_m cB cC cI cJ cZ oA rA σ_34, b_w cB cC cI cJ cZ oA rA σ_34, b_s cB cC cI cJ cZ oA rA σ_34, b_c cB cC cI cJ cZ oA rA σ_34, b_t cB cC cI cJ cZ oA rA σ_34, b_d cB cC cI cJ cZ oA rA σ_34] [0, 1]) (bx_C (bs := [b_m cB cC cI cJ cZ oA rA σ_34, b_w cB cC cI cJ cZ oA rA σ_34, b_s cB cC cI cJ cZ oA rA σ_34, b_c cB cC cI cJ cZ oA rA σ_34, b_t cB cC cI cJ cZ oA rA σ_34, b_d cB cC cI cJ cZ oA rA σ_34]) (bs' := [b_s cB cC cI cJ cZ oA rA σ_34, b_c cB cC cI cJ cZ oA rA σ_34, b_t cB cC cI cJ cZ oA rA σ_34, b_d cB cC cI cJ cZ oA rA σ_34]) (is := [2, 3, 4, 5]) fl_6 fl_4 rfl) (bx_C (bs := [b_m cB cC cI cJ cZ oA rA σ_34, b_w cB cC cI cJ cZ oA rA σ_34, b_s cB cC cI cJ cZ oA rA σ_34, b_c cB cC cI cJ cZ oA rA σ_34, b_t cB cC cI cJ cZ oA rA σ_34, b_d cB cC cI cJ cZ oA rA σ_34]) (bs' := [b_m cB cC cI cJ cZ oA rA σ_34, b_w cB cC cI cJ cZ oA rA σ_34]) (is := [0, 1]) fl_6 fl_2 rfl) (bx_n (by decide +kernel)) (bx_d (by decide +kernel)) (va_runV (As := [.int p0, .long u_32.1]) (rest := []) ⟨hx, hb, hml, hown, hts⟩ (k_X7_addWord l dC dI cB cC cI cJ cZ cP oA rA H.size  p0 u_32.1 σ_34 _ hu_36) (cwV 2 hts (g_gV wq_793 wq_521 wq_522 wq_5 wq_523) rfl rfl rfl (by decide +kernel) ⟨Nat.le_of_ble_eq_true rfl, Nat.le_of_ble_eq_true rfl⟩) (g_preV g_bl0 hK hPc hDc hS hE hFc g_to0 (q0 := 0) (ci := 7) rfl rfl) rfl rfl hl.1 rfl (lv_room (Nat.le_of_ble_eq_true rfl)) dX4_ownWords_70 ⟨Nat.le_of_ble_eq_true rfl, Nat.le_of_ble_eq_true rfl⟩) (fun u9 H locs hw9 hP' hD' hS => ?_)
        clear hPc hDc hFc
        obtain ⟨σ_38, eσ_38, hF_39⟩ := bnd_e hF_37
        clear hF_37
        have hP : va_P (dC, dI) vwCl (b_m cB cC cI cJ cZ oA rA σ_38 ++ b_w cB cC cI cJ cZ oA rA σ_38 ++ b_s cB cC cI cJ cZ oA rA σ_38 ++ b_c cB cC cI cJ cZ oA rA σ_38 ++ b_t cB cC cI cJ cZ oA rA σ_38 ++ b_d cB cC cI cJ cZ oA rA σ_38) H := by rw [eσ_38]; exact bx_P (bs := [b_m cB cC cI cJ cZ oA rA σ_34, b_w cB cC cI cJ cZ oA rA σ_34] ++ [b_s cB cC cI cJ cZ oA rA u_36.2, b_c cB cC cI cJ cZ oA rA u_36.2, b_t cB cC cI cJ cZ oA rA u_36.2, b_d cB cC cI cJ cZ oA rA u_36.2]) (bs' := [b_m cB cC cI cJ cZ oA rA (mrg (fun j => j == 4 || j == 5 || j == 6 || j == 7) σ_34 u_36.2), b_w cB cC cI cJ cZ oA rA (mrg (fun j => j == 4 || j == 5 || j == 6 || j == 7) σ_34 u_36.2), b_s cB cC cI cJ cZ oA rA (mrg (fun j => j == 4 || j == 5 || j == 6 || j == 7) σ_34 u_36.2), b_c cB cC cI cJ cZ oA rA (mrg (fun j => j == 4 || j == 5 || j == 6 || j == 7) σ_34 u_36.2), b_t cB cC cI cJ cZ oA rA (mrg (fun j => j == 4 || j == 5 || j == 6 || j == 7) σ_34 u_36.2), b_d cB cC cI cJ cZ oA rA (mrg (fun j => j == 4 || j == 5 || j == 6 || j == 7) σ_34 u_36.2)]) hP' (fl_a fl_2 fl_4) fl_6 [0, 1, 2, 3, 4, 5] rfl
        clear hP' hD'
        exact Jj_21  σ_38 hF_39 _ _ hP hS ls (lv_sub hl [0, 1, 2] rfl)
    refine lv_icmp_eq (tgt := 38) hx hb dX4_ownWords_22 (by decide) (fun c_41 => ?_) (fun c_41 => ?_)
    · have hF_42 := ipos c_41 hF_14
      clear hF_14
      exact Jj_13  σ_10 hF_42 _ _ hP hS ls (lv_sub hl [0, 1, 2] rfl)
    · have hF_43 := ineg c_41 hF_14
      clear hF_14
      refine lv_aload_n hx hb dX4_ownWords_25 rfl (lv_at hl 0 rfl) ?_
      refine va_get (D := (dC, dI)) (ci := 4) (v := .ref (oA 1)) (C := RX4) (T := TX4) (N := 18) hx hb hts ii_X4 hown hK hP 0 rfl rfl 0 (by decide) (hts (.fieldLink RX4 32 "StoryHouse$Meanings" "words" "LStoryHouse$Words;") wq_86) (fun _ h9 => h9) rfl dX4_ownWords_26 ?_
      refine lv_iload_n hx hb dX4_ownWords_29 rfl (lv_at hl 2 rfl) ?_
      obtain ⟨u_44, hu_44, hF_45⟩ := Option.bind_eq_some_iff.mp hF_43
      clear hF_43
      have hPc := bx_P (bs := [b_m cB cC cI cJ cZ oA rA σ_10, b_w cB cC cI cJ cZ oA rA σ_10, b_s cB cC cI cJ cZ oA rA σ_10, b_c cB cC cI cJ cZ oA rA σ_10, b_t cB cC cI cJ cZ oA rA σ_10, b_d cB cC cI cJ cZ oA rA σ_10]) (bs' := [b_w cB cC cI cJ cZ oA rA σ_10]) (ws' := (b_w cB cC cI cJ cZ oA rA σ_10)) hP fl_6 fl_1 [1] rfl
      have hDc := bx_D (bs := [b_m cB cC cI cJ cZ oA rA σ_10, b_w cB cC cI cJ cZ oA rA σ_10, b_s cB cC cI cJ cZ oA rA σ_10, b_c cB cC cI cJ cZ oA rA σ_10, b_t cB cC cI cJ cZ oA rA σ_10, b_d cB cC cI cJ cZ oA rA σ_10]) (bs' := [b_w cB cC cI cJ cZ oA rA σ_10]) (ws' := (b_w cB cC cI cJ cZ oA rA σ_10)) (hDD σ_10) fl_6 fl_1 [1] (by decide +kernel) rfl
      have hFc := bx_F (bs := [b_m cB cC cI cJ cZ oA rA σ_10, b_w cB cC cI cJ cZ oA rA σ_10, b_s cB cC cI cJ cZ oA rA σ_10, b_c cB cC cI cJ cZ oA rA σ_10, b_t cB cC cI cJ cZ oA rA σ_10, b_d cB cC cI cJ cZ oA rA σ_10]) (bs' := [b_w cB cC cI cJ cZ oA rA σ_10]) (wc := (b_w cB cC cI cJ cZ oA rA σ_10)) (hDD σ_10) hS hA fl_6 fl_1 [1] rfl
      refine g_ofi (wc := (b_w cB cC cI cJ cZ oA rA σ_10)) (wr := (b_m cB cC cI cJ cZ oA rA σ_10 ++ b_s cB cC cI cJ cZ oA rA σ_10 ++ b_c cB cC cI cJ cZ oA rA σ_10 ++ b_t cB cC cI cJ cZ oA rA σ_10 ++ b_d cB cC cI cJ cZ oA rA σ_10)) hP (hDD σ_10) hS hFc (bx_ix [b_m cB cC cI cJ cZ oA rA σ_10, b_w cB cC cI cJ cZ oA rA σ_10, b_s cB cC cI cJ cZ oA rA σ_10, b_c cB cC cI cJ cZ oA rA σ_10, b_t cB cC cI cJ cZ oA rA σ_10, b_d cB cC cI cJ cZ oA rA σ_10] [1]) (bx_ix [b_m cB cC cI cJ cZ oA rA σ_10, b_w cB cC cI cJ cZ oA rA σ_10, b_s cB cC cI cJ cZ oA rA σ_10, b_c cB cC cI cJ cZ oA rA σ_10, b_t cB cC cI cJ cZ oA rA σ_10, b_d cB cC cI cJ cZ oA rA σ_10] [0, 2, 3, 4, 5]) (bx_C (bs := [b_m cB cC cI cJ cZ oA rA σ_10, b_w cB cC cI cJ cZ oA rA σ_10, b_s cB cC cI cJ cZ oA rA σ_10, b_c cB cC cI cJ cZ oA rA σ_10, b_t cB cC cI cJ cZ oA rA σ_10, b_d cB cC cI cJ cZ oA rA σ_10]) (bs' := [b_w cB cC cI cJ cZ oA rA σ_10]) (is := [1]) fl_6 fl_1 rfl) (bx_C (bs := [b_m cB cC cI cJ cZ oA rA σ_10, b_w cB cC cI cJ cZ oA rA σ_10, b_s cB cC cI cJ cZ oA rA σ_10, b_c cB cC cI cJ cZ oA rA σ_10, b_t cB cC cI cJ cZ oA rA σ_10, b_d cB cC cI cJ cZ oA rA σ_10]) (bs' := [b_m cB cC cI cJ cZ oA rA σ_10, b_s cB cC cI cJ cZ oA rA σ_10, b_c cB cC cI cJ cZ oA rA σ_10, b_t cB cC cI cJ cZ oA rA σ_10, b_d cB cC cI cJ cZ oA rA σ_10]) (is := [0, 2, 3, 4, 5]) fl_6 fl_5 rfl) (bx_n (by decide +kernel)) (bx_d (by decide +kernel)) (va_runV (As := [.int s_1.1]) (rest := []) ⟨hx, hb, hml, hown, hts⟩ (k_X10_kindOf l dC dI cB cC cI cJ cZ cP oA rA H.size  s_1.1 σ_10 _ hu_44) (cwV 1 hts (g_gV wq_714 wq_543 wq_544 wq_2 wq_545) rfl rfl rfl (by decide +kernel) ⟨Nat.le_of_ble_eq_true rfl, Nat.le_of_ble_eq_true rfl⟩) (g_preV g_bl0 hK hPc hDc hS hE hFc g_to0 (q0 := 0) (ci := 10) rfl rfl) rfl rfl hl.1 rfl (lv_room (Nat.le_of_ble_eq_true rfl)) dX4_ownWords_30 ⟨Nat.le_of_ble_eq_true rfl, Nat.le_of_ble_eq_true rfl⟩) (fun r9 u9 H locs hw9 hP' hD' hS => ?_)
      clear hPc hDc hFc
      subst hw9
      obtain ⟨σ_46, eσ_46, hF_47⟩ := bnd_e hF_45
      clear hF_45
      have hP : va_P (dC, dI) vwCl (b_m cB cC cI cJ cZ oA rA σ_46 ++ b_w cB cC cI cJ cZ oA rA σ_46 ++ b_s cB cC cI cJ cZ oA rA σ_46 ++ b_c cB cC cI cJ cZ oA rA σ_46 ++ b_t cB cC cI cJ cZ oA rA σ_46 ++ b_d cB cC cI cJ cZ oA rA σ_46) H := by rw [eσ_46]; exact bx_P (bs := [b_m cB cC cI cJ cZ oA rA σ_10, b_s cB cC cI cJ cZ oA rA σ_10, b_c cB cC cI cJ cZ oA rA σ_10, b_t cB cC cI cJ cZ oA rA σ_10, b_d cB cC cI cJ cZ oA rA σ_10] ++ [b_w cB cC cI cJ cZ oA rA u_44.2]) (bs' := [b_m cB cC cI cJ cZ oA rA (mrg (fun j => j == 1) σ_10 u_44.2), b_w cB cC cI cJ cZ oA rA (mrg (fun j => j == 1) σ_10 u_44.2), b_s cB cC cI cJ cZ oA rA (mrg (fun j => j == 1) σ_10 u_44.2), b_c cB cC cI cJ cZ oA rA (mrg (fun j => j == 1) σ_10 u_44.2), b_t cB cC cI cJ cZ oA rA (mrg (fun j => j == 1) σ_10 u_44.2), b_d cB cC cI cJ cZ oA rA (mrg (fun j => j == 1) σ_10 u_44.2)]) hP' (fl_a fl_5 fl_1) fl_6 [0, 5, 1, 2, 3, 4] rfl
      clear hP' hD'
      refine lv_bipush (v := 44) hx hb dX4_ownWords_33 (by decide +kernel) ?_
      refine lv_icmp_ne (tgt := 79) hx hb dX4_ownWords_35 (by decide) (fun c_48 => ?_) (fun c_48 => ?_)
      · have hF_50 := ineg c_48 hF_47
        clear hF_47
        refine lv_iload_n hx hb dX4_ownWords_79 rfl (lv_at hl 2 rfl) ?_
        have h9 := Option.some.inj hF_50
        subst h9
        exact W.iret (v := s_1.1) hx hb hr (fun t ht hW => ⟨⟨s_1.1, (), rfl, rfl, m_end ht hP, hDD _⟩, hS.F ht⟩) hS.2.2 dX4_ownWords_80
      · have hF_49 := ipos c_48 hF_47
        clear hF_47
        exact Jj_13  σ_46 hF_49 _ _ hP hS ls (lv_sub hl [0, 1, 2] rfl)
theorem dX4_varItem_0 : decode cX4_varItem 0 = .ok (.aload_n 0, 1) := by decide +kernel
theorem dX4_varItem_1 : decode cX4_varItem 1 = .ok (.getfield 32, 3) := by decide +kernel
theorem dX4_varItem_4 : decode cX4_varItem 4 = .ok (.iload_n 1, 1) := by decide +kernel
theorem dX4_varItem_5 : decode cX4_varItem 5 = .ok (.iconst 3, 1) := by decide +kernel
theorem dX4_varItem_6 : decode cX4_varItem 6 = .ok (.iadd, 1) := by decide +kernel
theorem dX4_varItem_7 : decode cX4_varItem 7 = .ok (.invokevirtual 116, 3) := by decide +kernel
theorem dX4_varItem_10 : decode cX4_varItem 10 = .ok (.bipush 45, 2) := by decide +kernel
theorem dX4_varItem_12 : decode cX4_varItem 12 = .ok (.if_icmp .ne 7, 3) := by decide +kernel
theorem dX4_varItem_15 : decode cX4_varItem 15 = .ok (.iconst 1, 1) := by decide +kernel
theorem dX4_varItem_16 : decode cX4_varItem 16 = .ok (.goto 4, 3) := by decide +kernel
theorem dX4_varItem_19 : decode cX4_varItem 19 = .ok (.iconst 0, 1) := by decide +kernel
theorem dX4_varItem_20 : decode cX4_varItem 20 = .ok (.istore_n 2, 1) := by decide +kernel
theorem dX4_varItem_21 : decode cX4_varItem 21 = .ok (.aload_n 0, 1) := by decide +kernel
theorem dX4_varItem_22 : decode cX4_varItem 22 = .ok (.getfield 32, 3) := by decide +kernel
theorem dX4_varItem_25 : decode cX4_varItem 25 = .ok (.iload_n 2, 1) := by decide +kernel
theorem dX4_varItem_26 : decode cX4_varItem 26 = .ok (.ifCond .eq 9, 3) := by decide +kernel
theorem dX4_varItem_29 : decode cX4_varItem 29 = .ok (.iload_n 1, 1) := by decide +kernel
theorem dX4_varItem_30 : decode cX4_varItem 30 = .ok (.iconst 4, 1) := by decide +kernel
theorem dX4_varItem_31 : decode cX4_varItem 31 = .ok (.iadd, 1) := by decide +kernel
theorem dX4_varItem_32 : decode cX4_varItem 32 = .ok (.goto 6, 3) := by decide +kernel
theorem dX4_varItem_35 : decode cX4_varItem 35 = .ok (.iload_n 1, 1) := by decide +kernel
theorem dX4_varItem_36 : decode cX4_varItem 36 = .ok (.iconst 3, 1) := by decide +kernel
theorem dX4_varItem_37 : decode cX4_varItem 37 = .ok (.iadd, 1) := by decide +kernel
theorem dX4_varItem_38 : decode cX4_varItem 38 = .ok (.invokevirtual 119, 3) := by decide +kernel
theorem dX4_varItem_41 : decode cX4_varItem 41 = .ok (.istore_n 3, 1) := by decide +kernel
theorem dX4_varItem_42 : decode cX4_varItem 42 = .ok (.aload_n 0, 1) := by decide +kernel
theorem dX4_varItem_43 : decode cX4_varItem 43 = .ok (.getfield 36, 3) := by decide +kernel
theorem dX4_varItem_46 : decode cX4_varItem 46 = .ok (.getfield 250, 3) := by decide +kernel
theorem dX4_varItem_49 : decode cX4_varItem 49 = .ok (.aload_n 0, 1) := by decide +kernel
theorem dX4_varItem_50 : decode cX4_varItem 50 = .ok (.iload_n 1, 1) := by decide +kernel
theorem dX4_varItem_51 : decode cX4_varItem 51 = .ok (.iconst 1, 1) := by decide +kernel
theorem dX4_varItem_52 : decode cX4_varItem 52 = .ok (.iadd, 1) := by decide +kernel
theorem dX4_varItem_53 : decode cX4_varItem 53 = .ok (.invokevirtual 193, 3) := by decide +kernel
theorem dX4_varItem_56 : decode cX4_varItem 56 = .ok (.iload_n 2, 1) := by decide +kernel
theorem dX4_varItem_57 : decode cX4_varItem 57 = .ok (.ifCond .eq 8, 3) := by decide +kernel
theorem dX4_varItem_60 : decode cX4_varItem 60 = .ok (.iload_n 3, 1) := by decide +kernel
theorem dX4_varItem_61 : decode cX4_varItem 61 = .ok (.ineg, 1) := by decide +kernel
theorem dX4_varItem_62 : decode cX4_varItem 62 = .ok (.goto 4, 3) := by decide +kernel
theorem dX4_varItem_65 : decode cX4_varItem 65 = .ok (.iload_n 3, 1) := by decide +kernel
theorem dX4_varItem_66 : decode cX4_varItem 66 = .ok (.invokestatic 112, 3) := by decide +kernel
theorem dX4_varItem_69 : decode cX4_varItem 69 = .ok (.return_, 1) := by decide +kernel
def F_X4_varItem (p0 : Int32) (Γ : HS) : HR :=
  (F_X10_kindOf (p0 + 3) Γ).bind fun u_1 =>
  bnd (mrg (fun j => j == 1) Γ u_1.2) fun σ_3 =>
  bnd (fun (t_5 : Int32) (σ_6 : HS) => (
    bnd (fun (t_10 : Int32) (σ_11 : HS) => (
      (F_X10_worthOf t_10 σ_11).bind fun u_15 =>
      bnd (mrg (fun j => j == 1) σ_11 u_15.2) fun σ_17 =>
      (F_X4_numberOf (p0 + 1) σ_17).bind fun u_19 =>
      bnd (fun (t_21 : Int32) (σ_22 : HS) => (
        bnd (cA' σ_22 4 11 (g_put 100 ((σ_22 4).2.1 11) u_19.1 t_21)) fun σ_26 =>
        some (0, σ_26)
      ) : Int32 → HS → HR) fun j_23 =>
      if t_5 = 0 then (
        j_23 u_15.1 u_19.2
      ) else (
        j_23 (-u_15.1) u_19.2
      )
    ) : Int32 → HS → HR) fun j_12 =>
    if t_5 = 0 then (
      j_12 (p0 + 3) σ_6
    ) else (
      j_12 (p0 + 4) σ_6
    )
  ) : Int32 → HS → HR) fun j_7 =>
  if u_1.1 = 45 then (
    j_7 1 σ_3
  ) else (
    j_7 0 σ_3
  )
set_option maxHeartbeats 4000000 in
set_option maxRecDepth 100000 in
theorem k_X4_varItem (l : Launch) (dC : Nat → ClassId) (dI : Nat → Nat → Nat) (cB cC cI cJ cZ cP : ClassId) (oA : Nat → Nat) (rA : Nat → Nat → Nat) (sz : Nat)  (p0 : Int32) (Γ : HS) (res : Int32 × HS) (hF : F_X4_varItem p0 Γ = some res) : Met l yX4_varItem (g_ws yX4_varItem cX4_varItem 4 none) ({ frames := 5, cells := 0, slots := 0, locals := 124 }) (va_Pc [.ref (oA 3), .int p0] (g_B (dC, dI) [(cB, .byte), (cC, .char), (cI, .int), (cJ, .long), (cZ, .boolean), (cP, .object "StoryHouse$Play")] sz (b_m cB cC cI cJ cZ oA rA Γ ++ b_w cB cC cI cJ cZ oA rA Γ ++ b_s cB cC cI cJ cZ oA rA Γ ++ b_c cB cC cI cJ cZ oA rA Γ ++ b_t cB cC cI cJ cZ oA rA Γ ++ b_d cB cC cI cJ cZ oA rA Γ) g_0)) (va_Qv (fun (_ : Unit) => True) (g_Bo (dC, dI) (va_A (b_m cB cC cI cJ cZ oA rA Γ ++ b_w cB cC cI cJ cZ oA rA Γ ++ b_s cB cC cI cJ cZ oA rA Γ ++ b_c cB cC cI cJ cZ oA rA Γ ++ b_t cB cC cI cJ cZ oA rA Γ ++ b_d cB cC cI cJ cZ oA rA Γ) sz) (fun (_ : Unit) => (b_m cB cC cI cJ cZ oA rA res.2 ++ b_w cB cC cI cJ cZ oA rA res.2 ++ b_s cB cC cI cJ cZ oA rA res.2 ++ b_c cB cC cI cJ cZ oA rA res.2 ++ b_t cB cC cI cJ cZ oA rA res.2 ++ b_d cB cC cI cJ cZ oA rA res.2))) (va_A (b_m cB cC cI cJ cZ oA rA Γ ++ b_w cB cC cI cJ cZ oA rA Γ ++ b_s cB cC cI cJ cZ oA rA Γ ++ b_c cB cC cI cJ cZ oA rA Γ ++ b_t cB cC cI cJ cZ oA rA Γ ++ b_d cB cC cI cJ cZ oA rA Γ) sz)) 0 0 (va_A (b_m cB cC cI cJ cZ oA rA Γ ++ b_w cB cC cI cJ cZ oA rA Γ ++ b_s cB cC cI cJ cZ oA rA Γ ++ b_c cB cC cI cJ cZ oA rA Γ ++ b_t cB cC cI cJ cZ oA rA Γ ++ b_d cB cC cI cJ cZ oA rA Γ) sz) := by
  refine Met.ofW (cc := cX4_varItem) (maxL := 4) (ret := none) (by decide) rfl ?_
  intro p e s m args below meth c s₁ B hml hv
  obtain ⟨rfl, hsz, hP, hK, hD0, hE, hX⟩ := hv
  have hx := B.exec
  have hb := B.bytes
  have hr := B.returns
  have hts0 := atoms_spec (ws := g_ws yX4_varItem cX4_varItem 4 none) B.pre
  have hts : ∀ w ∈ lw_good, w.before ([.ref (oA 3), .int p0] : List Value).toArray s = true := fun w z => hts0 w (List.mem_cons_of_mem _ z)
  have hown : s.vm.findClass RX4 = some m.cls := findClass_of_methodNamed B.named
  have hlocks := B.notSynchronized
  subst hsz
  have hD1 := hD0.self (sz := s.heap.size)
  generalize hAe : va_A (b_m cB cC cI cJ cZ oA rA Γ ++ b_w cB cC cI cJ cZ oA rA Γ ++ b_s cB cC cI cJ cZ oA rA Γ ++ b_c cB cC cI cJ cZ oA rA Γ ++ b_t cB cC cI cJ cZ oA rA Γ ++ b_d cB cC cI cJ cZ oA rA Γ) s.heap.size = A at hD1 hE hX ⊢
  have hA : ∀ q : Nat, s.heap.size ≤ q → A q := fun q z => by rw [← hAe]; exact Or.inr z
  have hDD : ∀ Γ : HS, va_D A (b_m cB cC cI cJ cZ oA rA Γ ++ b_w cB cC cI cJ cZ oA rA Γ ++ b_s cB cC cI cJ cZ oA rA Γ ++ b_c cB cC cI cJ cZ oA rA Γ ++ b_t cB cC cI cJ cZ oA rA Γ ++ b_d cB cC cI cJ cZ oA rA Γ) := fun Γ9 => va_D_fst (ws := (b_m cB cC cI cJ cZ oA rA Γ ++ b_w cB cC cI cJ cZ oA rA Γ ++ b_s cB cC cI cJ cZ oA rA Γ ++ b_c cB cC cI cJ cZ oA rA Γ ++ b_t cB cC cI cJ cZ oA rA Γ ++ b_d cB cC cI cJ cZ oA rA Γ)) (ws' := (b_m cB cC cI cJ cZ oA rA Γ9 ++ b_w cB cC cI cJ cZ oA rA Γ9 ++ b_s cB cC cI cJ cZ oA rA Γ9 ++ b_c cB cC cI cJ cZ oA rA Γ9 ++ b_t cB cC cI cJ cZ oA rA Γ9 ++ b_d cB cC cI cJ cZ oA rA Γ9)) rfl hD1
  have hN := hE.1
  have hS : va_S A s.heap s.heap [] := va_S.rf
  have hl := lv_entry ([.ref (oA 3), .int p0]) (n := 4) (Nat.le_of_ble_eq_true rfl)
  rw [lg_entry_eq]
  generalize (lg_sl ([.ref (oA 3), .int p0]) ++ List.replicate (4 - (lg_sl ([.ref (oA 3), .int p0])).length) Slot.unset).toArray = ls at hl ⊢
  have hl : lv_has ls 4 [(0, .ref (oA 3)), (1, .int p0)] := hl
  unfold F_X4_varItem at hF
  refine lv_aload_n hx hb dX4_varItem_0 rfl (lv_at hl 0 rfl) ?_
  refine va_get (D := (dC, dI)) (ci := 4) (v := .ref (oA 1)) (C := RX4) (T := TX4) (N := 18) hx hb hts ii_X4 hown hK hP 0 rfl rfl 0 (by decide) (hts (.fieldLink RX4 32 "StoryHouse$Meanings" "words" "LStoryHouse$Words;") wq_86) (fun _ h9 => h9) rfl dX4_varItem_1 ?_
  refine lv_iload_n hx hb dX4_varItem_4 rfl (lv_at hl 1 rfl) ?_
  refine lv_iconst (v := 3) hx hb dX4_varItem_5 (by decide +kernel) ?_
  refine lv_iadd hx hb dX4_varItem_6 ?_
  obtain ⟨u_1, hu_1, hF_2⟩ := Option.bind_eq_some_iff.mp hF
  clear hF
  have hPc := bx_P (bs := [b_m cB cC cI cJ cZ oA rA Γ, b_w cB cC cI cJ cZ oA rA Γ, b_s cB cC cI cJ cZ oA rA Γ, b_c cB cC cI cJ cZ oA rA Γ, b_t cB cC cI cJ cZ oA rA Γ, b_d cB cC cI cJ cZ oA rA Γ]) (bs' := [b_w cB cC cI cJ cZ oA rA Γ]) (ws' := (b_w cB cC cI cJ cZ oA rA Γ)) hP fl_6 fl_1 [1] rfl
  have hDc := bx_D (bs := [b_m cB cC cI cJ cZ oA rA Γ, b_w cB cC cI cJ cZ oA rA Γ, b_s cB cC cI cJ cZ oA rA Γ, b_c cB cC cI cJ cZ oA rA Γ, b_t cB cC cI cJ cZ oA rA Γ, b_d cB cC cI cJ cZ oA rA Γ]) (bs' := [b_w cB cC cI cJ cZ oA rA Γ]) (ws' := (b_w cB cC cI cJ cZ oA rA Γ)) (hDD Γ) fl_6 fl_1 [1] (by decide +kernel) rfl
  have hFc := bx_F (bs := [b_m cB cC cI cJ cZ oA rA Γ, b_w cB cC cI cJ cZ oA rA Γ, b_s cB cC cI cJ cZ oA rA Γ, b_c cB cC cI cJ cZ oA rA Γ, b_t cB cC cI cJ cZ oA rA Γ, b_d cB cC cI cJ cZ oA rA Γ]) (bs' := [b_w cB cC cI cJ cZ oA rA Γ]) (wc := (b_w cB cC cI cJ cZ oA rA Γ)) (hDD Γ) hS hA fl_6 fl_1 [1] rfl
  refine g_ofi (wc := (b_w cB cC cI cJ cZ oA rA Γ)) (wr := (b_m cB cC cI cJ cZ oA rA Γ ++ b_s cB cC cI cJ cZ oA rA Γ ++ b_c cB cC cI cJ cZ oA rA Γ ++ b_t cB cC cI cJ cZ oA rA Γ ++ b_d cB cC cI cJ cZ oA rA Γ)) hP (hDD Γ) hS hFc (bx_ix [b_m cB cC cI cJ cZ oA rA Γ, b_w cB cC cI cJ cZ oA rA Γ, b_s cB cC cI cJ cZ oA rA Γ, b_c cB cC cI cJ cZ oA rA Γ, b_t cB cC cI cJ cZ oA rA Γ, b_d cB cC cI cJ cZ oA rA Γ] [1]) (bx_ix [b_m cB cC cI cJ cZ oA rA Γ, b_w cB cC cI cJ cZ oA rA Γ, b_s cB cC cI cJ cZ oA rA Γ, b_c cB cC cI cJ cZ oA rA Γ, b_t cB cC cI cJ cZ oA rA Γ, b_d cB cC cI cJ cZ oA rA Γ] [0, 2, 3, 4, 5]) (bx_C (bs := [b_m cB cC cI cJ cZ oA rA Γ, b_w cB cC cI cJ cZ oA rA Γ, b_s cB cC cI cJ cZ oA rA Γ, b_c cB cC cI cJ cZ oA rA Γ, b_t cB cC cI cJ cZ oA rA Γ, b_d cB cC cI cJ cZ oA rA Γ]) (bs' := [b_w cB cC cI cJ cZ oA rA Γ]) (is := [1]) fl_6 fl_1 rfl) (bx_C (bs := [b_m cB cC cI cJ cZ oA rA Γ, b_w cB cC cI cJ cZ oA rA Γ, b_s cB cC cI cJ cZ oA rA Γ, b_c cB cC cI cJ cZ oA rA Γ, b_t cB cC cI cJ cZ oA rA Γ, b_d cB cC cI cJ cZ oA rA Γ]) (bs' := [b_m cB cC cI cJ cZ oA rA Γ, b_s cB cC cI cJ cZ oA rA Γ, b_c cB cC cI cJ cZ oA rA Γ, b_t cB cC cI cJ cZ oA rA Γ, b_d cB cC cI cJ cZ oA rA Γ]) (is := [0, 2, 3, 4, 5]) fl_6 fl_5 rfl) (bx_n (by decide +kernel)) (bx_d (by decide +kernel)) (va_runV (As := [.int (p0 + 3)]) (rest := []) ⟨hx, hb, hml, hown, hts⟩ (k_X10_kindOf l dC dI cB cC cI cJ cZ cP oA rA s.heap.size  (p0 + 3) Γ _ hu_1) (cwV 1 hts (g_gV wq_714 wq_543 wq_544 wq_2 wq_545) rfl rfl rfl (by decide +kernel) ⟨Nat.le_of_ble_eq_true rfl, Nat.le_of_ble_eq_true rfl⟩) (g_preV g_bl0 hK hPc hDc hS hE hFc g_to0 (q0 := 0) (ci := 10) rfl rfl) rfl rfl hl.1 rfl (lv_room (Nat.le_of_ble_eq_true rfl)) dX4_varItem_7 ⟨Nat.le_of_ble_eq_true rfl, Nat.le_of_ble_eq_true rfl⟩) (fun r9 u9 H locs hw9 hP' hD' hS => ?_)
  clear hPc hDc hFc
  subst hw9
  obtain ⟨σ_3, eσ_3, hF_4⟩ := bnd_e hF_2
  clear hF_2
  have hP : va_P (dC, dI) vwCl (b_m cB cC cI cJ cZ oA rA σ_3 ++ b_w cB cC cI cJ cZ oA rA σ_3 ++ b_s cB cC cI cJ cZ oA rA σ_3 ++ b_c cB cC cI cJ cZ oA rA σ_3 ++ b_t cB cC cI cJ cZ oA rA σ_3 ++ b_d cB cC cI cJ cZ oA rA σ_3) H := by rw [eσ_3]; exact bx_P (bs := [b_m cB cC cI cJ cZ oA rA Γ, b_s cB cC cI cJ cZ oA rA Γ, b_c cB cC cI cJ cZ oA rA Γ, b_t cB cC cI cJ cZ oA rA Γ, b_d cB cC cI cJ cZ oA rA Γ] ++ [b_w cB cC cI cJ cZ oA rA u_1.2]) (bs' := [b_m cB cC cI cJ cZ oA rA (mrg (fun j => j == 1) Γ u_1.2), b_w cB cC cI cJ cZ oA rA (mrg (fun j => j == 1) Γ u_1.2), b_s cB cC cI cJ cZ oA rA (mrg (fun j => j == 1) Γ u_1.2), b_c cB cC cI cJ cZ oA rA (mrg (fun j => j == 1) Γ u_1.2), b_t cB cC cI cJ cZ oA rA (mrg (fun j => j == 1) Γ u_1.2), b_d cB cC cI cJ cZ oA rA (mrg (fun j => j == 1) Γ u_1.2)]) hP' (fl_a fl_5 fl_1) fl_6 [0, 5, 1, 2, 3, 4] rfl
  clear hP' hD'
  refine lv_bipush (v := 45) hx hb dX4_varItem_10 (by decide +kernel) ?_
  obtain ⟨j_7, ej_7, hF_8⟩ := bnd_e hF_4
  clear hF_4
  have Jj_7 : ∀ (t_5 : Int32) (σ_6 : HS), j_7 t_5 σ_6 = some res → ∀ (H : Heap) (locs : List Loc), va_P (dC, dI) vwCl (b_m cB cC cI cJ cZ oA rA σ_6 ++ b_w cB cC cI cJ cZ oA rA σ_6 ++ b_s cB cC cI cJ cZ oA rA σ_6 ++ b_c cB cC cI cJ cZ oA rA σ_6 ++ b_t cB cC cI cJ cZ oA rA σ_6 ++ b_d cB cC cI cJ cZ oA rA σ_6) H → va_S A s.heap H locs → ∀ ls : Array Slot, lv_has ls 4 [(0, .ref (oA 3)), (1, .int p0)] → W p l e (headSpec (g_ws yX4_varItem cX4_varItem 4 none) { frames := 5, cells := 0, slots := 0, locals := 124 }).room s m ([.ref (oA 3), .int p0] : List Value).toArray below meth c H locs 0 0 (MQ below (va_Qv (fun (_ : Unit) => True) (g_Bo (dC, dI) A (fun (_ : Unit) => (b_m cB cC cI cJ cZ oA rA res.2 ++ b_w cB cC cI cJ cZ oA rA res.2 ++ b_s cB cC cI cJ cZ oA rA res.2 ++ b_c cB cC cI cJ cZ oA rA res.2 ++ b_t cB cC cI cJ cZ oA rA res.2 ++ b_d cB cC cI cJ cZ oA rA res.2))) A) ([.ref (oA 3), .int p0] : List Value).toArray s 0 0 A) (F0 m 20 ls [.int t_5]) := by
    intro t_5 σ_6 hF0 H locs hP hS ls hl
    subst ej_7
    have hF_9 := hF0
    clear hF0
    refine lv_istore_n (lv' := [(2, .int t_5), (0, .ref (oA 3)), (1, .int p0)]) hx hb dX4_varItem_20 rfl hl (by decide) rfl (fun ls hl => ?_)
    refine lv_aload_n hx hb dX4_varItem_21 rfl (lv_at hl 1 rfl) ?_
    refine va_get (D := (dC, dI)) (ci := 4) (v := .ref (oA 1)) (C := RX4) (T := TX4) (N := 18) hx hb hts ii_X4 hown hK hP 0 rfl rfl 0 (by decide) (hts (.fieldLink RX4 32 "StoryHouse$Meanings" "words" "LStoryHouse$Words;") wq_86) (fun _ h9 => h9) rfl dX4_varItem_22 ?_
    refine lv_iload_n hx hb dX4_varItem_25 rfl (lv_at hl 0 rfl) ?_
    obtain ⟨j_12, ej_12, hF_13⟩ := bnd_e hF_9
    clear hF_9
    have Jj_12 : ∀ (t_10 : Int32) (σ_11 : HS), j_12 t_10 σ_11 = some res → ∀ (H : Heap) (locs : List Loc), va_P (dC, dI) vwCl (b_m cB cC cI cJ cZ oA rA σ_11 ++ b_w cB cC cI cJ cZ oA rA σ_11 ++ b_s cB cC cI cJ cZ oA rA σ_11 ++ b_c cB cC cI cJ cZ oA rA σ_11 ++ b_t cB cC cI cJ cZ oA rA σ_11 ++ b_d cB cC cI cJ cZ oA rA σ_11) H → va_S A s.heap H locs → ∀ ls : Array Slot, lv_has ls 4 [(0, .ref (oA 3)), (1, .int p0), (2, .int t_5)] → W p l e (headSpec (g_ws yX4_varItem cX4_varItem 4 none) { frames := 5, cells := 0, slots := 0, locals := 124 }).room s m ([.ref (oA 3), .int p0] : List Value).toArray below meth c H locs 0 0 (MQ below (va_Qv (fun (_ : Unit) => True) (g_Bo (dC, dI) A (fun (_ : Unit) => (b_m cB cC cI cJ cZ oA rA res.2 ++ b_w cB cC cI cJ cZ oA rA res.2 ++ b_s cB cC cI cJ cZ oA rA res.2 ++ b_c cB cC cI cJ cZ oA rA res.2 ++ b_t cB cC cI cJ cZ oA rA res.2 ++ b_d cB cC cI cJ cZ oA rA res.2))) A) ([.ref (oA 3), .int p0] : List Value).toArray s 0 0 A) (F0 m 38 ls [.int t_10, .ref (oA 1)]) := by
      intro t_10 σ_11 hF0 H locs hP hS ls hl
      subst ej_12
      have hF_14 := hF0
      clear hF0
      obtain ⟨u_15, hu_15, hF_16⟩ := Option.bind_eq_some_iff.mp hF_14
      clear hF_14
      have hPc := bx_P (bs := [b_m cB cC cI cJ cZ oA rA σ_11, b_w cB cC cI cJ cZ oA rA σ_11, b_s cB cC cI cJ cZ oA rA σ_11, b_c cB cC cI cJ cZ oA rA σ_11, b_t cB cC cI cJ cZ oA rA σ_11, b_d cB cC cI cJ cZ oA rA σ_11]) (bs' := [b_w cB cC cI cJ cZ oA rA σ_11]) (ws' := (b_w cB cC cI cJ cZ oA rA σ_11)) hP fl_6 fl_1 [1] rfl
      have hDc := bx_D (bs := [b_m cB cC cI cJ cZ oA rA σ_11, b_w cB cC cI cJ cZ oA rA σ_11, b_s cB cC cI cJ cZ oA rA σ_11, b_c cB cC cI cJ cZ oA rA σ_11, b_t cB cC cI cJ cZ oA rA σ_11, b_d cB cC cI cJ cZ oA rA σ_11]) (bs' := [b_w cB cC cI cJ cZ oA rA σ_11]) (ws' := (b_w cB cC cI cJ cZ oA rA σ_11)) (hDD σ_11) fl_6 fl_1 [1] (by decide +kernel) rfl
      have hFc := bx_F (bs := [b_m cB cC cI cJ cZ oA rA σ_11, b_w cB cC cI cJ cZ oA rA σ_11, b_s cB cC cI cJ cZ oA rA σ_11, b_c cB cC cI cJ cZ oA rA σ_11, b_t cB cC cI cJ cZ oA rA σ_11, b_d cB cC cI cJ cZ oA rA σ_11]) (bs' := [b_w cB cC cI cJ cZ oA rA σ_11]) (wc := (b_w cB cC cI cJ cZ oA rA σ_11)) (hDD σ_11) hS hA fl_6 fl_1 [1] rfl
      refine g_ofi (wc := (b_w cB cC cI cJ cZ oA rA σ_11)) (wr := (b_m cB cC cI cJ cZ oA rA σ_11 ++ b_s cB cC cI cJ cZ oA rA σ_11 ++ b_c cB cC cI cJ cZ oA rA σ_11 ++ b_t cB cC cI cJ cZ oA rA σ_11 ++ b_d cB cC cI cJ cZ oA rA σ_11)) hP (hDD σ_11) hS hFc (bx_ix [b_m cB cC cI cJ cZ oA rA σ_11, b_w cB cC cI cJ cZ oA rA σ_11, b_s cB cC cI cJ cZ oA rA σ_11, b_c cB cC cI cJ cZ oA rA σ_11, b_t cB cC cI cJ cZ oA rA σ_11, b_d cB cC cI cJ cZ oA rA σ_11] [1]) (bx_ix [b_m cB cC cI cJ cZ oA rA σ_11, b_w cB cC cI cJ cZ oA rA σ_11, b_s cB cC cI cJ cZ oA rA σ_11, b_c cB cC cI cJ cZ oA rA σ_11, b_t cB cC cI cJ cZ oA rA σ_11, b_d cB cC cI cJ cZ oA rA σ_11] [0, 2, 3, 4, 5]) (bx_C (bs := [b_m cB cC cI cJ cZ oA rA σ_11, b_w cB cC cI cJ cZ oA rA σ_11, b_s cB cC cI cJ cZ oA rA σ_11, b_c cB cC cI cJ cZ oA rA σ_11, b_t cB cC cI cJ cZ oA rA σ_11, b_d cB cC cI cJ cZ oA rA σ_11]) (bs' := [b_w cB cC cI cJ cZ oA rA σ_11]) (is := [1]) fl_6 fl_1 rfl) (bx_C (bs := [b_m cB cC cI cJ cZ oA rA σ_11, b_w cB cC cI cJ cZ oA rA σ_11, b_s cB cC cI cJ cZ oA rA σ_11, b_c cB cC cI cJ cZ oA rA σ_11, b_t cB cC cI cJ cZ oA rA σ_11, b_d cB cC cI cJ cZ oA rA σ_11]) (bs' := [b_m cB cC cI cJ cZ oA rA σ_11, b_s cB cC cI cJ cZ oA rA σ_11, b_c cB cC cI cJ cZ oA rA σ_11, b_t cB cC cI cJ cZ oA rA σ_11, b_d cB cC cI cJ cZ oA rA σ_11]) (is := [0, 2, 3, 4, 5]) fl_6 fl_5 rfl) (bx_n (by decide +kernel)) (bx_d (by decide +kernel)) (va_runV (As := [.int t_10]) (rest := []) ⟨hx, hb, hml, hown, hts⟩ (k_X10_worthOf l dC dI cB cC cI cJ cZ cP oA rA H.size  t_10 σ_11 _ hu_15) (cwV 1 hts (g_gV wq_715 wq_653 wq_654 wq_2 wq_655) rfl rfl rfl (by decide +kernel) ⟨Nat.le_of_ble_eq_true rfl, Nat.le_of_ble_eq_true rfl⟩) (g_preV g_bl0 hK hPc hDc hS hE hFc g_to0 (q0 := 0) (ci := 10) rfl rfl) rfl rfl hl.1 rfl (lv_room (Nat.le_of_ble_eq_true rfl)) dX4_varItem_38 ⟨Nat.le_of_ble_eq_true rfl, Nat.le_of_ble_eq_true rfl⟩) (fun r9 u9 H locs hw9 hP' hD' hS => ?_)
      clear hPc hDc hFc
      subst hw9
      obtain ⟨σ_17, eσ_17, hF_18⟩ := bnd_e hF_16
      clear hF_16
      have hP : va_P (dC, dI) vwCl (b_m cB cC cI cJ cZ oA rA σ_17 ++ b_w cB cC cI cJ cZ oA rA σ_17 ++ b_s cB cC cI cJ cZ oA rA σ_17 ++ b_c cB cC cI cJ cZ oA rA σ_17 ++ b_t cB cC cI cJ cZ oA rA σ_17 ++ b_d cB cC cI cJ cZ oA rA σ_17) H := by rw [eσ_17]; exact bx_P (bs := [b_m cB cC cI cJ cZ oA rA σ_11, b_s cB cC cI cJ cZ oA rA σ_11, b_c cB cC cI cJ cZ oA rA σ_11, b_t cB cC cI cJ cZ oA rA σ_11, b_d cB cC cI cJ cZ oA rA σ_11] ++ [b_w cB cC cI cJ cZ oA rA u_15.2]) (bs' := [b_m cB cC cI cJ cZ oA rA (mrg (fun j => j == 1) σ_11 u_15.2), b_w cB cC cI cJ cZ oA rA (mrg (fun j => j == 1) σ_11 u_15.2), b_s cB cC cI cJ cZ oA rA (mrg (fun j => j == 1) σ_11 u_15.2), b_c cB cC cI cJ cZ oA rA (mrg (fun j => j == 1) σ_11 u_15.2), b_t cB cC cI cJ cZ oA rA (mrg (fun j => j == 1) σ_11 u_15.2), b_d cB cC cI cJ cZ oA rA (mrg (fun j => j == 1) σ_11 u_15.2)]) hP' (fl_a fl_5 fl_1) fl_6 [0, 5, 1, 2, 3, 4] rfl
      clear hP' hD'
      refine lv_istore_n (lv' := [(3, .int u_15.1), (0, .ref (oA 3)), (1, .int p0), (2, .int t_5)]) hx hb dX4_varItem_41 rfl hl (by decide) rfl (fun ls hl => ?_)
      refine lv_aload_n hx hb dX4_varItem_42 rfl (lv_at hl 1 rfl) ?_
      refine va_get (D := (dC, dI)) (ci := 4) (v := .ref (oA 4)) (C := RX4) (T := TX4) (N := 18) hx hb hts ii_X4 hown hK hP 0 rfl rfl 1 (by decide) (hts (.fieldLink RX4 36 "StoryHouse$Meanings" "story" "LStoryHouse$Story;") wq_87) (fun _ h9 => h9) rfl dX4_varItem_43 ?_
      refine va_get (D := (dC, dI)) (ci := 7) (v := .ref (rA 4 11)) (C := RX7) (T := TX7) (N := 19) hx hb hts ii_X7 hown hK hP 16 rfl rfl 11 (by decide) (hts (.fieldLink RX4 250 "StoryHouse$Story" "initials" "[I") wq_180) (fun _ h9 => h9) rfl dX4_varItem_46 ?_
      refine lv_aload_n hx hb dX4_varItem_49 rfl (lv_at hl 1 rfl) ?_
      refine lv_iload_n hx hb dX4_varItem_50 rfl (lv_at hl 2 rfl) ?_
      refine lv_iconst (v := 1) hx hb dX4_varItem_51 (by decide +kernel) ?_
      refine lv_iadd hx hb dX4_varItem_52 ?_
      obtain ⟨u_19, hu_19, hF_20⟩ := Option.bind_eq_some_iff.mp hF_18
      clear hF_18
      have hPc := bx_P (bs := [b_m cB cC cI cJ cZ oA rA σ_17, b_w cB cC cI cJ cZ oA rA σ_17, b_s cB cC cI cJ cZ oA rA σ_17, b_c cB cC cI cJ cZ oA rA σ_17, b_t cB cC cI cJ cZ oA rA σ_17, b_d cB cC cI cJ cZ oA rA σ_17]) (bs' := [b_m cB cC cI cJ cZ oA rA σ_17, b_w cB cC cI cJ cZ oA rA σ_17, b_s cB cC cI cJ cZ oA rA σ_17, b_c cB cC cI cJ cZ oA rA σ_17, b_t cB cC cI cJ cZ oA rA σ_17, b_d cB cC cI cJ cZ oA rA σ_17]) (ws' := (b_m cB cC cI cJ cZ oA rA σ_17 ++ b_w cB cC cI cJ cZ oA rA σ_17 ++ b_s cB cC cI cJ cZ oA rA σ_17 ++ b_c cB cC cI cJ cZ oA rA σ_17 ++ b_t cB cC cI cJ cZ oA rA σ_17 ++ b_d cB cC cI cJ cZ oA rA σ_17)) hP fl_6 fl_6 [0, 1, 2, 3, 4, 5] rfl
      have hDc := bx_D (bs := [b_m cB cC cI cJ cZ oA rA σ_17, b_w cB cC cI cJ cZ oA rA σ_17, b_s cB cC cI cJ cZ oA rA σ_17, b_c cB cC cI cJ cZ oA rA σ_17, b_t cB cC cI cJ cZ oA rA σ_17, b_d cB cC cI cJ cZ oA rA σ_17]) (bs' := [b_m cB cC cI cJ cZ oA rA σ_17, b_w cB cC cI cJ cZ oA rA σ_17, b_s cB cC cI cJ cZ oA rA σ_17, b_c cB cC cI cJ cZ oA rA σ_17, b_t cB cC cI cJ cZ oA rA σ_17, b_d cB cC cI cJ cZ oA rA σ_17]) (ws' := (b_m cB cC cI cJ cZ oA rA σ_17 ++ b_w cB cC cI cJ cZ oA rA σ_17 ++ b_s cB cC cI cJ cZ oA rA σ_17 ++ b_c cB cC cI cJ cZ oA rA σ_17 ++ b_t cB cC cI cJ cZ oA rA σ_17 ++ b_d cB cC cI cJ cZ oA rA σ_17)) (hDD σ_17) fl_6 fl_6 [0, 1, 2, 3, 4, 5] (by decide +kernel) rfl
      have hFc := bx_F (bs := [b_m cB cC cI cJ cZ oA rA σ_17, b_w cB cC cI cJ cZ oA rA σ_17, b_s cB cC cI cJ cZ oA rA σ_17, b_c cB cC cI cJ cZ oA rA σ_17, b_t cB cC cI cJ cZ oA rA σ_17, b_d cB cC cI cJ cZ oA rA σ_17]) (bs' := [b_m cB cC cI cJ cZ oA rA σ_17, b_w cB cC cI cJ cZ oA rA σ_17, b_s cB cC cI cJ cZ oA rA σ_17, b_c cB cC cI cJ cZ oA rA σ_17, b_t cB cC cI cJ cZ oA rA σ_17, b_d cB cC cI cJ cZ oA rA σ_17]) (wc := (b_m cB cC cI cJ cZ oA rA σ_17 ++ b_w cB cC cI cJ cZ oA rA σ_17 ++ b_s cB cC cI cJ cZ oA rA σ_17 ++ b_c cB cC cI cJ cZ oA rA σ_17 ++ b_t cB cC cI cJ cZ oA rA σ_17 ++ b_d cB cC cI cJ cZ oA rA σ_17)) (hDD σ_17) hS hA fl_6 fl_6 [0, 1, 2, 3, 4, 5] rfl
      refine g_ofi (wc := (b_m cB cC cI cJ cZ oA rA σ_17 ++ b_w cB cC cI cJ cZ oA rA σ_17 ++ b_s cB cC cI cJ cZ oA rA σ_17 ++ b_c cB cC cI cJ cZ oA rA σ_17 ++ b_t cB cC cI cJ cZ oA rA σ_17 ++ b_d cB cC cI cJ cZ oA rA σ_17)) (wr := ([] : va_W)) hP (hDD σ_17) hS hFc (bx_ix [b_m cB cC cI cJ cZ oA rA σ_17, b_w cB cC cI cJ cZ oA rA σ_17, b_s cB cC cI cJ cZ oA rA σ_17, b_c cB cC cI cJ cZ oA rA σ_17, b_t cB cC cI cJ cZ oA rA σ_17, b_d cB cC cI cJ cZ oA rA σ_17] [0, 1, 2, 3, 4, 5]) (bx_ix [b_m cB cC cI cJ cZ oA rA σ_17, b_w cB cC cI cJ cZ oA rA σ_17, b_s cB cC cI cJ cZ oA rA σ_17, b_c cB cC cI cJ cZ oA rA σ_17, b_t cB cC cI cJ cZ oA rA σ_17, b_d cB cC cI cJ cZ oA rA σ_17] []) (bx_C (bs := [b_m cB cC cI cJ cZ oA rA σ_17, b_w cB cC cI cJ cZ oA rA σ_17, b_s cB cC cI cJ cZ oA rA σ_17, b_c cB cC cI cJ cZ oA rA σ_17, b_t cB cC cI cJ cZ oA rA σ_17, b_d cB cC cI cJ cZ oA rA σ_17]) (bs' := [b_m cB cC cI cJ cZ oA rA σ_17, b_w cB cC cI cJ cZ oA rA σ_17, b_s cB cC cI cJ cZ oA rA σ_17, b_c cB cC cI cJ cZ oA rA σ_17, b_t cB cC cI cJ cZ oA rA σ_17, b_d cB cC cI cJ cZ oA rA σ_17]) (is := [0, 1, 2, 3, 4, 5]) fl_6 fl_6 rfl) (bx_C (bs := [b_m cB cC cI cJ cZ oA rA σ_17, b_w cB cC cI cJ cZ oA rA σ_17, b_s cB cC cI cJ cZ oA rA σ_17, b_c cB cC cI cJ cZ oA rA σ_17, b_t cB cC cI cJ cZ oA rA σ_17, b_d cB cC cI cJ cZ oA rA σ_17]) (bs' := []) (is := []) fl_6 fl_0 rfl) (bx_n (by decide +kernel)) (bx_d (by decide +kernel)) (va_runV (As := [.int (p0 + 1)]) (rest := [.ref (rA 4 11)]) ⟨hx, hb, hml, hown, hts⟩ (k_X4_numberOf l dC dI cB cC cI cJ cZ cP oA rA H.size  (p0 + 1) σ_17 _ hu_19) (cwV 1 hts (g_gV wq_769 wq_770 wq_2051 wq_4 wq_771) rfl rfl rfl (by decide +kernel) ⟨Nat.le_of_ble_eq_true rfl, Nat.le_of_ble_eq_true rfl⟩) (g_preV g_bl0 hK hPc hDc hS hE hFc g_to0 (q0 := 0) (ci := 4) rfl rfl) rfl rfl hl.1 rfl (lv_room (Nat.le_of_ble_eq_true rfl)) dX4_varItem_53 ⟨Nat.le_of_ble_eq_true rfl, Nat.le_of_ble_eq_true rfl⟩) (fun r9 u9 H locs hw9 hP' hD' hS => ?_)
      clear hPc hDc hFc
      subst hw9
      have hP : va_P (dC, dI) vwCl (b_m cB cC cI cJ cZ oA rA u_19.2 ++ b_w cB cC cI cJ cZ oA rA u_19.2 ++ b_s cB cC cI cJ cZ oA rA u_19.2 ++ b_c cB cC cI cJ cZ oA rA u_19.2 ++ b_t cB cC cI cJ cZ oA rA u_19.2 ++ b_d cB cC cI cJ cZ oA rA u_19.2) H := hP'
      clear hP' hD'
      refine lv_iload_n hx hb dX4_varItem_56 rfl (lv_at hl 3 rfl) ?_
      obtain ⟨j_23, ej_23, hF_24⟩ := bnd_e hF_20
      clear hF_20
      have Jj_23 : ∀ (t_21 : Int32) (σ_22 : HS), j_23 t_21 σ_22 = some res → ∀ (H : Heap) (locs : List Loc), va_P (dC, dI) vwCl (b_m cB cC cI cJ cZ oA rA σ_22 ++ b_w cB cC cI cJ cZ oA rA σ_22 ++ b_s cB cC cI cJ cZ oA rA σ_22 ++ b_c cB cC cI cJ cZ oA rA σ_22 ++ b_t cB cC cI cJ cZ oA rA σ_22 ++ b_d cB cC cI cJ cZ oA rA σ_22) H → va_S A s.heap H locs → ∀ ls : Array Slot, lv_has ls 4 [] → W p l e (headSpec (g_ws yX4_varItem cX4_varItem 4 none) { frames := 5, cells := 0, slots := 0, locals := 124 }).room s m ([.ref (oA 3), .int p0] : List Value).toArray below meth c H locs 0 0 (MQ below (va_Qv (fun (_ : Unit) => True) (g_Bo (dC, dI) A (fun (_ : Unit) => (b_m cB cC cI cJ cZ oA rA res.2 ++ b_w cB cC cI cJ cZ oA rA res.2 ++ b_s cB cC cI cJ cZ oA rA res.2 ++ b_c cB cC cI cJ cZ oA rA res.2 ++ b_t cB cC cI cJ cZ oA rA res.2 ++ b_d cB cC cI cJ cZ oA rA res.2))) A) ([.ref (oA 3), .int p0] : List Value).toArray s 0 0 A) (F0 m 66 ls [.int t_21, .int u_19.1, .ref (rA 4 11)]) := by
        intro t_21 σ_22 hF0 H locs hP hS ls hl
        subst ej_23
        have hF_25 := hF0
        clear hF0
        have hq9 : ((b_m cB cC cI cJ cZ oA rA σ_22 ++ b_w cB cC cI cJ cZ oA rA σ_22 ++ b_s cB cC cI cJ cZ oA rA σ_22 ++ b_c cB cC cI cJ cZ oA rA σ_22 ++ b_t cB cC cI cJ cZ oA rA σ_22 ++ b_d cB cC cI cJ cZ oA rA σ_22))[28]? = some (rA 4 11, .inl (cI, 100, .inl ((σ_22 4).2.1 11))) := rfl
        have hPc := hP.sub (ws' := [(rA 4 11, .inl (cI, 100, .inl ((σ_22 4).2.1 11)))]) [28] (pk_fm (er_C hq9))
        have hDc := (hDD σ_22).sub (ws' := [(rA 4 11, .inl (cI, 100, .inl ((σ_22 4).2.1 11)))]) [28] (by decide +kernel) (er_C hq9)
        have hFc := va_free (wc := [(rA 4 11, .inl (cI, 100, .inl ((σ_22 4).2.1 11)))]) (hDD σ_22) hS hA [28] (er_C hq9)
        refine g_ofv (wc := [(rA 4 11, .inl (cI, 100, .inl ((σ_22 4).2.1 11)))]) (wr := (((b_m cB cC cI cJ cZ oA rA σ_22 ++ b_w cB cC cI cJ cZ oA rA σ_22 ++ b_s cB cC cI cJ cZ oA rA σ_22 ++ b_c cB cC cI cJ cZ oA rA σ_22 ++ b_t cB cC cI cJ cZ oA rA σ_22 ++ b_d cB cC cI cJ cZ oA rA σ_22)).eraseIdx 28)) hP (hDD σ_22) hS hFc [28] ((List.range ((b_m cB cC cI cJ cZ oA rA σ_22 ++ b_w cB cC cI cJ cZ oA rA σ_22 ++ b_s cB cC cI cJ cZ oA rA σ_22 ++ b_c cB cC cI cJ cZ oA rA σ_22 ++ b_t cB cC cI cJ cZ oA rA σ_22 ++ b_d cB cC cI cJ cZ oA rA σ_22)).length).eraseIdx 28) (er_C hq9) er_R er_n er_d (va_runSN (As := [.ref (rA 4 11), .int u_19.1, .int t_21]) (rest := []) ⟨hx, hb, hml, hown, hts⟩ (c_X11_put l dC dI cB cC cI cJ cZ cP H.size (rA 4 11) u_19.1 t_21 100 ((σ_22 4).2.1 11) (by decide)) ⟨va_cnB 3 hts (g_gA wq_412) rfl rfl rfl (nw_23 hN) (hts (.initialized RX11) wq_1) (by decide +kernel) ⟨Nat.le_of_ble_eq_true rfl, Nat.le_of_ble_eq_true rfl⟩, (hts (.static yX11_put) wq_411), trivial⟩ (g_preS g_bl0 hK hPc hDc hS hE hFc g_to0) rfl rfl hl.1 rfl (lv_room (Nat.le_of_ble_eq_true rfl)) dX4_varItem_66 ⟨Nat.le_of_ble_eq_true rfl, Nat.le_of_ble_eq_true rfl⟩) (fun g9 H locs hw9 hP' hD' hS => ?_)
        clear hPc hDc hFc hD'
        obtain ⟨σ_26, eσ_26, hF_27⟩ := bnd_e hF_25
        clear hF_25
        subst hw9
        have hP : va_P (dC, dI) vwCl (b_m cB cC cI cJ cZ oA rA σ_26 ++ b_w cB cC cI cJ cZ oA rA σ_26 ++ b_s cB cC cI cJ cZ oA rA σ_26 ++ b_c cB cC cI cJ cZ oA rA σ_26 ++ b_t cB cC cI cJ cZ oA rA σ_26 ++ b_d cB cC cI cJ cZ oA rA σ_26) H := by rw [eσ_26]; exact cs_mwsctd_s_11 ▸ er_P hP' (er_lt hq9)
        clear hP' hq9
        have h9 := Option.some.inj hF_27
        subst h9
        exact W.vret hx hb hr (fun t ht hW => ⟨⟨(), rfl, trivial, m_end ht hP, hDD _⟩, hS.F ht⟩) hS.2.2 dX4_varItem_69
      refine lv_if_eq (tgt := 65) hx hb dX4_varItem_57 (by decide) (fun c_28 => ?_) (fun c_28 => ?_)
      · have hF_29 := ipos c_28 hF_24
        clear hF_24
        refine lv_iload_n hx hb dX4_varItem_65 rfl (lv_at hl 0 rfl) ?_
        exact Jj_23 u_15.1 u_19.2 hF_29 _ _ hP hS ls (lv_sub hl [] rfl)
      · have hF_30 := ineg c_28 hF_24
        clear hF_24
        refine lv_iload_n hx hb dX4_varItem_60 rfl (lv_at hl 0 rfl) ?_
        refine lv_ineg hx hb dX4_varItem_61 ?_
        refine lv_goto (tgt := 66) hx hb dX4_varItem_62 (by decide) ?_
        exact Jj_23 (-u_15.1) u_19.2 hF_30 _ _ hP hS ls (lv_sub hl [] rfl)
    refine lv_if_eq (tgt := 35) hx hb dX4_varItem_26 (by decide) (fun c_31 => ?_) (fun c_31 => ?_)
    · have hF_32 := ipos c_31 hF_13
      clear hF_13
      refine lv_iload_n hx hb dX4_varItem_35 rfl (lv_at hl 2 rfl) ?_
      refine lv_iconst (v := 3) hx hb dX4_varItem_36 (by decide +kernel) ?_
      refine lv_iadd hx hb dX4_varItem_37 ?_
      exact Jj_12 (p0 + 3) σ_6 hF_32 _ _ hP hS ls (lv_sub hl [1, 2, 0] rfl)
    · have hF_33 := ineg c_31 hF_13
      clear hF_13
      refine lv_iload_n hx hb dX4_varItem_29 rfl (lv_at hl 2 rfl) ?_
      refine lv_iconst (v := 4) hx hb dX4_varItem_30 (by decide +kernel) ?_
      refine lv_iadd hx hb dX4_varItem_31 ?_
      refine lv_goto (tgt := 38) hx hb dX4_varItem_32 (by decide) ?_
      exact Jj_12 (p0 + 4) σ_6 hF_33 _ _ hP hS ls (lv_sub hl [1, 2, 0] rfl)
  refine lv_icmp_ne (tgt := 19) hx hb dX4_varItem_12 (by decide) (fun c_34 => ?_) (fun c_34 => ?_)
  · have hF_36 := ineg c_34 hF_8
    clear hF_8
    refine lv_iconst (v := 0) hx hb dX4_varItem_19 (by decide +kernel) ?_
    exact Jj_7 0 σ_3 hF_36 _ _ hP hS ls (lv_sub hl [0, 1] rfl)
  · have hF_35 := ipos c_34 hF_8
    clear hF_8
    refine lv_iconst (v := 1) hx hb dX4_varItem_15 (by decide +kernel) ?_
    refine lv_goto (tgt := 20) hx hb dX4_varItem_16 (by decide) ?_
    exact Jj_7 1 σ_3 hF_35 _ _ hP hS ls (lv_sub hl [0, 1] rfl)
theorem dX4_verbItem_0 : decode cX4_verbItem 0 = .ok (.aload_n 0, 1) := by decide +kernel
theorem dX4_verbItem_1 : decode cX4_verbItem 1 = .ok (.iload_n 1, 1) := by decide +kernel
theorem dX4_verbItem_2 : decode cX4_verbItem 2 = .ok (.iconst 1, 1) := by decide +kernel
theorem dX4_verbItem_3 : decode cX4_verbItem 3 = .ok (.iadd, 1) := by decide +kernel
theorem dX4_verbItem_4 : decode cX4_verbItem 4 = .ok (.invokevirtual 193, 3) := by decide +kernel
theorem dX4_verbItem_7 : decode cX4_verbItem 7 = .ok (.istore_n 2, 1) := by decide +kernel
theorem dX4_verbItem_8 : decode cX4_verbItem 8 = .ok (.aload_n 0, 1) := by decide +kernel
theorem dX4_verbItem_9 : decode cX4_verbItem 9 = .ok (.bipush 120, 2) := by decide +kernel
theorem dX4_verbItem_11 : decode cX4_verbItem 11 = .ok (.iload_n 2, 1) := by decide +kernel
theorem dX4_verbItem_12 : decode cX4_verbItem 12 = .ok (.iadd, 1) := by decide +kernel
theorem dX4_verbItem_13 : decode cX4_verbItem 13 = .ok (.iload_n 1, 1) := by decide +kernel
theorem dX4_verbItem_14 : decode cX4_verbItem 14 = .ok (.iconst 2, 1) := by decide +kernel
theorem dX4_verbItem_15 : decode cX4_verbItem 15 = .ok (.iadd, 1) := by decide +kernel
theorem dX4_verbItem_16 : decode cX4_verbItem 16 = .ok (.invokevirtual 208, 3) := by decide +kernel
theorem dX4_verbItem_19 : decode cX4_verbItem 19 = .ok (.istore_n 3, 1) := by decide +kernel
theorem dX4_verbItem_20 : decode cX4_verbItem 20 = .ok (.aload_n 0, 1) := by decide +kernel
theorem dX4_verbItem_21 : decode cX4_verbItem 21 = .ok (.getfield 32, 3) := by decide +kernel
theorem dX4_verbItem_24 : decode cX4_verbItem 24 = .ok (.iload_n 3, 1) := by decide +kernel
theorem dX4_verbItem_25 : decode cX4_verbItem 25 = .ok (.invokevirtual 116, 3) := by decide +kernel
theorem dX4_verbItem_28 : decode cX4_verbItem 28 = .ok (.sipush 215, 3) := by decide +kernel
theorem dX4_verbItem_31 : decode cX4_verbItem 31 = .ok (.if_icmp .ne 41, 3) := by decide +kernel
theorem dX4_verbItem_34 : decode cX4_verbItem 34 = .ok (.aload_n 0, 1) := by decide +kernel
theorem dX4_verbItem_35 : decode cX4_verbItem 35 = .ok (.getfield 36, 3) := by decide +kernel
theorem dX4_verbItem_38 : decode cX4_verbItem 38 = .ok (.getfield 238, 3) := by decide +kernel
theorem dX4_verbItem_41 : decode cX4_verbItem 41 = .ok (.iload_n 2, 1) := by decide +kernel
theorem dX4_verbItem_42 : decode cX4_verbItem 42 = .ok (.aload_n 0, 1) := by decide +kernel
theorem dX4_verbItem_43 : decode cX4_verbItem 43 = .ok (.getfield 36, 3) := by decide +kernel
theorem dX4_verbItem_46 : decode cX4_verbItem 46 = .ok (.getfield 241, 3) := by decide +kernel
theorem dX4_verbItem_49 : decode cX4_verbItem 49 = .ok (.aload_n 0, 1) := by decide +kernel
theorem dX4_verbItem_50 : decode cX4_verbItem 50 = .ok (.getfield 32, 3) := by decide +kernel
theorem dX4_verbItem_53 : decode cX4_verbItem 53 = .ok (.aload_n 0, 1) := by decide +kernel
theorem dX4_verbItem_54 : decode cX4_verbItem 54 = .ok (.getfield 32, 3) := by decide +kernel
theorem dX4_verbItem_57 : decode cX4_verbItem 57 = .ok (.iload_n 3, 1) := by decide +kernel
theorem dX4_verbItem_58 : decode cX4_verbItem 58 = .ok (.iconst 1, 1) := by decide +kernel
theorem dX4_verbItem_59 : decode cX4_verbItem 59 = .ok (.iadd, 1) := by decide +kernel
theorem dX4_verbItem_60 : decode cX4_verbItem 60 = .ok (.invokevirtual 119, 3) := by decide +kernel
theorem dX4_verbItem_63 : decode cX4_verbItem 63 = .ok (.invokevirtual 230, 3) := by decide +kernel
theorem dX4_verbItem_66 : decode cX4_verbItem 66 = .ok (.invokevirtual 245, 3) := by decide +kernel
theorem dX4_verbItem_69 : decode cX4_verbItem 69 = .ok (.invokestatic 112, 3) := by decide +kernel
theorem dX4_verbItem_72 : decode cX4_verbItem 72 = .ok (.return_, 1) := by decide +kernel
def F_X4_verbItem (p0 : Int32) (Γ : HS) : HR :=
  (F_X4_numberOf (p0 + 1) Γ).bind fun u_1 =>
  (F_X4_ownWords (120 + u_1.1) (p0 + 2) u_1.2).bind fun u_3 =>
  (F_X10_kindOf u_3.1 u_3.2).bind fun u_5 =>
  bnd (mrg (fun j => j == 1) u_3.2 u_5.2) fun σ_7 =>
  if u_5.1 = 215 then (
    (F_X10_worthOf (u_3.1 + 1) σ_7).bind fun u_11 =>
    bnd (mrg (fun j => j == 1) σ_7 u_11.2) fun σ_13 =>
    (F_X10_termOf u_11.1 σ_13).bind fun u_15 =>
    bnd (mrg (fun j => j == 1) σ_13 u_15.2) fun σ_17 =>
    (F_X1_learn u_15.1 σ_17).bind fun u_19 =>
    bnd (mrg (fun j => j == 7) σ_17 u_19.2) fun σ_21 =>
    bnd (cA' σ_21 4 8 (g_put 61 ((σ_21 4).2.1 8) u_1.1 u_19.1)) fun σ_23 =>
    some (0, σ_23)
  ) else (
    some (0, σ_7)
  )
set_option maxHeartbeats 4000000 in
set_option maxRecDepth 100000 in
theorem k_X4_verbItem (l : Launch) (dC : Nat → ClassId) (dI : Nat → Nat → Nat) (cB cC cI cJ cZ cP : ClassId) (oA : Nat → Nat) (rA : Nat → Nat → Nat) (sz : Nat)  (p0 : Int32) (Γ : HS) (res : Int32 × HS) (hF : F_X4_verbItem p0 Γ = some res) : Met l yX4_verbItem (g_ws yX4_verbItem cX4_verbItem 4 none) ({ frames := 6, cells := 0, slots := 0, locals := 152 }) (va_Pc [.ref (oA 3), .int p0] (g_B (dC, dI) [(cB, .byte), (cC, .char), (cI, .int), (cJ, .long), (cZ, .boolean), (cP, .object "StoryHouse$Play")] sz (b_m cB cC cI cJ cZ oA rA Γ ++ b_w cB cC cI cJ cZ oA rA Γ ++ b_s cB cC cI cJ cZ oA rA Γ ++ b_c cB cC cI cJ cZ oA rA Γ ++ b_t cB cC cI cJ cZ oA rA Γ ++ b_d cB cC cI cJ cZ oA rA Γ) g_0)) (va_Qv (fun (_ : Unit) => True) (g_Bo (dC, dI) (va_A (b_m cB cC cI cJ cZ oA rA Γ ++ b_w cB cC cI cJ cZ oA rA Γ ++ b_s cB cC cI cJ cZ oA rA Γ ++ b_c cB cC cI cJ cZ oA rA Γ ++ b_t cB cC cI cJ cZ oA rA Γ ++ b_d cB cC cI cJ cZ oA rA Γ) sz) (fun (_ : Unit) => (b_m cB cC cI cJ cZ oA rA res.2 ++ b_w cB cC cI cJ cZ oA rA res.2 ++ b_s cB cC cI cJ cZ oA rA res.2 ++ b_c cB cC cI cJ cZ oA rA res.2 ++ b_t cB cC cI cJ cZ oA rA res.2 ++ b_d cB cC cI cJ cZ oA rA res.2))) (va_A (b_m cB cC cI cJ cZ oA rA Γ ++ b_w cB cC cI cJ cZ oA rA Γ ++ b_s cB cC cI cJ cZ oA rA Γ ++ b_c cB cC cI cJ cZ oA rA Γ ++ b_t cB cC cI cJ cZ oA rA Γ ++ b_d cB cC cI cJ cZ oA rA Γ) sz)) 0 0 (va_A (b_m cB cC cI cJ cZ oA rA Γ ++ b_w cB cC cI cJ cZ oA rA Γ ++ b_s cB cC cI cJ cZ oA rA Γ ++ b_c cB cC cI cJ cZ oA rA Γ ++ b_t cB cC cI cJ cZ oA rA Γ ++ b_d cB cC cI cJ cZ oA rA Γ) sz) := by
  refine Met.ofW (cc := cX4_verbItem) (maxL := 4) (ret := none) (by decide) rfl ?_
  intro p e s m args below meth c s₁ B hml hv
  obtain ⟨rfl, hsz, hP, hK, hD0, hE, hX⟩ := hv
  have hx := B.exec
  have hb := B.bytes
  have hr := B.returns
  have hts0 := atoms_spec (ws := g_ws yX4_verbItem cX4_verbItem 4 none) B.pre
  have hts : ∀ w ∈ lw_good, w.before ([.ref (oA 3), .int p0] : List Value).toArray s = true := fun w z => hts0 w (List.mem_cons_of_mem _ z)
  have hown : s.vm.findClass RX4 = some m.cls := findClass_of_methodNamed B.named
  have hlocks := B.notSynchronized
  subst hsz
  have hD1 := hD0.self (sz := s.heap.size)
  generalize hAe : va_A (b_m cB cC cI cJ cZ oA rA Γ ++ b_w cB cC cI cJ cZ oA rA Γ ++ b_s cB cC cI cJ cZ oA rA Γ ++ b_c cB cC cI cJ cZ oA rA Γ ++ b_t cB cC cI cJ cZ oA rA Γ ++ b_d cB cC cI cJ cZ oA rA Γ) s.heap.size = A at hD1 hE hX ⊢
  have hA : ∀ q : Nat, s.heap.size ≤ q → A q := fun q z => by rw [← hAe]; exact Or.inr z
  have hDD : ∀ Γ : HS, va_D A (b_m cB cC cI cJ cZ oA rA Γ ++ b_w cB cC cI cJ cZ oA rA Γ ++ b_s cB cC cI cJ cZ oA rA Γ ++ b_c cB cC cI cJ cZ oA rA Γ ++ b_t cB cC cI cJ cZ oA rA Γ ++ b_d cB cC cI cJ cZ oA rA Γ) := fun Γ9 => va_D_fst (ws := (b_m cB cC cI cJ cZ oA rA Γ ++ b_w cB cC cI cJ cZ oA rA Γ ++ b_s cB cC cI cJ cZ oA rA Γ ++ b_c cB cC cI cJ cZ oA rA Γ ++ b_t cB cC cI cJ cZ oA rA Γ ++ b_d cB cC cI cJ cZ oA rA Γ)) (ws' := (b_m cB cC cI cJ cZ oA rA Γ9 ++ b_w cB cC cI cJ cZ oA rA Γ9 ++ b_s cB cC cI cJ cZ oA rA Γ9 ++ b_c cB cC cI cJ cZ oA rA Γ9 ++ b_t cB cC cI cJ cZ oA rA Γ9 ++ b_d cB cC cI cJ cZ oA rA Γ9)) rfl hD1
  have hN := hE.1
  have hS : va_S A s.heap s.heap [] := va_S.rf
  have hl := lv_entry ([.ref (oA 3), .int p0]) (n := 4) (Nat.le_of_ble_eq_true rfl)
  rw [lg_entry_eq]
  generalize (lg_sl ([.ref (oA 3), .int p0]) ++ List.replicate (4 - (lg_sl ([.ref (oA 3), .int p0])).length) Slot.unset).toArray = ls at hl ⊢
  have hl : lv_has ls 4 [(0, .ref (oA 3)), (1, .int p0)] := hl
  unfold F_X4_verbItem at hF
  refine lv_aload_n hx hb dX4_verbItem_0 rfl (lv_at hl 0 rfl) ?_
  refine lv_iload_n hx hb dX4_verbItem_1 rfl (lv_at hl 1 rfl) ?_
  refine lv_iconst (v := 1) hx hb dX4_verbItem_2 (by decide +kernel) ?_
  refine lv_iadd hx hb dX4_verbItem_3 ?_
  obtain ⟨u_1, hu_1, hF_2⟩ := Option.bind_eq_some_iff.mp hF
  clear hF
  have hPc := bx_P (bs := [b_m cB cC cI cJ cZ oA rA Γ, b_w cB cC cI cJ cZ oA rA Γ, b_s cB cC cI cJ cZ oA rA Γ, b_c cB cC cI cJ cZ oA rA Γ, b_t cB cC cI cJ cZ oA rA Γ, b_d cB cC cI cJ cZ oA rA Γ]) (bs' := [b_m cB cC cI cJ cZ oA rA Γ, b_w cB cC cI cJ cZ oA rA Γ, b_s cB cC cI cJ cZ oA rA Γ, b_c cB cC cI cJ cZ oA rA Γ, b_t cB cC cI cJ cZ oA rA Γ, b_d cB cC cI cJ cZ oA rA Γ]) (ws' := (b_m cB cC cI cJ cZ oA rA Γ ++ b_w cB cC cI cJ cZ oA rA Γ ++ b_s cB cC cI cJ cZ oA rA Γ ++ b_c cB cC cI cJ cZ oA rA Γ ++ b_t cB cC cI cJ cZ oA rA Γ ++ b_d cB cC cI cJ cZ oA rA Γ)) hP fl_6 fl_6 [0, 1, 2, 3, 4, 5] rfl
  have hDc := bx_D (bs := [b_m cB cC cI cJ cZ oA rA Γ, b_w cB cC cI cJ cZ oA rA Γ, b_s cB cC cI cJ cZ oA rA Γ, b_c cB cC cI cJ cZ oA rA Γ, b_t cB cC cI cJ cZ oA rA Γ, b_d cB cC cI cJ cZ oA rA Γ]) (bs' := [b_m cB cC cI cJ cZ oA rA Γ, b_w cB cC cI cJ cZ oA rA Γ, b_s cB cC cI cJ cZ oA rA Γ, b_c cB cC cI cJ cZ oA rA Γ, b_t cB cC cI cJ cZ oA rA Γ, b_d cB cC cI cJ cZ oA rA Γ]) (ws' := (b_m cB cC cI cJ cZ oA rA Γ ++ b_w cB cC cI cJ cZ oA rA Γ ++ b_s cB cC cI cJ cZ oA rA Γ ++ b_c cB cC cI cJ cZ oA rA Γ ++ b_t cB cC cI cJ cZ oA rA Γ ++ b_d cB cC cI cJ cZ oA rA Γ)) (hDD Γ) fl_6 fl_6 [0, 1, 2, 3, 4, 5] (by decide +kernel) rfl
  have hFc := bx_F (bs := [b_m cB cC cI cJ cZ oA rA Γ, b_w cB cC cI cJ cZ oA rA Γ, b_s cB cC cI cJ cZ oA rA Γ, b_c cB cC cI cJ cZ oA rA Γ, b_t cB cC cI cJ cZ oA rA Γ, b_d cB cC cI cJ cZ oA rA Γ]) (bs' := [b_m cB cC cI cJ cZ oA rA Γ, b_w cB cC cI cJ cZ oA rA Γ, b_s cB cC cI cJ cZ oA rA Γ, b_c cB cC cI cJ cZ oA rA Γ, b_t cB cC cI cJ cZ oA rA Γ, b_d cB cC cI cJ cZ oA rA Γ]) (wc := (b_m cB cC cI cJ cZ oA rA Γ ++ b_w cB cC cI cJ cZ oA rA Γ ++ b_s cB cC cI cJ cZ oA rA Γ ++ b_c cB cC cI cJ cZ oA rA Γ ++ b_t cB cC cI cJ cZ oA rA Γ ++ b_d cB cC cI cJ cZ oA rA Γ)) (hDD Γ) hS hA fl_6 fl_6 [0, 1, 2, 3, 4, 5] rfl
  refine g_ofi (wc := (b_m cB cC cI cJ cZ oA rA Γ ++ b_w cB cC cI cJ cZ oA rA Γ ++ b_s cB cC cI cJ cZ oA rA Γ ++ b_c cB cC cI cJ cZ oA rA Γ ++ b_t cB cC cI cJ cZ oA rA Γ ++ b_d cB cC cI cJ cZ oA rA Γ)) (wr := ([] : va_W)) hP (hDD Γ) hS hFc (bx_ix [b_m cB cC cI cJ cZ oA rA Γ, b_w cB cC cI cJ cZ oA rA Γ, b_s cB cC cI cJ cZ oA rA Γ, b_c cB cC cI cJ cZ oA rA Γ, b_t cB cC cI cJ cZ oA rA Γ, b_d cB cC cI cJ cZ oA rA Γ] [0, 1, 2, 3, 4, 5]) (bx_ix [b_m cB cC cI cJ cZ oA rA Γ, b_w cB cC cI cJ cZ oA rA Γ, b_s cB cC cI cJ cZ oA rA Γ, b_c cB cC cI cJ cZ oA rA Γ, b_t cB cC cI cJ cZ oA rA Γ, b_d cB cC cI cJ cZ oA rA Γ] []) (bx_C (bs := [b_m cB cC cI cJ cZ oA rA Γ, b_w cB cC cI cJ cZ oA rA Γ, b_s cB cC cI cJ cZ oA rA Γ, b_c cB cC cI cJ cZ oA rA Γ, b_t cB cC cI cJ cZ oA rA Γ, b_d cB cC cI cJ cZ oA rA Γ]) (bs' := [b_m cB cC cI cJ cZ oA rA Γ, b_w cB cC cI cJ cZ oA rA Γ, b_s cB cC cI cJ cZ oA rA Γ, b_c cB cC cI cJ cZ oA rA Γ, b_t cB cC cI cJ cZ oA rA Γ, b_d cB cC cI cJ cZ oA rA Γ]) (is := [0, 1, 2, 3, 4, 5]) fl_6 fl_6 rfl) (bx_C (bs := [b_m cB cC cI cJ cZ oA rA Γ, b_w cB cC cI cJ cZ oA rA Γ, b_s cB cC cI cJ cZ oA rA Γ, b_c cB cC cI cJ cZ oA rA Γ, b_t cB cC cI cJ cZ oA rA Γ, b_d cB cC cI cJ cZ oA rA Γ]) (bs' := []) (is := []) fl_6 fl_0 rfl) (bx_n (by decide +kernel)) (bx_d (by decide +kernel)) (va_runV (As := [.int (p0 + 1)]) (rest := []) ⟨hx, hb, hml, hown, hts⟩ (k_X4_numberOf l dC dI cB cC cI cJ cZ cP oA rA s.heap.size  (p0 + 1) Γ _ hu_1) (cwV 1 hts (g_gV wq_769 wq_770 wq_2051 wq_4 wq_771) rfl rfl rfl (by decide +kernel) ⟨Nat.le_of_ble_eq_true rfl, Nat.le_of_ble_eq_true rfl⟩) (g_preV g_bl0 hK hPc hDc hS hE hFc g_to0 (q0 := 0) (ci := 4) rfl rfl) rfl rfl hl.1 rfl (lv_room (Nat.le_of_ble_eq_true rfl)) dX4_verbItem_4 ⟨Nat.le_of_ble_eq_true rfl, Nat.le_of_ble_eq_true rfl⟩) (fun r9 u9 H locs hw9 hP' hD' hS => ?_)
  clear hPc hDc hFc
  subst hw9
  have hP : va_P (dC, dI) vwCl (b_m cB cC cI cJ cZ oA rA u_1.2 ++ b_w cB cC cI cJ cZ oA rA u_1.2 ++ b_s cB cC cI cJ cZ oA rA u_1.2 ++ b_c cB cC cI cJ cZ oA rA u_1.2 ++ b_t cB cC cI cJ cZ oA rA u_1.2 ++ b_d cB cC cI cJ cZ oA rA u_1.2) H := hP'
  clear hP' hD'
  refine lv_istore_n (lv' := [(2, .int u_1.1), (0, .ref (oA 3)), (1, .int p0)]) hx hb dX4_verbItem_7 rfl hl (by decide) rfl (fun ls hl => ?_)
  refine lv_aload_n hx hb dX4_verbItem_8 rfl (lv_at hl 1 rfl) ?_
  refine lv_bipush (v := 120) hx hb dX4_verbItem_9 (by decide +kernel) ?_
  refine lv_iload_n hx hb dX4_verbItem_11 rfl (lv_at hl 0 rfl) ?_
  refine lv_iadd hx hb dX4_verbItem_12 ?_
  refine lv_iload_n hx hb dX4_verbItem_13 rfl (lv_at hl 2 rfl) ?_
  refine lv_iconst (v := 2) hx hb dX4_verbItem_14 (by decide +kernel) ?_
  refine lv_iadd hx hb dX4_verbItem_15 ?_
  obtain ⟨u_3, hu_3, hF_4⟩ := Option.bind_eq_some_iff.mp hF_2
  clear hF_2
  have hPc := bx_P (bs := [b_m cB cC cI cJ cZ oA rA u_1.2, b_w cB cC cI cJ cZ oA rA u_1.2, b_s cB cC cI cJ cZ oA rA u_1.2, b_c cB cC cI cJ cZ oA rA u_1.2, b_t cB cC cI cJ cZ oA rA u_1.2, b_d cB cC cI cJ cZ oA rA u_1.2]) (bs' := [b_m cB cC cI cJ cZ oA rA u_1.2, b_w cB cC cI cJ cZ oA rA u_1.2, b_s cB cC cI cJ cZ oA rA u_1.2, b_c cB cC cI cJ cZ oA rA u_1.2, b_t cB cC cI cJ cZ oA rA u_1.2, b_d cB cC cI cJ cZ oA rA u_1.2]) (ws' := (b_m cB cC cI cJ cZ oA rA u_1.2 ++ b_w cB cC cI cJ cZ oA rA u_1.2 ++ b_s cB cC cI cJ cZ oA rA u_1.2 ++ b_c cB cC cI cJ cZ oA rA u_1.2 ++ b_t cB cC cI cJ cZ oA rA u_1.2 ++ b_d cB cC cI cJ cZ oA rA u_1.2)) hP fl_6 fl_6 [0, 1, 2, 3, 4, 5] rfl
  have hDc := bx_D (bs := [b_m cB cC cI cJ cZ oA rA u_1.2, b_w cB cC cI cJ cZ oA rA u_1.2, b_s cB cC cI cJ cZ oA rA u_1.2, b_c cB cC cI cJ cZ oA rA u_1.2, b_t cB cC cI cJ cZ oA rA u_1.2, b_d cB cC cI cJ cZ oA rA u_1.2]) (bs' := [b_m cB cC cI cJ cZ oA rA u_1.2, b_w cB cC cI cJ cZ oA rA u_1.2, b_s cB cC cI cJ cZ oA rA u_1.2, b_c cB cC cI cJ cZ oA rA u_1.2, b_t cB cC cI cJ cZ oA rA u_1.2, b_d cB cC cI cJ cZ oA rA u_1.2]) (ws' := (b_m cB cC cI cJ cZ oA rA u_1.2 ++ b_w cB cC cI cJ cZ oA rA u_1.2 ++ b_s cB cC cI cJ cZ oA rA u_1.2 ++ b_c cB cC cI cJ cZ oA rA u_1.2 ++ b_t cB cC cI cJ cZ oA rA u_1.2 ++ b_d cB cC cI cJ cZ oA rA u_1.2)) (hDD u_1.2) fl_6 fl_6 [0, 1, 2, 3, 4, 5] (by decide +kernel) rfl
  have hFc := bx_F (bs := [b_m cB cC cI cJ cZ oA rA u_1.2, b_w cB cC cI cJ cZ oA rA u_1.2, b_s cB cC cI cJ cZ oA rA u_1.2, b_c cB cC cI cJ cZ oA rA u_1.2, b_t cB cC cI cJ cZ oA rA u_1.2, b_d cB cC cI cJ cZ oA rA u_1.2]) (bs' := [b_m cB cC cI cJ cZ oA rA u_1.2, b_w cB cC cI cJ cZ oA rA u_1.2, b_s cB cC cI cJ cZ oA rA u_1.2, b_c cB cC cI cJ cZ oA rA u_1.2, b_t cB cC cI cJ cZ oA rA u_1.2, b_d cB cC cI cJ cZ oA rA u_1.2]) (wc := (b_m cB cC cI cJ cZ oA rA u_1.2 ++ b_w cB cC cI cJ cZ oA rA u_1.2 ++ b_s cB cC cI cJ cZ oA rA u_1.2 ++ b_c cB cC cI cJ cZ oA rA u_1.2 ++ b_t cB cC cI cJ cZ oA rA u_1.2 ++ b_d cB cC cI cJ cZ oA rA u_1.2)) (hDD u_1.2) hS hA fl_6 fl_6 [0, 1, 2, 3, 4, 5] rfl
  refine g_ofi (wc := (b_m cB cC cI cJ cZ oA rA u_1.2 ++ b_w cB cC cI cJ cZ oA rA u_1.2 ++ b_s cB cC cI cJ cZ oA rA u_1.2 ++ b_c cB cC cI cJ cZ oA rA u_1.2 ++ b_t cB cC cI cJ cZ oA rA u_1.2 ++ b_d cB cC cI cJ cZ oA rA u_1.2)) (wr := ([] : va_W)) hP (hDD u_1.2) hS hFc (bx_ix [b_m cB cC cI cJ cZ oA rA u_1.2, b_w cB cC cI cJ cZ oA rA u_1.2, b_s cB cC cI cJ cZ oA rA u_1.2, b_c cB cC cI cJ cZ oA rA u_1.2, b_t cB cC cI cJ cZ oA rA u_1.2, b_d cB cC cI cJ cZ oA rA u_1.2] [0, 1, 2, 3, 4, 5]) (bx_ix [b_m cB cC cI cJ cZ oA rA u_1.2, b_w cB cC cI cJ cZ oA rA u_1.2, b_s cB cC cI cJ cZ oA rA u_1.2, b_c cB cC cI cJ cZ oA rA u_1.2, b_t cB cC cI cJ cZ oA rA u_1.2, b_d cB cC cI cJ cZ oA rA u_1.2] []) (bx_C (bs := [b_m cB cC cI cJ cZ oA rA u_1.2, b_w cB cC cI cJ cZ oA rA u_1.2, b_s cB cC cI cJ cZ oA rA u_1.2, b_c cB cC cI cJ cZ oA rA u_1.2, b_t cB cC cI cJ cZ oA rA u_1.2, b_d cB cC cI cJ cZ oA rA u_1.2]) (bs' := [b_m cB cC cI cJ cZ oA rA u_1.2, b_w cB cC cI cJ cZ oA rA u_1.2, b_s cB cC cI cJ cZ oA rA u_1.2, b_c cB cC cI cJ cZ oA rA u_1.2, b_t cB cC cI cJ cZ oA rA u_1.2, b_d cB cC cI cJ cZ oA rA u_1.2]) (is := [0, 1, 2, 3, 4, 5]) fl_6 fl_6 rfl) (bx_C (bs := [b_m cB cC cI cJ cZ oA rA u_1.2, b_w cB cC cI cJ cZ oA rA u_1.2, b_s cB cC cI cJ cZ oA rA u_1.2, b_c cB cC cI cJ cZ oA rA u_1.2, b_t cB cC cI cJ cZ oA rA u_1.2, b_d cB cC cI cJ cZ oA rA u_1.2]) (bs' := []) (is := []) fl_6 fl_0 rfl) (bx_n (by decide +kernel)) (bx_d (by decide +kernel)) (va_runV (As := [.int (120 + u_1.1), .int (p0 + 2)]) (rest := []) ⟨hx, hb, hml, hown, hts⟩ (k_X4_ownWords l dC dI cB cC cI cJ cZ cP oA rA H.size  (120 + u_1.1) (p0 + 2) u_1.2 _ hu_3) (cwV 2 hts (g_gV wq_785 wq_786 wq_2055 wq_4 wq_787) rfl rfl rfl (by decide +kernel) ⟨Nat.le_of_ble_eq_true rfl, Nat.le_of_ble_eq_true rfl⟩) (g_preV g_bl0 hK hPc hDc hS hE hFc g_to0 (q0 := 0) (ci := 4) rfl rfl) rfl rfl hl.1 rfl (lv_room (Nat.le_of_ble_eq_true rfl)) dX4_verbItem_16 ⟨Nat.le_of_ble_eq_true rfl, Nat.le_of_ble_eq_true rfl⟩) (fun r9 u9 H locs hw9 hP' hD' hS => ?_)
  clear hPc hDc hFc
  subst hw9
  have hP : va_P (dC, dI) vwCl (b_m cB cC cI cJ cZ oA rA u_3.2 ++ b_w cB cC cI cJ cZ oA rA u_3.2 ++ b_s cB cC cI cJ cZ oA rA u_3.2 ++ b_c cB cC cI cJ cZ oA rA u_3.2 ++ b_t cB cC cI cJ cZ oA rA u_3.2 ++ b_d cB cC cI cJ cZ oA rA u_3.2) H := hP'
  clear hP' hD'
  refine lv_istore_n (lv' := [(3, .int u_3.1), (2, .int u_1.1), (0, .ref (oA 3)), (1, .int p0)]) hx hb dX4_verbItem_19 rfl hl (by decide) rfl (fun ls hl => ?_)
  refine lv_aload_n hx hb dX4_verbItem_20 rfl (lv_at hl 2 rfl) ?_
  refine va_get (D := (dC, dI)) (ci := 4) (v := .ref (oA 1)) (C := RX4) (T := TX4) (N := 18) hx hb hts ii_X4 hown hK hP 0 rfl rfl 0 (by decide) (hts (.fieldLink RX4 32 "StoryHouse$Meanings" "words" "LStoryHouse$Words;") wq_86) (fun _ h9 => h9) rfl dX4_verbItem_21 ?_
  refine lv_iload_n hx hb dX4_verbItem_24 rfl (lv_at hl 0 rfl) ?_
  obtain ⟨u_5, hu_5, hF_6⟩ := Option.bind_eq_some_iff.mp hF_4
  clear hF_4
  have hPc := bx_P (bs := [b_m cB cC cI cJ cZ oA rA u_3.2, b_w cB cC cI cJ cZ oA rA u_3.2, b_s cB cC cI cJ cZ oA rA u_3.2, b_c cB cC cI cJ cZ oA rA u_3.2, b_t cB cC cI cJ cZ oA rA u_3.2, b_d cB cC cI cJ cZ oA rA u_3.2]) (bs' := [b_w cB cC cI cJ cZ oA rA u_3.2]) (ws' := (b_w cB cC cI cJ cZ oA rA u_3.2)) hP fl_6 fl_1 [1] rfl
  have hDc := bx_D (bs := [b_m cB cC cI cJ cZ oA rA u_3.2, b_w cB cC cI cJ cZ oA rA u_3.2, b_s cB cC cI cJ cZ oA rA u_3.2, b_c cB cC cI cJ cZ oA rA u_3.2, b_t cB cC cI cJ cZ oA rA u_3.2, b_d cB cC cI cJ cZ oA rA u_3.2]) (bs' := [b_w cB cC cI cJ cZ oA rA u_3.2]) (ws' := (b_w cB cC cI cJ cZ oA rA u_3.2)) (hDD u_3.2) fl_6 fl_1 [1] (by decide +kernel) rfl
  have hFc := bx_F (bs := [b_m cB cC cI cJ cZ oA rA u_3.2, b_w cB cC cI cJ cZ oA rA u_3.2, b_s cB cC cI cJ cZ oA rA u_3.2, b_c cB cC cI cJ cZ oA rA u_3.2, b_t cB cC cI cJ cZ oA rA u_3.2, b_d cB cC cI cJ cZ oA rA u_3.2]) (bs' := [b_w cB cC cI cJ cZ oA rA u_3.2]) (wc := (b_w cB cC cI cJ cZ oA rA u_3.2)) (hDD u_3.2) hS hA fl_6 fl_1 [1] rfl
  refine g_ofi (wc := (b_w cB cC cI cJ cZ oA rA u_3.2)) (wr := (b_m cB cC cI cJ cZ oA rA u_3.2 ++ b_s cB cC cI cJ cZ oA rA u_3.2 ++ b_c cB cC cI cJ cZ oA rA u_3.2 ++ b_t cB cC cI cJ cZ oA rA u_3.2 ++ b_d cB cC cI cJ cZ oA rA u_3.2)) hP (hDD u_3.2) hS hFc (bx_ix [b_m cB cC cI cJ cZ oA rA u_3.2, b_w cB cC cI cJ cZ oA rA u_3.2, b_s cB cC cI cJ cZ oA rA u_3.2, b_c cB cC cI cJ cZ oA rA u_3.2, b_t cB cC cI cJ cZ oA rA u_3.2, b_d cB cC cI cJ cZ oA rA u_3.2] [1]) (bx_ix [b_m cB cC cI cJ cZ oA rA u_3.2, b_w cB cC cI cJ cZ oA rA u_3.2, b_s cB cC cI cJ cZ oA rA u_3.2, b_c cB cC cI cJ cZ oA rA u_3.2, b_t cB cC cI cJ cZ oA rA u_3.2, b_d cB cC cI cJ cZ oA rA u_3.2] [0, 2, 3, 4, 5]) (bx_C (bs := [b_m cB cC cI cJ cZ oA rA u_3.2, b_w cB cC cI cJ cZ oA rA u_3.2, b_s cB cC cI cJ cZ oA rA u_3.2, b_c cB cC cI cJ cZ oA rA u_3.2, b_t cB cC cI cJ cZ oA rA u_3.2, b_d cB cC cI cJ cZ oA rA u_3.2]) (bs' := [b_w cB cC cI cJ cZ oA rA u_3.2]) (is := [1]) fl_6 fl_1 rfl) (bx_C (bs := [b_m cB cC cI cJ cZ oA rA u_3.2, b_w cB cC cI cJ cZ oA rA u_3.2, b_s cB cC cI cJ cZ oA rA u_3.2, b_c cB cC cI cJ cZ oA rA u_3.2, b_t cB cC cI cJ cZ oA rA u_3.2, b_d cB cC cI cJ cZ oA rA u_3.2]) (bs' := [b_m cB cC cI cJ cZ oA rA u_3.2, b_s cB cC cI cJ cZ oA rA u_3.2, b_c cB cC cI cJ cZ oA rA u_3.2, b_t cB cC cI cJ cZ oA rA u_3.2, b_d cB cC cI cJ cZ oA rA u_3.2]) (is := [0, 2, 3, 4, 5]) fl_6 fl_5 rfl) (bx_n (by decide +kernel)) (bx_d (by decide +kernel)) (va_runV (As := [.int u_3.1]) (rest := []) ⟨hx, hb, hml, hown, hts⟩ (k_X10_kindOf l dC dI cB cC cI cJ cZ cP oA rA H.size  u_3.1 u_3.2 _ hu_5) (cwV 1 hts (g_gV wq_714 wq_543 wq_544 wq_2 wq_545) rfl rfl rfl (by decide +kernel) ⟨Nat.le_of_ble_eq_true rfl, Nat.le_of_ble_eq_true rfl⟩) (g_preV g_bl0 hK hPc hDc hS hE hFc g_to0 (q0 := 0) (ci := 10) rfl rfl) rfl rfl hl.1 rfl (lv_room (Nat.le_of_ble_eq_true rfl)) dX4_verbItem_25 ⟨Nat.le_of_ble_eq_true rfl, Nat.le_of_ble_eq_true rfl⟩) (fun r9 u9 H locs hw9 hP' hD' hS => ?_)
  clear hPc hDc hFc
  subst hw9
  obtain ⟨σ_7, eσ_7, hF_8⟩ := bnd_e hF_6
  clear hF_6
  have hP : va_P (dC, dI) vwCl (b_m cB cC cI cJ cZ oA rA σ_7 ++ b_w cB cC cI cJ cZ oA rA σ_7 ++ b_s cB cC cI cJ cZ oA rA σ_7 ++ b_c cB cC cI cJ cZ oA rA σ_7 ++ b_t cB cC cI cJ cZ oA rA σ_7 ++ b_d cB cC cI cJ cZ oA rA σ_7) H := by rw [eσ_7]; exact bx_P (bs := [b_m cB cC cI cJ cZ oA rA u_3.2, b_s cB cC cI cJ cZ oA rA u_3.2, b_c cB cC cI cJ cZ oA rA u_3.2, b_t cB cC cI cJ cZ oA rA u_3.2, b_d cB cC cI cJ cZ oA rA u_3.2] ++ [b_w cB cC cI cJ cZ oA rA u_5.2]) (bs' := [b_m cB cC cI cJ cZ oA rA (mrg (fun j => j == 1) u_3.2 u_5.2), b_w cB cC cI cJ cZ oA rA (mrg (fun j => j == 1) u_3.2 u_5.2), b_s cB cC cI cJ cZ oA rA (mrg (fun j => j == 1) u_3.2 u_5.2), b_c cB cC cI cJ cZ oA rA (mrg (fun j => j == 1) u_3.2 u_5.2), b_t cB cC cI cJ cZ oA rA (mrg (fun j => j == 1) u_3.2 u_5.2), b_d cB cC cI cJ cZ oA rA (mrg (fun j => j == 1) u_3.2 u_5.2)]) hP' (fl_a fl_5 fl_1) fl_6 [0, 5, 1, 2, 3, 4] rfl
  clear hP' hD'
  refine lv_sipush (v := 215) hx hb dX4_verbItem_28 (by decide +kernel) ?_
  refine lv_icmp_ne (tgt := 72) hx hb dX4_verbItem_31 (by decide) (fun c_9 => ?_) (fun c_9 => ?_)
  · have hF_25 := ineg c_9 hF_8
    clear hF_8
    have h9 := Option.some.inj hF_25
    subst h9
    exact W.vret hx hb hr (fun t ht hW => ⟨⟨(), rfl, trivial, m_end ht hP, hDD _⟩, hS.F ht⟩) hS.2.2 dX4_verbItem_72
  · have hF_10 := ipos c_9 hF_8
    clear hF_8
    refine lv_aload_n hx hb dX4_verbItem_34 rfl (lv_at hl 2 rfl) ?_
    refine va_get (D := (dC, dI)) (ci := 4) (v := .ref (oA 4)) (C := RX4) (T := TX4) (N := 18) hx hb hts ii_X4 hown hK hP 0 rfl rfl 1 (by decide) (hts (.fieldLink RX4 36 "StoryHouse$Meanings" "story" "LStoryHouse$Story;") wq_87) (fun _ h9 => h9) rfl dX4_verbItem_35 ?_
    refine va_get (D := (dC, dI)) (ci := 7) (v := .ref (rA 4 8)) (C := RX7) (T := TX7) (N := 19) hx hb hts ii_X7 hown hK hP 16 rfl rfl 8 (by decide) (hts (.fieldLink RX4 238 "StoryHouse$Story" "joints" "[I") wq_175) (fun _ h9 => h9) rfl dX4_verbItem_38 ?_
    refine lv_iload_n hx hb dX4_verbItem_41 rfl (lv_at hl 1 rfl) ?_
    refine lv_aload_n hx hb dX4_verbItem_42 rfl (lv_at hl 2 rfl) ?_
    refine va_get (D := (dC, dI)) (ci := 4) (v := .ref (oA 4)) (C := RX4) (T := TX4) (N := 18) hx hb hts ii_X4 hown hK hP 0 rfl rfl 1 (by decide) (hts (.fieldLink RX4 36 "StoryHouse$Meanings" "story" "LStoryHouse$Story;") wq_87) (fun _ h9 => h9) rfl dX4_verbItem_43 ?_
    refine va_get (D := (dC, dI)) (ci := 7) (v := .ref (oA 7)) (C := RX7) (T := TX7) (N := 19) hx hb hts ii_X7 hown hK hP 16 rfl rfl 18 (by decide) (hts (.fieldLink RX4 241 "StoryHouse$Story" "dictionary" "LStoryHouse$Dictionary;") wq_202) (fun _ h9 => h9) rfl dX4_verbItem_46 ?_
    refine lv_aload_n hx hb dX4_verbItem_49 rfl (lv_at hl 2 rfl) ?_
    refine va_get (D := (dC, dI)) (ci := 4) (v := .ref (oA 1)) (C := RX4) (T := TX4) (N := 18) hx hb hts ii_X4 hown hK hP 0 rfl rfl 0 (by decide) (hts (.fieldLink RX4 32 "StoryHouse$Meanings" "words" "LStoryHouse$Words;") wq_86) (fun _ h9 => h9) rfl dX4_verbItem_50 ?_
    refine lv_aload_n hx hb dX4_verbItem_53 rfl (lv_at hl 2 rfl) ?_
    refine va_get (D := (dC, dI)) (ci := 4) (v := .ref (oA 1)) (C := RX4) (T := TX4) (N := 18) hx hb hts ii_X4 hown hK hP 0 rfl rfl 0 (by decide) (hts (.fieldLink RX4 32 "StoryHouse$Meanings" "words" "LStoryHouse$Words;") wq_86) (fun _ h9 => h9) rfl dX4_verbItem_54 ?_
    refine lv_iload_n hx hb dX4_verbItem_57 rfl (lv_at hl 0 rfl) ?_
    refine lv_iconst (v := 1) hx hb dX4_verbItem_58 (by decide +kernel) ?_
    refine lv_iadd hx hb dX4_verbItem_59 ?_
    obtain ⟨u_11, hu_11, hF_12⟩ := Option.bind_eq_some_iff.mp hF_10
    clear hF_10
    have hPc := bx_P (bs := [b_m cB cC cI cJ cZ oA rA σ_7, b_w cB cC cI cJ cZ oA rA σ_7, b_s cB cC cI cJ cZ oA rA σ_7, b_c cB cC cI cJ cZ oA rA σ_7, b_t cB cC cI cJ cZ oA rA σ_7, b_d cB cC cI cJ cZ oA rA σ_7]) (bs' := [b_w cB cC cI cJ cZ oA rA σ_7]) (ws' := (b_w cB cC cI cJ cZ oA rA σ_7)) hP fl_6 fl_1 [1] rfl
    have hDc := bx_D (bs := [b_m cB cC cI cJ cZ oA rA σ_7, b_w cB cC cI cJ cZ oA rA σ_7, b_s cB cC cI cJ cZ oA rA σ_7, b_c cB cC cI cJ cZ oA rA σ_7, b_t cB cC cI cJ cZ oA rA σ_7, b_d cB cC cI cJ cZ oA rA σ_7]) (bs' := [b_w cB cC cI cJ cZ oA rA σ_7]) (ws' := (b_w cB cC cI cJ cZ oA rA σ_7)) (hDD σ_7) fl_6 fl_1 [1] (by decide +kernel) rfl
    have hFc := bx_F (bs := [b_m cB cC cI cJ cZ oA rA σ_7, b_w cB cC cI cJ cZ oA rA σ_7, b_s cB cC cI cJ cZ oA rA σ_7, b_c cB cC cI cJ cZ oA rA σ_7, b_t cB cC cI cJ cZ oA rA σ_7, b_d cB cC cI cJ cZ oA rA σ_7]) (bs' := [b_w cB cC cI cJ cZ oA rA σ_7]) (wc := (b_w cB cC cI cJ cZ oA rA σ_7)) (hDD σ_7) hS hA fl_6 fl_1 [1] rfl
    refine g_ofi (wc := (b_w cB cC cI cJ cZ oA rA σ_7)) (wr := (b_m cB cC cI cJ cZ oA rA σ_7 ++ b_s cB cC cI cJ cZ oA rA σ_7 ++ b_c cB cC cI cJ cZ oA rA σ_7 ++ b_t cB cC cI cJ cZ oA rA σ_7 ++ b_d cB cC cI cJ cZ oA rA σ_7)) hP (hDD σ_7) hS hFc (bx_ix [b_m cB cC cI cJ cZ oA rA σ_7, b_w cB cC cI cJ cZ oA rA σ_7, b_s cB cC cI cJ cZ oA rA σ_7, b_c cB cC cI cJ cZ oA rA σ_7, b_t cB cC cI cJ cZ oA rA σ_7, b_d cB cC cI cJ cZ oA rA σ_7] [1]) (bx_ix [b_m cB cC cI cJ cZ oA rA σ_7, b_w cB cC cI cJ cZ oA rA σ_7, b_s cB cC cI cJ cZ oA rA σ_7, b_c cB cC cI cJ cZ oA rA σ_7, b_t cB cC cI cJ cZ oA rA σ_7, b_d cB cC cI cJ cZ oA rA σ_7] [0, 2, 3, 4, 5]) (bx_C (bs := [b_m cB cC cI cJ cZ oA rA σ_7, b_w cB cC cI cJ cZ oA rA σ_7, b_s cB cC cI cJ cZ oA rA σ_7, b_c cB cC cI cJ cZ oA rA σ_7, b_t cB cC cI cJ cZ oA rA σ_7, b_d cB cC cI cJ cZ oA rA σ_7]) (bs' := [b_w cB cC cI cJ cZ oA rA σ_7]) (is := [1]) fl_6 fl_1 rfl) (bx_C (bs := [b_m cB cC cI cJ cZ oA rA σ_7, b_w cB cC cI cJ cZ oA rA σ_7, b_s cB cC cI cJ cZ oA rA σ_7, b_c cB cC cI cJ cZ oA rA σ_7, b_t cB cC cI cJ cZ oA rA σ_7, b_d cB cC cI cJ cZ oA rA σ_7]) (bs' := [b_m cB cC cI cJ cZ oA rA σ_7, b_s cB cC cI cJ cZ oA rA σ_7, b_c cB cC cI cJ cZ oA rA σ_7, b_t cB cC cI cJ cZ oA rA σ_7, b_d cB cC cI cJ cZ oA rA σ_7]) (is := [0, 2, 3, 4, 5]) fl_6 fl_5 rfl) (bx_n (by decide +kernel)) (bx_d (by decide +kernel)) (va_runV (As := [.int (u_3.1 + 1)]) (rest := [.ref (oA 1), .ref (oA 7), .int u_1.1, .ref (rA 4 8)]) ⟨hx, hb, hml, hown, hts⟩ (k_X10_worthOf l dC dI cB cC cI cJ cZ cP oA rA H.size  (u_3.1 + 1) σ_7 _ hu_11) (cwV 1 hts (g_gV wq_715 wq_653 wq_654 wq_2 wq_655) rfl rfl rfl (by decide +kernel) ⟨Nat.le_of_ble_eq_true rfl, Nat.le_of_ble_eq_true rfl⟩) (g_preV g_bl0 hK hPc hDc hS hE hFc g_to0 (q0 := 0) (ci := 10) rfl rfl) rfl rfl hl.1 rfl (lv_room (Nat.le_of_ble_eq_true rfl)) dX4_verbItem_60 ⟨Nat.le_of_ble_eq_true rfl, Nat.le_of_ble_eq_true rfl⟩) (fun r9 u9 H locs hw9 hP' hD' hS => ?_)
    clear hPc hDc hFc
    subst hw9
    obtain ⟨σ_13, eσ_13, hF_14⟩ := bnd_e hF_12
    clear hF_12
    have hP : va_P (dC, dI) vwCl (b_m cB cC cI cJ cZ oA rA σ_13 ++ b_w cB cC cI cJ cZ oA rA σ_13 ++ b_s cB cC cI cJ cZ oA rA σ_13 ++ b_c cB cC cI cJ cZ oA rA σ_13 ++ b_t cB cC cI cJ cZ oA rA σ_13 ++ b_d cB cC cI cJ cZ oA rA σ_13) H := by rw [eσ_13]; exact bx_P (bs := [b_m cB cC cI cJ cZ oA rA σ_7, b_s cB cC cI cJ cZ oA rA σ_7, b_c cB cC cI cJ cZ oA rA σ_7, b_t cB cC cI cJ cZ oA rA σ_7, b_d cB cC cI cJ cZ oA rA σ_7] ++ [b_w cB cC cI cJ cZ oA rA u_11.2]) (bs' := [b_m cB cC cI cJ cZ oA rA (mrg (fun j => j == 1) σ_7 u_11.2), b_w cB cC cI cJ cZ oA rA (mrg (fun j => j == 1) σ_7 u_11.2), b_s cB cC cI cJ cZ oA rA (mrg (fun j => j == 1) σ_7 u_11.2), b_c cB cC cI cJ cZ oA rA (mrg (fun j => j == 1) σ_7 u_11.2), b_t cB cC cI cJ cZ oA rA (mrg (fun j => j == 1) σ_7 u_11.2), b_d cB cC cI cJ cZ oA rA (mrg (fun j => j == 1) σ_7 u_11.2)]) hP' (fl_a fl_5 fl_1) fl_6 [0, 5, 1, 2, 3, 4] rfl
    clear hP' hD'
    obtain ⟨u_15, hu_15, hF_16⟩ := Option.bind_eq_some_iff.mp hF_14
    clear hF_14
    have hPc := bx_P (bs := [b_m cB cC cI cJ cZ oA rA σ_13, b_w cB cC cI cJ cZ oA rA σ_13, b_s cB cC cI cJ cZ oA rA σ_13, b_c cB cC cI cJ cZ oA rA σ_13, b_t cB cC cI cJ cZ oA rA σ_13, b_d cB cC cI cJ cZ oA rA σ_13]) (bs' := [b_w cB cC cI cJ cZ oA rA σ_13]) (ws' := (b_w cB cC cI cJ cZ oA rA σ_13)) hP fl_6 fl_1 [1] rfl
    have hDc := bx_D (bs := [b_m cB cC cI cJ cZ oA rA σ_13, b_w cB cC cI cJ cZ oA rA σ_13, b_s cB cC cI cJ cZ oA rA σ_13, b_c cB cC cI cJ cZ oA rA σ_13, b_t cB cC cI cJ cZ oA rA σ_13, b_d cB cC cI cJ cZ oA rA σ_13]) (bs' := [b_w cB cC cI cJ cZ oA rA σ_13]) (ws' := (b_w cB cC cI cJ cZ oA rA σ_13)) (hDD σ_13) fl_6 fl_1 [1] (by decide +kernel) rfl
    have hFc := bx_F (bs := [b_m cB cC cI cJ cZ oA rA σ_13, b_w cB cC cI cJ cZ oA rA σ_13, b_s cB cC cI cJ cZ oA rA σ_13, b_c cB cC cI cJ cZ oA rA σ_13, b_t cB cC cI cJ cZ oA rA σ_13, b_d cB cC cI cJ cZ oA rA σ_13]) (bs' := [b_w cB cC cI cJ cZ oA rA σ_13]) (wc := (b_w cB cC cI cJ cZ oA rA σ_13)) (hDD σ_13) hS hA fl_6 fl_1 [1] rfl
    refine g_ofl (wc := (b_w cB cC cI cJ cZ oA rA σ_13)) (wr := (b_m cB cC cI cJ cZ oA rA σ_13 ++ b_s cB cC cI cJ cZ oA rA σ_13 ++ b_c cB cC cI cJ cZ oA rA σ_13 ++ b_t cB cC cI cJ cZ oA rA σ_13 ++ b_d cB cC cI cJ cZ oA rA σ_13)) hP (hDD σ_13) hS hFc (bx_ix [b_m cB cC cI cJ cZ oA rA σ_13, b_w cB cC cI cJ cZ oA rA σ_13, b_s cB cC cI cJ cZ oA rA σ_13, b_c cB cC cI cJ cZ oA rA σ_13, b_t cB cC cI cJ cZ oA rA σ_13, b_d cB cC cI cJ cZ oA rA σ_13] [1]) (bx_ix [b_m cB cC cI cJ cZ oA rA σ_13, b_w cB cC cI cJ cZ oA rA σ_13, b_s cB cC cI cJ cZ oA rA σ_13, b_c cB cC cI cJ cZ oA rA σ_13, b_t cB cC cI cJ cZ oA rA σ_13, b_d cB cC cI cJ cZ oA rA σ_13] [0, 2, 3, 4, 5]) (bx_C (bs := [b_m cB cC cI cJ cZ oA rA σ_13, b_w cB cC cI cJ cZ oA rA σ_13, b_s cB cC cI cJ cZ oA rA σ_13, b_c cB cC cI cJ cZ oA rA σ_13, b_t cB cC cI cJ cZ oA rA σ_13, b_d cB cC cI cJ cZ oA rA σ_13]) (bs' := [b_w cB cC cI cJ cZ oA rA σ_13]) (is := [1]) fl_6 fl_1 rfl) (bx_C (bs := [b_m cB cC cI cJ cZ oA rA σ_13, b_w cB cC cI cJ cZ oA rA σ_13, b_s cB cC cI cJ cZ oA rA σ_13, b_c cB cC cI cJ cZ oA rA σ_13, b_t cB cC cI cJ cZ oA rA σ_13, b_d cB cC cI cJ cZ oA rA σ_13]) (bs' := [b_m cB cC cI cJ cZ oA rA σ_13, b_s cB cC cI cJ cZ oA rA σ_13, b_c cB cC cI cJ cZ oA rA σ_13, b_t cB cC cI cJ cZ oA rA σ_13, b_d cB cC cI cJ cZ oA rA σ_13]) (is := [0, 2, 3, 4, 5]) fl_6 fl_5 rfl) (bx_n (by decide +kernel)) (bx_d (by decide +kernel)) (va_runV (As := [.int u_11.1]) (rest := [.ref (oA 7), .int u_1.1, .ref (rA 4 8)]) ⟨hx, hb, hml, hown, hts⟩ (k_X10_termOf l dC dI cB cC cI cJ cZ cP oA rA H.size  u_11.1 σ_13 _ hu_15) (cwV 1 hts (g_gV wq_788 wq_789 wq_790 wq_2 wq_791) rfl rfl rfl (by decide +kernel) ⟨Nat.le_of_ble_eq_true rfl, Nat.le_of_ble_eq_true rfl⟩) (g_preV g_bl0 hK hPc hDc hS hE hFc g_to0 (q0 := 0) (ci := 10) rfl rfl) rfl rfl hl.1 rfl (lv_room (Nat.le_of_ble_eq_true rfl)) dX4_verbItem_63 ⟨Nat.le_of_ble_eq_true rfl, Nat.le_of_ble_eq_true rfl⟩) (fun r9 u9 H locs hw9 hP' hD' hS => ?_)
    clear hPc hDc hFc
    subst hw9
    obtain ⟨σ_17, eσ_17, hF_18⟩ := bnd_e hF_16
    clear hF_16
    have hP : va_P (dC, dI) vwCl (b_m cB cC cI cJ cZ oA rA σ_17 ++ b_w cB cC cI cJ cZ oA rA σ_17 ++ b_s cB cC cI cJ cZ oA rA σ_17 ++ b_c cB cC cI cJ cZ oA rA σ_17 ++ b_t cB cC cI cJ cZ oA rA σ_17 ++ b_d cB cC cI cJ cZ oA rA σ_17) H := by rw [eσ_17]; exact bx_P (bs := [b_m cB cC cI cJ cZ oA rA σ_13, b_s cB cC cI cJ cZ oA rA σ_13, b_c cB cC cI cJ cZ oA rA σ_13, b_t cB cC cI cJ cZ oA rA σ_13, b_d cB cC cI cJ cZ oA rA σ_13] ++ [b_w cB cC cI cJ cZ oA rA u_15.2]) (bs' := [b_m cB cC cI cJ cZ oA rA (mrg (fun j => j == 1) σ_13 u_15.2), b_w cB cC cI cJ cZ oA rA (mrg (fun j => j == 1) σ_13 u_15.2), b_s cB cC cI cJ cZ oA rA (mrg (fun j => j == 1) σ_13 u_15.2), b_c cB cC cI cJ cZ oA rA (mrg (fun j => j == 1) σ_13 u_15.2), b_t cB cC cI cJ cZ oA rA (mrg (fun j => j == 1) σ_13 u_15.2), b_d cB cC cI cJ cZ oA rA (mrg (fun j => j == 1) σ_13 u_15.2)]) hP' (fl_a fl_5 fl_1) fl_6 [0, 5, 1, 2, 3, 4] rfl
    clear hP' hD'
    obtain ⟨u_19, hu_19, hF_20⟩ := Option.bind_eq_some_iff.mp hF_18
    clear hF_18
    have hPc := bx_P (bs := [b_m cB cC cI cJ cZ oA rA σ_17, b_w cB cC cI cJ cZ oA rA σ_17, b_s cB cC cI cJ cZ oA rA σ_17, b_c cB cC cI cJ cZ oA rA σ_17, b_t cB cC cI cJ cZ oA rA σ_17, b_d cB cC cI cJ cZ oA rA σ_17]) (bs' := [b_d cB cC cI cJ cZ oA rA σ_17]) (ws' := (b_d cB cC cI cJ cZ oA rA σ_17)) hP fl_6 fl_1 [5] rfl
    have hDc := bx_D (bs := [b_m cB cC cI cJ cZ oA rA σ_17, b_w cB cC cI cJ cZ oA rA σ_17, b_s cB cC cI cJ cZ oA rA σ_17, b_c cB cC cI cJ cZ oA rA σ_17, b_t cB cC cI cJ cZ oA rA σ_17, b_d cB cC cI cJ cZ oA rA σ_17]) (bs' := [b_d cB cC cI cJ cZ oA rA σ_17]) (ws' := (b_d cB cC cI cJ cZ oA rA σ_17)) (hDD σ_17) fl_6 fl_1 [5] (by decide +kernel) rfl
    have hFc := bx_F (bs := [b_m cB cC cI cJ cZ oA rA σ_17, b_w cB cC cI cJ cZ oA rA σ_17, b_s cB cC cI cJ cZ oA rA σ_17, b_c cB cC cI cJ cZ oA rA σ_17, b_t cB cC cI cJ cZ oA rA σ_17, b_d cB cC cI cJ cZ oA rA σ_17]) (bs' := [b_d cB cC cI cJ cZ oA rA σ_17]) (wc := (b_d cB cC cI cJ cZ oA rA σ_17)) (hDD σ_17) hS hA fl_6 fl_1 [5] rfl
    refine g_ofi (wc := (b_d cB cC cI cJ cZ oA rA σ_17)) (wr := (b_m cB cC cI cJ cZ oA rA σ_17 ++ b_w cB cC cI cJ cZ oA rA σ_17 ++ b_s cB cC cI cJ cZ oA rA σ_17 ++ b_c cB cC cI cJ cZ oA rA σ_17 ++ b_t cB cC cI cJ cZ oA rA σ_17)) hP (hDD σ_17) hS hFc (bx_ix [b_m cB cC cI cJ cZ oA rA σ_17, b_w cB cC cI cJ cZ oA rA σ_17, b_s cB cC cI cJ cZ oA rA σ_17, b_c cB cC cI cJ cZ oA rA σ_17, b_t cB cC cI cJ cZ oA rA σ_17, b_d cB cC cI cJ cZ oA rA σ_17] [5]) (bx_ix [b_m cB cC cI cJ cZ oA rA σ_17, b_w cB cC cI cJ cZ oA rA σ_17, b_s cB cC cI cJ cZ oA rA σ_17, b_c cB cC cI cJ cZ oA rA σ_17, b_t cB cC cI cJ cZ oA rA σ_17, b_d cB cC cI cJ cZ oA rA σ_17] [0, 1, 2, 3, 4]) (bx_C (bs := [b_m cB cC cI cJ cZ oA rA σ_17, b_w cB cC cI cJ cZ oA rA σ_17, b_s cB cC cI cJ cZ oA rA σ_17, b_c cB cC cI cJ cZ oA rA σ_17, b_t cB cC cI cJ cZ oA rA σ_17, b_d cB cC cI cJ cZ oA rA σ_17]) (bs' := [b_d cB cC cI cJ cZ oA rA σ_17]) (is := [5]) fl_6 fl_1 rfl) (bx_C (bs := [b_m cB cC cI cJ cZ oA rA σ_17, b_w cB cC cI cJ cZ oA rA σ_17, b_s cB cC cI cJ cZ oA rA σ_17, b_c cB cC cI cJ cZ oA rA σ_17, b_t cB cC cI cJ cZ oA rA σ_17, b_d cB cC cI cJ cZ oA rA σ_17]) (bs' := [b_m cB cC cI cJ cZ oA rA σ_17, b_w cB cC cI cJ cZ oA rA σ_17, b_s cB cC cI cJ cZ oA rA σ_17, b_c cB cC cI cJ cZ oA rA σ_17, b_t cB cC cI cJ cZ oA rA σ_17]) (is := [0, 1, 2, 3, 4]) fl_6 fl_5 rfl) (bx_n (by decide +kernel)) (bx_d (by decide +kernel)) (va_runV (As := [.long u_15.1]) (rest := [.int u_1.1, .ref (rA 4 8)]) ⟨hx, hb, hml, hown, hts⟩ (k_X1_learn l dC dI cB cC cI cJ cZ cP oA rA H.size  u_15.1 σ_17 _ hu_19) (cwV 1 hts (g_gV wq_797 wq_525 wq_526 wq_8 wq_527) rfl rfl rfl (by decide +kernel) ⟨Nat.le_of_ble_eq_true rfl, Nat.le_of_ble_eq_true rfl⟩) (g_preV g_bl0 hK hPc hDc hS hE hFc g_to0 (q0 := 0) (ci := 1) rfl rfl) rfl rfl hl.1 rfl (lv_room (Nat.le_of_ble_eq_true rfl)) dX4_verbItem_66 ⟨Nat.le_of_ble_eq_true rfl, Nat.le_of_ble_eq_true rfl⟩) (fun r9 u9 H locs hw9 hP' hD' hS => ?_)
    clear hPc hDc hFc
    subst hw9
    obtain ⟨σ_21, eσ_21, hF_22⟩ := bnd_e hF_20
    clear hF_20
    have hP : va_P (dC, dI) vwCl (b_m cB cC cI cJ cZ oA rA σ_21 ++ b_w cB cC cI cJ cZ oA rA σ_21 ++ b_s cB cC cI cJ cZ oA rA σ_21 ++ b_c cB cC cI cJ cZ oA rA σ_21 ++ b_t cB cC cI cJ cZ oA rA σ_21 ++ b_d cB cC cI cJ cZ oA rA σ_21) H := by rw [eσ_21]; exact bx_P (bs := [b_m cB cC cI cJ cZ oA rA σ_17, b_w cB cC cI cJ cZ oA rA σ_17, b_s cB cC cI cJ cZ oA rA σ_17, b_c cB cC cI cJ cZ oA rA σ_17, b_t cB cC cI cJ cZ oA rA σ_17] ++ [b_d cB cC cI cJ cZ oA rA u_19.2]) (bs' := [b_m cB cC cI cJ cZ oA rA (mrg (fun j => j == 7) σ_17 u_19.2), b_w cB cC cI cJ cZ oA rA (mrg (fun j => j == 7) σ_17 u_19.2), b_s cB cC cI cJ cZ oA rA (mrg (fun j => j == 7) σ_17 u_19.2), b_c cB cC cI cJ cZ oA rA (mrg (fun j => j == 7) σ_17 u_19.2), b_t cB cC cI cJ cZ oA rA (mrg (fun j => j == 7) σ_17 u_19.2), b_d cB cC cI cJ cZ oA rA (mrg (fun j => j == 7) σ_17 u_19.2)]) hP' (fl_a fl_5 fl_1) fl_6 [0, 1, 2, 3, 4, 5] rfl
    clear hP' hD'
    have hq9 : ((b_m cB cC cI cJ cZ oA rA σ_21 ++ b_w cB cC cI cJ cZ oA rA σ_21 ++ b_s cB cC cI cJ cZ oA rA σ_21 ++ b_c cB cC cI cJ cZ oA rA σ_21 ++ b_t cB cC cI cJ cZ oA rA σ_21 ++ b_d cB cC cI cJ cZ oA rA σ_21))[25]? = some (rA 4 8, .inl (cI, 61, .inl ((σ_21 4).2.1 8))) := rfl
    have hPc := hP.sub (ws' := [(rA 4 8, .inl (cI, 61, .inl ((σ_21 4).2.1 8)))]) [25] (pk_fm (er_C hq9))
    have hDc := (hDD σ_21).sub (ws' := [(rA 4 8, .inl (cI, 61, .inl ((σ_21 4).2.1 8)))]) [25] (by decide +kernel) (er_C hq9)
    have hFc := va_free (wc := [(rA 4 8, .inl (cI, 61, .inl ((σ_21 4).2.1 8)))]) (hDD σ_21) hS hA [25] (er_C hq9)
    refine g_ofv (wc := [(rA 4 8, .inl (cI, 61, .inl ((σ_21 4).2.1 8)))]) (wr := (((b_m cB cC cI cJ cZ oA rA σ_21 ++ b_w cB cC cI cJ cZ oA rA σ_21 ++ b_s cB cC cI cJ cZ oA rA σ_21 ++ b_c cB cC cI cJ cZ oA rA σ_21 ++ b_t cB cC cI cJ cZ oA rA σ_21 ++ b_d cB cC cI cJ cZ oA rA σ_21)).eraseIdx 25)) hP (hDD σ_21) hS hFc [25] ((List.range ((b_m cB cC cI cJ cZ oA rA σ_21 ++ b_w cB cC cI cJ cZ oA rA σ_21 ++ b_s cB cC cI cJ cZ oA rA σ_21 ++ b_c cB cC cI cJ cZ oA rA σ_21 ++ b_t cB cC cI cJ cZ oA rA σ_21 ++ b_d cB cC cI cJ cZ oA rA σ_21)).length).eraseIdx 25) (er_C hq9) er_R er_n er_d (va_runSN (As := [.ref (rA 4 8), .int u_1.1, .int u_19.1]) (rest := []) ⟨hx, hb, hml, hown, hts⟩ (c_X11_put l dC dI cB cC cI cJ cZ cP H.size (rA 4 8) u_1.1 u_19.1 61 ((σ_21 4).2.1 8) (by decide)) ⟨va_cnB 3 hts (g_gA wq_412) rfl rfl rfl (nw_23 hN) (hts (.initialized RX11) wq_1) (by decide +kernel) ⟨Nat.le_of_ble_eq_true rfl, Nat.le_of_ble_eq_true rfl⟩, (hts (.static yX11_put) wq_411), trivial⟩ (g_preS g_bl0 hK hPc hDc hS hE hFc g_to0) rfl rfl hl.1 rfl (lv_room (Nat.le_of_ble_eq_true rfl)) dX4_verbItem_69 ⟨Nat.le_of_ble_eq_true rfl, Nat.le_of_ble_eq_true rfl⟩) (fun g9 H locs hw9 hP' hD' hS => ?_)
    clear hPc hDc hFc hD'
    obtain ⟨σ_23, eσ_23, hF_24⟩ := bnd_e hF_22
    clear hF_22
    subst hw9
    have hP : va_P (dC, dI) vwCl (b_m cB cC cI cJ cZ oA rA σ_23 ++ b_w cB cC cI cJ cZ oA rA σ_23 ++ b_s cB cC cI cJ cZ oA rA σ_23 ++ b_c cB cC cI cJ cZ oA rA σ_23 ++ b_t cB cC cI cJ cZ oA rA σ_23 ++ b_d cB cC cI cJ cZ oA rA σ_23) H := by rw [eσ_23]; exact cs_mwsctd_s_8 ▸ er_P hP' (er_lt hq9)
    clear hP' hq9
    have h9 := Option.some.inj hF_24
    subst h9
    exact W.vret hx hb hr (fun t ht hW => ⟨⟨(), rfl, trivial, m_end ht hP, hDD _⟩, hS.F ht⟩) hS.2.2 dX4_verbItem_72
theorem dX7_addObject_0 : decode cX7_addObject 0 = .ok (.iload_n 1, 1) := by decide +kernel
theorem dX7_addObject_1 : decode cX7_addObject 1 = .ok (.ifCond .lt 19, 3) := by decide +kernel
theorem dX7_addObject_4 : decode cX7_addObject 4 = .ok (.iload_n 1, 1) := by decide +kernel
theorem dX7_addObject_5 : decode cX7_addObject 5 = .ok (.aload_n 0, 1) := by decide +kernel
theorem dX7_addObject_6 : decode cX7_addObject 6 = .ok (.getfield 15, 3) := by decide +kernel
theorem dX7_addObject_9 : decode cX7_addObject 9 = .ok (.arraylength, 1) := by decide +kernel
theorem dX7_addObject_10 : decode cX7_addObject 10 = .ok (.if_icmp .ge 10, 3) := by decide +kernel
theorem dX7_addObject_13 : decode cX7_addObject 13 = .ok (.aload_n 0, 1) := by decide +kernel
theorem dX7_addObject_14 : decode cX7_addObject 14 = .ok (.getfield 15, 3) := by decide +kernel
theorem dX7_addObject_17 : decode cX7_addObject 17 = .ok (.iload_n 1, 1) := by decide +kernel
theorem dX7_addObject_18 : decode cX7_addObject 18 = .ok (.iload_n 2, 1) := by decide +kernel
theorem dX7_addObject_19 : decode cX7_addObject 19 = .ok (.bastore, 1) := by decide +kernel
theorem dX7_addObject_20 : decode cX7_addObject 20 = .ok (.aload_n 0, 1) := by decide +kernel
theorem dX7_addObject_21 : decode cX7_addObject 21 = .ok (.getfield 19, 3) := by decide +kernel
theorem dX7_addObject_24 : decode cX7_addObject 24 = .ok (.iload_n 1, 1) := by decide +kernel
theorem dX7_addObject_25 : decode cX7_addObject 25 = .ok (.iload_n 3, 1) := by decide +kernel
theorem dX7_addObject_26 : decode cX7_addObject 26 = .ok (.invokestatic 141, 3) := by decide +kernel
theorem dX7_addObject_29 : decode cX7_addObject 29 = .ok (.return_, 1) := by decide +kernel
def F_X7_addObject (p0 : Int32) (p1 : Int32) (p2 : Int32) (Γ : HS) : HR :=
  bnd (fun  (σ_1 : HS) => (
    bnd (cA' σ_1 4 2 (g_put 121 ((σ_1 4).2.1 2) p0 p2)) fun σ_5 =>
    some (0, σ_5)
  ) : HS → HR) fun j_2 =>
  if p0 < 0 then (
    j_2  Γ
  ) else (
    if 121 ≤ p0 then (
      j_2  Γ
    ) else (
      if p0 < 0 ∨ 121 ≤ p0.toNatClampNeg then none else
      bnd (cA' Γ 4 1 (upd ((Γ 4).2.1 1) p0.toNatClampNeg (vp_nar .boolean p1))) fun σ_15 =>
      j_2  σ_15
    )
  )
set_option maxHeartbeats 4000000 in
set_option maxRecDepth 100000 in
theorem k_X7_addObject (l : Launch) (dC : Nat → ClassId) (dI : Nat → Nat → Nat) (cB cC cI cJ cZ cP : ClassId) (oA : Nat → Nat) (rA : Nat → Nat → Nat) (sz : Nat)  (p0 : Int32) (p1 : Int32) (p2 : Int32) (Γ : HS) (res : Int32 × HS) (hF : F_X7_addObject p0 p1 p2 Γ = some res) : Met l yX7_addObject (g_ws yX7_addObject cX7_addObject 4 none) ({ frames := 3, cells := 0, slots := 0, locals := 82 }) (va_Pc [.ref (oA 4), .int p0, .int p1, .int p2] (g_B (dC, dI) [(cB, .byte), (cC, .char), (cI, .int), (cJ, .long), (cZ, .boolean), (cP, .object "StoryHouse$Play")] sz (b_s cB cC cI cJ cZ oA rA Γ ++ b_c cB cC cI cJ cZ oA rA Γ ++ b_t cB cC cI cJ cZ oA rA Γ ++ b_d cB cC cI cJ cZ oA rA Γ) g_0)) (va_Qv (fun (_ : Unit) => True) (g_Bo (dC, dI) (va_A (b_s cB cC cI cJ cZ oA rA Γ ++ b_c cB cC cI cJ cZ oA rA Γ ++ b_t cB cC cI cJ cZ oA rA Γ ++ b_d cB cC cI cJ cZ oA rA Γ) sz) (fun (_ : Unit) => (b_s cB cC cI cJ cZ oA rA res.2 ++ b_c cB cC cI cJ cZ oA rA res.2 ++ b_t cB cC cI cJ cZ oA rA res.2 ++ b_d cB cC cI cJ cZ oA rA res.2))) (va_A (b_s cB cC cI cJ cZ oA rA Γ ++ b_c cB cC cI cJ cZ oA rA Γ ++ b_t cB cC cI cJ cZ oA rA Γ ++ b_d cB cC cI cJ cZ oA rA Γ) sz)) 0 0 (va_A (b_s cB cC cI cJ cZ oA rA Γ ++ b_c cB cC cI cJ cZ oA rA Γ ++ b_t cB cC cI cJ cZ oA rA Γ ++ b_d cB cC cI cJ cZ oA rA Γ) sz) := by
  refine Met.ofW (cc := cX7_addObject) (maxL := 4) (ret := none) (by decide) rfl ?_
  intro p e s m args below meth c s₁ B hml hv
  obtain ⟨rfl, hsz, hP, hK, hD0, hE, hX⟩ := hv
  have hx := B.exec
  have hb := B.bytes
  have hr := B.returns
  have hts0 := atoms_spec (ws := g_ws yX7_addObject cX7_addObject 4 none) B.pre
  have hts : ∀ w ∈ lw_good, w.before ([.ref (oA 4), .int p0, .int p1, .int p2] : List Value).toArray s = true := fun w z => hts0 w (List.mem_cons_of_mem _ z)
  have hown : s.vm.findClass RX7 = some m.cls := findClass_of_methodNamed B.named
  have hlocks := B.notSynchronized
  subst hsz
  have hD1 := hD0.self (sz := s.heap.size)
  generalize hAe : va_A (b_s cB cC cI cJ cZ oA rA Γ ++ b_c cB cC cI cJ cZ oA rA Γ ++ b_t cB cC cI cJ cZ oA rA Γ ++ b_d cB cC cI cJ cZ oA rA Γ) s.heap.size = A at hD1 hE hX ⊢
  have hA : ∀ q : Nat, s.heap.size ≤ q → A q := fun q z => by rw [← hAe]; exact Or.inr z
  have hDD : ∀ Γ : HS, va_D A (b_s cB cC cI cJ cZ oA rA Γ ++ b_c cB cC cI cJ cZ oA rA Γ ++ b_t cB cC cI cJ cZ oA rA Γ ++ b_d cB cC cI cJ cZ oA rA Γ) := fun Γ9 => va_D_fst (ws := (b_s cB cC cI cJ cZ oA rA Γ ++ b_c cB cC cI cJ cZ oA rA Γ ++ b_t cB cC cI cJ cZ oA rA Γ ++ b_d cB cC cI cJ cZ oA rA Γ)) (ws' := (b_s cB cC cI cJ cZ oA rA Γ9 ++ b_c cB cC cI cJ cZ oA rA Γ9 ++ b_t cB cC cI cJ cZ oA rA Γ9 ++ b_d cB cC cI cJ cZ oA rA Γ9)) rfl hD1
  have hN := hE.1
  have hS : va_S A s.heap s.heap [] := va_S.rf
  have hl := lv_entry ([.ref (oA 4), .int p0, .int p1, .int p2]) (n := 4) (Nat.le_of_ble_eq_true rfl)
  rw [lg_entry_eq]
  generalize (lg_sl ([.ref (oA 4), .int p0, .int p1, .int p2]) ++ List.replicate (4 - (lg_sl ([.ref (oA 4), .int p0, .int p1, .int p2])).length) Slot.unset).toArray = ls at hl ⊢
  have hl : lv_has ls 4 [(0, .ref (oA 4)), (1, .int p0), (2, .int p1), (3, .int p2)] := hl
  unfold F_X7_addObject at hF
  refine lv_iload_n hx hb dX7_addObject_0 rfl (lv_at hl 1 rfl) ?_
  obtain ⟨j_2, ej_2, hF_3⟩ := bnd_e hF
  clear hF
  have Jj_2 : ∀  (σ_1 : HS), j_2  σ_1 = some res → ∀ (H : Heap) (locs : List Loc), va_P (dC, dI) vwCl (b_s cB cC cI cJ cZ oA rA σ_1 ++ b_c cB cC cI cJ cZ oA rA σ_1 ++ b_t cB cC cI cJ cZ oA rA σ_1 ++ b_d cB cC cI cJ cZ oA rA σ_1) H → va_S A s.heap H locs → ∀ ls : Array Slot, lv_has ls 4 [(0, .ref (oA 4)), (1, .int p0), (3, .int p2)] → W p l e (headSpec (g_ws yX7_addObject cX7_addObject 4 none) { frames := 3, cells := 0, slots := 0, locals := 82 }).room s m ([.ref (oA 4), .int p0, .int p1, .int p2] : List Value).toArray below meth c H locs 0 0 (MQ below (va_Qv (fun (_ : Unit) => True) (g_Bo (dC, dI) A (fun (_ : Unit) => (b_s cB cC cI cJ cZ oA rA res.2 ++ b_c cB cC cI cJ cZ oA rA res.2 ++ b_t cB cC cI cJ cZ oA rA res.2 ++ b_d cB cC cI cJ cZ oA rA res.2))) A) ([.ref (oA 4), .int p0, .int p1, .int p2] : List Value).toArray s 0 0 A) (F0 m 20 ls []) := by
    intro  σ_1 hF0 H locs hP hS ls hl
    subst ej_2
    have hF_4 := hF0
    clear hF0
    refine lv_aload_n hx hb dX7_addObject_20 rfl (lv_at hl 0 rfl) ?_
    refine va_get (D := (dC, dI)) (ci := 7) (v := .ref (rA 4 2)) (C := RX7) (T := TX7) (N := 19) hx hb hts ii_X7 hown hK hP 0 rfl rfl 2 (by decide) (hts (.fieldLink RX7 19 "StoryHouse$Story" "called" "[I") wq_157) (fun _ h9 => h9) rfl dX7_addObject_21 ?_
    refine lv_iload_n hx hb dX7_addObject_24 rfl (lv_at hl 1 rfl) ?_
    refine lv_iload_n hx hb dX7_addObject_25 rfl (lv_at hl 2 rfl) ?_
    have hq9 : ((b_s cB cC cI cJ cZ oA rA σ_1 ++ b_c cB cC cI cJ cZ oA rA σ_1 ++ b_t cB cC cI cJ cZ oA rA σ_1 ++ b_d cB cC cI cJ cZ oA rA σ_1))[3]? = some (rA 4 2, .inl (cI, 121, .inl ((σ_1 4).2.1 2))) := rfl
    have hPc := hP.sub (ws' := [(rA 4 2, .inl (cI, 121, .inl ((σ_1 4).2.1 2)))]) [3] (pk_fm (er_C hq9))
    have hDc := (hDD σ_1).sub (ws' := [(rA 4 2, .inl (cI, 121, .inl ((σ_1 4).2.1 2)))]) [3] (by decide +kernel) (er_C hq9)
    have hFc := va_free (wc := [(rA 4 2, .inl (cI, 121, .inl ((σ_1 4).2.1 2)))]) (hDD σ_1) hS hA [3] (er_C hq9)
    refine g_ofv (wc := [(rA 4 2, .inl (cI, 121, .inl ((σ_1 4).2.1 2)))]) (wr := (((b_s cB cC cI cJ cZ oA rA σ_1 ++ b_c cB cC cI cJ cZ oA rA σ_1 ++ b_t cB cC cI cJ cZ oA rA σ_1 ++ b_d cB cC cI cJ cZ oA rA σ_1)).eraseIdx 3)) hP (hDD σ_1) hS hFc [3] ((List.range ((b_s cB cC cI cJ cZ oA rA σ_1 ++ b_c cB cC cI cJ cZ oA rA σ_1 ++ b_t cB cC cI cJ cZ oA rA σ_1 ++ b_d cB cC cI cJ cZ oA rA σ_1)).length).eraseIdx 3) (er_C hq9) er_R er_n er_d (va_runSN (As := [.ref (rA 4 2), .int p0, .int p2]) (rest := []) ⟨hx, hb, hml, hown, hts⟩ (c_X11_put l dC dI cB cC cI cJ cZ cP H.size (rA 4 2) p0 p2 121 ((σ_1 4).2.1 2) (by decide)) ⟨va_cnB 3 hts (g_gA wq_412) rfl rfl rfl (nw_18 hN) (hts (.initialized RX11) wq_1) (by decide +kernel) ⟨Nat.le_of_ble_eq_true rfl, Nat.le_of_ble_eq_true rfl⟩, (hts (.static yX11_put) wq_411), trivial⟩ (g_preS g_bl0 hK hPc hDc hS hE hFc g_to0) rfl rfl hl.1 rfl (lv_room (Nat.le_of_ble_eq_true rfl)) dX7_addObject_26 ⟨Nat.le_of_ble_eq_true rfl, Nat.le_of_ble_eq_true rfl⟩) (fun g9 H locs hw9 hP' hD' hS => ?_)
    clear hPc hDc hFc hD'
    obtain ⟨σ_5, eσ_5, hF_6⟩ := bnd_e hF_4
    clear hF_4
    subst hw9
    have hP : va_P (dC, dI) vwCl (b_s cB cC cI cJ cZ oA rA σ_5 ++ b_c cB cC cI cJ cZ oA rA σ_5 ++ b_t cB cC cI cJ cZ oA rA σ_5 ++ b_d cB cC cI cJ cZ oA rA σ_5) H := by rw [eσ_5]; exact cs_sctd_s_2 ▸ er_P hP' (er_lt hq9)
    clear hP' hq9
    have h9 := Option.some.inj hF_6
    subst h9
    exact W.vret hx hb hr (fun t ht hW => ⟨⟨(), rfl, trivial, m_end ht hP, hDD _⟩, hS.F ht⟩) hS.2.2 dX7_addObject_29
  refine lv_if_lt (tgt := 20) hx hb dX7_addObject_1 (by decide) (fun c_7 => ?_) (fun c_7 => ?_)
  · have hF_8 := ipos c_7 hF_3
    clear hF_3
    exact Jj_2  Γ hF_8 _ _ hP hS ls (lv_sub hl [0, 1, 3] rfl)
  · have hF_9 := ineg c_7 hF_3
    clear hF_3
    refine lv_iload_n hx hb dX7_addObject_4 rfl (lv_at hl 1 rfl) ?_
    refine lv_aload_n hx hb dX7_addObject_5 rfl (lv_at hl 0 rfl) ?_
    refine va_get (D := (dC, dI)) (ci := 7) (v := .ref (rA 4 1)) (C := RX7) (T := TX7) (N := 19) hx hb hts ii_X7 hown hK hP 0 rfl rfl 1 (by decide) (hts (.fieldLink RX7 15 "StoryHouse$Story" "rooms" "[Z") wq_156) (fun _ h9 => h9) rfl dX7_addObject_6 ?_
    refine va_alen (v := 121) hx hb hK hP 2 4 rfl rfl (by first | rfl | decide +kernel) dX7_addObject_9 ?_
    refine lv_icmp_ge (tgt := 20) hx hb dX7_addObject_10 (by decide) (fun c_10 => ?_) (fun c_10 => ?_)
    · have hF_11 := ipos c_10 hF_9
      clear hF_9
      exact Jj_2  Γ hF_11 _ _ hP hS ls (lv_sub hl [0, 1, 3] rfl)
    · have hF_12 := ineg c_10 hF_9
      clear hF_9
      refine lv_aload_n hx hb dX7_addObject_13 rfl (lv_at hl 0 rfl) ?_
      refine va_get (D := (dC, dI)) (ci := 7) (v := .ref (rA 4 1)) (C := RX7) (T := TX7) (N := 19) hx hb hts ii_X7 hown hK hP 0 rfl rfl 1 (by decide) (hts (.fieldLink RX7 15 "StoryHouse$Story" "rooms" "[Z") wq_156) (fun _ h9 => h9) rfl dX7_addObject_14 ?_
      refine lv_iload_n hx hb dX7_addObject_17 rfl (lv_at hl 1 rfl) ?_
      refine lv_iload_n hx hb dX7_addObject_18 rfl (lv_at hl 2 rfl) ?_
      obtain ⟨g_13, hF_14⟩ := nif_e hF_12
      clear hF_12
      obtain ⟨σ_15, eσ_15, hF_16⟩ := bnd_e hF_14
      clear hF_14
      refine va_zast (f := (Γ 4).2.1 1) hx hb hK hP (hDD _) hS 2 4 rfl rfl g_13 dX7_addObject_19 (fun H locs hP' _ hS => ?_)
      have hP : va_P (dC, dI) vwCl (b_s cB cC cI cJ cZ oA rA σ_15 ++ b_c cB cC cI cJ cZ oA rA σ_15 ++ b_t cB cC cI cJ cZ oA rA σ_15 ++ b_d cB cC cI cJ cZ oA rA σ_15) H := by rw [eσ_15]; exact cs_sctd_s_1 ▸ hP'
      clear hP'
      exact Jj_2  σ_15 hF_16 _ _ hP hS ls (lv_sub hl [0, 1, 3] rfl)
