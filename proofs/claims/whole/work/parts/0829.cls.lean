/-! methods of the class: what each does is its function -/
theorem dX4_countOwned_0 : decode cX4_countOwned 0 = .ok (.iload_n 1, 1) := by decide +kernel
theorem dX4_countOwned_1 : decode cX4_countOwned 1 = .ok (.istore_n 2, 1) := by decide +kernel
theorem dX4_countOwned_2 : decode cX4_countOwned 2 = .ok (.iload_n 2, 1) := by decide +kernel
theorem dX4_countOwned_3 : decode cX4_countOwned 3 = .ok (.aload_n 0, 1) := by decide +kernel
theorem dX4_countOwned_4 : decode cX4_countOwned 4 = .ok (.getfield 32, 3) := by decide +kernel
theorem dX4_countOwned_7 : decode cX4_countOwned 7 = .ok (.getfield 53, 3) := by decide +kernel
theorem dX4_countOwned_10 : decode cX4_countOwned 10 = .ok (.if_icmp .ge 77, 3) := by decide +kernel
theorem dX4_countOwned_13 : decode cX4_countOwned 13 = .ok (.aload_n 0, 1) := by decide +kernel
theorem dX4_countOwned_14 : decode cX4_countOwned 14 = .ok (.getfield 32, 3) := by decide +kernel
theorem dX4_countOwned_17 : decode cX4_countOwned 17 = .ok (.iload_n 2, 1) := by decide +kernel
theorem dX4_countOwned_18 : decode cX4_countOwned 18 = .ok (.invokevirtual 116, 3) := by decide +kernel
theorem dX4_countOwned_21 : decode cX4_countOwned 21 = .ok (.iconst 2, 1) := by decide +kernel
theorem dX4_countOwned_22 : decode cX4_countOwned 22 = .ok (.if_icmp .eq 16, 3) := by decide +kernel
theorem dX4_countOwned_25 : decode cX4_countOwned 25 = .ok (.aload_n 0, 1) := by decide +kernel
theorem dX4_countOwned_26 : decode cX4_countOwned 26 = .ok (.getfield 32, 3) := by decide +kernel
theorem dX4_countOwned_29 : decode cX4_countOwned 29 = .ok (.iload_n 2, 1) := by decide +kernel
theorem dX4_countOwned_30 : decode cX4_countOwned 30 = .ok (.invokevirtual 116, 3) := by decide +kernel
theorem dX4_countOwned_33 : decode cX4_countOwned 33 = .ok (.bipush 44, 2) := by decide +kernel
theorem dX4_countOwned_35 : decode cX4_countOwned 35 = .ok (.if_icmp .ne 52, 3) := by decide +kernel
theorem dX4_countOwned_38 : decode cX4_countOwned 38 = .ok (.aload_n 0, 1) := by decide +kernel
theorem dX4_countOwned_39 : decode cX4_countOwned 39 = .ok (.dup, 1) := by decide +kernel
theorem dX4_countOwned_40 : decode cX4_countOwned 40 = .ok (.getfield 142, 3) := by decide +kernel
theorem dX4_countOwned_43 : decode cX4_countOwned 43 = .ok (.aload_n 0, 1) := by decide +kernel
theorem dX4_countOwned_44 : decode cX4_countOwned 44 = .ok (.getfield 32, 3) := by decide +kernel
theorem dX4_countOwned_47 : decode cX4_countOwned 47 = .ok (.iload_n 2, 1) := by decide +kernel
theorem dX4_countOwned_48 : decode cX4_countOwned 48 = .ok (.invokevirtual 116, 3) := by decide +kernel
theorem dX4_countOwned_51 : decode cX4_countOwned 51 = .ok (.iconst 2, 1) := by decide +kernel
theorem dX4_countOwned_52 : decode cX4_countOwned 52 = .ok (.if_icmp .ne 7, 3) := by decide +kernel
theorem dX4_countOwned_55 : decode cX4_countOwned 55 = .ok (.iconst 1, 1) := by decide +kernel
theorem dX4_countOwned_56 : decode cX4_countOwned 56 = .ok (.goto 4, 3) := by decide +kernel
theorem dX4_countOwned_59 : decode cX4_countOwned 59 = .ok (.iconst 0, 1) := by decide +kernel
theorem dX4_countOwned_60 : decode cX4_countOwned 60 = .ok (.iadd, 1) := by decide +kernel
theorem dX4_countOwned_61 : decode cX4_countOwned 61 = .ok (.putfield 142, 3) := by decide +kernel
theorem dX4_countOwned_64 : decode cX4_countOwned 64 = .ok (.aload_n 0, 1) := by decide +kernel
theorem dX4_countOwned_65 : decode cX4_countOwned 65 = .ok (.getfield 142, 3) := by decide +kernel
theorem dX4_countOwned_68 : decode cX4_countOwned 68 = .ok (.bipush 10, 2) := by decide +kernel
theorem dX4_countOwned_70 : decode cX4_countOwned 70 = .ok (.if_icmp .le 11, 3) := by decide +kernel
theorem dX4_countOwned_73 : decode cX4_countOwned 73 = .ok (.aload_n 0, 1) := by decide +kernel
theorem dX4_countOwned_74 : decode cX4_countOwned 74 = .ok (.iconst 5, 1) := by decide +kernel
theorem dX4_countOwned_75 : decode cX4_countOwned 75 = .ok (.iload_n 2, 1) := by decide +kernel
theorem dX4_countOwned_76 : decode cX4_countOwned 76 = .ok (.invokevirtual 84, 3) := by decide +kernel
theorem dX4_countOwned_79 : decode cX4_countOwned 79 = .ok (.iload_n 2, 1) := by decide +kernel
theorem dX4_countOwned_80 : decode cX4_countOwned 80 = .ok (.ireturn, 1) := by decide +kernel
theorem dX4_countOwned_81 : decode cX4_countOwned 81 = .ok (.iinc 2 1, 3) := by decide +kernel
theorem dX4_countOwned_84 : decode cX4_countOwned 84 = .ok (.goto (-82), 3) := by decide +kernel
theorem dX4_countOwned_87 : decode cX4_countOwned 87 = .ok (.iload_n 2, 1) := by decide +kernel
theorem dX4_countOwned_88 : decode cX4_countOwned 88 = .ok (.ireturn, 1) := by decide +kernel
def F_X4_countOwned (p0 : Int32) (Γ : HS) : HR :=
  loopF (fun (again_2 : (Int32 × HS) → HR) (s_1 : Int32 × HS) => (
    if ((s_1.2 1).1 2) ≤ s_1.1 then (
      some (s_1.1, s_1.2)
    ) else (
      (F_X10_kindOf s_1.1 s_1.2).bind fun u_8 =>
      bnd (mrg (fun j => j == 1) s_1.2 u_8.2) fun σ_10 =>
      bnd (fun  (σ_12 : HS) => (
        (F_X10_kindOf s_1.1 σ_12).bind fun u_16 =>
        bnd (mrg (fun j => j == 1) σ_12 u_16.2) fun σ_18 =>
        bnd (fun (t_20 : Int32) (σ_21 : HS) => (
          bnd (cI' σ_21 3 14 (((σ_12 3).1 14) + t_20)) fun σ_25 =>
          if ((σ_25 3).1 14) ≤ 10 then (
            bnd (s_1.1 + 1) fun (x_29 : Int32) =>
            again_2 (x_29, σ_25)
          ) else (
            (F_X4_fail 5 s_1.1 σ_25).bind fun u_32 =>
            some (s_1.1, u_32.2)
          )
        ) : Int32 → HS → HR) fun j_22 =>
        if u_16.1 = 2 then (
          j_22 1 σ_18
        ) else (
          j_22 0 σ_18
        )
      ) : HS → HR) fun j_13 =>
      if u_8.1 = 2 then (
        j_13  σ_10
      ) else (
        (F_X10_kindOf s_1.1 σ_10).bind fun u_40 =>
        bnd (mrg (fun j => j == 1) σ_10 u_40.2) fun σ_42 =>
        if u_40.1 = 44 then (
          j_13  σ_42
        ) else (
          some (s_1.1, σ_42)
        )
      )
    )
  )) FU (p0, Γ)
set_option maxHeartbeats 4000000 in
set_option maxRecDepth 100000 in
theorem k_X4_countOwned (l : Launch) (dC : Nat → ClassId) (dI : Nat → Nat → Nat) (cB cC cI cJ cZ cP : ClassId) (oA : Nat → Nat) (rA : Nat → Nat → Nat) (sz : Nat)  (p0 : Int32) (Γ : HS) (res : Int32 × HS) (hF : F_X4_countOwned p0 Γ = some res) : Met l yX4_countOwned (g_ws yX4_countOwned cX4_countOwned 3 (some .int)) ({ frames := 5, cells := 0, slots := 0, locals := 124 }) (va_Pc [.ref (oA 3), .int p0] (g_B (dC, dI) [(cB, .byte), (cC, .char), (cI, .int), (cJ, .long), (cZ, .boolean), (cP, .object "StoryHouse$Play")] sz (b_m cB cC cI cJ cZ oA rA Γ ++ b_w cB cC cI cJ cZ oA rA Γ ++ b_s cB cC cI cJ cZ oA rA Γ ++ b_c cB cC cI cJ cZ oA rA Γ ++ b_t cB cC cI cJ cZ oA rA Γ ++ b_d cB cC cI cJ cZ oA rA Γ) g_0)) (va_Qi (fun r (_ : Unit) => r = res.1) (g_Bo (dC, dI) (va_A (b_m cB cC cI cJ cZ oA rA Γ ++ b_w cB cC cI cJ cZ oA rA Γ ++ b_s cB cC cI cJ cZ oA rA Γ ++ b_c cB cC cI cJ cZ oA rA Γ ++ b_t cB cC cI cJ cZ oA rA Γ ++ b_d cB cC cI cJ cZ oA rA Γ) sz) (fun (_ : Unit) => (b_m cB cC cI cJ cZ oA rA res.2 ++ b_w cB cC cI cJ cZ oA rA res.2 ++ b_s cB cC cI cJ cZ oA rA res.2 ++ b_c cB cC cI cJ cZ oA rA res.2 ++ b_t cB cC cI cJ cZ oA rA res.2 ++ b_d cB cC cI cJ cZ oA rA res.2))) (va_A (b_m cB cC cI cJ cZ oA rA Γ ++ b_w cB cC cI cJ cZ oA rA Γ ++ b_s cB cC cI cJ cZ oA rA Γ ++ b_c cB cC cI cJ cZ oA rA Γ ++ b_t cB cC cI cJ cZ oA rA Γ ++ b_d cB cC cI cJ cZ oA rA Γ) sz)) 0 0 (va_A (b_m cB cC cI cJ cZ oA rA Γ ++ b_w cB cC cI cJ cZ oA rA Γ ++ b_s cB cC cI cJ cZ oA rA Γ ++ b_c cB cC cI cJ cZ oA rA Γ ++ b_t cB cC cI cJ cZ oA rA Γ ++ b_d cB cC cI cJ cZ oA rA Γ) sz) := by
  refine Met.ofW (cc := cX4_countOwned) (maxL := 3) (ret := (some .int)) (by decide) rfl ?_
  intro p e s m args below meth c s₁ B hml hv
  obtain ⟨rfl, hsz, hP, hK, hD0, hE, hX⟩ := hv
  have hx := B.exec
  have hb := B.bytes
  have hr := B.returns
  have hts0 := atoms_spec (ws := g_ws yX4_countOwned cX4_countOwned 3 (some .int)) B.pre
  have hts : ∀ w ∈ lw_good, w.before ([.ref (oA 3), .int p0] : List Value).toArray s = true := fun w z => hts0 w (List.mem_cons_of_mem _ z)
  have hown : s.vm.findClass RX4 = some m.cls := findClass_of_methodNamed B.named
  have hlocks := B.notSynchronized
  subst hsz
  have hD1 := hD0.self (sz := s.heap.size)
  generalize hAe : va_A (b_m cB cC cI cJ cZ oA rA Γ ++ b_w cB cC cI cJ cZ oA rA Γ ++ b_s cB cC cI cJ cZ oA rA Γ ++ b_c cB cC cI cJ cZ oA rA Γ ++ b_t cB cC cI cJ cZ oA rA Γ ++ b_d cB cC cI cJ cZ oA rA Γ) s.heap.size = A at hD1 hE hX ⊢
  have hA : ∀ q : Nat, s.heap.size ≤ q → A q := fun q z => by rw [← hAe]; exact Or.inr z
  have hDD : ∀ Γ : HS, va_D A (b_m cB cC cI cJ cZ oA rA Γ ++ b_w cB cC cI cJ cZ oA rA Γ ++ b_s cB cC cI cJ cZ oA rA Γ ++ b_c cB cC cI cJ cZ oA rA Γ ++ b_t cB cC cI cJ cZ oA rA Γ ++ b_d cB cC cI cJ cZ oA rA Γ) := fun Γ9 => va_D_fst (ws := (b_m cB cC cI cJ cZ oA rA Γ ++ b_w cB cC cI cJ cZ oA rA Γ ++ b_s cB cC cI cJ cZ oA rA Γ ++ b_c cB cC cI cJ cZ oA rA Γ ++ b_t cB cC cI cJ cZ oA rA Γ ++ b_d cB cC cI cJ cZ oA rA Γ)) (ws' := (b_m cB cC cI cJ cZ oA rA Γ9 ++ b_w cB cC cI cJ cZ oA rA Γ9 ++ b_s cB cC cI cJ cZ oA rA Γ9 ++ b_c cB cC cI cJ cZ oA rA Γ9 ++ b_t cB cC cI cJ cZ oA rA Γ9 ++ b_d cB cC cI cJ cZ oA rA Γ9)) rfl hD1
  have hN := hE.1
  have hS : va_S A s.heap s.heap [] := va_S.rf
  have hl := lv_entry ([.ref (oA 3), .int p0]) (n := 3) (Nat.le_of_ble_eq_true rfl)
  rw [lg_entry_eq]
  generalize (lg_sl ([.ref (oA 3), .int p0]) ++ List.replicate (3 - (lg_sl ([.ref (oA 3), .int p0])).length) Slot.unset).toArray = ls at hl ⊢
  have hl : lv_has ls 3 [(0, .ref (oA 3)), (1, .int p0)] := hl
  unfold F_X4_countOwned at hF
  refine lv_iload_n hx hb dX4_countOwned_0 rfl (lv_at hl 1 rfl) ?_
  refine lv_istore_n (lv' := [(2, .int p0), (0, .ref (oA 3)), (1, .int p0)]) hx hb dX4_countOwned_1 rfl hl (by decide) rfl (fun ls hl => ?_)
  refine loopF_ind (P := fun (s_1 : Int32 × HS) => ∀ (H : Heap) (locs : List Loc), va_P (dC, dI) vwCl (b_m cB cC cI cJ cZ oA rA s_1.2 ++ b_w cB cC cI cJ cZ oA rA s_1.2 ++ b_s cB cC cI cJ cZ oA rA s_1.2 ++ b_c cB cC cI cJ cZ oA rA s_1.2 ++ b_t cB cC cI cJ cZ oA rA s_1.2 ++ b_d cB cC cI cJ cZ oA rA s_1.2) H → va_S A s.heap H locs → ∀ ls : Array Slot, lv_has ls 3 [(0, .ref (oA 3)), (2, .int s_1.1)] → W p l e (headSpec (g_ws yX4_countOwned cX4_countOwned 3 (some .int)) { frames := 5, cells := 0, slots := 0, locals := 124 }).room s m ([.ref (oA 3), .int p0] : List Value).toArray below meth c H locs 0 0 (MQ below (va_Qi (fun r (_ : Unit) => r = res.1) (g_Bo (dC, dI) A (fun (_ : Unit) => (b_m cB cC cI cJ cZ oA rA res.2 ++ b_w cB cC cI cJ cZ oA rA res.2 ++ b_s cB cC cI cJ cZ oA rA res.2 ++ b_c cB cC cI cJ cZ oA rA res.2 ++ b_t cB cC cI cJ cZ oA rA res.2 ++ b_d cB cC cI cJ cZ oA rA res.2))) A) ([.ref (oA 3), .int p0] : List Value).toArray s 0 0 A) (F0 m 2 ls [])) ?_ _ _ hF _ _ hP hS ls (lv_sub hl [1, 0] rfl)
  intro again_2 s_1 ih_3 hF_4
  intro H locs hP hS ls hl
  refine lv_iload_n hx hb dX4_countOwned_2 rfl (lv_at hl 1 rfl) ?_
  refine lv_aload_n hx hb dX4_countOwned_3 rfl (lv_at hl 0 rfl) ?_
  refine va_get (D := (dC, dI)) (ci := 4) (v := .ref (oA 1)) (C := RX4) (T := TX4) (N := 18) hx hb hts ii_X4 hown hK hP 0 rfl rfl 0 (by decide) (hts (.fieldLink RX4 32 "StoryHouse$Meanings" "words" "LStoryHouse$Words;") wq_86) (fun _ h9 => h9) rfl dX4_countOwned_4 ?_
  refine va_get (D := (dC, dI)) (ci := 10) (v := .int ((s_1.2 1).1 2)) (C := RX10) (T := TX10) (N := 12) hx hb hts ii_X10 hown hK hP 7 rfl rfl 2 (by decide) (hts (.fieldLink RX4 53 "StoryHouse$Words" "count" "I") wq_45) (fun _ h9 => h9) rfl dX4_countOwned_7 ?_
  refine lv_icmp_ge (tgt := 87) hx hb dX4_countOwned_10 (by decide) (fun c_5 => ?_) (fun c_5 => ?_)
  · have hF_6 := ipos c_5 hF_4
    clear hF_4
    refine lv_iload_n hx hb dX4_countOwned_87 rfl (lv_at hl 1 rfl) ?_
    have h9 := Option.some.inj hF_6
    subst h9
    exact W.iret (v := s_1.1) hx hb hr (fun t ht hW => ⟨⟨s_1.1, (), rfl, rfl, m_end ht hP, hDD _⟩, hS.F ht⟩) hS.2.2 dX4_countOwned_88
  · have hF_7 := ineg c_5 hF_4
    clear hF_4
    refine lv_aload_n hx hb dX4_countOwned_13 rfl (lv_at hl 0 rfl) ?_
    refine va_get (D := (dC, dI)) (ci := 4) (v := .ref (oA 1)) (C := RX4) (T := TX4) (N := 18) hx hb hts ii_X4 hown hK hP 0 rfl rfl 0 (by decide) (hts (.fieldLink RX4 32 "StoryHouse$Meanings" "words" "LStoryHouse$Words;") wq_86) (fun _ h9 => h9) rfl dX4_countOwned_14 ?_
    refine lv_iload_n hx hb dX4_countOwned_17 rfl (lv_at hl 1 rfl) ?_
    obtain ⟨u_8, hu_8, hF_9⟩ := Option.bind_eq_some_iff.mp hF_7
    clear hF_7
    have hPc := bx_P (bs := [b_m cB cC cI cJ cZ oA rA s_1.2, b_w cB cC cI cJ cZ oA rA s_1.2, b_s cB cC cI cJ cZ oA rA s_1.2, b_c cB cC cI cJ cZ oA rA s_1.2, b_t cB cC cI cJ cZ oA rA s_1.2, b_d cB cC cI cJ cZ oA rA s_1.2]) (bs' := [b_w cB cC cI cJ cZ oA rA s_1.2]) (ws' := (b_w cB cC cI cJ cZ oA rA s_1.2)) hP fl_6 fl_1 [1] rfl
    have hDc := bx_D (bs := [b_m cB cC cI cJ cZ oA rA s_1.2, b_w cB cC cI cJ cZ oA rA s_1.2, b_s cB cC cI cJ cZ oA rA s_1.2, b_c cB cC cI cJ cZ oA rA s_1.2, b_t cB cC cI cJ cZ oA rA s_1.2, b_d cB cC cI cJ cZ oA rA s_1.2]) (bs' := [b_w cB cC cI cJ cZ oA rA s_1.2]) (ws' := (b_w cB cC cI cJ cZ oA rA s_1.2)) (hDD s_1.2) fl_6 fl_1 [1] (by decide +kernel) rfl
    have hFc := bx_F (bs := [b_m cB cC cI cJ cZ oA rA s_1.2, b_w cB cC cI cJ cZ oA rA s_1.2, b_s cB cC cI cJ cZ oA rA s_1.2, b_c cB cC cI cJ cZ oA rA s_1.2, b_t cB cC cI cJ cZ oA rA s_1.2, b_d cB cC cI cJ cZ oA rA s_1.2]) (bs' := [b_w cB cC cI cJ cZ oA rA s_1.2]) (wc := (b_w cB cC cI cJ cZ oA rA s_1.2)) (hDD s_1.2) hS hA fl_6 fl_1 [1] rfl
    refine g_ofi (wc := (b_w cB cC cI cJ cZ oA rA s_1.2)) (wr := (b_m cB cC cI cJ cZ oA rA s_1.2 ++ b_s cB cC cI cJ cZ oA rA s_1.2 ++ b_c cB cC cI cJ cZ oA rA s_1.2 ++ b_t cB cC cI cJ cZ oA rA s_1.2 ++ b_d cB cC cI cJ cZ oA rA s_1.2)) hP (hDD s_1.2) hS hFc (bx_ix [b_m cB cC cI cJ cZ oA rA s_1.2, b_w cB cC cI cJ cZ oA rA s_1.2, b_s cB cC cI cJ cZ oA rA s_1.2, b_c cB cC cI cJ cZ oA rA s_1.2, b_t cB cC cI cJ cZ oA rA s_1.2, b_d cB cC cI cJ cZ oA rA s_1.2] [1]) (bx_ix [b_m cB cC cI cJ cZ oA rA s_1.2, b_w cB cC cI cJ cZ oA rA s_1.2, b_s cB cC cI cJ cZ oA rA s_1.2, b_c cB cC cI cJ cZ oA rA s_1.2, b_t cB cC cI cJ cZ oA rA s_1.2, b_d cB cC cI cJ cZ oA rA s_1.2] [0, 2, 3, 4, 5]) (bx_C (bs := [b_m cB cC cI cJ cZ oA rA s_1.2, b_w cB cC cI cJ cZ oA rA s_1.2, b_s cB cC cI cJ cZ oA rA s_1.2, b_c cB cC cI cJ cZ oA rA s_1.2, b_t cB cC cI cJ cZ oA rA s_1.2, b_d cB cC cI cJ cZ oA rA s_1.2]) (bs' := [b_w cB cC cI cJ cZ oA rA s_1.2]) (is := [1]) fl_6 fl_1 rfl) (bx_C (bs := [b_m cB cC cI cJ cZ oA rA s_1.2, b_w cB cC cI cJ cZ oA rA s_1.2, b_s cB cC cI cJ cZ oA rA s_1.2, b_c cB cC cI cJ cZ oA rA s_1.2, b_t cB cC cI cJ cZ oA rA s_1.2, b_d cB cC cI cJ cZ oA rA s_1.2]) (bs' := [b_m cB cC cI cJ cZ oA rA s_1.2, b_s cB cC cI cJ cZ oA rA s_1.2, b_c cB cC cI cJ cZ oA rA s_1.2, b_t cB cC cI cJ cZ oA rA s_1.2, b_d cB cC cI cJ cZ oA rA s_1.2]) (is := [0, 2, 3, 4, 5]) fl_6 fl_5 rfl) (bx_n (by decide +kernel)) (bx_d (by decide +kernel)) (va_runV (As := [.int s_1.1]) (rest := []) ⟨hx, hb, hml, hown, hts⟩ (k_X10_kindOf l dC dI cB cC cI cJ cZ cP oA rA H.size  s_1.1 s_1.2 _ hu_8) (cwV 1 hts (g_gV wq_714 wq_543 wq_544 wq_2 wq_545) rfl rfl rfl (by decide +kernel) ⟨Nat.le_of_ble_eq_true rfl, Nat.le_of_ble_eq_true rfl⟩) (g_preV g_bl0 hK hPc hDc hS hE hFc g_to0 (q0 := 0) (ci := 10) rfl rfl) rfl rfl hl.1 rfl (lv_room (Nat.le_of_ble_eq_true rfl)) dX4_countOwned_18 ⟨Nat.le_of_ble_eq_true rfl, Nat.le_of_ble_eq_true rfl⟩) (fun r9 u9 H locs hw9 hP' hD' hS => ?_)
    clear hPc hDc hFc
    subst hw9
    obtain ⟨σ_10, eσ_10, hF_11⟩ := bnd_e hF_9
    clear hF_9
    have hP : va_P (dC, dI) vwCl (b_m cB cC cI cJ cZ oA rA σ_10 ++ b_w cB cC cI cJ cZ oA rA σ_10 ++ b_s cB cC cI cJ cZ oA rA σ_10 ++ b_c cB cC cI cJ cZ oA rA σ_10 ++ b_t cB cC cI cJ cZ oA rA σ_10 ++ b_d cB cC cI cJ cZ oA rA σ_10) H := by rw [eσ_10]; exact bx_P (bs := [b_m cB cC cI cJ cZ oA rA s_1.2, b_s cB cC cI cJ cZ oA rA s_1.2, b_c cB cC cI cJ cZ oA rA s_1.2, b_t cB cC cI cJ cZ oA rA s_1.2, b_d cB cC cI cJ cZ oA rA s_1.2] ++ [b_w cB cC cI cJ cZ oA rA u_8.2]) (bs' := [b_m cB cC cI cJ cZ oA rA (mrg (fun j => j == 1) s_1.2 u_8.2), b_w cB cC cI cJ cZ oA rA (mrg (fun j => j == 1) s_1.2 u_8.2), b_s cB cC cI cJ cZ oA rA (mrg (fun j => j == 1) s_1.2 u_8.2), b_c cB cC cI cJ cZ oA rA (mrg (fun j => j == 1) s_1.2 u_8.2), b_t cB cC cI cJ cZ oA rA (mrg (fun j => j == 1) s_1.2 u_8.2), b_d cB cC cI cJ cZ oA rA (mrg (fun j => j == 1) s_1.2 u_8.2)]) hP' (fl_a fl_5 fl_1) fl_6 [0, 5, 1, 2, 3, 4] rfl
    clear hP' hD'
    refine lv_iconst (v := 2) hx hb dX4_countOwned_21 (by decide +kernel) ?_
    obtain ⟨j_13, ej_13, hF_14⟩ := bnd_e hF_11
    clear hF_11
    have Jj_13 : ∀  (σ_12 : HS), j_13  σ_12 = some res → ∀ (H : Heap) (locs : List Loc), va_P (dC, dI) vwCl (b_m cB cC cI cJ cZ oA rA σ_12 ++ b_w cB cC cI cJ cZ oA rA σ_12 ++ b_s cB cC cI cJ cZ oA rA σ_12 ++ b_c cB cC cI cJ cZ oA rA σ_12 ++ b_t cB cC cI cJ cZ oA rA σ_12 ++ b_d cB cC cI cJ cZ oA rA σ_12) H → va_S A s.heap H locs → ∀ ls : Array Slot, lv_has ls 3 [(0, .ref (oA 3)), (2, .int s_1.1)] → W p l e (headSpec (g_ws yX4_countOwned cX4_countOwned 3 (some .int)) { frames := 5, cells := 0, slots := 0, locals := 124 }).room s m ([.ref (oA 3), .int p0] : List Value).toArray below meth c H locs 0 0 (MQ below (va_Qi (fun r (_ : Unit) => r = res.1) (g_Bo (dC, dI) A (fun (_ : Unit) => (b_m cB cC cI cJ cZ oA rA res.2 ++ b_w cB cC cI cJ cZ oA rA res.2 ++ b_s cB cC cI cJ cZ oA rA res.2 ++ b_c cB cC cI cJ cZ oA rA res.2 ++ b_t cB cC cI cJ cZ oA rA res.2 ++ b_d cB cC cI cJ cZ oA rA res.2))) A) ([.ref (oA 3), .int p0] : List Value).toArray s 0 0 A) (F0 m 38 ls []) := by
      intro  σ_12 hF0 H locs hP hS ls hl
      subst ej_13
      have hF_15 := hF0
      clear hF0
      refine lv_aload_n hx hb dX4_countOwned_38 rfl (lv_at hl 0 rfl) ?_
      refine lv_dup hx hb dX4_countOwned_39 rfl ?_
      refine va_get (D := (dC, dI)) (ci := 4) (v := .int ((σ_12 3).1 14)) (C := RX4) (T := TX4) (N := 18) hx hb hts ii_X4 hown hK hP 0 rfl rfl 14 (by decide) (hts (.fieldLink RX4 142 "StoryHouse$Meanings" "owned" "I") wq_100) (fun _ h9 => h9) rfl dX4_countOwned_40 ?_
      refine lv_aload_n hx hb dX4_countOwned_43 rfl (lv_at hl 0 rfl) ?_
      refine va_get (D := (dC, dI)) (ci := 4) (v := .ref (oA 1)) (C := RX4) (T := TX4) (N := 18) hx hb hts ii_X4 hown hK hP 0 rfl rfl 0 (by decide) (hts (.fieldLink RX4 32 "StoryHouse$Meanings" "words" "LStoryHouse$Words;") wq_86) (fun _ h9 => h9) rfl dX4_countOwned_44 ?_
      refine lv_iload_n hx hb dX4_countOwned_47 rfl (lv_at hl 1 rfl) ?_
      obtain ⟨u_16, hu_16, hF_17⟩ := Option.bind_eq_some_iff.mp hF_15
      clear hF_15
      have hPc := bx_P (bs := [b_m cB cC cI cJ cZ oA rA σ_12, b_w cB cC cI cJ cZ oA rA σ_12, b_s cB cC cI cJ cZ oA rA σ_12, b_c cB cC cI cJ cZ oA rA σ_12, b_t cB cC cI cJ cZ oA rA σ_12, b_d cB cC cI cJ cZ oA rA σ_12]) (bs' := [b_w cB cC cI cJ cZ oA rA σ_12]) (ws' := (b_w cB cC cI cJ cZ oA rA σ_12)) hP fl_6 fl_1 [1] rfl
      have hDc := bx_D (bs := [b_m cB cC cI cJ cZ oA rA σ_12, b_w cB cC cI cJ cZ oA rA σ_12, b_s cB cC cI cJ cZ oA rA σ_12, b_c cB cC cI cJ cZ oA rA σ_12, b_t cB cC cI cJ cZ oA rA σ_12, b_d cB cC cI cJ cZ oA rA σ_12]) (bs' := [b_w cB cC cI cJ cZ oA rA σ_12]) (ws' := (b_w cB cC cI cJ cZ oA rA σ_12)) (hDD σ_12) fl_6 fl_1 [1] (by decide +kernel) rfl
      have hFc := bx_F (bs := [b_m cB cC cI cJ cZ oA rA σ_12, b_w cB cC cI cJ cZ oA rA σ_12, b_s cB cC cI cJ cZ oA rA σ_12, b_c cB cC cI cJ cZ oA rA σ_12, b_t cB cC cI cJ cZ oA rA σ_12, b_d cB cC cI cJ cZ oA rA σ_12]) (bs' := [b_w cB cC cI cJ cZ oA rA σ_12]) (wc := (b_w cB cC cI cJ cZ oA rA σ_12)) (hDD σ_12) hS hA fl_6 fl_1 [1] rfl
      refine g_ofi (wc := (b_w cB cC cI cJ cZ oA rA σ_12)) (wr := (b_m cB cC cI cJ cZ oA rA σ_12 ++ b_s cB cC cI cJ cZ oA rA σ_12 ++ b_c cB cC cI cJ cZ oA rA σ_12 ++ b_t cB cC cI cJ cZ oA rA σ_12 ++ b_d cB cC cI cJ cZ oA rA σ_12)) hP (hDD σ_12) hS hFc (bx_ix [b_m cB cC cI cJ cZ oA rA σ_12, b_w cB cC cI cJ cZ oA rA σ_12, b_s cB cC cI cJ cZ oA rA σ_12, b_c cB cC cI cJ cZ oA rA σ_12, b_t cB cC cI cJ cZ oA rA σ_12, b_d cB cC cI cJ cZ oA rA σ_12] [1]) (bx_ix [b_m cB cC cI cJ cZ oA rA σ_12, b_w cB cC cI cJ cZ oA rA σ_12, b_s cB cC cI cJ cZ oA rA σ_12, b_c cB cC cI cJ cZ oA rA σ_12, b_t cB cC cI cJ cZ oA rA σ_12, b_d cB cC cI cJ cZ oA rA σ_12] [0, 2, 3, 4, 5]) (bx_C (bs := [b_m cB cC cI cJ cZ oA rA σ_12, b_w cB cC cI cJ cZ oA rA σ_12, b_s cB cC cI cJ cZ oA rA σ_12, b_c cB cC cI cJ cZ oA rA σ_12, b_t cB cC cI cJ cZ oA rA σ_12, b_d cB cC cI cJ cZ oA rA σ_12]) (bs' := [b_w cB cC cI cJ cZ oA rA σ_12]) (is := [1]) fl_6 fl_1 rfl) (bx_C (bs := [b_m cB cC cI cJ cZ oA rA σ_12, b_w cB cC cI cJ cZ oA rA σ_12, b_s cB cC cI cJ cZ oA rA σ_12, b_c cB cC cI cJ cZ oA rA σ_12, b_t cB cC cI cJ cZ oA rA σ_12, b_d cB cC cI cJ cZ oA rA σ_12]) (bs' := [b_m cB cC cI cJ cZ oA rA σ_12, b_s cB cC cI cJ cZ oA rA σ_12, b_c cB cC cI cJ cZ oA rA σ_12, b_t cB cC cI cJ cZ oA rA σ_12, b_d cB cC cI cJ cZ oA rA σ_12]) (is := [0, 2, 3, 4, 5]) fl_6 fl_5 rfl) (bx_n (by decide +kernel)) (bx_d (by decide +kernel)) (va_runV (As := [.int s_1.1]) (rest := [.int ((σ_12 3).1 14), .ref (oA 3)]) ⟨hx, hb, hml, hown, hts⟩ (k_X10_kindOf l dC dI cB cC cI cJ cZ cP oA rA H.size  s_1.1 σ_12 _ hu_16) (cwV 1 hts (g_gV wq_714 wq_543 wq_544 wq_2 wq_545) rfl rfl rfl (by decide +kernel) ⟨Nat.le_of_ble_eq_true rfl, Nat.le_of_ble_eq_true rfl⟩) (g_preV g_bl0 hK hPc hDc hS hE hFc g_to0 (q0 := 0) (ci := 10) rfl rfl) rfl rfl hl.1 rfl (lv_room (Nat.le_of_ble_eq_true rfl)) dX4_countOwned_48 ⟨Nat.le_of_ble_eq_true rfl, Nat.le_of_ble_eq_true rfl⟩) (fun r9 u9 H locs hw9 hP' hD' hS => ?_)
      clear hPc hDc hFc
      subst hw9
      obtain ⟨σ_18, eσ_18, hF_19⟩ := bnd_e hF_17
      clear hF_17
      have hP : va_P (dC, dI) vwCl (b_m cB cC cI cJ cZ oA rA σ_18 ++ b_w cB cC cI cJ cZ oA rA σ_18 ++ b_s cB cC cI cJ cZ oA rA σ_18 ++ b_c cB cC cI cJ cZ oA rA σ_18 ++ b_t cB cC cI cJ cZ oA rA σ_18 ++ b_d cB cC cI cJ cZ oA rA σ_18) H := by rw [eσ_18]; exact bx_P (bs := [b_m cB cC cI cJ cZ oA rA σ_12, b_s cB cC cI cJ cZ oA rA σ_12, b_c cB cC cI cJ cZ oA rA σ_12, b_t cB cC cI cJ cZ oA rA σ_12, b_d cB cC cI cJ cZ oA rA σ_12] ++ [b_w cB cC cI cJ cZ oA rA u_16.2]) (bs' := [b_m cB cC cI cJ cZ oA rA (mrg (fun j => j == 1) σ_12 u_16.2), b_w cB cC cI cJ cZ oA rA (mrg (fun j => j == 1) σ_12 u_16.2), b_s cB cC cI cJ cZ oA rA (mrg (fun j => j == 1) σ_12 u_16.2), b_c cB cC cI cJ cZ oA rA (mrg (fun j => j == 1) σ_12 u_16.2), b_t cB cC cI cJ cZ oA rA (mrg (fun j => j == 1) σ_12 u_16.2), b_d cB cC cI cJ cZ oA rA (mrg (fun j => j == 1) σ_12 u_16.2)]) hP' (fl_a fl_5 fl_1) fl_6 [0, 5, 1, 2, 3, 4] rfl
      clear hP' hD'
      refine lv_iconst (v := 2) hx hb dX4_countOwned_51 (by decide +kernel) ?_
      obtain ⟨j_22, ej_22, hF_23⟩ := bnd_e hF_19
      clear hF_19
      have Jj_22 : ∀ (t_20 : Int32) (σ_21 : HS), j_22 t_20 σ_21 = some res → ∀ (H : Heap) (locs : List Loc), va_P (dC, dI) vwCl (b_m cB cC cI cJ cZ oA rA σ_21 ++ b_w cB cC cI cJ cZ oA rA σ_21 ++ b_s cB cC cI cJ cZ oA rA σ_21 ++ b_c cB cC cI cJ cZ oA rA σ_21 ++ b_t cB cC cI cJ cZ oA rA σ_21 ++ b_d cB cC cI cJ cZ oA rA σ_21) H → va_S A s.heap H locs → ∀ ls : Array Slot, lv_has ls 3 [(0, .ref (oA 3)), (2, .int s_1.1)] → W p l e (headSpec (g_ws yX4_countOwned cX4_countOwned 3 (some .int)) { frames := 5, cells := 0, slots := 0, locals := 124 }).room s m ([.ref (oA 3), .int p0] : List Value).toArray below meth c H locs 0 0 (MQ below (va_Qi (fun r (_ : Unit) => r = res.1) (g_Bo (dC, dI) A (fun (_ : Unit) => (b_m cB cC cI cJ cZ oA rA res.2 ++ b_w cB cC cI cJ cZ oA rA res.2 ++ b_s cB cC cI cJ cZ oA rA res.2 ++ b_c cB cC cI cJ cZ oA rA res.2 ++ b_t cB cC cI cJ cZ oA rA res.2 ++ b_d cB cC cI cJ cZ oA rA res.2))) A) ([.ref (oA 3), .int p0] : List Value).toArray s 0 0 A) (F0 m 60 ls [.int t_20, .int ((σ_12 3).1 14), .ref (oA 3)]) := by
        intro t_20 σ_21 hF0 H locs hP hS ls hl
        subst ej_22
        have hF_24 := hF0
        clear hF0
        refine lv_iadd hx hb dX4_countOwned_60 ?_
        obtain ⟨σ_25, eσ_25, hF_26⟩ := bnd_e hF_24
        clear hF_24
        refine va_put (D := (dC, dI)) (ci := 4) (v := .int (((σ_12 3).1 14) + t_20)) (ty := .int) (C := RX4) (T := TX4) (N := 18) hx hb hts ii_X4 tyX4 tyX4_ok nmX4 hown hK hP (hDD _) hS 0 rfl rfl 14 (by decide) (hts (.fieldLink RX4 142 "StoryHouse$Meanings" "owned" "I") wq_100) (fun _ h9 => h9) rfl (by decide +kernel) rfl rfl (Nat.le_of_ble_eq_true rfl) dX4_countOwned_61 (fun H locs hP' _ hS => ?_)
        have hP : va_P (dC, dI) vwCl (b_m cB cC cI cJ cZ oA rA σ_25 ++ b_w cB cC cI cJ cZ oA rA σ_25 ++ b_s cB cC cI cJ cZ oA rA σ_25 ++ b_c cB cC cI cJ cZ oA rA σ_25 ++ b_t cB cC cI cJ cZ oA rA σ_25 ++ b_d cB cC cI cJ cZ oA rA σ_25) H := by rw [eσ_25]; exact cs_mwsctd_m_14 ▸ hP'
        clear hP'
        refine lv_aload_n hx hb dX4_countOwned_64 rfl (lv_at hl 0 rfl) ?_
        refine va_get (D := (dC, dI)) (ci := 4) (v := .int ((σ_25 3).1 14)) (C := RX4) (T := TX4) (N := 18) hx hb hts ii_X4 hown hK hP 0 rfl rfl 14 (by decide) (hts (.fieldLink RX4 142 "StoryHouse$Meanings" "owned" "I") wq_100) (fun _ h9 => h9) rfl dX4_countOwned_65 ?_
        refine lv_bipush (v := 10) hx hb dX4_countOwned_68 (by decide +kernel) ?_
        refine lv_icmp_le (tgt := 81) hx hb dX4_countOwned_70 (by decide) (fun c_27 => ?_) (fun c_27 => ?_)
        · have hF_28 := ipos c_27 hF_26
          clear hF_26
          obtain ⟨x_29, ex_29, hF_30⟩ := bnd_e hF_28
          clear hF_28
          refine lv_iinc (v := x_29) (lv' := [(2, .int x_29), (0, .ref (oA 3))]) hx hb dX4_countOwned_81 hl (k := 1) rfl (by rw [ex_29]; rfl) (by decide) rfl (fun ls hl => ?_)
          refine lv_goto (tgt := 2) hx hb dX4_countOwned_84 (by decide) ?_
          exact ih_3 (x_29, σ_25) hF_30 _ _ hP hS ls (lv_sub hl [1, 0] rfl)
        · have hF_31 := ineg c_27 hF_26
          clear hF_26
          refine lv_aload_n hx hb dX4_countOwned_73 rfl (lv_at hl 0 rfl) ?_
          refine lv_iconst (v := 5) hx hb dX4_countOwned_74 (by decide +kernel) ?_
          refine lv_iload_n hx hb dX4_countOwned_75 rfl (lv_at hl 1 rfl) ?_
          obtain ⟨u_32, hu_32, hF_33⟩ := Option.bind_eq_some_iff.mp hF_31
          clear hF_31
          have hPc := bx_P (bs := [b_m cB cC cI cJ cZ oA rA σ_25, b_w cB cC cI cJ cZ oA rA σ_25, b_s cB cC cI cJ cZ oA rA σ_25, b_c cB cC cI cJ cZ oA rA σ_25, b_t cB cC cI cJ cZ oA rA σ_25, b_d cB cC cI cJ cZ oA rA σ_25]) (bs' := [b_m cB cC cI cJ cZ oA rA σ_25, b_w cB cC cI cJ cZ oA rA σ_25, b_s cB cC cI cJ cZ oA rA σ_25, b_c cB cC cI cJ cZ oA rA σ_25, b_t cB cC cI cJ cZ oA rA σ_25, b_d cB cC cI cJ cZ oA rA σ_25]) (ws' := (b_m cB cC cI cJ cZ oA rA σ_25 ++ b_w cB cC cI cJ cZ oA rA σ_25 ++ b_s cB cC cI cJ cZ oA rA σ_25 ++ b_c cB cC cI cJ cZ oA rA σ_25 ++ b_t cB cC cI cJ cZ oA rA σ_25 ++ b_d cB cC cI cJ cZ oA rA σ_25)) hP fl_6 fl_6 [0, 1, 2, 3, 4, 5] rfl
          have hDc := bx_D (bs := [b_m cB cC cI cJ cZ oA rA σ_25, b_w cB cC cI cJ cZ oA rA σ_25, b_s cB cC cI cJ cZ oA rA σ_25, b_c cB cC cI cJ cZ oA rA σ_25, b_t cB cC cI cJ cZ oA rA σ_25, b_d cB cC cI cJ cZ oA rA σ_25]) (bs' := [b_m cB cC cI cJ cZ oA rA σ_25, b_w cB cC cI cJ cZ oA rA σ_25, b_s cB cC cI cJ cZ oA rA σ_25, b_c cB cC cI cJ cZ oA rA σ_25, b_t cB cC cI cJ cZ oA rA σ_25, b_d cB cC cI cJ cZ oA rA σ_25]) (ws' := (b_m cB cC cI cJ cZ oA rA σ_25 ++ b_w cB cC cI cJ cZ oA rA σ_25 ++ b_s cB cC cI cJ cZ oA rA σ_25 ++ b_c cB cC cI cJ cZ oA rA σ_25 ++ b_t cB cC cI cJ cZ oA rA σ_25 ++ b_d cB cC cI cJ cZ oA rA σ_25)) (hDD σ_25) fl_6 fl_6 [0, 1, 2, 3, 4, 5] (by decide +kernel) rfl
          have hFc := bx_F (bs := [b_m cB cC cI cJ cZ oA rA σ_25, b_w cB cC cI cJ cZ oA rA σ_25, b_s cB cC cI cJ cZ oA rA σ_25, b_c cB cC cI cJ cZ oA rA σ_25, b_t cB cC cI cJ cZ oA rA σ_25, b_d cB cC cI cJ cZ oA rA σ_25]) (bs' := [b_m cB cC cI cJ cZ oA rA σ_25, b_w cB cC cI cJ cZ oA rA σ_25, b_s cB cC cI cJ cZ oA rA σ_25, b_c cB cC cI cJ cZ oA rA σ_25, b_t cB cC cI cJ cZ oA rA σ_25, b_d cB cC cI cJ cZ oA rA σ_25]) (wc := (b_m cB cC cI cJ cZ oA rA σ_25 ++ b_w cB cC cI cJ cZ oA rA σ_25 ++ b_s cB cC cI cJ cZ oA rA σ_25 ++ b_c cB cC cI cJ cZ oA rA σ_25 ++ b_t cB cC cI cJ cZ oA rA σ_25 ++ b_d cB cC cI cJ cZ oA rA σ_25)) (hDD σ_25) hS hA fl_6 fl_6 [0, 1, 2, 3, 4, 5] rfl
          refine g_ofv (wc := (b_m cB cC cI cJ cZ oA rA σ_25 ++ b_w cB cC cI cJ cZ oA rA σ_25 ++ b_s cB cC cI cJ cZ oA rA σ_25 ++ b_c cB cC cI cJ cZ oA rA σ_25 ++ b_t cB cC cI cJ cZ oA rA σ_25 ++ b_d cB cC cI cJ cZ oA rA σ_25)) (wr := ([] : va_W)) hP (hDD σ_25) hS hFc (bx_ix [b_m cB cC cI cJ cZ oA rA σ_25, b_w cB cC cI cJ cZ oA rA σ_25, b_s cB cC cI cJ cZ oA rA σ_25, b_c cB cC cI cJ cZ oA rA σ_25, b_t cB cC cI cJ cZ oA rA σ_25, b_d cB cC cI cJ cZ oA rA σ_25] [0, 1, 2, 3, 4, 5]) (bx_ix [b_m cB cC cI cJ cZ oA rA σ_25, b_w cB cC cI cJ cZ oA rA σ_25, b_s cB cC cI cJ cZ oA rA σ_25, b_c cB cC cI cJ cZ oA rA σ_25, b_t cB cC cI cJ cZ oA rA σ_25, b_d cB cC cI cJ cZ oA rA σ_25] []) (bx_C (bs := [b_m cB cC cI cJ cZ oA rA σ_25, b_w cB cC cI cJ cZ oA rA σ_25, b_s cB cC cI cJ cZ oA rA σ_25, b_c cB cC cI cJ cZ oA rA σ_25, b_t cB cC cI cJ cZ oA rA σ_25, b_d cB cC cI cJ cZ oA rA σ_25]) (bs' := [b_m cB cC cI cJ cZ oA rA σ_25, b_w cB cC cI cJ cZ oA rA σ_25, b_s cB cC cI cJ cZ oA rA σ_25, b_c cB cC cI cJ cZ oA rA σ_25, b_t cB cC cI cJ cZ oA rA σ_25, b_d cB cC cI cJ cZ oA rA σ_25]) (is := [0, 1, 2, 3, 4, 5]) fl_6 fl_6 rfl) (bx_C (bs := [b_m cB cC cI cJ cZ oA rA σ_25, b_w cB cC cI cJ cZ oA rA σ_25, b_s cB cC cI cJ cZ oA rA σ_25, b_c cB cC cI cJ cZ oA rA σ_25, b_t cB cC cI cJ cZ oA rA σ_25, b_d cB cC cI cJ cZ oA rA σ_25]) (bs' := []) (is := []) fl_6 fl_0 rfl) (bx_n (by decide +kernel)) (bx_d (by decide +kernel)) (va_runV (As := [.int 5, .int s_1.1]) (rest := []) ⟨hx, hb, hml, hown, hts⟩ (k_X4_fail l dC dI cB cC cI cJ cZ cP oA rA H.size  5 s_1.1 σ_25 _ hu_32) (cwV 2 hts (g_gV wq_725 wq_726 wq_2037 wq_4 wq_727) rfl rfl rfl (by decide +kernel) ⟨Nat.le_of_ble_eq_true rfl, Nat.le_of_ble_eq_true rfl⟩) (g_preV g_bl0 hK hPc hDc hS hE hFc g_to0 (q0 := 0) (ci := 4) rfl rfl) rfl rfl hl.1 rfl (lv_room (Nat.le_of_ble_eq_true rfl)) dX4_countOwned_76 ⟨Nat.le_of_ble_eq_true rfl, Nat.le_of_ble_eq_true rfl⟩) (fun u9 H locs hw9 hP' hD' hS => ?_)
          clear hPc hDc hFc
          have hP : va_P (dC, dI) vwCl (b_m cB cC cI cJ cZ oA rA u_32.2 ++ b_w cB cC cI cJ cZ oA rA u_32.2 ++ b_s cB cC cI cJ cZ oA rA u_32.2 ++ b_c cB cC cI cJ cZ oA rA u_32.2 ++ b_t cB cC cI cJ cZ oA rA u_32.2 ++ b_d cB cC cI cJ cZ oA rA u_32.2) H := hP'
          clear hP' hD'
          refine lv_iload_n hx hb dX4_countOwned_79 rfl (lv_at hl 1 rfl) ?_
          have h9 := Option.some.inj hF_33
          subst h9
          exact W.iret (v := s_1.1) hx hb hr (fun t ht hW => ⟨⟨s_1.1, (), rfl, rfl, m_end ht hP, hDD _⟩, hS.F ht⟩) hS.2.2 dX4_countOwned_80
      refine lv_icmp_ne (tgt := 59) hx hb dX4_countOwned_52 (by decide) (fun c_34 => ?_) (fun c_34 => ?_)
      · have hF_36 := ineg c_34 hF_23
        clear hF_23
        refine lv_iconst (v := 0) hx hb dX4_countOwned_59 (by decide +kernel) ?_
        exact Jj_22 0 σ_18 hF_36 _ _ hP hS ls (lv_sub hl [0, 1] rfl)
      · have hF_35 := ipos c_34 hF_23
        clear hF_23
        refine lv_iconst (v := 1) hx hb dX4_countOwned_55 (by decide +kernel) ?_
        refine lv_goto (tgt := 60) hx hb dX4_countOwned_56 (by decide) ?_
        exact Jj_22 1 σ_18 hF_35 _ _ hP hS ls (lv_sub hl [0, 1] rfl)
    refine lv_icmp_eq (tgt := 38) hx hb dX4_countOwned_22 (by decide) (fun c_37 => ?_) (fun c_37 => ?_)
    · have hF_38 := ipos c_37 hF_14
      clear hF_14
      exact Jj_13  σ_10 hF_38 _ _ hP hS ls (lv_sub hl [0, 1] rfl)
    · have hF_39 := ineg c_37 hF_14
      clear hF_14
      refine lv_aload_n hx hb dX4_countOwned_25 rfl (lv_at hl 0 rfl) ?_
      refine va_get (D := (dC, dI)) (ci := 4) (v := .ref (oA 1)) (C := RX4) (T := TX4) (N := 18) hx hb hts ii_X4 hown hK hP 0 rfl rfl 0 (by decide) (hts (.fieldLink RX4 32 "StoryHouse$Meanings" "words" "LStoryHouse$Words;") wq_86) (fun _ h9 => h9) rfl dX4_countOwned_26 ?_
      refine lv_iload_n hx hb dX4_countOwned_29 rfl (lv_at hl 1 rfl) ?_
      obtain ⟨u_40, hu_40, hF_41⟩ := Option.bind_eq_some_iff.mp hF_39
      clear hF_39
      have hPc := bx_P (bs := [b_m cB cC cI cJ cZ oA rA σ_10, b_w cB cC cI cJ cZ oA rA σ_10, b_s cB cC cI cJ cZ oA rA σ_10, b_c cB cC cI cJ cZ oA rA σ_10, b_t cB cC cI cJ cZ oA rA σ_10, b_d cB cC cI cJ cZ oA rA σ_10]) (bs' := [b_w cB cC cI cJ cZ oA rA σ_10]) (ws' := (b_w cB cC cI cJ cZ oA rA σ_10)) hP fl_6 fl_1 [1] rfl
      have hDc := bx_D (bs := [b_m cB cC cI cJ cZ oA rA σ_10, b_w cB cC cI cJ cZ oA rA σ_10, b_s cB cC cI cJ cZ oA rA σ_10, b_c cB cC cI cJ cZ oA rA σ_10, b_t cB cC cI cJ cZ oA rA σ_10, b_d cB cC cI cJ cZ oA rA σ_10]) (bs' := [b_w cB cC cI cJ cZ oA rA σ_10]) (ws' := (b_w cB cC cI cJ cZ oA rA σ_10)) (hDD σ_10) fl_6 fl_1 [1] (by decide +kernel) rfl
      have hFc := bx_F (bs := [b_m cB cC cI cJ cZ oA rA σ_10, b_w cB cC cI cJ cZ oA rA σ_10, b_s cB cC cI cJ cZ oA rA σ_10, b_c cB cC cI cJ cZ oA rA σ_10, b_t cB cC cI cJ cZ oA rA σ_10, b_d cB cC cI cJ cZ oA rA σ_10]) (bs' := [b_w cB cC cI cJ cZ oA rA σ_10]) (wc := (b_w cB cC cI cJ cZ oA rA σ_10)) (hDD σ_10) hS hA fl_6 fl_1 [1] rfl
      refine g_ofi (wc := (b_w cB cC cI cJ cZ oA rA σ_10)) (wr := (b_m cB cC cI cJ cZ oA rA σ_10 ++ b_s cB cC cI cJ cZ oA rA σ_10 ++ b_c cB cC cI cJ cZ oA rA σ_10 ++ b_t cB cC cI cJ cZ oA rA σ_10 ++ b_d cB cC cI cJ cZ oA rA σ_10)) hP (hDD σ_10) hS hFc (bx_ix [b_m cB cC cI cJ cZ oA rA σ_10, b_w cB cC cI cJ cZ oA rA σ_10, b_s cB cC cI cJ cZ oA rA σ_10, b_c cB cC cI cJ cZ oA rA σ_10, b_t cB cC cI cJ cZ oA rA σ_10, b_d cB cC cI cJ cZ oA rA σ_10] [1]) (bx_ix [b_m cB cC cI cJ cZ oA rA σ_10, b_w cB cC cI cJ cZ oA rA σ_10, b_s cB cC cI cJ cZ oA rA σ_10, b_c cB cC cI cJ cZ oA rA σ_10, b_t cB cC cI cJ cZ oA rA σ_10, b_d cB cC cI cJ cZ oA rA σ_10] [0, 2, 3, 4, 5]) (bx_C (bs := [b_m cB cC cI cJ cZ oA rA σ_10, b_w cB cC cI cJ cZ oA rA σ_10, b_s cB cC cI cJ cZ oA rA σ_10, b_c cB cC cI cJ cZ oA rA σ_10, b_t cB cC cI cJ cZ oA rA σ_10, b_d cB cC cI cJ cZ oA rA σ_10]) (bs' := [b_w cB cC cI cJ cZ oA rA σ_10]) (is := [1]) fl_6 fl_1 rfl) (bx_C (bs := [b_m cB cC cI cJ cZ oA rA σ_10, b_w cB cC cI cJ cZ oA rA σ_10, b_s cB cC cI cJ cZ oA rA σ_10, b_c cB cC cI cJ cZ oA rA σ_10, b_t cB cC cI cJ cZ oA rA σ_10, b_d cB cC cI cJ cZ oA rA σ_10]) (bs' := [b_m cB cC cI cJ cZ oA rA σ_10, b_s cB cC cI cJ cZ oA rA σ_10, b_c cB cC cI cJ cZ oA rA σ_10, b_t cB cC cI cJ cZ oA rA σ_10, b_d cB cC cI cJ cZ oA rA σ_10]) (is := [0, 2, 3, 4, 5]) fl_6 fl_5 rfl) (bx_n (by decide +kernel)) (bx_d (by decide +kernel)) (va_runV (As := [.int s_1.1]) (rest := []) ⟨hx, hb, hml, hown, hts⟩ (k_X10_kindOf l dC dI cB cC cI cJ cZ cP oA rA H.size  s_1.1 σ_10 _ hu_40) (cwV 1 hts (g_gV wq_714 wq_543 wq_544 wq_2 wq_545) rfl rfl rfl (by decide +kernel) ⟨Nat.le_of_ble_eq_true rfl, Nat.le_of_ble_eq_true rfl⟩) (g_preV g_bl0 hK hPc hDc hS hE hFc g_to0 (q0 := 0) (ci := 10) rfl rfl) rfl rfl hl.1 rfl (lv_room (Nat.le_of_ble_eq_true rfl)) dX4_countOwned_30 ⟨Nat.le_of_ble_eq_true rfl, Nat.le_of_ble_eq_true rfl⟩) (fun r9 u9 H locs hw9 hP' hD' hS => ?_)
      clear hPc hDc hFc
      subst hw9
      obtain ⟨σ_42, eσ_42, hF_43⟩ := bnd_e hF_41
      clear hF_41
      have hP : va_P (dC, dI) vwCl (b_m cB cC cI cJ cZ oA rA σ_42 ++ b_w cB cC cI cJ cZ oA rA σ_42 ++ b_s cB cC cI cJ cZ oA rA σ_42 ++ b_c cB cC cI cJ cZ oA rA σ_42 ++ b_t cB cC cI cJ cZ oA rA σ_42 ++ b_d cB cC cI cJ cZ oA rA σ_42) H := by rw [eσ_42]; exact bx_P (bs := [b_m cB cC cI cJ cZ oA rA σ_10, b_s cB cC cI cJ cZ oA rA σ_10, b_c cB cC cI cJ cZ oA rA σ_10, b_t cB cC cI cJ cZ oA rA σ_10, b_d cB cC cI cJ cZ oA rA σ_10] ++ [b_w cB cC cI cJ cZ oA rA u_40.2]) (bs' := [b_m cB cC cI cJ cZ oA rA (mrg (fun j => j == 1) σ_10 u_40.2), b_w cB cC cI cJ cZ oA rA (mrg (fun j => j == 1) σ_10 u_40.2), b_s cB cC cI cJ cZ oA rA (mrg (fun j => j == 1) σ_10 u_40.2), b_c cB cC cI cJ cZ oA rA (mrg (fun j => j == 1) σ_10 u_40.2), b_t cB cC cI cJ cZ oA rA (mrg (fun j => j == 1) σ_10 u_40.2), b_d cB cC cI cJ cZ oA rA (mrg (fun j => j == 1) σ_10 u_40.2)]) hP' (fl_a fl_5 fl_1) fl_6 [0, 5, 1, 2, 3, 4] rfl
      clear hP' hD'
      refine lv_bipush (v := 44) hx hb dX4_countOwned_33 (by decide +kernel) ?_
      refine lv_icmp_ne (tgt := 87) hx hb dX4_countOwned_35 (by decide) (fun c_44 => ?_) (fun c_44 => ?_)
      · have hF_46 := ineg c_44 hF_43
        clear hF_43
        refine lv_iload_n hx hb dX4_countOwned_87 rfl (lv_at hl 1 rfl) ?_
        have h9 := Option.some.inj hF_46
        subst h9
        exact W.iret (v := s_1.1) hx hb hr (fun t ht hW => ⟨⟨s_1.1, (), rfl, rfl, m_end ht hP, hDD _⟩, hS.F ht⟩) hS.2.2 dX4_countOwned_88
      · have hF_45 := ipos c_44 hF_43
        clear hF_43
        exact Jj_13  σ_42 hF_45 _ _ hP hS ls (lv_sub hl [0, 1] rfl)
theorem dX4_tellItem_0 : decode cX4_tellItem 0 = .ok (.aload_n 0, 1) := by decide +kernel
theorem dX4_tellItem_1 : decode cX4_tellItem 1 = .ok (.getfield 32, 3) := by decide +kernel
theorem dX4_tellItem_4 : decode cX4_tellItem 4 = .ok (.iload_n 1, 1) := by decide +kernel
theorem dX4_tellItem_5 : decode cX4_tellItem 5 = .ok (.invokevirtual 119, 3) := by decide +kernel
theorem dX4_tellItem_8 : decode cX4_tellItem 8 = .ok (.istore 5, 2) := by decide +kernel
theorem dX4_tellItem_10 : decode cX4_tellItem 10 = .ok (.aload_n 0, 1) := by decide +kernel
theorem dX4_tellItem_11 : decode cX4_tellItem 11 = .ok (.getfield 11, 3) := by decide +kernel
theorem dX4_tellItem_14 : decode cX4_tellItem 14 = .ok (.iload 5, 2) := by decide +kernel
theorem dX4_tellItem_16 : decode cX4_tellItem 16 = .ok (.invokestatic 122, 3) := by decide +kernel
theorem dX4_tellItem_19 : decode cX4_tellItem 19 = .ok (.iload_n 1, 1) := by decide +kernel
theorem dX4_tellItem_20 : decode cX4_tellItem 20 = .ok (.if_icmp .ge 12, 3) := by decide +kernel
theorem dX4_tellItem_23 : decode cX4_tellItem 23 = .ok (.aload_n 0, 1) := by decide +kernel
theorem dX4_tellItem_24 : decode cX4_tellItem 24 = .ok (.iconst 4, 1) := by decide +kernel
theorem dX4_tellItem_25 : decode cX4_tellItem 25 = .ok (.iload_n 1, 1) := by decide +kernel
theorem dX4_tellItem_26 : decode cX4_tellItem 26 = .ok (.invokevirtual 84, 3) := by decide +kernel
theorem dX4_tellItem_29 : decode cX4_tellItem 29 = .ok (.goto 93, 3) := by decide +kernel
theorem dX4_tellItem_32 : decode cX4_tellItem 32 = .ok (.aload_n 0, 1) := by decide +kernel
theorem dX4_tellItem_33 : decode cX4_tellItem 33 = .ok (.getfield 36, 3) := by decide +kernel
theorem dX4_tellItem_36 : decode cX4_tellItem 36 = .ok (.getfield 165, 3) := by decide +kernel
theorem dX4_tellItem_39 : decode cX4_tellItem 39 = .ok (.iload_n 3, 1) := by decide +kernel
theorem dX4_tellItem_40 : decode cX4_tellItem 40 = .ok (.invokestatic 122, 3) := by decide +kernel
theorem dX4_tellItem_43 : decode cX4_tellItem 43 = .ok (.iload 4, 2) := by decide +kernel
theorem dX4_tellItem_45 : decode cX4_tellItem 45 = .ok (.if_icmp .lt 12, 3) := by decide +kernel
theorem dX4_tellItem_48 : decode cX4_tellItem 48 = .ok (.aload_n 0, 1) := by decide +kernel
theorem dX4_tellItem_49 : decode cX4_tellItem 49 = .ok (.iconst 5, 1) := by decide +kernel
theorem dX4_tellItem_50 : decode cX4_tellItem 50 = .ok (.iload_n 1, 1) := by decide +kernel
theorem dX4_tellItem_51 : decode cX4_tellItem 51 = .ok (.invokevirtual 84, 3) := by decide +kernel
theorem dX4_tellItem_54 : decode cX4_tellItem 54 = .ok (.goto 68, 3) := by decide +kernel
theorem dX4_tellItem_57 : decode cX4_tellItem 57 = .ok (.aload_n 0, 1) := by decide +kernel
theorem dX4_tellItem_58 : decode cX4_tellItem 58 = .ok (.getfield 36, 3) := by decide +kernel
theorem dX4_tellItem_61 : decode cX4_tellItem 61 = .ok (.getfield 165, 3) := by decide +kernel
theorem dX4_tellItem_64 : decode cX4_tellItem 64 = .ok (.iload_n 3, 1) := by decide +kernel
theorem dX4_tellItem_65 : decode cX4_tellItem 65 = .ok (.aload_n 0, 1) := by decide +kernel
theorem dX4_tellItem_66 : decode cX4_tellItem 66 = .ok (.getfield 36, 3) := by decide +kernel
theorem dX4_tellItem_69 : decode cX4_tellItem 69 = .ok (.getfield 165, 3) := by decide +kernel
theorem dX4_tellItem_72 : decode cX4_tellItem 72 = .ok (.iload_n 3, 1) := by decide +kernel
theorem dX4_tellItem_73 : decode cX4_tellItem 73 = .ok (.invokestatic 122, 3) := by decide +kernel
theorem dX4_tellItem_76 : decode cX4_tellItem 76 = .ok (.iconst 1, 1) := by decide +kernel
theorem dX4_tellItem_77 : decode cX4_tellItem 77 = .ok (.iadd, 1) := by decide +kernel
theorem dX4_tellItem_78 : decode cX4_tellItem 78 = .ok (.invokestatic 112, 3) := by decide +kernel
theorem dX4_tellItem_81 : decode cX4_tellItem 81 = .ok (.aload_n 0, 1) := by decide +kernel
theorem dX4_tellItem_82 : decode cX4_tellItem 82 = .ok (.getfield 17, 3) := by decide +kernel
theorem dX4_tellItem_85 : decode cX4_tellItem 85 = .ok (.iload 5, 2) := by decide +kernel
theorem dX4_tellItem_87 : decode cX4_tellItem 87 = .ok (.iload_n 2, 1) := by decide +kernel
theorem dX4_tellItem_88 : decode cX4_tellItem 88 = .ok (.invokestatic 112, 3) := by decide +kernel
theorem dX4_tellItem_91 : decode cX4_tellItem 91 = .ok (.aload_n 0, 1) := by decide +kernel
theorem dX4_tellItem_92 : decode cX4_tellItem 92 = .ok (.getfield 20, 3) := by decide +kernel
theorem dX4_tellItem_95 : decode cX4_tellItem 95 = .ok (.iload 5, 2) := by decide +kernel
theorem dX4_tellItem_97 : decode cX4_tellItem 97 = .ok (.aload_n 0, 1) := by decide +kernel
theorem dX4_tellItem_98 : decode cX4_tellItem 98 = .ok (.getfield 36, 3) := by decide +kernel
theorem dX4_tellItem_101 : decode cX4_tellItem 101 = .ok (.getfield 165, 3) := by decide +kernel
theorem dX4_tellItem_104 : decode cX4_tellItem 104 = .ok (.iload_n 3, 1) := by decide +kernel
theorem dX4_tellItem_105 : decode cX4_tellItem 105 = .ok (.invokestatic 122, 3) := by decide +kernel
theorem dX4_tellItem_108 : decode cX4_tellItem 108 = .ok (.iload_n 2, 1) := by decide +kernel
theorem dX4_tellItem_109 : decode cX4_tellItem 109 = .ok (.iconst 3, 1) := by decide +kernel
theorem dX4_tellItem_110 : decode cX4_tellItem 110 = .ok (.if_icmp .gt 7, 3) := by decide +kernel
theorem dX4_tellItem_113 : decode cX4_tellItem 113 = .ok (.iconst 0, 1) := by decide +kernel
theorem dX4_tellItem_114 : decode cX4_tellItem 114 = .ok (.goto 4, 3) := by decide +kernel
theorem dX4_tellItem_117 : decode cX4_tellItem 117 = .ok (.iconst 1, 1) := by decide +kernel
theorem dX4_tellItem_118 : decode cX4_tellItem 118 = .ok (.isub, 1) := by decide +kernel
theorem dX4_tellItem_119 : decode cX4_tellItem 119 = .ok (.invokestatic 112, 3) := by decide +kernel
theorem dX4_tellItem_122 : decode cX4_tellItem 122 = .ok (.return_, 1) := by decide +kernel
def F_X4_tellItem (p0 : Int32) (p1 : Int32) (p2 : Int32) (p3 : Int32) (Γ : HS) : HR :=
  (F_X10_worthOf p0 Γ).bind fun u_1 =>
  bnd (mrg (fun j => j == 1) Γ u_1.2) fun σ_3 =>
  bnd ((g_at 4500 ((σ_3 3).2.1 2) u_1.1)) fun (x_5 : Int32) =>
  if p0 ≤ x_5 then (
    bnd ((g_at 7 ((σ_3 4).2.1 0) p2)) fun (x_9 : Int32) =>
    if x_9 < p3 then (
      bnd ((g_at 7 ((σ_3 4).2.1 0) p2)) fun (x_13 : Int32) =>
      bnd ((x_13 + 1)) fun (x_15 : Int32) =>
      bnd (cA' σ_3 4 0 (g_put 7 ((σ_3 4).2.1 0) p2 x_15)) fun σ_17 =>
      bnd (cA' σ_17 3 3 (g_put 4500 ((σ_17 3).2.1 3) u_1.1 p1)) fun σ_19 =>
      bnd ((g_at 7 ((σ_19 4).2.1 0) p2)) fun (x_21 : Int32) =>
      bnd (fun (t_23 : Int32) (σ_24 : HS) => (
        bnd ((x_21 - t_23)) fun (x_28 : Int32) =>
        bnd (cA' σ_24 3 4 (g_put 4500 ((σ_24 3).2.1 4) u_1.1 x_28)) fun σ_30 =>
        some (0, σ_30)
      ) : Int32 → HS → HR) fun j_25 =>
      if 3 < p1 then (
        j_25 1 σ_19
      ) else (
        j_25 0 σ_19
      )
    ) else (
      (F_X4_fail 5 p0 σ_3).bind fun u_36 =>
      some (0, u_36.2)
    )
  ) else (
    (F_X4_fail 4 p0 σ_3).bind fun u_39 =>
    some (0, u_39.2)
  )
set_option maxHeartbeats 4000000 in
set_option maxRecDepth 100000 in
theorem k_X4_tellItem (l : Launch) (dC : Nat → ClassId) (dI : Nat → Nat → Nat) (cB cC cI cJ cZ cP : ClassId) (oA : Nat → Nat) (rA : Nat → Nat → Nat) (sz : Nat)  (p0 : Int32) (p1 : Int32) (p2 : Int32) (p3 : Int32) (Γ : HS) (res : Int32 × HS) (hF : F_X4_tellItem p0 p1 p2 p3 Γ = some res) : Met l yX4_tellItem (g_ws yX4_tellItem cX4_tellItem 6 none) ({ frames := 5, cells := 0, slots := 0, locals := 124 }) (va_Pc [.ref (oA 3), .int p0, .int p1, .int p2, .int p3] (g_B (dC, dI) [(cB, .byte), (cC, .char), (cI, .int), (cJ, .long), (cZ, .boolean), (cP, .object "StoryHouse$Play")] sz (b_m cB cC cI cJ cZ oA rA Γ ++ b_w cB cC cI cJ cZ oA rA Γ ++ b_s cB cC cI cJ cZ oA rA Γ ++ b_c cB cC cI cJ cZ oA rA Γ ++ b_t cB cC cI cJ cZ oA rA Γ ++ b_d cB cC cI cJ cZ oA rA Γ) g_0)) (va_Qv (fun (_ : Unit) => True) (g_Bo (dC, dI) (va_A (b_m cB cC cI cJ cZ oA rA Γ ++ b_w cB cC cI cJ cZ oA rA Γ ++ b_s cB cC cI cJ cZ oA rA Γ ++ b_c cB cC cI cJ cZ oA rA Γ ++ b_t cB cC cI cJ cZ oA rA Γ ++ b_d cB cC cI cJ cZ oA rA Γ) sz) (fun (_ : Unit) => (b_m cB cC cI cJ cZ oA rA res.2 ++ b_w cB cC cI cJ cZ oA rA res.2 ++ b_s cB cC cI cJ cZ oA rA res.2 ++ b_c cB cC cI cJ cZ oA rA res.2 ++ b_t cB cC cI cJ cZ oA rA res.2 ++ b_d cB cC cI cJ cZ oA rA res.2))) (va_A (b_m cB cC cI cJ cZ oA rA Γ ++ b_w cB cC cI cJ cZ oA rA Γ ++ b_s cB cC cI cJ cZ oA rA Γ ++ b_c cB cC cI cJ cZ oA rA Γ ++ b_t cB cC cI cJ cZ oA rA Γ ++ b_d cB cC cI cJ cZ oA rA Γ) sz)) 0 0 (va_A (b_m cB cC cI cJ cZ oA rA Γ ++ b_w cB cC cI cJ cZ oA rA Γ ++ b_s cB cC cI cJ cZ oA rA Γ ++ b_c cB cC cI cJ cZ oA rA Γ ++ b_t cB cC cI cJ cZ oA rA Γ ++ b_d cB cC cI cJ cZ oA rA Γ) sz) := by
  refine Met.ofW (cc := cX4_tellItem) (maxL := 6) (ret := none) (by decide) rfl ?_
  intro p e s m args below meth c s₁ B hml hv
  obtain ⟨rfl, hsz, hP, hK, hD0, hE, hX⟩ := hv
  have hx := B.exec
  have hb := B.bytes
  have hr := B.returns
  have hts0 := atoms_spec (ws := g_ws yX4_tellItem cX4_tellItem 6 none) B.pre
  have hts : ∀ w ∈ lw_good, w.before ([.ref (oA 3), .int p0, .int p1, .int p2, .int p3] : List Value).toArray s = true := fun w z => hts0 w (List.mem_cons_of_mem _ z)
  have hown : s.vm.findClass RX4 = some m.cls := findClass_of_methodNamed B.named
  have hlocks := B.notSynchronized
  subst hsz
  have hD1 := hD0.self (sz := s.heap.size)
  generalize hAe : va_A (b_m cB cC cI cJ cZ oA rA Γ ++ b_w cB cC cI cJ cZ oA rA Γ ++ b_s cB cC cI cJ cZ oA rA Γ ++ b_c cB cC cI cJ cZ oA rA Γ ++ b_t cB cC cI cJ cZ oA rA Γ ++ b_d cB cC cI cJ cZ oA rA Γ) s.heap.size = A at hD1 hE hX ⊢
  have hA : ∀ q : Nat, s.heap.size ≤ q → A q := fun q z => by rw [← hAe]; exact Or.inr z
  have hDD : ∀ Γ : HS, va_D A (b_m cB cC cI cJ cZ oA rA Γ ++ b_w cB cC cI cJ cZ oA rA Γ ++ b_s cB cC cI cJ cZ oA rA Γ ++ b_c cB cC cI cJ cZ oA rA Γ ++ b_t cB cC cI cJ cZ oA rA Γ ++ b_d cB cC cI cJ cZ oA rA Γ) := fun Γ9 => va_D_fst (ws := (b_m cB cC cI cJ cZ oA rA Γ ++ b_w cB cC cI cJ cZ oA rA Γ ++ b_s cB cC cI cJ cZ oA rA Γ ++ b_c cB cC cI cJ cZ oA rA Γ ++ b_t cB cC cI cJ cZ oA rA Γ ++ b_d cB cC cI cJ cZ oA rA Γ)) (ws' := (b_m cB cC cI cJ cZ oA rA Γ9 ++ b_w cB cC cI cJ cZ oA rA Γ9 ++ b_s cB cC cI cJ cZ oA rA Γ9 ++ b_c cB cC cI cJ cZ oA rA Γ9 ++ b_t cB cC cI cJ cZ oA rA Γ9 ++ b_d cB cC cI cJ cZ oA rA Γ9)) rfl hD1
  have hN := hE.1
  have hS : va_S A s.heap s.heap [] := va_S.rf
  have hl := lv_entry ([.ref (oA 3), .int p0, .int p1, .int p2, .int p3]) (n := 6) (Nat.le_of_ble_eq_true rfl)
  rw [lg_entry_eq]
  generalize (lg_sl ([.ref (oA 3), .int p0, .int p1, .int p2, .int p3]) ++ List.replicate (6 - (lg_sl ([.ref (oA 3), .int p0, .int p1, .int p2, .int p3])).length) Slot.unset).toArray = ls at hl ⊢
  have hl : lv_has ls 6 [(0, .ref (oA 3)), (1, .int p0), (2, .int p1), (3, .int p2), (4, .int p3)] := hl
  unfold F_X4_tellItem at hF
  refine lv_aload_n hx hb dX4_tellItem_0 rfl (lv_at hl 0 rfl) ?_
  refine va_get (D := (dC, dI)) (ci := 4) (v := .ref (oA 1)) (C := RX4) (T := TX4) (N := 18) hx hb hts ii_X4 hown hK hP 0 rfl rfl 0 (by decide) (hts (.fieldLink RX4 32 "StoryHouse$Meanings" "words" "LStoryHouse$Words;") wq_86) (fun _ h9 => h9) rfl dX4_tellItem_1 ?_
  refine lv_iload_n hx hb dX4_tellItem_4 rfl (lv_at hl 1 rfl) ?_
  obtain ⟨u_1, hu_1, hF_2⟩ := Option.bind_eq_some_iff.mp hF
  clear hF
  have hPc := bx_P (bs := [b_m cB cC cI cJ cZ oA rA Γ, b_w cB cC cI cJ cZ oA rA Γ, b_s cB cC cI cJ cZ oA rA Γ, b_c cB cC cI cJ cZ oA rA Γ, b_t cB cC cI cJ cZ oA rA Γ, b_d cB cC cI cJ cZ oA rA Γ]) (bs' := [b_w cB cC cI cJ cZ oA rA Γ]) (ws' := (b_w cB cC cI cJ cZ oA rA Γ)) hP fl_6 fl_1 [1] rfl
  have hDc := bx_D (bs := [b_m cB cC cI cJ cZ oA rA Γ, b_w cB cC cI cJ cZ oA rA Γ, b_s cB cC cI cJ cZ oA rA Γ, b_c cB cC cI cJ cZ oA rA Γ, b_t cB cC cI cJ cZ oA rA Γ, b_d cB cC cI cJ cZ oA rA Γ]) (bs' := [b_w cB cC cI cJ cZ oA rA Γ]) (ws' := (b_w cB cC cI cJ cZ oA rA Γ)) (hDD Γ) fl_6 fl_1 [1] (by decide +kernel) rfl
  have hFc := bx_F (bs := [b_m cB cC cI cJ cZ oA rA Γ, b_w cB cC cI cJ cZ oA rA Γ, b_s cB cC cI cJ cZ oA rA Γ, b_c cB cC cI cJ cZ oA rA Γ, b_t cB cC cI cJ cZ oA rA Γ, b_d cB cC cI cJ cZ oA rA Γ]) (bs' := [b_w cB cC cI cJ cZ oA rA Γ]) (wc := (b_w cB cC cI cJ cZ oA rA Γ)) (hDD Γ) hS hA fl_6 fl_1 [1] rfl
  refine g_ofi (wc := (b_w cB cC cI cJ cZ oA rA Γ)) (wr := (b_m cB cC cI cJ cZ oA rA Γ ++ b_s cB cC cI cJ cZ oA rA Γ ++ b_c cB cC cI cJ cZ oA rA Γ ++ b_t cB cC cI cJ cZ oA rA Γ ++ b_d cB cC cI cJ cZ oA rA Γ)) hP (hDD Γ) hS hFc (bx_ix [b_m cB cC cI cJ cZ oA rA Γ, b_w cB cC cI cJ cZ oA rA Γ, b_s cB cC cI cJ cZ oA rA Γ, b_c cB cC cI cJ cZ oA rA Γ, b_t cB cC cI cJ cZ oA rA Γ, b_d cB cC cI cJ cZ oA rA Γ] [1]) (bx_ix [b_m cB cC cI cJ cZ oA rA Γ, b_w cB cC cI cJ cZ oA rA Γ, b_s cB cC cI cJ cZ oA rA Γ, b_c cB cC cI cJ cZ oA rA Γ, b_t cB cC cI cJ cZ oA rA Γ, b_d cB cC cI cJ cZ oA rA Γ] [0, 2, 3, 4, 5]) (bx_C (bs := [b_m cB cC cI cJ cZ oA rA Γ, b_w cB cC cI cJ cZ oA rA Γ, b_s cB cC cI cJ cZ oA rA Γ, b_c cB cC cI cJ cZ oA rA Γ, b_t cB cC cI cJ cZ oA rA Γ, b_d cB cC cI cJ cZ oA rA Γ]) (bs' := [b_w cB cC cI cJ cZ oA rA Γ]) (is := [1]) fl_6 fl_1 rfl) (bx_C (bs := [b_m cB cC cI cJ cZ oA rA Γ, b_w cB cC cI cJ cZ oA rA Γ, b_s cB cC cI cJ cZ oA rA Γ, b_c cB cC cI cJ cZ oA rA Γ, b_t cB cC cI cJ cZ oA rA Γ, b_d cB cC cI cJ cZ oA rA Γ]) (bs' := [b_m cB cC cI cJ cZ oA rA Γ, b_s cB cC cI cJ cZ oA rA Γ, b_c cB cC cI cJ cZ oA rA Γ, b_t cB cC cI cJ cZ oA rA Γ, b_d cB cC cI cJ cZ oA rA Γ]) (is := [0, 2, 3, 4, 5]) fl_6 fl_5 rfl) (bx_n (by decide +kernel)) (bx_d (by decide +kernel)) (va_runV (As := [.int p0]) (rest := []) ⟨hx, hb, hml, hown, hts⟩ (k_X10_worthOf l dC dI cB cC cI cJ cZ cP oA rA s.heap.size  p0 Γ _ hu_1) (cwV 1 hts (g_gV wq_715 wq_653 wq_654 wq_2 wq_655) rfl rfl rfl (by decide +kernel) ⟨Nat.le_of_ble_eq_true rfl, Nat.le_of_ble_eq_true rfl⟩) (g_preV g_bl0 hK hPc hDc hS hE hFc g_to0 (q0 := 0) (ci := 10) rfl rfl) rfl rfl hl.1 rfl (lv_room (Nat.le_of_ble_eq_true rfl)) dX4_tellItem_5 ⟨Nat.le_of_ble_eq_true rfl, Nat.le_of_ble_eq_true rfl⟩) (fun r9 u9 H locs hw9 hP' hD' hS => ?_)
  clear hPc hDc hFc
  subst hw9
  obtain ⟨σ_3, eσ_3, hF_4⟩ := bnd_e hF_2
  clear hF_2
  have hP : va_P (dC, dI) vwCl (b_m cB cC cI cJ cZ oA rA σ_3 ++ b_w cB cC cI cJ cZ oA rA σ_3 ++ b_s cB cC cI cJ cZ oA rA σ_3 ++ b_c cB cC cI cJ cZ oA rA σ_3 ++ b_t cB cC cI cJ cZ oA rA σ_3 ++ b_d cB cC cI cJ cZ oA rA σ_3) H := by rw [eσ_3]; exact bx_P (bs := [b_m cB cC cI cJ cZ oA rA Γ, b_s cB cC cI cJ cZ oA rA Γ, b_c cB cC cI cJ cZ oA rA Γ, b_t cB cC cI cJ cZ oA rA Γ, b_d cB cC cI cJ cZ oA rA Γ] ++ [b_w cB cC cI cJ cZ oA rA u_1.2]) (bs' := [b_m cB cC cI cJ cZ oA rA (mrg (fun j => j == 1) Γ u_1.2), b_w cB cC cI cJ cZ oA rA (mrg (fun j => j == 1) Γ u_1.2), b_s cB cC cI cJ cZ oA rA (mrg (fun j => j == 1) Γ u_1.2), b_c cB cC cI cJ cZ oA rA (mrg (fun j => j == 1) Γ u_1.2), b_t cB cC cI cJ cZ oA rA (mrg (fun j => j == 1) Γ u_1.2), b_d cB cC cI cJ cZ oA rA (mrg (fun j => j == 1) Γ u_1.2)]) hP' (fl_a fl_5 fl_1) fl_6 [0, 5, 1, 2, 3, 4] rfl
  clear hP' hD'
  refine lv_istore (lv' := [(5, .int u_1.1), (0, .ref (oA 3)), (1, .int p0), (2, .int p1), (3, .int p2), (4, .int p3)]) hx hb dX4_tellItem_8 hl (by decide) rfl (fun ls hl => ?_)
  refine lv_aload_n hx hb dX4_tellItem_10 rfl (lv_at hl 1 rfl) ?_
  refine va_get (D := (dC, dI)) (ci := 4) (v := .ref (rA 3 2)) (C := RX4) (T := TX4) (N := 18) hx hb hts ii_X4 hown hK hP 0 rfl rfl 2 (by decide) (hts (.fieldLink RX4 11 "StoryHouse$Meanings" "toldAt" "[I") wq_88) (fun _ h9 => h9) rfl dX4_tellItem_11 ?_
  refine lv_iload hx hb dX4_tellItem_14 (lv_at hl 0 rfl) ?_
  have hq9 : ((b_m cB cC cI cJ cZ oA rA σ_3 ++ b_w cB cC cI cJ cZ oA rA σ_3 ++ b_s cB cC cI cJ cZ oA rA σ_3 ++ b_c cB cC cI cJ cZ oA rA σ_3 ++ b_t cB cC cI cJ cZ oA rA σ_3 ++ b_d cB cC cI cJ cZ oA rA σ_3))[1]? = some (rA 3 2, .inl (cI, 4500, .inl ((σ_3 3).2.1 2))) := rfl
  have hPc := hP.sub (ws' := [(rA 3 2, .inl (cI, 4500, .inl ((σ_3 3).2.1 2)))]) [1] (pk_fm (er_C hq9))
  have hDc := (hDD σ_3).sub (ws' := [(rA 3 2, .inl (cI, 4500, .inl ((σ_3 3).2.1 2)))]) [1] (by decide +kernel) (er_C hq9)
  have hFc := va_free (wc := [(rA 3 2, .inl (cI, 4500, .inl ((σ_3 3).2.1 2)))]) (hDD σ_3) hS hA [1] (er_C hq9)
  refine g_ofi (wc := [(rA 3 2, .inl (cI, 4500, .inl ((σ_3 3).2.1 2)))]) (wr := (((b_m cB cC cI cJ cZ oA rA σ_3 ++ b_w cB cC cI cJ cZ oA rA σ_3 ++ b_s cB cC cI cJ cZ oA rA σ_3 ++ b_c cB cC cI cJ cZ oA rA σ_3 ++ b_t cB cC cI cJ cZ oA rA σ_3 ++ b_d cB cC cI cJ cZ oA rA σ_3)).eraseIdx 1)) hP (hDD σ_3) hS hFc [1] ((List.range ((b_m cB cC cI cJ cZ oA rA σ_3 ++ b_w cB cC cI cJ cZ oA rA σ_3 ++ b_s cB cC cI cJ cZ oA rA σ_3 ++ b_c cB cC cI cJ cZ oA rA σ_3 ++ b_t cB cC cI cJ cZ oA rA σ_3 ++ b_d cB cC cI cJ cZ oA rA σ_3)).length).eraseIdx 1) (er_C hq9) er_R er_n er_d (va_runSN (As := [.ref (rA 3 2), .int u_1.1]) (rest := []) ⟨hx, hb, hml, hown, hts⟩ (c_X11_at l dC dI cB cC cI cJ cZ cP H.size (rA 3 2) u_1.1 4500 ((σ_3 3).2.1 2) (by decide)) ⟨va_cnB 2 hts (g_gA wq_407) rfl rfl rfl (nw_24 hN) (hts (.initialized RX11) wq_1) (by decide +kernel) ⟨Nat.le_of_ble_eq_true rfl, Nat.le_of_ble_eq_true rfl⟩, (hts (.static yX11_at) wq_406), trivial⟩ (g_preS g_bl0 hK hPc hDc hS hE hFc g_to0) rfl rfl hl.1 rfl (lv_room (Nat.le_of_ble_eq_true rfl)) dX4_tellItem_16 ⟨Nat.le_of_ble_eq_true rfl, Nat.le_of_ble_eq_true rfl⟩) (fun r9 u9 H locs hw9 hP' hD' hS => ?_)
  clear hPc hDc hFc hD'
  have hP : va_P (dC, dI) vwCl (b_m cB cC cI cJ cZ oA rA σ_3 ++ b_w cB cC cI cJ cZ oA rA σ_3 ++ b_s cB cC cI cJ cZ oA rA σ_3 ++ b_c cB cC cI cJ cZ oA rA σ_3 ++ b_t cB cC cI cJ cZ oA rA σ_3 ++ b_d cB cC cI cJ cZ oA rA σ_3) H := er_I hP' hq9
  clear hP' hq9
  subst hw9
  obtain ⟨x_5, ex_5, hF_6⟩ := bnd_e hF_4
  clear hF_4
  refine m_top ex_5 ?_
  refine lv_iload_n hx hb dX4_tellItem_19 rfl (lv_at hl 2 rfl) ?_
  refine lv_icmp_ge (tgt := 32) hx hb dX4_tellItem_20 (by decide) (fun c_7 => ?_) (fun c_7 => ?_)
  · have hF_8 := ipos c_7 hF_6
    clear hF_6
    refine lv_aload_n hx hb dX4_tellItem_32 rfl (lv_at hl 1 rfl) ?_
    refine va_get (D := (dC, dI)) (ci := 4) (v := .ref (oA 4)) (C := RX4) (T := TX4) (N := 18) hx hb hts ii_X4 hown hK hP 0 rfl rfl 1 (by decide) (hts (.fieldLink RX4 36 "StoryHouse$Meanings" "story" "LStoryHouse$Story;") wq_87) (fun _ h9 => h9) rfl dX4_tellItem_33 ?_
    refine va_get (D := (dC, dI)) (ci := 7) (v := .ref (rA 4 0)) (C := RX7) (T := TX7) (N := 19) hx hb hts ii_X7 hown hK hP 16 rfl rfl 0 (by decide) (hts (.fieldLink RX4 165 "StoryHouse$Story" "counts" "[I") wq_154) (fun _ h9 => h9) rfl dX4_tellItem_36 ?_
    refine lv_iload_n hx hb dX4_tellItem_39 rfl (lv_at hl 4 rfl) ?_
    have hq9 : ((b_m cB cC cI cJ cZ oA rA σ_3 ++ b_w cB cC cI cJ cZ oA rA σ_3 ++ b_s cB cC cI cJ cZ oA rA σ_3 ++ b_c cB cC cI cJ cZ oA rA σ_3 ++ b_t cB cC cI cJ cZ oA rA σ_3 ++ b_d cB cC cI cJ cZ oA rA σ_3))[17]? = some (rA 4 0, .inl (cI, 7, .inl ((σ_3 4).2.1 0))) := rfl
    have hPc := hP.sub (ws' := [(rA 4 0, .inl (cI, 7, .inl ((σ_3 4).2.1 0)))]) [17] (pk_fm (er_C hq9))
    have hDc := (hDD σ_3).sub (ws' := [(rA 4 0, .inl (cI, 7, .inl ((σ_3 4).2.1 0)))]) [17] (by decide +kernel) (er_C hq9)
    have hFc := va_free (wc := [(rA 4 0, .inl (cI, 7, .inl ((σ_3 4).2.1 0)))]) (hDD σ_3) hS hA [17] (er_C hq9)
    refine g_ofi (wc := [(rA 4 0, .inl (cI, 7, .inl ((σ_3 4).2.1 0)))]) (wr := (((b_m cB cC cI cJ cZ oA rA σ_3 ++ b_w cB cC cI cJ cZ oA rA σ_3 ++ b_s cB cC cI cJ cZ oA rA σ_3 ++ b_c cB cC cI cJ cZ oA rA σ_3 ++ b_t cB cC cI cJ cZ oA rA σ_3 ++ b_d cB cC cI cJ cZ oA rA σ_3)).eraseIdx 17)) hP (hDD σ_3) hS hFc [17] ((List.range ((b_m cB cC cI cJ cZ oA rA σ_3 ++ b_w cB cC cI cJ cZ oA rA σ_3 ++ b_s cB cC cI cJ cZ oA rA σ_3 ++ b_c cB cC cI cJ cZ oA rA σ_3 ++ b_t cB cC cI cJ cZ oA rA σ_3 ++ b_d cB cC cI cJ cZ oA rA σ_3)).length).eraseIdx 17) (er_C hq9) er_R er_n er_d (va_runSN (As := [.ref (rA 4 0), .int p2]) (rest := []) ⟨hx, hb, hml, hown, hts⟩ (c_X11_at l dC dI cB cC cI cJ cZ cP H.size (rA 4 0) p2 7 ((σ_3 4).2.1 0) (by decide)) ⟨va_cnB 2 hts (g_gA wq_407) rfl rfl rfl (nw_24 hN) (hts (.initialized RX11) wq_1) (by decide +kernel) ⟨Nat.le_of_ble_eq_true rfl, Nat.le_of_ble_eq_true rfl⟩, (hts (.static yX11_at) wq_406), trivial⟩ (g_preS g_bl0 hK hPc hDc hS hE hFc g_to0) rfl rfl hl.1 rfl (lv_room (Nat.le_of_ble_eq_true rfl)) dX4_tellItem_40 ⟨Nat.le_of_ble_eq_true rfl, Nat.le_of_ble_eq_true rfl⟩) (fun r9 u9 H locs hw9 hP' hD' hS => ?_)
    clear hPc hDc hFc hD'
    have hP : va_P (dC, dI) vwCl (b_m cB cC cI cJ cZ oA rA σ_3 ++ b_w cB cC cI cJ cZ oA rA σ_3 ++ b_s cB cC cI cJ cZ oA rA σ_3 ++ b_c cB cC cI cJ cZ oA rA σ_3 ++ b_t cB cC cI cJ cZ oA rA σ_3 ++ b_d cB cC cI cJ cZ oA rA σ_3) H := er_I hP' hq9
    clear hP' hq9
    subst hw9
    obtain ⟨x_9, ex_9, hF_10⟩ := bnd_e hF_8
    clear hF_8
    refine m_top ex_9 ?_
    refine lv_iload hx hb dX4_tellItem_43 (lv_at hl 5 rfl) ?_
    refine lv_icmp_lt (tgt := 57) hx hb dX4_tellItem_45 (by decide) (fun c_11 => ?_) (fun c_11 => ?_)
    · have hF_12 := ipos c_11 hF_10
      clear hF_10
      refine lv_aload_n hx hb dX4_tellItem_57 rfl (lv_at hl 1 rfl) ?_
      refine va_get (D := (dC, dI)) (ci := 4) (v := .ref (oA 4)) (C := RX4) (T := TX4) (N := 18) hx hb hts ii_X4 hown hK hP 0 rfl rfl 1 (by decide) (hts (.fieldLink RX4 36 "StoryHouse$Meanings" "story" "LStoryHouse$Story;") wq_87) (fun _ h9 => h9) rfl dX4_tellItem_58 ?_
      refine va_get (D := (dC, dI)) (ci := 7) (v := .ref (rA 4 0)) (C := RX7) (T := TX7) (N := 19) hx hb hts ii_X7 hown hK hP 16 rfl rfl 0 (by decide) (hts (.fieldLink RX4 165 "StoryHouse$Story" "counts" "[I") wq_154) (fun _ h9 => h9) rfl dX4_tellItem_61 ?_
      refine lv_iload_n hx hb dX4_tellItem_64 rfl (lv_at hl 4 rfl) ?_
      refine lv_aload_n hx hb dX4_tellItem_65 rfl (lv_at hl 1 rfl) ?_
      refine va_get (D := (dC, dI)) (ci := 4) (v := .ref (oA 4)) (C := RX4) (T := TX4) (N := 18) hx hb hts ii_X4 hown hK hP 0 rfl rfl 1 (by decide) (hts (.fieldLink RX4 36 "StoryHouse$Meanings" "story" "LStoryHouse$Story;") wq_87) (fun _ h9 => h9) rfl dX4_tellItem_66 ?_
      refine va_get (D := (dC, dI)) (ci := 7) (v := .ref (rA 4 0)) (C := RX7) (T := TX7) (N := 19) hx hb hts ii_X7 hown hK hP 16 rfl rfl 0 (by decide) (hts (.fieldLink RX4 165 "StoryHouse$Story" "counts" "[I") wq_154) (fun _ h9 => h9) rfl dX4_tellItem_69 ?_
      refine lv_iload_n hx hb dX4_tellItem_72 rfl (lv_at hl 4 rfl) ?_
      have hq9 : ((b_m cB cC cI cJ cZ oA rA σ_3 ++ b_w cB cC cI cJ cZ oA rA σ_3 ++ b_s cB cC cI cJ cZ oA rA σ_3 ++ b_c cB cC cI cJ cZ oA rA σ_3 ++ b_t cB cC cI cJ cZ oA rA σ_3 ++ b_d cB cC cI cJ cZ oA rA σ_3))[17]? = some (rA 4 0, .inl (cI, 7, .inl ((σ_3 4).2.1 0))) := rfl
      have hPc := hP.sub (ws' := [(rA 4 0, .inl (cI, 7, .inl ((σ_3 4).2.1 0)))]) [17] (pk_fm (er_C hq9))
      have hDc := (hDD σ_3).sub (ws' := [(rA 4 0, .inl (cI, 7, .inl ((σ_3 4).2.1 0)))]) [17] (by decide +kernel) (er_C hq9)
      have hFc := va_free (wc := [(rA 4 0, .inl (cI, 7, .inl ((σ_3 4).2.1 0)))]) (hDD σ_3) hS hA [17] (er_C hq9)
      refine g_ofi (wc := [(rA 4 0, .inl (cI, 7, .inl ((σ_3 4).2.1 0)))]) (wr := (((b_m cB cC cI cJ cZ oA rA σ_3 ++ b_w cB cC cI cJ cZ oA rA σ_3 ++ b_s cB cC cI cJ cZ oA rA σ_3 ++ b_c cB cC cI cJ cZ oA rA σ_3 ++ b_t cB cC cI cJ cZ oA rA σ_3 ++ b_d cB cC cI cJ cZ oA rA σ_3)).eraseIdx 17)) hP (hDD σ_3) hS hFc [17] ((List.range ((b_m cB cC cI cJ cZ oA rA σ_3 ++ b_w cB cC cI cJ cZ oA rA σ_3 ++ b_s cB cC cI cJ cZ oA rA σ_3 ++ b_c cB cC cI cJ cZ oA rA σ_3 ++ b_t cB cC cI cJ cZ oA rA σ_3 ++ b_d cB cC cI cJ cZ oA rA σ_3)).length).eraseIdx 17) (er_C hq9) er_R er_n er_d (va_runSN (As := [.ref (rA 4 0), .int p2]) (rest := [.int p2, .ref (rA 4 0)]) ⟨hx, hb, hml, hown, hts⟩ (c_X11_at l dC dI cB cC cI cJ cZ cP H.size (rA 4 0) p2 7 ((σ_3 4).2.1 0) (by decide)) ⟨va_cnB 2 hts (g_gA wq_407) rfl rfl rfl (nw_24 hN) (hts (.initialized RX11) wq_1) (by decide +kernel) ⟨Nat.le_of_ble_eq_true rfl, Nat.le_of_ble_eq_true rfl⟩, (hts (.static yX11_at) wq_406), trivial⟩ (g_preS g_bl0 hK hPc hDc hS hE hFc g_to0) rfl rfl hl.1 rfl (lv_room (Nat.le_of_ble_eq_true rfl)) dX4_tellItem_73 ⟨Nat.le_of_ble_eq_true rfl, Nat.le_of_ble_eq_true rfl⟩) (fun r9 u9 H locs hw9 hP' hD' hS => ?_)
      clear hPc hDc hFc hD'
      have hP : va_P (dC, dI) vwCl (b_m cB cC cI cJ cZ oA rA σ_3 ++ b_w cB cC cI cJ cZ oA rA σ_3 ++ b_s cB cC cI cJ cZ oA rA σ_3 ++ b_c cB cC cI cJ cZ oA rA σ_3 ++ b_t cB cC cI cJ cZ oA rA σ_3 ++ b_d cB cC cI cJ cZ oA rA σ_3) H := er_I hP' hq9
      clear hP' hq9
      subst hw9
      obtain ⟨x_13, ex_13, hF_14⟩ := bnd_e hF_12
      clear hF_12
      refine m_top ex_13 ?_
      refine lv_iconst (v := 1) hx hb dX4_tellItem_76 (by decide +kernel) ?_
      refine lv_iadd hx hb dX4_tellItem_77 ?_
      obtain ⟨x_15, ex_15, hF_16⟩ := bnd_e hF_14
      clear hF_14
      refine m_top ex_15 ?_
      have hq9 : ((b_m cB cC cI cJ cZ oA rA σ_3 ++ b_w cB cC cI cJ cZ oA rA σ_3 ++ b_s cB cC cI cJ cZ oA rA σ_3 ++ b_c cB cC cI cJ cZ oA rA σ_3 ++ b_t cB cC cI cJ cZ oA rA σ_3 ++ b_d cB cC cI cJ cZ oA rA σ_3))[17]? = some (rA 4 0, .inl (cI, 7, .inl ((σ_3 4).2.1 0))) := rfl
      have hPc := hP.sub (ws' := [(rA 4 0, .inl (cI, 7, .inl ((σ_3 4).2.1 0)))]) [17] (pk_fm (er_C hq9))
      have hDc := (hDD σ_3).sub (ws' := [(rA 4 0, .inl (cI, 7, .inl ((σ_3 4).2.1 0)))]) [17] (by decide +kernel) (er_C hq9)
      have hFc := va_free (wc := [(rA 4 0, .inl (cI, 7, .inl ((σ_3 4).2.1 0)))]) (hDD σ_3) hS hA [17] (er_C hq9)
      refine g_ofv (wc := [(rA 4 0, .inl (cI, 7, .inl ((σ_3 4).2.1 0)))]) (wr := (((b_m cB cC cI cJ cZ oA rA σ_3 ++ b_w cB cC cI cJ cZ oA rA σ_3 ++ b_s cB cC cI cJ cZ oA rA σ_3 ++ b_c cB cC cI cJ cZ oA rA σ_3 ++ b_t cB cC cI cJ cZ oA rA σ_3 ++ b_d cB cC cI cJ cZ oA rA σ_3)).eraseIdx 17)) hP (hDD σ_3) hS hFc [17] ((List.range ((b_m cB cC cI cJ cZ oA rA σ_3 ++ b_w cB cC cI cJ cZ oA rA σ_3 ++ b_s cB cC cI cJ cZ oA rA σ_3 ++ b_c cB cC cI cJ cZ oA rA σ_3 ++ b_t cB cC cI cJ cZ oA rA σ_3 ++ b_d cB cC cI cJ cZ oA rA σ_3)).length).eraseIdx 17) (er_C hq9) er_R er_n er_d (va_runSN (As := [.ref (rA 4 0), .int p2, .int x_15]) (rest := []) ⟨hx, hb, hml, hown, hts⟩ (c_X11_put l dC dI cB cC cI cJ cZ cP H.size (rA 4 0) p2 x_15 7 ((σ_3 4).2.1 0) (by decide)) ⟨va_cnB 3 hts (g_gA wq_412) rfl rfl rfl (nw_23 hN) (hts (.initialized RX11) wq_1) (by decide +kernel) ⟨Nat.le_of_ble_eq_true rfl, Nat.le_of_ble_eq_true rfl⟩, (hts (.static yX11_put) wq_411), trivial⟩ (g_preS g_bl0 hK hPc hDc hS hE hFc g_to0) rfl rfl hl.1 rfl (lv_room (Nat.le_of_ble_eq_true rfl)) dX4_tellItem_78 ⟨Nat.le_of_ble_eq_true rfl, Nat.le_of_ble_eq_true rfl⟩) (fun g9 H locs hw9 hP' hD' hS => ?_)
      clear hPc hDc hFc hD'
      obtain ⟨σ_17, eσ_17, hF_18⟩ := bnd_e hF_16
      clear hF_16
      subst hw9
      have hP : va_P (dC, dI) vwCl (b_m cB cC cI cJ cZ oA rA σ_17 ++ b_w cB cC cI cJ cZ oA rA σ_17 ++ b_s cB cC cI cJ cZ oA rA σ_17 ++ b_c cB cC cI cJ cZ oA rA σ_17 ++ b_t cB cC cI cJ cZ oA rA σ_17 ++ b_d cB cC cI cJ cZ oA rA σ_17) H := by rw [eσ_17]; exact cs_mwsctd_s_0 ▸ er_P hP' (er_lt hq9)
      clear hP' hq9
      refine lv_aload_n hx hb dX4_tellItem_81 rfl (lv_at hl 1 rfl) ?_
      refine va_get (D := (dC, dI)) (ci := 4) (v := .ref (rA 3 3)) (C := RX4) (T := TX4) (N := 18) hx hb hts ii_X4 hown hK hP 0 rfl rfl 3 (by decide) (hts (.fieldLink RX4 17 "StoryHouse$Meanings" "sorts" "[I") wq_89) (fun _ h9 => h9) rfl dX4_tellItem_82 ?_
      refine lv_iload hx hb dX4_tellItem_85 (lv_at hl 0 rfl) ?_
      refine lv_iload_n hx hb dX4_tellItem_87 rfl (lv_at hl 3 rfl) ?_
      have hq9 : ((b_m cB cC cI cJ cZ oA rA σ_17 ++ b_w cB cC cI cJ cZ oA rA σ_17 ++ b_s cB cC cI cJ cZ oA rA σ_17 ++ b_c cB cC cI cJ cZ oA rA σ_17 ++ b_t cB cC cI cJ cZ oA rA σ_17 ++ b_d cB cC cI cJ cZ oA rA σ_17))[2]? = some (rA 3 3, .inl (cI, 4500, .inl ((σ_17 3).2.1 3))) := rfl
      have hPc := hP.sub (ws' := [(rA 3 3, .inl (cI, 4500, .inl ((σ_17 3).2.1 3)))]) [2] (pk_fm (er_C hq9))
      have hDc := (hDD σ_17).sub (ws' := [(rA 3 3, .inl (cI, 4500, .inl ((σ_17 3).2.1 3)))]) [2] (by decide +kernel) (er_C hq9)
      have hFc := va_free (wc := [(rA 3 3, .inl (cI, 4500, .inl ((σ_17 3).2.1 3)))]) (hDD σ_17) hS hA [2] (er_C hq9)
      refine g_ofv (wc := [(rA 3 3, .inl (cI, 4500, .inl ((σ_17 3).2.1 3)))]) (wr := (((b_m cB cC cI cJ cZ oA rA σ_17 ++ b_w cB cC cI cJ cZ oA rA σ_17 ++ b_s cB cC cI cJ cZ oA rA σ_17 ++ b_c cB cC cI cJ cZ oA rA σ_17 ++ b_t cB cC cI cJ cZ oA rA σ_17 ++ b_d cB cC cI cJ cZ oA rA σ_17)).eraseIdx 2)) hP (hDD σ_17) hS hFc [2] ((List.range ((b_m cB cC cI cJ cZ oA rA σ_17 ++ b_w cB cC cI cJ cZ oA rA σ_17 ++ b_s cB cC cI cJ cZ oA rA σ_17 ++ b_c cB cC cI cJ cZ oA rA σ_17 ++ b_t cB cC cI cJ cZ oA rA σ_17 ++ b_d cB cC cI cJ cZ oA rA σ_17)).length).eraseIdx 2) (er_C hq9) er_R er_n er_d (va_runSN (As := [.ref (rA 3 3), .int u_1.1, .int p1]) (rest := []) ⟨hx, hb, hml, hown, hts⟩ (c_X11_put l dC dI cB cC cI cJ cZ cP H.size (rA 3 3) u_1.1 p1 4500 ((σ_17 3).2.1 3) (by decide)) ⟨va_cnB 3 hts (g_gA wq_412) rfl rfl rfl (nw_23 hN) (hts (.initialized RX11) wq_1) (by decide +kernel) ⟨Nat.le_of_ble_eq_true rfl, Nat.le_of_ble_eq_true rfl⟩, (hts (.static yX11_put) wq_411), trivial⟩ (g_preS g_bl0 hK hPc hDc hS hE hFc g_to0) rfl rfl hl.1 rfl (lv_room (Nat.le_of_ble_eq_true rfl)) dX4_tellItem_88 ⟨Nat.le_of_ble_eq_true rfl, Nat.le_of_ble_eq_true rfl⟩) (fun g9 H locs hw9 hP' hD' hS => ?_)
      clear hPc hDc hFc hD'
      obtain ⟨σ_19, eσ_19, hF_20⟩ := bnd_e hF_18
      clear hF_18
      subst hw9
      have hP : va_P (dC, dI) vwCl (b_m cB cC cI cJ cZ oA rA σ_19 ++ b_w cB cC cI cJ cZ oA rA σ_19 ++ b_s cB cC cI cJ cZ oA rA σ_19 ++ b_c cB cC cI cJ cZ oA rA σ_19 ++ b_t cB cC cI cJ cZ oA rA σ_19 ++ b_d cB cC cI cJ cZ oA rA σ_19) H := by rw [eσ_19]; exact cs_mwsctd_m_3 ▸ er_P hP' (er_lt hq9)
      clear hP' hq9
      refine lv_aload_n hx hb dX4_tellItem_91 rfl (lv_at hl 1 rfl) ?_
      refine va_get (D := (dC, dI)) (ci := 4) (v := .ref (rA 3 4)) (C := RX4) (T := TX4) (N := 18) hx hb hts ii_X4 hown hK hP 0 rfl rfl 4 (by decide) (hts (.fieldLink RX4 20 "StoryHouse$Meanings" "numbers" "[I") wq_90) (fun _ h9 => h9) rfl dX4_tellItem_92 ?_
      refine lv_iload hx hb dX4_tellItem_95 (lv_at hl 0 rfl) ?_
      refine lv_aload_n hx hb dX4_tellItem_97 rfl (lv_at hl 1 rfl) ?_
      refine va_get (D := (dC, dI)) (ci := 4) (v := .ref (oA 4)) (C := RX4) (T := TX4) (N := 18) hx hb hts ii_X4 hown hK hP 0 rfl rfl 1 (by decide) (hts (.fieldLink RX4 36 "StoryHouse$Meanings" "story" "LStoryHouse$Story;") wq_87) (fun _ h9 => h9) rfl dX4_tellItem_98 ?_
      refine va_get (D := (dC, dI)) (ci := 7) (v := .ref (rA 4 0)) (C := RX7) (T := TX7) (N := 19) hx hb hts ii_X7 hown hK hP 16 rfl rfl 0 (by decide) (hts (.fieldLink RX4 165 "StoryHouse$Story" "counts" "[I") wq_154) (fun _ h9 => h9) rfl dX4_tellItem_101 ?_
      refine lv_iload_n hx hb dX4_tellItem_104 rfl (lv_at hl 4 rfl) ?_
      have hq9 : ((b_m cB cC cI cJ cZ oA rA σ_19 ++ b_w cB cC cI cJ cZ oA rA σ_19 ++ b_s cB cC cI cJ cZ oA rA σ_19 ++ b_c cB cC cI cJ cZ oA rA σ_19 ++ b_t cB cC cI cJ cZ oA rA σ_19 ++ b_d cB cC cI cJ cZ oA rA σ_19))[17]? = some (rA 4 0, .inl (cI, 7, .inl ((σ_19 4).2.1 0))) := rfl
      have hPc := hP.sub (ws' := [(rA 4 0, .inl (cI, 7, .inl ((σ_19 4).2.1 0)))]) [17] (pk_fm (er_C hq9))
      have hDc := (hDD σ_19).sub (ws' := [(rA 4 0, .inl (cI, 7, .inl ((σ_19 4).2.1 0)))]) [17] (by decide +kernel) (er_C hq9)
      have hFc := va_free (wc := [(rA 4 0, .inl (cI, 7, .inl ((σ_19 4).2.1 0)))]) (hDD σ_19) hS hA [17] (er_C hq9)
      refine g_ofi (wc := [(rA 4 0, .inl (cI, 7, .inl ((σ_19 4).2.1 0)))]) (wr := (((b_m cB cC cI cJ cZ oA rA σ_19 ++ b_w cB cC cI cJ cZ oA rA σ_19 ++ b_s cB cC cI cJ cZ oA rA σ_19 ++ b_c cB cC cI cJ cZ oA rA σ_19 ++ b_t cB cC cI cJ cZ oA rA σ_19 ++ b_d cB cC cI cJ cZ oA rA σ_19)).eraseIdx 17)) hP (hDD σ_19) hS hFc [17] ((List.range ((b_m cB cC cI cJ cZ oA rA σ_19 ++ b_w cB cC cI cJ cZ oA rA σ_19 ++ b_s cB cC cI cJ cZ oA rA σ_19 ++ b_c cB cC cI cJ cZ oA rA σ_19 ++ b_t cB cC cI cJ cZ oA rA σ_19 ++ b_d cB cC cI cJ cZ oA rA σ_19)).length).eraseIdx 17) (er_C hq9) er_R er_n er_d (va_runSN (As := [.ref (rA 4 0), .int p2]) (rest := [.int u_1.1, .ref (rA 3 4)]) ⟨hx, hb, hml, hown, hts⟩ (c_X11_at l dC dI cB cC cI cJ cZ cP H.size (rA 4 0) p2 7 ((σ_19 4).2.1 0) (by decide)) ⟨va_cnB 2 hts (g_gA wq_407) rfl rfl rfl (nw_24 hN) (hts (.initialized RX11) wq_1) (by decide +kernel) ⟨Nat.le_of_ble_eq_true rfl, Nat.le_of_ble_eq_true rfl⟩, (hts (.static yX11_at) wq_406), trivial⟩ (g_preS g_bl0 hK hPc hDc hS hE hFc g_to0) rfl rfl hl.1 rfl (lv_room (Nat.le_of_ble_eq_true rfl)) dX4_tellItem_105 ⟨Nat.le_of_ble_eq_true rfl, Nat.le_of_ble_eq_true rfl⟩) (fun r9 u9 H locs hw9 hP' hD' hS => ?_)
      clear hPc hDc hFc hD'
      have hP : va_P (dC, dI) vwCl (b_m cB cC cI cJ cZ oA rA σ_19 ++ b_w cB cC cI cJ cZ oA rA σ_19 ++ b_s cB cC cI cJ cZ oA rA σ_19 ++ b_c cB cC cI cJ cZ oA rA σ_19 ++ b_t cB cC cI cJ cZ oA rA σ_19 ++ b_d cB cC cI cJ cZ oA rA σ_19) H := er_I hP' hq9
      clear hP' hq9
      subst hw9
      obtain ⟨x_21, ex_21, hF_22⟩ := bnd_e hF_20
      clear hF_20
      refine m_top ex_21 ?_
      refine lv_iload_n hx hb dX4_tellItem_108 rfl (lv_at hl 3 rfl) ?_
      refine lv_iconst (v := 3) hx hb dX4_tellItem_109 (by decide +kernel) ?_
      obtain ⟨j_25, ej_25, hF_26⟩ := bnd_e hF_22
      clear hF_22
      have Jj_25 : ∀ (t_23 : Int32) (σ_24 : HS), j_25 t_23 σ_24 = some res → ∀ (H : Heap) (locs : List Loc), va_P (dC, dI) vwCl (b_m cB cC cI cJ cZ oA rA σ_24 ++ b_w cB cC cI cJ cZ oA rA σ_24 ++ b_s cB cC cI cJ cZ oA rA σ_24 ++ b_c cB cC cI cJ cZ oA rA σ_24 ++ b_t cB cC cI cJ cZ oA rA σ_24 ++ b_d cB cC cI cJ cZ oA rA σ_24) H → va_S A s.heap H locs → ∀ ls : Array Slot, lv_has ls 6 [] → W p l e (headSpec (g_ws yX4_tellItem cX4_tellItem 6 none) { frames := 5, cells := 0, slots := 0, locals := 124 }).room s m ([.ref (oA 3), .int p0, .int p1, .int p2, .int p3] : List Value).toArray below meth c H locs 0 0 (MQ below (va_Qv (fun (_ : Unit) => True) (g_Bo (dC, dI) A (fun (_ : Unit) => (b_m cB cC cI cJ cZ oA rA res.2 ++ b_w cB cC cI cJ cZ oA rA res.2 ++ b_s cB cC cI cJ cZ oA rA res.2 ++ b_c cB cC cI cJ cZ oA rA res.2 ++ b_t cB cC cI cJ cZ oA rA res.2 ++ b_d cB cC cI cJ cZ oA rA res.2))) A) ([.ref (oA 3), .int p0, .int p1, .int p2, .int p3] : List Value).toArray s 0 0 A) (F0 m 118 ls [.int t_23, .int x_21, .int u_1.1, .ref (rA 3 4)]) := by
        intro t_23 σ_24 hF0 H locs hP hS ls hl
        subst ej_25
        have hF_27 := hF0
        clear hF0
        refine lv_isub hx hb dX4_tellItem_118 ?_
        obtain ⟨x_28, ex_28, hF_29⟩ := bnd_e hF_27
        clear hF_27
        refine m_top ex_28 ?_
        have hq9 : ((b_m cB cC cI cJ cZ oA rA σ_24 ++ b_w cB cC cI cJ cZ oA rA σ_24 ++ b_s cB cC cI cJ cZ oA rA σ_24 ++ b_c cB cC cI cJ cZ oA rA σ_24 ++ b_t cB cC cI cJ cZ oA rA σ_24 ++ b_d cB cC cI cJ cZ oA rA σ_24))[3]? = some (rA 3 4, .inl (cI, 4500, .inl ((σ_24 3).2.1 4))) := rfl
        have hPc := hP.sub (ws' := [(rA 3 4, .inl (cI, 4500, .inl ((σ_24 3).2.1 4)))]) [3] (pk_fm (er_C hq9))
        have hDc := (hDD σ_24).sub (ws' := [(rA 3 4, .inl (cI, 4500, .inl ((σ_24 3).2.1 4)))]) [3] (by decide +kernel) (er_C hq9)
        have hFc := va_free (wc := [(rA 3 4, .inl (cI, 4500, .inl ((σ_24 3).2.1 4)))]) (hDD σ_24) hS hA [3] (er_C hq9)
        refine g_ofv (wc := [(rA 3 4, .inl (cI, 4500, .inl ((σ_24 3).2.1 4)))]) (wr := (((b_m cB cC cI cJ cZ oA rA σ_24 ++ b_w cB cC cI cJ cZ oA rA σ_24 ++ b_s cB cC cI cJ cZ oA rA σ_24 ++ b_c cB cC cI cJ cZ oA rA σ_24 ++ b_t cB cC cI cJ cZ oA rA σ_24 ++ b_d cB cC cI cJ cZ oA rA σ_24)).eraseIdx 3)) hP (hDD σ_24) hS hFc [3] ((List.range ((b_m cB cC cI cJ cZ oA rA σ_24 ++ b_w cB cC cI cJ cZ oA rA σ_24 ++ b_s cB cC cI cJ cZ oA rA σ_24 ++ b_c cB cC cI cJ cZ oA rA σ_24 ++ b_t cB cC cI cJ cZ oA rA σ_24 ++ b_d cB cC cI cJ cZ oA rA σ_24)).length).eraseIdx 3) (er_C hq9) er_R er_n er_d (va_runSN (As := [.ref (rA 3 4), .int u_1.1, .int x_28]) (rest := []) ⟨hx, hb, hml, hown, hts⟩ (c_X11_put l dC dI cB cC cI cJ cZ cP H.size (rA 3 4) u_1.1 x_28 4500 ((σ_24 3).2.1 4) (by decide)) ⟨va_cnB 3 hts (g_gA wq_412) rfl rfl rfl (nw_23 hN) (hts (.initialized RX11) wq_1) (by decide +kernel) ⟨Nat.le_of_ble_eq_true rfl, Nat.le_of_ble_eq_true rfl⟩, (hts (.static yX11_put) wq_411), trivial⟩ (g_preS g_bl0 hK hPc hDc hS hE hFc g_to0) rfl rfl hl.1 rfl (lv_room (Nat.le_of_ble_eq_true rfl)) dX4_tellItem_119 ⟨Nat.le_of_ble_eq_true rfl, Nat.le_of_ble_eq_true rfl⟩) (fun g9 H locs hw9 hP' hD' hS => ?_)
        clear hPc hDc hFc hD'
        obtain ⟨σ_30, eσ_30, hF_31⟩ := bnd_e hF_29
        clear hF_29
        subst hw9
        have hP : va_P (dC, dI) vwCl (b_m cB cC cI cJ cZ oA rA σ_30 ++ b_w cB cC cI cJ cZ oA rA σ_30 ++ b_s cB cC cI cJ cZ oA rA σ_30 ++ b_c cB cC cI cJ cZ oA rA σ_30 ++ b_t cB cC cI cJ cZ oA rA σ_30 ++ b_d cB cC cI cJ cZ oA rA σ_30) H := by rw [eσ_30]; exact cs_mwsctd_m_4 ▸ er_P hP' (er_lt hq9)
        clear hP' hq9
        have h9 := Option.some.inj hF_31
        subst h9
        exact W.vret hx hb hr (fun t ht hW => ⟨⟨(), rfl, trivial, m_end ht hP, hDD _⟩, hS.F ht⟩) hS.2.2 dX4_tellItem_122
      refine lv_icmp_gt (tgt := 117) hx hb dX4_tellItem_110 (by decide) (fun c_32 => ?_) (fun c_32 => ?_)
      · have hF_33 := ipos c_32 hF_26
        clear hF_26
        refine lv_iconst (v := 1) hx hb dX4_tellItem_117 (by decide +kernel) ?_
        exact Jj_25 1 σ_19 hF_33 _ _ hP hS ls (lv_sub hl [] rfl)
      · have hF_34 := ineg c_32 hF_26
        clear hF_26
        refine lv_iconst (v := 0) hx hb dX4_tellItem_113 (by decide +kernel) ?_
        refine lv_goto (tgt := 118) hx hb dX4_tellItem_114 (by decide) ?_
        exact Jj_25 0 σ_19 hF_34 _ _ hP hS ls (lv_sub hl [] rfl)
    · have hF_35 := ineg c_11 hF_10
      clear hF_10
      refine lv_aload_n hx hb dX4_tellItem_48 rfl (lv_at hl 1 rfl) ?_
      refine lv_iconst (v := 5) hx hb dX4_tellItem_49 (by decide +kernel) ?_
      refine lv_iload_n hx hb dX4_tellItem_50 rfl (lv_at hl 2 rfl) ?_
      obtain ⟨u_36, hu_36, hF_37⟩ := Option.bind_eq_some_iff.mp hF_35
      clear hF_35
      have hPc := bx_P (bs := [b_m cB cC cI cJ cZ oA rA σ_3, b_w cB cC cI cJ cZ oA rA σ_3, b_s cB cC cI cJ cZ oA rA σ_3, b_c cB cC cI cJ cZ oA rA σ_3, b_t cB cC cI cJ cZ oA rA σ_3, b_d cB cC cI cJ cZ oA rA σ_3]) (bs' := [b_m cB cC cI cJ cZ oA rA σ_3, b_w cB cC cI cJ cZ oA rA σ_3, b_s cB cC cI cJ cZ oA rA σ_3, b_c cB cC cI cJ cZ oA rA σ_3, b_t cB cC cI cJ cZ oA rA σ_3, b_d cB cC cI cJ cZ oA rA σ_3]) (ws' := (b_m cB cC cI cJ cZ oA rA σ_3 ++ b_w cB cC cI cJ cZ oA rA σ_3 ++ b_s cB cC cI cJ cZ oA rA σ_3 ++ b_c cB cC cI cJ cZ oA rA σ_3 ++ b_t cB cC cI cJ cZ oA rA σ_3 ++ b_d cB cC cI cJ cZ oA rA σ_3)) hP fl_6 fl_6 [0, 1, 2, 3, 4, 5] rfl
      have hDc := bx_D (bs := [b_m cB cC cI cJ cZ oA rA σ_3, b_w cB cC cI cJ cZ oA rA σ_3, b_s cB cC cI cJ cZ oA rA σ_3, b_c cB cC cI cJ cZ oA rA σ_3, b_t cB cC cI cJ cZ oA rA σ_3, b_d cB cC cI cJ cZ oA rA σ_3]) (bs' := [b_m cB cC cI cJ cZ oA rA σ_3, b_w cB cC cI cJ cZ oA rA σ_3, b_s cB cC cI cJ cZ oA rA σ_3, b_c cB cC cI cJ cZ oA rA σ_3, b_t cB cC cI cJ cZ oA rA σ_3, b_d cB cC cI cJ cZ oA rA σ_3]) (ws' := (b_m cB cC cI cJ cZ oA rA σ_3 ++ b_w cB cC cI cJ cZ oA rA σ_3 ++ b_s cB cC cI cJ cZ oA rA σ_3 ++ b_c cB cC cI cJ cZ oA rA σ_3 ++ b_t cB cC cI cJ cZ oA rA σ_3 ++ b_d cB cC cI cJ cZ oA rA σ_3)) (hDD σ_3) fl_6 fl_6 [0, 1, 2, 3, 4, 5] (by decide +kernel) rfl
      have hFc := bx_F (bs := [b_m cB cC cI cJ cZ oA rA σ_3, b_w cB cC cI cJ cZ oA rA σ_3, b_s cB cC cI cJ cZ oA rA σ_3, b_c cB cC cI cJ cZ oA rA σ_3, b_t cB cC cI cJ cZ oA rA σ_3, b_d cB cC cI cJ cZ oA rA σ_3]) (bs' := [b_m cB cC cI cJ cZ oA rA σ_3, b_w cB cC cI cJ cZ oA rA σ_3, b_s cB cC cI cJ cZ oA rA σ_3, b_c cB cC cI cJ cZ oA rA σ_3, b_t cB cC cI cJ cZ oA rA σ_3, b_d cB cC cI cJ cZ oA rA σ_3]) (wc := (b_m cB cC cI cJ cZ oA rA σ_3 ++ b_w cB cC cI cJ cZ oA rA σ_3 ++ b_s cB cC cI cJ cZ oA rA σ_3 ++ b_c cB cC cI cJ cZ oA rA σ_3 ++ b_t cB cC cI cJ cZ oA rA σ_3 ++ b_d cB cC cI cJ cZ oA rA σ_3)) (hDD σ_3) hS hA fl_6 fl_6 [0, 1, 2, 3, 4, 5] rfl
      refine g_ofv (wc := (b_m cB cC cI cJ cZ oA rA σ_3 ++ b_w cB cC cI cJ cZ oA rA σ_3 ++ b_s cB cC cI cJ cZ oA rA σ_3 ++ b_c cB cC cI cJ cZ oA rA σ_3 ++ b_t cB cC cI cJ cZ oA rA σ_3 ++ b_d cB cC cI cJ cZ oA rA σ_3)) (wr := ([] : va_W)) hP (hDD σ_3) hS hFc (bx_ix [b_m cB cC cI cJ cZ oA rA σ_3, b_w cB cC cI cJ cZ oA rA σ_3, b_s cB cC cI cJ cZ oA rA σ_3, b_c cB cC cI cJ cZ oA rA σ_3, b_t cB cC cI cJ cZ oA rA σ_3, b_d cB cC cI cJ cZ oA rA σ_3] [0, 1, 2, 3, 4, 5]) (bx_ix [b_m cB cC cI cJ cZ oA rA σ_3, b_w cB cC cI cJ cZ oA rA σ_3, b_s cB cC cI cJ cZ oA rA σ_3, b_c cB cC cI cJ cZ oA rA σ_3, b_t cB cC cI cJ cZ oA rA σ_3, b_d cB cC cI cJ cZ oA rA σ_3] []) (bx_C (bs := [b_m cB cC cI cJ cZ oA rA σ_3, b_w cB cC cI cJ cZ oA rA σ_3, b_s cB cC cI cJ cZ oA rA σ_3, b_c cB cC cI cJ cZ oA rA σ_3, b_t cB cC cI cJ cZ oA rA σ_3, b_d cB cC cI cJ cZ oA rA σ_3]) (bs' := [b_m cB cC cI cJ cZ oA rA σ_3, b_w cB cC cI cJ cZ oA rA σ_3, b_s cB cC cI cJ cZ oA rA σ_3, b_c cB cC cI cJ cZ oA rA σ_3, b_t cB cC cI cJ cZ oA rA σ_3, b_d cB cC cI cJ cZ oA rA σ_3]) (is := [0, 1, 2, 3, 4, 5]) fl_6 fl_6 rfl) (bx_C (bs := [b_m cB cC cI cJ cZ oA rA σ_3, b_w cB cC cI cJ cZ oA rA σ_3, b_s cB cC cI cJ cZ oA rA σ_3, b_c cB cC cI cJ cZ oA rA σ_3, b_t cB cC cI cJ cZ oA rA σ_3, b_d cB cC cI cJ cZ oA rA σ_3]) (bs' := []) (is := []) fl_6 fl_0 rfl) (bx_n (by decide +kernel)) (bx_d (by decide +kernel)) (va_runV (As := [.int 5, .int p0]) (rest := []) ⟨hx, hb, hml, hown, hts⟩ (k_X4_fail l dC dI cB cC cI cJ cZ cP oA rA H.size  5 p0 σ_3 _ hu_36) (cwV 2 hts (g_gV wq_725 wq_726 wq_2037 wq_4 wq_727) rfl rfl rfl (by decide +kernel) ⟨Nat.le_of_ble_eq_true rfl, Nat.le_of_ble_eq_true rfl⟩) (g_preV g_bl0 hK hPc hDc hS hE hFc g_to0 (q0 := 0) (ci := 4) rfl rfl) rfl rfl hl.1 rfl (lv_room (Nat.le_of_ble_eq_true rfl)) dX4_tellItem_51 ⟨Nat.le_of_ble_eq_true rfl, Nat.le_of_ble_eq_true rfl⟩) (fun u9 H locs hw9 hP' hD' hS => ?_)
      clear hPc hDc hFc
      have hP : va_P (dC, dI) vwCl (b_m cB cC cI cJ cZ oA rA u_36.2 ++ b_w cB cC cI cJ cZ oA rA u_36.2 ++ b_s cB cC cI cJ cZ oA rA u_36.2 ++ b_c cB cC cI cJ cZ oA rA u_36.2 ++ b_t cB cC cI cJ cZ oA rA u_36.2 ++ b_d cB cC cI cJ cZ oA rA u_36.2) H := hP'
      clear hP' hD'
      refine lv_goto (tgt := 122) hx hb dX4_tellItem_54 (by decide) ?_
      have h9 := Option.some.inj hF_37
      subst h9
      exact W.vret hx hb hr (fun t ht hW => ⟨⟨(), rfl, trivial, m_end ht hP, hDD _⟩, hS.F ht⟩) hS.2.2 dX4_tellItem_122
  · have hF_38 := ineg c_7 hF_6
    clear hF_6
    refine lv_aload_n hx hb dX4_tellItem_23 rfl (lv_at hl 1 rfl) ?_
    refine lv_iconst (v := 4) hx hb dX4_tellItem_24 (by decide +kernel) ?_
    refine lv_iload_n hx hb dX4_tellItem_25 rfl (lv_at hl 2 rfl) ?_
    obtain ⟨u_39, hu_39, hF_40⟩ := Option.bind_eq_some_iff.mp hF_38
    clear hF_38
    have hPc := bx_P (bs := [b_m cB cC cI cJ cZ oA rA σ_3, b_w cB cC cI cJ cZ oA rA σ_3, b_s cB cC cI cJ cZ oA rA σ_3, b_c cB cC cI cJ cZ oA rA σ_3, b_t cB cC cI cJ cZ oA rA σ_3, b_d cB cC cI cJ cZ oA rA σ_3]) (bs' := [b_m cB cC cI cJ cZ oA rA σ_3, b_w cB cC cI cJ cZ oA rA σ_3, b_s cB cC cI cJ cZ oA rA σ_3, b_c cB cC cI cJ cZ oA rA σ_3, b_t cB cC cI cJ cZ oA rA σ_3, b_d cB cC cI cJ cZ oA rA σ_3]) (ws' := (b_m cB cC cI cJ cZ oA rA σ_3 ++ b_w cB cC cI cJ cZ oA rA σ_3 ++ b_s cB cC cI cJ cZ oA rA σ_3 ++ b_c cB cC cI cJ cZ oA rA σ_3 ++ b_t cB cC cI cJ cZ oA rA σ_3 ++ b_d cB cC cI cJ cZ oA rA σ_3)) hP fl_6 fl_6 [0, 1, 2, 3, 4, 5] rfl
    have hDc := bx_D (bs := [b_m cB cC cI cJ cZ oA rA σ_3, b_w cB cC cI cJ cZ oA rA σ_3, b_s cB cC cI cJ cZ oA rA σ_3, b_c cB cC cI cJ cZ oA rA σ_3, b_t cB cC cI cJ cZ oA rA σ_3, b_d cB cC cI cJ cZ oA rA σ_3]) (bs' := [b_m cB cC cI cJ cZ oA rA σ_3, b_w cB cC cI cJ cZ oA rA σ_3, b_s cB cC cI cJ cZ oA rA σ_3, b_c cB cC cI cJ cZ oA rA σ_3, b_t cB cC cI cJ cZ oA rA σ_3, b_d cB cC cI cJ cZ oA rA σ_3]) (ws' := (b_m cB cC cI cJ cZ oA rA σ_3 ++ b_w cB cC cI cJ cZ oA rA σ_3 ++ b_s cB cC cI cJ cZ oA rA σ_3 ++ b_c cB cC cI cJ cZ oA rA σ_3 ++ b_t cB cC cI cJ cZ oA rA σ_3 ++ b_d cB cC cI cJ cZ oA rA σ_3)) (hDD σ_3) fl_6 fl_6 [0, 1, 2, 3, 4, 5] (by decide +kernel) rfl
    have hFc := bx_F (bs := [b_m cB cC cI cJ cZ oA rA σ_3, b_w cB cC cI cJ cZ oA rA σ_3, b_s cB cC cI cJ cZ oA rA σ_3, b_c cB cC cI cJ cZ oA rA σ_3, b_t cB cC cI cJ cZ oA rA σ_3, b_d cB cC cI cJ cZ oA rA σ_3]) (bs' := [b_m cB cC cI cJ cZ oA rA σ_3, b_w cB cC cI cJ cZ oA rA σ_3, b_s cB cC cI cJ cZ oA rA σ_3, b_c cB cC cI cJ cZ oA rA σ_3, b_t cB cC cI cJ cZ oA rA σ_3, b_d cB cC cI cJ cZ oA rA σ_3]) (wc := (b_m cB cC cI cJ cZ oA rA σ_3 ++ b_w cB cC cI cJ cZ oA rA σ_3 ++ b_s cB cC cI cJ cZ oA rA σ_3 ++ b_c cB cC cI cJ cZ oA rA σ_3 ++ b_t cB cC cI cJ cZ oA rA σ_3 ++ b_d cB cC cI cJ cZ oA rA σ_3)) (hDD σ_3) hS hA fl_6 fl_6 [0, 1, 2, 3, 4, 5] rfl
    refine g_ofv (wc := (b_m cB cC cI cJ cZ oA rA σ_3 ++ b_w cB cC cI cJ cZ oA rA σ_3 ++ b_s cB cC cI cJ cZ oA rA σ_3 ++ b_c cB cC cI cJ cZ oA rA σ_3 ++ b_t cB cC cI cJ cZ oA rA σ_3 ++ b_d cB cC cI cJ cZ oA rA σ_3)) (wr := ([] : va_W)) hP (hDD σ_3) hS hFc (bx_ix [b_m cB cC cI cJ cZ oA rA σ_3, b_w cB cC cI cJ cZ oA rA σ_3, b_s cB cC cI cJ cZ oA rA σ_3, b_c cB cC cI cJ cZ oA rA σ_3, b_t cB cC cI cJ cZ oA rA σ_3, b_d cB cC cI cJ cZ oA rA σ_3] [0, 1, 2, 3, 4, 5]) (bx_ix [b_m cB cC cI cJ cZ oA rA σ_3, b_w cB cC cI cJ cZ oA rA σ_3, b_s cB cC cI cJ cZ oA rA σ_3, b_c cB cC cI cJ cZ oA rA σ_3, b_t cB cC cI cJ cZ oA rA σ_3, b_d cB cC cI cJ cZ oA rA σ_3] []) (bx_C (bs := [b_m cB cC cI cJ cZ oA rA σ_3, b_w cB cC cI cJ cZ oA rA σ_3, b_s cB cC cI cJ cZ oA rA σ_3, b_c cB cC cI cJ cZ oA rA σ_3, b_t cB cC cI cJ cZ oA rA σ_3, b_d cB cC cI cJ cZ oA rA σ_3]) (bs' := [b_m cB cC cI cJ cZ oA rA σ_3, b_w cB cC cI cJ cZ oA rA σ_3, b_s cB cC cI cJ cZ oA rA σ_3, b_c cB cC cI cJ cZ oA rA σ_3, b_t cB cC cI cJ cZ oA rA σ_3, b_d cB cC cI cJ cZ oA rA σ_3]) (is := [0, 1, 2, 3, 4, 5]) fl_6 fl_6 rfl) (bx_C (bs := [b_m cB cC cI cJ cZ oA rA σ_3, b_w cB cC cI cJ cZ oA rA σ_3, b_s cB cC cI cJ cZ oA rA σ_3, b_c cB cC cI cJ cZ oA rA σ_3, b_t cB cC cI cJ cZ oA rA σ_3, b_d cB cC cI cJ cZ oA rA σ_3]) (bs' := []) (is := []) fl_6 fl_0 rfl) (bx_n (by decide +kernel)) (bx_d (by decide +kernel)) (va_runV (As := [.int 4, .int p0]) (rest := []) ⟨hx, hb, hml, hown, hts⟩ (k_X4_fail l dC dI cB cC cI cJ cZ cP oA rA H.size  4 p0 σ_3 _ hu_39) (cwV 2 hts (g_gV wq_725 wq_726 wq_2037 wq_4 wq_727) rfl rfl rfl (by decide +kernel) ⟨Nat.le_of_ble_eq_true rfl, Nat.le_of_ble_eq_true rfl⟩) (g_preV g_bl0 hK hPc hDc hS hE hFc g_to0 (q0 := 0) (ci := 4) rfl rfl) rfl rfl hl.1 rfl (lv_room (Nat.le_of_ble_eq_true rfl)) dX4_tellItem_26 ⟨Nat.le_of_ble_eq_true rfl, Nat.le_of_ble_eq_true rfl⟩) (fun u9 H locs hw9 hP' hD' hS => ?_)
    clear hPc hDc hFc
    have hP : va_P (dC, dI) vwCl (b_m cB cC cI cJ cZ oA rA u_39.2 ++ b_w cB cC cI cJ cZ oA rA u_39.2 ++ b_s cB cC cI cJ cZ oA rA u_39.2 ++ b_c cB cC cI cJ cZ oA rA u_39.2 ++ b_t cB cC cI cJ cZ oA rA u_39.2 ++ b_d cB cC cI cJ cZ oA rA u_39.2) H := hP'
    clear hP' hD'
    refine lv_goto (tgt := 122) hx hb dX4_tellItem_29 (by decide) ?_
    have h9 := Option.some.inj hF_40
    subst h9
    exact W.vret hx hb hr (fun t ht hW => ⟨⟨(), rfl, trivial, m_end ht hP, hDD _⟩, hS.F ht⟩) hS.2.2 dX4_tellItem_122
theorem dX4_tellArray_0 : decode cX4_tellArray 0 = .ok (.aload_n 0, 1) := by decide +kernel
theorem dX4_tellArray_1 : decode cX4_tellArray 1 = .ok (.iload_n 1, 1) := by decide +kernel
theorem dX4_tellArray_2 : decode cX4_tellArray 2 = .ok (.iconst 1, 1) := by decide +kernel
theorem dX4_tellArray_3 : decode cX4_tellArray 3 = .ok (.iadd, 1) := by decide +kernel
theorem dX4_tellArray_4 : decode cX4_tellArray 4 = .ok (.iconst 5, 1) := by decide +kernel
theorem dX4_tellArray_5 : decode cX4_tellArray 5 = .ok (.iconst 3, 1) := by decide +kernel
theorem dX4_tellArray_6 : decode cX4_tellArray 6 = .ok (.bipush 20, 2) := by decide +kernel
theorem dX4_tellArray_8 : decode cX4_tellArray 8 = .ok (.invokevirtual 138, 3) := by decide +kernel
theorem dX4_tellArray_11 : decode cX4_tellArray 11 = .ok (.aload_n 0, 1) := by decide +kernel
theorem dX4_tellArray_12 : decode cX4_tellArray 12 = .ok (.getfield 32, 3) := by decide +kernel
theorem dX4_tellArray_15 : decode cX4_tellArray 15 = .ok (.iload_n 1, 1) := by decide +kernel
theorem dX4_tellArray_16 : decode cX4_tellArray 16 = .ok (.iconst 3, 1) := by decide +kernel
theorem dX4_tellArray_17 : decode cX4_tellArray 17 = .ok (.iadd, 1) := by decide +kernel
theorem dX4_tellArray_18 : decode cX4_tellArray 18 = .ok (.invokevirtual 119, 3) := by decide +kernel
theorem dX4_tellArray_21 : decode cX4_tellArray 21 = .ok (.istore_n 2, 1) := by decide +kernel
theorem dX4_tellArray_22 : decode cX4_tellArray 22 = .ok (.aload_n 0, 1) := by decide +kernel
theorem dX4_tellArray_23 : decode cX4_tellArray 23 = .ok (.getfield 36, 3) := by decide +kernel
theorem dX4_tellArray_26 : decode cX4_tellArray 26 = .ok (.getfield 165, 3) := by decide +kernel
theorem dX4_tellArray_29 : decode cX4_tellArray 29 = .ok (.iconst 3, 1) := by decide +kernel
theorem dX4_tellArray_30 : decode cX4_tellArray 30 = .ok (.invokestatic 122, 3) := by decide +kernel
theorem dX4_tellArray_33 : decode cX4_tellArray 33 = .ok (.iconst 1, 1) := by decide +kernel
theorem dX4_tellArray_34 : decode cX4_tellArray 34 = .ok (.isub, 1) := by decide +kernel
theorem dX4_tellArray_35 : decode cX4_tellArray 35 = .ok (.istore_n 3, 1) := by decide +kernel
theorem dX4_tellArray_36 : decode cX4_tellArray 36 = .ok (.iload_n 3, 1) := by decide +kernel
theorem dX4_tellArray_37 : decode cX4_tellArray 37 = .ok (.ifCond .le 19, 3) := by decide +kernel
theorem dX4_tellArray_40 : decode cX4_tellArray 40 = .ok (.aload_n 0, 1) := by decide +kernel
theorem dX4_tellArray_41 : decode cX4_tellArray 41 = .ok (.getfield 36, 3) := by decide +kernel
theorem dX4_tellArray_44 : decode cX4_tellArray 44 = .ok (.getfield 171, 3) := by decide +kernel
theorem dX4_tellArray_47 : decode cX4_tellArray 47 = .ok (.iload_n 3, 1) := by decide +kernel
theorem dX4_tellArray_48 : decode cX4_tellArray 48 = .ok (.iconst 1, 1) := by decide +kernel
theorem dX4_tellArray_49 : decode cX4_tellArray 49 = .ok (.isub, 1) := by decide +kernel
theorem dX4_tellArray_50 : decode cX4_tellArray 50 = .ok (.invokestatic 122, 3) := by decide +kernel
theorem dX4_tellArray_53 : decode cX4_tellArray 53 = .ok (.goto 4, 3) := by decide +kernel
theorem dX4_tellArray_56 : decode cX4_tellArray 56 = .ok (.iconst 0, 1) := by decide +kernel
theorem dX4_tellArray_57 : decode cX4_tellArray 57 = .ok (.istore 4, 2) := by decide +kernel
theorem dX4_tellArray_59 : decode cX4_tellArray 59 = .ok (.iload_n 2, 1) := by decide +kernel
theorem dX4_tellArray_60 : decode cX4_tellArray 60 = .ok (.iconst 1, 1) := by decide +kernel
theorem dX4_tellArray_61 : decode cX4_tellArray 61 = .ok (.if_icmp .lt 20, 3) := by decide +kernel
theorem dX4_tellArray_64 : decode cX4_tellArray 64 = .ok (.iload_n 2, 1) := by decide +kernel
theorem dX4_tellArray_65 : decode cX4_tellArray 65 = .ok (.sipush 400, 3) := by decide +kernel
theorem dX4_tellArray_68 : decode cX4_tellArray 68 = .ok (.if_icmp .gt 13, 3) := by decide +kernel
theorem dX4_tellArray_71 : decode cX4_tellArray 71 = .ok (.iload 4, 2) := by decide +kernel
theorem dX4_tellArray_73 : decode cX4_tellArray 73 = .ok (.iload_n 2, 1) := by decide +kernel
theorem dX4_tellArray_74 : decode cX4_tellArray 74 = .ok (.iadd, 1) := by decide +kernel
theorem dX4_tellArray_75 : decode cX4_tellArray 75 = .ok (.sipush 1000, 3) := by decide +kernel
theorem dX4_tellArray_78 : decode cX4_tellArray 78 = .ok (.if_icmp .le 11, 3) := by decide +kernel
theorem dX4_tellArray_81 : decode cX4_tellArray 81 = .ok (.aload_n 0, 1) := by decide +kernel
theorem dX4_tellArray_82 : decode cX4_tellArray 82 = .ok (.iconst 5, 1) := by decide +kernel
theorem dX4_tellArray_83 : decode cX4_tellArray 83 = .ok (.iload_n 1, 1) := by decide +kernel
theorem dX4_tellArray_84 : decode cX4_tellArray 84 = .ok (.iconst 3, 1) := by decide +kernel
theorem dX4_tellArray_85 : decode cX4_tellArray 85 = .ok (.iadd, 1) := by decide +kernel
theorem dX4_tellArray_86 : decode cX4_tellArray 86 = .ok (.invokevirtual 84, 3) := by decide +kernel
theorem dX4_tellArray_89 : decode cX4_tellArray 89 = .ok (.aload_n 0, 1) := by decide +kernel
theorem dX4_tellArray_90 : decode cX4_tellArray 90 = .ok (.getfield 36, 3) := by decide +kernel
theorem dX4_tellArray_93 : decode cX4_tellArray 93 = .ok (.getfield 171, 3) := by decide +kernel
theorem dX4_tellArray_96 : decode cX4_tellArray 96 = .ok (.iload_n 3, 1) := by decide +kernel
theorem dX4_tellArray_97 : decode cX4_tellArray 97 = .ok (.iload 4, 2) := by decide +kernel
theorem dX4_tellArray_99 : decode cX4_tellArray 99 = .ok (.iload_n 2, 1) := by decide +kernel
theorem dX4_tellArray_100 : decode cX4_tellArray 100 = .ok (.iadd, 1) := by decide +kernel
theorem dX4_tellArray_101 : decode cX4_tellArray 101 = .ok (.invokestatic 112, 3) := by decide +kernel
theorem dX4_tellArray_104 : decode cX4_tellArray 104 = .ok (.return_, 1) := by decide +kernel
def F_X4_tellArray (p0 : Int32) (Γ : HS) : HR :=
  (F_X4_tellItem (p0 + 1) 5 3 20 Γ).bind fun u_1 =>
  (F_X10_worthOf (p0 + 3) u_1.2).bind fun u_3 =>
  bnd (mrg (fun j => j == 1) u_1.2 u_3.2) fun σ_5 =>
  bnd ((g_at 7 ((σ_5 4).2.1 0) 3)) fun (x_7 : Int32) =>
  bnd (fun (t_9 : Int32) (σ_10 : HS) => (
    bnd (fun  (σ_14 : HS) => (
      bnd ((t_9 + u_3.1)) fun (x_18 : Int32) =>
      bnd (cA' σ_14 4 12 (g_put 20 ((σ_14 4).2.1 12) (x_7 - 1) x_18)) fun σ_20 =>
      some (0, σ_20)
    ) : HS → HR) fun j_15 =>
    bnd (fun  (σ_22 : HS) => (
      (F_X4_fail 5 (p0 + 3) σ_22).bind fun u_26 =>
      j_15  u_26.2
    ) : HS → HR) fun j_23 =>
    if u_3.1 < 1 then (
      j_23  σ_10
    ) else (
      if 400 < u_3.1 then (
        j_23  σ_10
      ) else (
        if (t_9 + u_3.1) ≤ 1000 then (
          j_15  σ_10
        ) else (
          j_23  σ_10
        )
      )
    )
  ) : Int32 → HS → HR) fun j_11 =>
  if (x_7 - 1) ≤ 0 then (
    j_11 0 σ_5
  ) else (
    bnd (((x_7 - 1) - 1)) fun (x_40 : Int32) =>
    bnd ((g_at 20 ((σ_5 4).2.1 12) x_40)) fun (x_42 : Int32) =>
    j_11 x_42 σ_5
  )
set_option maxHeartbeats 4000000 in
set_option maxRecDepth 100000 in
theorem k_X4_tellArray (l : Launch) (dC : Nat → ClassId) (dI : Nat → Nat → Nat) (cB cC cI cJ cZ cP : ClassId) (oA : Nat → Nat) (rA : Nat → Nat → Nat) (sz : Nat)  (p0 : Int32) (Γ : HS) (res : Int32 × HS) (hF : F_X4_tellArray p0 Γ = some res) : Met l yX4_tellArray (g_ws yX4_tellArray cX4_tellArray 5 none) ({ frames := 6, cells := 0, slots := 0, locals := 149 }) (va_Pc [.ref (oA 3), .int p0] (g_B (dC, dI) [(cB, .byte), (cC, .char), (cI, .int), (cJ, .long), (cZ, .boolean), (cP, .object "StoryHouse$Play")] sz (b_m cB cC cI cJ cZ oA rA Γ ++ b_w cB cC cI cJ cZ oA rA Γ ++ b_s cB cC cI cJ cZ oA rA Γ ++ b_c cB cC cI cJ cZ oA rA Γ ++ b_t cB cC cI cJ cZ oA rA Γ ++ b_d cB cC cI cJ cZ oA rA Γ) g_0)) (va_Qv (fun (_ : Unit) => True) (g_Bo (dC, dI) (va_A (b_m cB cC cI cJ cZ oA rA Γ ++ b_w cB cC cI cJ cZ oA rA Γ ++ b_s cB cC cI cJ cZ oA rA Γ ++ b_c cB cC cI cJ cZ oA rA Γ ++ b_t cB cC cI cJ cZ oA rA Γ ++ b_d cB cC cI cJ cZ oA rA Γ) sz) (fun (_ : Unit) => (b_m cB cC cI cJ cZ oA rA res.2 ++ b_w cB cC cI cJ cZ oA rA res.2 ++ b_s cB cC cI cJ cZ oA rA res.2 ++ b_c cB cC cI cJ cZ oA rA res.2 ++ b_t cB cC cI cJ cZ oA rA res.2 ++ b_d cB cC cI cJ cZ oA rA res.2))) (va_A (b_m cB cC cI cJ cZ oA rA Γ ++ b_w cB cC cI cJ cZ oA rA Γ ++ b_s cB cC cI cJ cZ oA rA Γ ++ b_c cB cC cI cJ cZ oA rA Γ ++ b_t cB cC cI cJ cZ oA rA Γ ++ b_d cB cC cI cJ cZ oA rA Γ) sz)) 0 0 (va_A (b_m cB cC cI cJ cZ oA rA Γ ++ b_w cB cC cI cJ cZ oA rA Γ ++ b_s cB cC cI cJ cZ oA rA Γ ++ b_c cB cC cI cJ cZ oA rA Γ ++ b_t cB cC cI cJ cZ oA rA Γ ++ b_d cB cC cI cJ cZ oA rA Γ) sz) := by
  refine Met.ofW (cc := cX4_tellArray) (maxL := 5) (ret := none) (by decide) rfl ?_
  intro p e s m args below meth c s₁ B hml hv
  obtain ⟨rfl, hsz, hP, hK, hD0, hE, hX⟩ := hv
  have hx := B.exec
  have hb := B.bytes
  have hr := B.returns
  have hts0 := atoms_spec (ws := g_ws yX4_tellArray cX4_tellArray 5 none) B.pre
  have hts : ∀ w ∈ lw_good, w.before ([.ref (oA 3), .int p0] : List Value).toArray s = true := fun w z => hts0 w (List.mem_cons_of_mem _ z)
  have hown : s.vm.findClass RX4 = some m.cls := findClass_of_methodNamed B.named
  have hlocks := B.notSynchronized
  subst hsz
  have hD1 := hD0.self (sz := s.heap.size)
  generalize hAe : va_A (b_m cB cC cI cJ cZ oA rA Γ ++ b_w cB cC cI cJ cZ oA rA Γ ++ b_s cB cC cI cJ cZ oA rA Γ ++ b_c cB cC cI cJ cZ oA rA Γ ++ b_t cB cC cI cJ cZ oA rA Γ ++ b_d cB cC cI cJ cZ oA rA Γ) s.heap.size = A at hD1 hE hX ⊢
  have hA : ∀ q : Nat, s.heap.size ≤ q → A q := fun q z => by rw [← hAe]; exact Or.inr z
  have hDD : ∀ Γ : HS, va_D A (b_m cB cC cI cJ cZ oA rA Γ ++ b_w cB cC cI cJ cZ oA rA Γ ++ b_s cB cC cI cJ cZ oA rA Γ ++ b_c cB cC cI cJ cZ oA rA Γ ++ b_t cB cC cI cJ cZ oA rA Γ ++ b_d cB cC cI cJ cZ oA rA Γ) := fun Γ9 => va_D_fst (ws := (b_m cB cC cI cJ cZ oA rA Γ ++ b_w cB cC cI cJ cZ oA rA Γ ++ b_s cB cC cI cJ cZ oA rA Γ ++ b_c cB cC cI cJ cZ oA rA Γ ++ b_t cB cC cI cJ cZ oA rA Γ ++ b_d cB cC cI cJ cZ oA rA Γ)) (ws' := (b_m cB cC cI cJ cZ oA rA Γ9 ++ b_w cB cC cI cJ cZ oA rA Γ9 ++ b_s cB cC cI cJ cZ oA rA Γ9 ++ b_c cB cC cI cJ cZ oA rA Γ9 ++ b_t cB cC cI cJ cZ oA rA Γ9 ++ b_d cB cC cI cJ cZ oA rA Γ9)) rfl hD1
  have hN := hE.1
  have hS : va_S A s.heap s.heap [] := va_S.rf
  have hl := lv_entry ([.ref (oA 3), .int p0]) (n := 5) (Nat.le_of_ble_eq_true rfl)
  rw [lg_entry_eq]
  generalize (lg_sl ([.ref (oA 3), .int p0]) ++ List.replicate (5 - (lg_sl ([.ref (oA 3), .int p0])).length) Slot.unset).toArray = ls at hl ⊢
  have hl : lv_has ls 5 [(0, .ref (oA 3)), (1, .int p0)] := hl
  unfold F_X4_tellArray at hF
  refine lv_aload_n hx hb dX4_tellArray_0 rfl (lv_at hl 0 rfl) ?_
  refine lv_iload_n hx hb dX4_tellArray_1 rfl (lv_at hl 1 rfl) ?_
  refine lv_iconst (v := 1) hx hb dX4_tellArray_2 (by decide +kernel) ?_
  refine lv_iadd hx hb dX4_tellArray_3 ?_
  refine lv_iconst (v := 5) hx hb dX4_tellArray_4 (by decide +kernel) ?_
  refine lv_iconst (v := 3) hx hb dX4_tellArray_5 (by decide +kernel) ?_
  refine lv_bipush (v := 20) hx hb dX4_tellArray_6 (by decide +kernel) ?_
  obtain ⟨u_1, hu_1, hF_2⟩ := Option.bind_eq_some_iff.mp hF
  clear hF
  have hPc := bx_P (bs := [b_m cB cC cI cJ cZ oA rA Γ, b_w cB cC cI cJ cZ oA rA Γ, b_s cB cC cI cJ cZ oA rA Γ, b_c cB cC cI cJ cZ oA rA Γ, b_t cB cC cI cJ cZ oA rA Γ, b_d cB cC cI cJ cZ oA rA Γ]) (bs' := [b_m cB cC cI cJ cZ oA rA Γ, b_w cB cC cI cJ cZ oA rA Γ, b_s cB cC cI cJ cZ oA rA Γ, b_c cB cC cI cJ cZ oA rA Γ, b_t cB cC cI cJ cZ oA rA Γ, b_d cB cC cI cJ cZ oA rA Γ]) (ws' := (b_m cB cC cI cJ cZ oA rA Γ ++ b_w cB cC cI cJ cZ oA rA Γ ++ b_s cB cC cI cJ cZ oA rA Γ ++ b_c cB cC cI cJ cZ oA rA Γ ++ b_t cB cC cI cJ cZ oA rA Γ ++ b_d cB cC cI cJ cZ oA rA Γ)) hP fl_6 fl_6 [0, 1, 2, 3, 4, 5] rfl
  have hDc := bx_D (bs := [b_m cB cC cI cJ cZ oA rA Γ, b_w cB cC cI cJ cZ oA rA Γ, b_s cB cC cI cJ cZ oA rA Γ, b_c cB cC cI cJ cZ oA rA Γ, b_t cB cC cI cJ cZ oA rA Γ, b_d cB cC cI cJ cZ oA rA Γ]) (bs' := [b_m cB cC cI cJ cZ oA rA Γ, b_w cB cC cI cJ cZ oA rA Γ, b_s cB cC cI cJ cZ oA rA Γ, b_c cB cC cI cJ cZ oA rA Γ, b_t cB cC cI cJ cZ oA rA Γ, b_d cB cC cI cJ cZ oA rA Γ]) (ws' := (b_m cB cC cI cJ cZ oA rA Γ ++ b_w cB cC cI cJ cZ oA rA Γ ++ b_s cB cC cI cJ cZ oA rA Γ ++ b_c cB cC cI cJ cZ oA rA Γ ++ b_t cB cC cI cJ cZ oA rA Γ ++ b_d cB cC cI cJ cZ oA rA Γ)) (hDD Γ) fl_6 fl_6 [0, 1, 2, 3, 4, 5] (by decide +kernel) rfl
  have hFc := bx_F (bs := [b_m cB cC cI cJ cZ oA rA Γ, b_w cB cC cI cJ cZ oA rA Γ, b_s cB cC cI cJ cZ oA rA Γ, b_c cB cC cI cJ cZ oA rA Γ, b_t cB cC cI cJ cZ oA rA Γ, b_d cB cC cI cJ cZ oA rA Γ]) (bs' := [b_m cB cC cI cJ cZ oA rA Γ, b_w cB cC cI cJ cZ oA rA Γ, b_s cB cC cI cJ cZ oA rA Γ, b_c cB cC cI cJ cZ oA rA Γ, b_t cB cC cI cJ cZ oA rA Γ, b_d cB cC cI cJ cZ oA rA Γ]) (wc := (b_m cB cC cI cJ cZ oA rA Γ ++ b_w cB cC cI cJ cZ oA rA Γ ++ b_s cB cC cI cJ cZ oA rA Γ ++ b_c cB cC cI cJ cZ oA rA Γ ++ b_t cB cC cI cJ cZ oA rA Γ ++ b_d cB cC cI cJ cZ oA rA Γ)) (hDD Γ) hS hA fl_6 fl_6 [0, 1, 2, 3, 4, 5] rfl
  refine g_ofv (wc := (b_m cB cC cI cJ cZ oA rA Γ ++ b_w cB cC cI cJ cZ oA rA Γ ++ b_s cB cC cI cJ cZ oA rA Γ ++ b_c cB cC cI cJ cZ oA rA Γ ++ b_t cB cC cI cJ cZ oA rA Γ ++ b_d cB cC cI cJ cZ oA rA Γ)) (wr := ([] : va_W)) hP (hDD Γ) hS hFc (bx_ix [b_m cB cC cI cJ cZ oA rA Γ, b_w cB cC cI cJ cZ oA rA Γ, b_s cB cC cI cJ cZ oA rA Γ, b_c cB cC cI cJ cZ oA rA Γ, b_t cB cC cI cJ cZ oA rA Γ, b_d cB cC cI cJ cZ oA rA Γ] [0, 1, 2, 3, 4, 5]) (bx_ix [b_m cB cC cI cJ cZ oA rA Γ, b_w cB cC cI cJ cZ oA rA Γ, b_s cB cC cI cJ cZ oA rA Γ, b_c cB cC cI cJ cZ oA rA Γ, b_t cB cC cI cJ cZ oA rA Γ, b_d cB cC cI cJ cZ oA rA Γ] []) (bx_C (bs := [b_m cB cC cI cJ cZ oA rA Γ, b_w cB cC cI cJ cZ oA rA Γ, b_s cB cC cI cJ cZ oA rA Γ, b_c cB cC cI cJ cZ oA rA Γ, b_t cB cC cI cJ cZ oA rA Γ, b_d cB cC cI cJ cZ oA rA Γ]) (bs' := [b_m cB cC cI cJ cZ oA rA Γ, b_w cB cC cI cJ cZ oA rA Γ, b_s cB cC cI cJ cZ oA rA Γ, b_c cB cC cI cJ cZ oA rA Γ, b_t cB cC cI cJ cZ oA rA Γ, b_d cB cC cI cJ cZ oA rA Γ]) (is := [0, 1, 2, 3, 4, 5]) fl_6 fl_6 rfl) (bx_C (bs := [b_m cB cC cI cJ cZ oA rA Γ, b_w cB cC cI cJ cZ oA rA Γ, b_s cB cC cI cJ cZ oA rA Γ, b_c cB cC cI cJ cZ oA rA Γ, b_t cB cC cI cJ cZ oA rA Γ, b_d cB cC cI cJ cZ oA rA Γ]) (bs' := []) (is := []) fl_6 fl_0 rfl) (bx_n (by decide +kernel)) (bx_d (by decide +kernel)) (va_runV (As := [.int (p0 + 1), .int 5, .int 3, .int 20]) (rest := []) ⟨hx, hb, hml, hown, hts⟩ (k_X4_tellItem l dC dI cB cC cI cJ cZ cP oA rA s.heap.size  (p0 + 1) 5 3 20 Γ _ hu_1) (cwV 4 hts (g_gV wq_722 wq_723 wq_2036 wq_4 wq_724) rfl rfl rfl (by decide +kernel) ⟨Nat.le_of_ble_eq_true rfl, Nat.le_of_ble_eq_true rfl⟩) (g_preV g_bl0 hK hPc hDc hS hE hFc g_to0 (q0 := 0) (ci := 4) rfl rfl) rfl rfl hl.1 rfl (lv_room (Nat.le_of_ble_eq_true rfl)) dX4_tellArray_8 ⟨Nat.le_of_ble_eq_true rfl, Nat.le_of_ble_eq_true rfl⟩) (fun u9 H locs hw9 hP' hD' hS => ?_)
  clear hPc hDc hFc
  have hP : va_P (dC, dI) vwCl (b_m cB cC cI cJ cZ oA rA u_1.2 ++ b_w cB cC cI cJ cZ oA rA u_1.2 ++ b_s cB cC cI cJ cZ oA rA u_1.2 ++ b_c cB cC cI cJ cZ oA rA u_1.2 ++ b_t cB cC cI cJ cZ oA rA u_1.2 ++ b_d cB cC cI cJ cZ oA rA u_1.2) H := hP'
  clear hP' hD'
  refine lv_aload_n hx hb dX4_tellArray_11 rfl (lv_at hl 0 rfl) ?_
  refine va_get (D := (dC, dI)) (ci := 4) (v := .ref (oA 1)) (C := RX4) (T := TX4) (N := 18) hx hb hts ii_X4 hown hK hP 0 rfl rfl 0 (by decide) (hts (.fieldLink RX4 32 "StoryHouse$Meanings" "words" "LStoryHouse$Words;") wq_86) (fun _ h9 => h9) rfl dX4_tellArray_12 ?_
  refine lv_iload_n hx hb dX4_tellArray_15 rfl (lv_at hl 1 rfl) ?_
  refine lv_iconst (v := 3) hx hb dX4_tellArray_16 (by decide +kernel) ?_
  refine lv_iadd hx hb dX4_tellArray_17 ?_
  obtain ⟨u_3, hu_3, hF_4⟩ := Option.bind_eq_some_iff.mp hF_2
  clear hF_2
  have hPc := bx_P (bs := [b_m cB cC cI cJ cZ oA rA u_1.2, b_w cB cC cI cJ cZ oA rA u_1.2, b_s cB cC cI cJ cZ oA rA u_1.2, b_c cB cC cI cJ cZ oA rA u_1.2, b_t cB cC cI cJ cZ oA rA u_1.2, b_d cB cC cI cJ cZ oA rA u_1.2]) (bs' := [b_w cB cC cI cJ cZ oA rA u_1.2]) (ws' := (b_w cB cC cI cJ cZ oA rA u_1.2)) hP fl_6 fl_1 [1] rfl
  have hDc := bx_D (bs := [b_m cB cC cI cJ cZ oA rA u_1.2, b_w cB cC cI cJ cZ oA rA u_1.2, b_s cB cC cI cJ cZ oA rA u_1.2, b_c cB cC cI cJ cZ oA rA u_1.2, b_t cB cC cI cJ cZ oA rA u_1.2, b_d cB cC cI cJ cZ oA rA u_1.2]) (bs' := [b_w cB cC cI cJ cZ oA rA u_1.2]) (ws' := (b_w cB cC cI cJ cZ oA rA u_1.2)) (hDD u_1.2) fl_6 fl_1 [1] (by decide +kernel) rfl
  have hFc := bx_F (bs := [b_m cB cC cI cJ cZ oA rA u_1.2, b_w cB cC cI cJ cZ oA rA u_1.2, b_s cB cC cI cJ cZ oA rA u_1.2, b_c cB cC cI cJ cZ oA rA u_1.2, b_t cB cC cI cJ cZ oA rA u_1.2, b_d cB cC cI cJ cZ oA rA u_1.2]) (bs' := [b_w cB cC cI cJ cZ oA rA u_1.2]) (wc := (b_w cB cC cI cJ cZ oA rA u_1.2)) (hDD u_1.2) hS hA fl_6 fl_1 [1] rfl
  refine g_ofi (wc := (b_w cB cC cI cJ cZ oA rA u_1.2)) (wr := (b_m cB cC cI cJ cZ oA rA u_1.2 ++ b_s cB cC cI cJ cZ oA rA u_1.2 ++ b_c cB cC cI cJ cZ oA rA u_1.2 ++ b_t cB cC cI cJ cZ oA rA u_1.2 ++ b_d cB cC cI cJ cZ oA rA u_1.2)) hP (hDD u_1.2) hS hFc (bx_ix [b_m cB cC cI cJ cZ oA rA u_1.2, b_w cB cC cI cJ cZ oA rA u_1.2, b_s cB cC cI cJ cZ oA rA u_1.2, b_c cB cC cI cJ cZ oA rA u_1.2, b_t cB cC cI cJ cZ oA rA u_1.2, b_d cB cC cI cJ cZ oA rA u_1.2] [1]) (bx_ix [b_m cB cC cI cJ cZ oA rA u_1.2, b_w cB cC cI cJ cZ oA rA u_1.2, b_s cB cC cI cJ cZ oA rA u_1.2, b_c cB cC cI cJ cZ oA rA u_1.2, b_t cB cC cI cJ cZ oA rA u_1.2, b_d cB cC cI cJ cZ oA rA u_1.2] [0, 2, 3, 4, 5]) (bx_C (bs := [b_m cB cC cI cJ cZ oA rA u_1.2, b_w cB cC cI cJ cZ oA rA u_1.2, b_s cB cC cI cJ cZ oA rA u_1.2, b_c cB cC cI cJ cZ oA rA u_1.2, b_t cB cC cI cJ cZ oA rA u_1.2, b_d cB cC cI cJ cZ oA rA u_1.2]) (bs' := [b_w cB cC cI cJ cZ oA rA u_1.2]) (is := [1]) fl_6 fl_1 rfl) (bx_C (bs := [b_m cB cC cI cJ cZ oA rA u_1.2, b_w cB cC cI cJ cZ oA rA u_1.2, b_s cB cC cI cJ cZ oA rA u_1.2, b_c cB cC cI cJ cZ oA rA u_1.2, b_t cB cC cI cJ cZ oA rA u_1.2, b_d cB cC cI cJ cZ oA rA u_1.2]) (bs' := [b_m cB cC cI cJ cZ oA rA u_1.2, b_s cB cC cI cJ cZ oA rA u_1.2, b_c cB cC cI cJ cZ oA rA u_1.2, b_t cB cC cI cJ cZ oA rA u_1.2, b_d cB cC cI cJ cZ oA rA u_1.2]) (is := [0, 2, 3, 4, 5]) fl_6 fl_5 rfl) (bx_n (by decide +kernel)) (bx_d (by decide +kernel)) (va_runV (As := [.int (p0 + 3)]) (rest := []) ⟨hx, hb, hml, hown, hts⟩ (k_X10_worthOf l dC dI cB cC cI cJ cZ cP oA rA H.size  (p0 + 3) u_1.2 _ hu_3) (cwV 1 hts (g_gV wq_715 wq_653 wq_654 wq_2 wq_655) rfl rfl rfl (by decide +kernel) ⟨Nat.le_of_ble_eq_true rfl, Nat.le_of_ble_eq_true rfl⟩) (g_preV g_bl0 hK hPc hDc hS hE hFc g_to0 (q0 := 0) (ci := 10) rfl rfl) rfl rfl hl.1 rfl (lv_room (Nat.le_of_ble_eq_true rfl)) dX4_tellArray_18 ⟨Nat.le_of_ble_eq_true rfl, Nat.le_of_ble_eq_true rfl⟩) (fun r9 u9 H locs hw9 hP' hD' hS => ?_)
  clear hPc hDc hFc
  subst hw9
  obtain ⟨σ_5, eσ_5, hF_6⟩ := bnd_e hF_4
  clear hF_4
  have hP : va_P (dC, dI) vwCl (b_m cB cC cI cJ cZ oA rA σ_5 ++ b_w cB cC cI cJ cZ oA rA σ_5 ++ b_s cB cC cI cJ cZ oA rA σ_5 ++ b_c cB cC cI cJ cZ oA rA σ_5 ++ b_t cB cC cI cJ cZ oA rA σ_5 ++ b_d cB cC cI cJ cZ oA rA σ_5) H := by rw [eσ_5]; exact bx_P (bs := [b_m cB cC cI cJ cZ oA rA u_1.2, b_s cB cC cI cJ cZ oA rA u_1.2, b_c cB cC cI cJ cZ oA rA u_1.2, b_t cB cC cI cJ cZ oA rA u_1.2, b_d cB cC cI cJ cZ oA rA u_1.2] ++ [b_w cB cC cI cJ cZ oA rA u_3.2]) (bs' := [b_m cB cC cI cJ cZ oA rA (mrg (fun j => j == 1) u_1.2 u_3.2), b_w cB cC cI cJ cZ oA rA (mrg (fun j => j == 1) u_1.2 u_3.2), b_s cB cC cI cJ cZ oA rA (mrg (fun j => j == 1) u_1.2 u_3.2), b_c cB cC cI cJ cZ oA rA (mrg (fun j => j == 1) u_1.2 u_3.2), b_t cB cC cI cJ cZ oA rA (mrg (fun j => j == 1) u_1.2 u_3.2), b_d cB cC cI cJ cZ oA rA (mrg (fun j => j == 1) u_1.2 u_3.2)]) hP' (fl_a fl_5 fl_1) fl_6 [0, 5, 1, 2, 3, 4] rfl
  clear hP' hD'
  refine lv_istore_n (lv' := [(2, .int u_3.1), (0, .ref (oA 3)), (1, .int p0)]) hx hb dX4_tellArray_21 rfl hl (by decide) rfl (fun ls hl => ?_)
  refine lv_aload_n hx hb dX4_tellArray_22 rfl (lv_at hl 1 rfl) ?_
  refine va_get (D := (dC, dI)) (ci := 4) (v := .ref (oA 4)) (C := RX4) (T := TX4) (N := 18) hx hb hts ii_X4 hown hK hP 0 rfl rfl 1 (by decide) (hts (.fieldLink RX4 36 "StoryHouse$Meanings" "story" "LStoryHouse$Story;") wq_87) (fun _ h9 => h9) rfl dX4_tellArray_23 ?_
  refine va_get (D := (dC, dI)) (ci := 7) (v := .ref (rA 4 0)) (C := RX7) (T := TX7) (N := 19) hx hb hts ii_X7 hown hK hP 16 rfl rfl 0 (by decide) (hts (.fieldLink RX4 165 "StoryHouse$Story" "counts" "[I") wq_154) (fun _ h9 => h9) rfl dX4_tellArray_26 ?_
  refine lv_iconst (v := 3) hx hb dX4_tellArray_29 (by decide +kernel) ?_
  have hq9 : ((b_m cB cC cI cJ cZ oA rA σ_5 ++ b_w cB cC cI cJ cZ oA rA σ_5 ++ b_s cB cC cI cJ cZ oA rA σ_5 ++ b_c cB cC cI cJ cZ oA rA σ_5 ++ b_t cB cC cI cJ cZ oA rA σ_5 ++ b_d cB cC cI cJ cZ oA rA σ_5))[17]? = some (rA 4 0, .inl (cI, 7, .inl ((σ_5 4).2.1 0))) := rfl
  have hPc := hP.sub (ws' := [(rA 4 0, .inl (cI, 7, .inl ((σ_5 4).2.1 0)))]) [17] (pk_fm (er_C hq9))
  have hDc := (hDD σ_5).sub (ws' := [(rA 4 0, .inl (cI, 7, .inl ((σ_5 4).2.1 0)))]) [17] (by decide +kernel) (er_C hq9)
  have hFc := va_free (wc := [(rA 4 0, .inl (cI, 7, .inl ((σ_5 4).2.1 0)))]) (hDD σ_5) hS hA [17] (er_C hq9)
  refine g_ofi (wc := [(rA 4 0, .inl (cI, 7, .inl ((σ_5 4).2.1 0)))]) (wr := (((b_m cB cC cI cJ cZ oA rA σ_5 ++ b_w cB cC cI cJ cZ oA rA σ_5 ++ b_s cB cC cI cJ cZ oA rA σ_5 ++ b_c cB cC cI cJ cZ oA rA σ_5 ++ b_t cB cC cI cJ cZ oA rA σ_5 ++ b_d cB cC cI cJ cZ oA rA σ_5)).eraseIdx 17)) hP (hDD σ_5) hS hFc [17] ((List.range ((b_m cB cC cI cJ cZ oA rA σ_5 ++ b_w cB cC cI cJ cZ oA rA σ_5 ++ b_s cB cC cI cJ cZ oA rA σ_5 ++ b_c cB cC cI cJ cZ oA rA σ_5 ++ b_t cB cC cI cJ cZ oA rA σ_5 ++ b_d cB cC cI cJ cZ oA rA σ_5)).length).eraseIdx 17) (er_C hq9) er_R er_n er_d (va_runSN (As := [.ref (rA 4 0), .int 3]) (rest := []) ⟨hx, hb, hml, hown, hts⟩ (c_X11_at l dC dI cB cC cI cJ cZ cP H.size (rA 4 0) 3 7 ((σ_5 4).2.1 0) (by decide)) ⟨va_cnB 2 hts (g_gA wq_407) rfl rfl rfl (nw_24 hN) (hts (.initialized RX11) wq_1) (by decide +kernel) ⟨Nat.le_of_ble_eq_true rfl, Nat.le_of_ble_eq_true rfl⟩, (hts (.static yX11_at) wq_406), trivial⟩ (g_preS g_bl0 hK hPc hDc hS hE hFc g_to0) rfl rfl hl.1 rfl (lv_room (Nat.le_of_ble_eq_true rfl)) dX4_tellArray_30 ⟨Nat.le_of_ble_eq_true rfl, Nat.le_of_ble_eq_true rfl⟩) (fun r9 u9 H locs hw9 hP' hD' hS => ?_)
  clear hPc hDc hFc hD'
  have hP : va_P (dC, dI) vwCl (b_m cB cC cI cJ cZ oA rA σ_5 ++ b_w cB cC cI cJ cZ oA rA σ_5 ++ b_s cB cC cI cJ cZ oA rA σ_5 ++ b_c cB cC cI cJ cZ oA rA σ_5 ++ b_t cB cC cI cJ cZ oA rA σ_5 ++ b_d cB cC cI cJ cZ oA rA σ_5) H := er_I hP' hq9
  clear hP' hq9
  subst hw9
  obtain ⟨x_7, ex_7, hF_8⟩ := bnd_e hF_6
  clear hF_6
  refine m_top ex_7 ?_
  refine lv_iconst (v := 1) hx hb dX4_tellArray_33 (by decide +kernel) ?_
  refine lv_isub hx hb dX4_tellArray_34 ?_
  refine lv_istore_n (lv' := [(3, .int (x_7 - 1)), (2, .int u_3.1), (0, .ref (oA 3)), (1, .int p0)]) hx hb dX4_tellArray_35 rfl hl (by decide) rfl (fun ls hl => ?_)
  refine lv_iload_n hx hb dX4_tellArray_36 rfl (lv_at hl 0 rfl) ?_
  obtain ⟨j_11, ej_11, hF_12⟩ := bnd_e hF_8
  clear hF_8
  have Jj_11 : ∀ (t_9 : Int32) (σ_10 : HS), j_11 t_9 σ_10 = some res → ∀ (H : Heap) (locs : List Loc), va_P (dC, dI) vwCl (b_m cB cC cI cJ cZ oA rA σ_10 ++ b_w cB cC cI cJ cZ oA rA σ_10 ++ b_s cB cC cI cJ cZ oA rA σ_10 ++ b_c cB cC cI cJ cZ oA rA σ_10 ++ b_t cB cC cI cJ cZ oA rA σ_10 ++ b_d cB cC cI cJ cZ oA rA σ_10) H → va_S A s.heap H locs → ∀ ls : Array Slot, lv_has ls 5 [(0, .ref (oA 3)), (1, .int p0), (2, .int u_3.1), (3, .int (x_7 - 1))] → W p l e (headSpec (g_ws yX4_tellArray cX4_tellArray 5 none) { frames := 6, cells := 0, slots := 0, locals := 149 }).room s m ([.ref (oA 3), .int p0] : List Value).toArray below meth c H locs 0 0 (MQ below (va_Qv (fun (_ : Unit) => True) (g_Bo (dC, dI) A (fun (_ : Unit) => (b_m cB cC cI cJ cZ oA rA res.2 ++ b_w cB cC cI cJ cZ oA rA res.2 ++ b_s cB cC cI cJ cZ oA rA res.2 ++ b_c cB cC cI cJ cZ oA rA res.2 ++ b_t cB cC cI cJ cZ oA rA res.2 ++ b_d cB cC cI cJ cZ oA rA res.2))) A) ([.ref (oA 3), .int p0] : List Value).toArray s 0 0 A) (F0 m 57 ls [.int t_9]) := by
    intro t_9 σ_10 hF0 H locs hP hS ls hl
    subst ej_11
    have hF_13 := hF0
    clear hF0
    refine lv_istore (lv' := [(4, .int t_9), (0, .ref (oA 3)), (1, .int p0), (2, .int u_3.1), (3, .int (x_7 - 1))]) hx hb dX4_tellArray_57 hl (by decide) rfl (fun ls hl => ?_)
    refine lv_iload_n hx hb dX4_tellArray_59 rfl (lv_at hl 3 rfl) ?_
    refine lv_iconst (v := 1) hx hb dX4_tellArray_60 (by decide +kernel) ?_
    obtain ⟨j_15, ej_15, hF_16⟩ := bnd_e hF_13
    clear hF_13
    have Jj_15 : ∀  (σ_14 : HS), j_15  σ_14 = some res → ∀ (H : Heap) (locs : List Loc), va_P (dC, dI) vwCl (b_m cB cC cI cJ cZ oA rA σ_14 ++ b_w cB cC cI cJ cZ oA rA σ_14 ++ b_s cB cC cI cJ cZ oA rA σ_14 ++ b_c cB cC cI cJ cZ oA rA σ_14 ++ b_t cB cC cI cJ cZ oA rA σ_14 ++ b_d cB cC cI cJ cZ oA rA σ_14) H → va_S A s.heap H locs → ∀ ls : Array Slot, lv_has ls 5 [(0, .ref (oA 3)), (2, .int u_3.1), (3, .int (x_7 - 1)), (4, .int t_9)] → W p l e (headSpec (g_ws yX4_tellArray cX4_tellArray 5 none) { frames := 6, cells := 0, slots := 0, locals := 149 }).room s m ([.ref (oA 3), .int p0] : List Value).toArray below meth c H locs 0 0 (MQ below (va_Qv (fun (_ : Unit) => True) (g_Bo (dC, dI) A (fun (_ : Unit) => (b_m cB cC cI cJ cZ oA rA res.2 ++ b_w cB cC cI cJ cZ oA rA res.2 ++ b_s cB cC cI cJ cZ oA rA res.2 ++ b_c cB cC cI cJ cZ oA rA res.2 ++ b_t cB cC cI cJ cZ oA rA res.2 ++ b_d cB cC cI cJ cZ oA rA res.2))) A) ([.ref (oA 3), .int p0] : List Value).toArray s 0 0 A) (F0 m 89 ls []) := by
      intro  σ_14 hF0 H locs hP hS ls hl
      subst ej_15
      have hF_17 := hF0
      clear hF0
      refine lv_aload_n hx hb dX4_tellArray_89 rfl (lv_at hl 0 rfl) ?_
      refine va_get (D := (dC, dI)) (ci := 4) (v := .ref (oA 4)) (C := RX4) (T := TX4) (N := 18) hx hb hts ii_X4 hown hK hP 0 rfl rfl 1 (by decide) (hts (.fieldLink RX4 36 "StoryHouse$Meanings" "story" "LStoryHouse$Story;") wq_87) (fun _ h9 => h9) rfl dX4_tellArray_90 ?_
      refine va_get (D := (dC, dI)) (ci := 7) (v := .ref (rA 4 12)) (C := RX7) (T := TX7) (N := 19) hx hb hts ii_X7 hown hK hP 16 rfl rfl 12 (by decide) (hts (.fieldLink RX4 171 "StoryHouse$Story" "cellEnds" "[I") wq_182) (fun _ h9 => h9) rfl dX4_tellArray_93 ?_
      refine lv_iload_n hx hb dX4_tellArray_96 rfl (lv_at hl 2 rfl) ?_
      refine lv_iload hx hb dX4_tellArray_97 (lv_at hl 3 rfl) ?_
      refine lv_iload_n hx hb dX4_tellArray_99 rfl (lv_at hl 1 rfl) ?_
      refine lv_iadd hx hb dX4_tellArray_100 ?_
      obtain ⟨x_18, ex_18, hF_19⟩ := bnd_e hF_17
      clear hF_17
      refine m_top ex_18 ?_
      have hq9 : ((b_m cB cC cI cJ cZ oA rA σ_14 ++ b_w cB cC cI cJ cZ oA rA σ_14 ++ b_s cB cC cI cJ cZ oA rA σ_14 ++ b_c cB cC cI cJ cZ oA rA σ_14 ++ b_t cB cC cI cJ cZ oA rA σ_14 ++ b_d cB cC cI cJ cZ oA rA σ_14))[29]? = some (rA 4 12, .inl (cI, 20, .inl ((σ_14 4).2.1 12))) := rfl
      have hPc := hP.sub (ws' := [(rA 4 12, .inl (cI, 20, .inl ((σ_14 4).2.1 12)))]) [29] (pk_fm (er_C hq9))
      have hDc := (hDD σ_14).sub (ws' := [(rA 4 12, .inl (cI, 20, .inl ((σ_14 4).2.1 12)))]) [29] (by decide +kernel) (er_C hq9)
      have hFc := va_free (wc := [(rA 4 12, .inl (cI, 20, .inl ((σ_14 4).2.1 12)))]) (hDD σ_14) hS hA [29] (er_C hq9)
      refine g_ofv (wc := [(rA 4 12, .inl (cI, 20, .inl ((σ_14 4).2.1 12)))]) (wr := (((b_m cB cC cI cJ cZ oA rA σ_14 ++ b_w cB cC cI cJ cZ oA rA σ_14 ++ b_s cB cC cI cJ cZ oA rA σ_14 ++ b_c cB cC cI cJ cZ oA rA σ_14 ++ b_t cB cC cI cJ cZ oA rA σ_14 ++ b_d cB cC cI cJ cZ oA rA σ_14)).eraseIdx 29)) hP (hDD σ_14) hS hFc [29] ((List.range ((b_m cB cC cI cJ cZ oA rA σ_14 ++ b_w cB cC cI cJ cZ oA rA σ_14 ++ b_s cB cC cI cJ cZ oA rA σ_14 ++ b_c cB cC cI cJ cZ oA rA σ_14 ++ b_t cB cC cI cJ cZ oA rA σ_14 ++ b_d cB cC cI cJ cZ oA rA σ_14)).length).eraseIdx 29) (er_C hq9) er_R er_n er_d (va_runSN (As := [.ref (rA 4 12), .int (x_7 - 1), .int x_18]) (rest := []) ⟨hx, hb, hml, hown, hts⟩ (c_X11_put l dC dI cB cC cI cJ cZ cP H.size (rA 4 12) (x_7 - 1) x_18 20 ((σ_14 4).2.1 12) (by decide)) ⟨va_cnB 3 hts (g_gA wq_412) rfl rfl rfl (nw_23 hN) (hts (.initialized RX11) wq_1) (by decide +kernel) ⟨Nat.le_of_ble_eq_true rfl, Nat.le_of_ble_eq_true rfl⟩, (hts (.static yX11_put) wq_411), trivial⟩ (g_preS g_bl0 hK hPc hDc hS hE hFc g_to0) rfl rfl hl.1 rfl (lv_room (Nat.le_of_ble_eq_true rfl)) dX4_tellArray_101 ⟨Nat.le_of_ble_eq_true rfl, Nat.le_of_ble_eq_true rfl⟩) (fun g9 H locs hw9 hP' hD' hS => ?_)
      clear hPc hDc hFc hD'
      obtain ⟨σ_20, eσ_20, hF_21⟩ := bnd_e hF_19
      clear hF_19
      subst hw9
      have hP : va_P (dC, dI) vwCl (b_m cB cC cI cJ cZ oA rA σ_20 ++ b_w cB cC cI cJ cZ oA rA σ_20 ++ b_s cB cC cI cJ cZ oA rA σ_20 ++ b_c cB cC cI cJ cZ oA rA σ_20 ++ b_t cB cC cI cJ cZ oA rA σ_20 ++ b_d cB cC cI cJ cZ oA rA σ_20) H := by rw [eσ_20]; exact cs_mwsctd_s_12 ▸ er_P hP' (er_lt hq9)
      clear hP' hq9
      have h9 := Option.some.inj hF_21
      subst h9
      exact W.vret hx hb hr (fun t ht hW => ⟨⟨(), rfl, trivial, m_end ht hP, hDD _⟩, hS.F ht⟩) hS.2.2 dX4_tellArray_104
    obtain ⟨j_23, ej_23, hF_24⟩ := bnd_e hF_16
    clear hF_16
    have Jj_23 : ∀  (σ_22 : HS), j_23  σ_22 = some res → ∀ (H : Heap) (locs : List Loc), va_P (dC, dI) vwCl (b_m cB cC cI cJ cZ oA rA σ_22 ++ b_w cB cC cI cJ cZ oA rA σ_22 ++ b_s cB cC cI cJ cZ oA rA σ_22 ++ b_c cB cC cI cJ cZ oA rA σ_22 ++ b_t cB cC cI cJ cZ oA rA σ_22 ++ b_d cB cC cI cJ cZ oA rA σ_22) H → va_S A s.heap H locs → ∀ ls : Array Slot, lv_has ls 5 [(0, .ref (oA 3)), (1, .int p0), (2, .int u_3.1), (3, .int (x_7 - 1)), (4, .int t_9)] → W p l e (headSpec (g_ws yX4_tellArray cX4_tellArray 5 none) { frames := 6, cells := 0, slots := 0, locals := 149 }).room s m ([.ref (oA 3), .int p0] : List Value).toArray below meth c H locs 0 0 (MQ below (va_Qv (fun (_ : Unit) => True) (g_Bo (dC, dI) A (fun (_ : Unit) => (b_m cB cC cI cJ cZ oA rA res.2 ++ b_w cB cC cI cJ cZ oA rA res.2 ++ b_s cB cC cI cJ cZ oA rA res.2 ++ b_c cB cC cI cJ cZ oA rA res.2 ++ b_t cB cC cI cJ cZ oA rA res.2 ++ b_d cB cC cI cJ cZ oA rA res.2))) A) ([.ref (oA 3), .int p0] : List Value).toArray s 0 0 A) (F0 m 81 ls []) := by
      intro  σ_22 hF0 H locs hP hS ls hl
      subst ej_23
      have hF_25 := hF0
      clear hF0
      refine lv_aload_n hx hb dX4_tellArray_81 rfl (lv_at hl 0 rfl) ?_
      refine lv_iconst (v := 5) hx hb dX4_tellArray_82 (by decide +kernel) ?_
      refine lv_iload_n hx hb dX4_tellArray_83 rfl (lv_at hl 1 rfl) ?_
      refine lv_iconst (v := 3) hx hb dX4_tellArray_84 (by decide +kernel) ?_
      refine lv_iadd hx hb dX4_tellArray_85 ?_
      obtain ⟨u_26, hu_26, hF_27⟩ := Option.bind_eq_some_iff.mp hF_25
      clear hF_25
      have hPc := bx_P (bs := [b_m cB cC cI cJ cZ oA rA σ_22, b_w cB cC cI cJ cZ oA rA σ_22, b_s cB cC cI cJ cZ oA rA σ_22, b_c cB cC cI cJ cZ oA rA σ_22, b_t cB cC cI cJ cZ oA rA σ_22, b_d cB cC cI cJ cZ oA rA σ_22]) (bs' := [b_m cB cC cI cJ cZ oA rA σ_22, b_w cB cC cI cJ cZ oA rA σ_22, b_s cB cC cI cJ cZ oA rA σ_22, b_c cB cC cI cJ cZ oA rA σ_22, b_t cB cC cI cJ cZ oA rA σ_22, b_d cB cC cI cJ cZ oA rA σ_22]) (ws' := (b_m cB cC cI cJ cZ oA rA σ_22 ++ b_w cB cC cI cJ cZ oA rA σ_22 ++ b_s cB cC cI cJ cZ oA rA σ_22 ++ b_c cB cC cI cJ cZ oA rA σ_22 ++ b_t cB cC cI cJ cZ oA rA σ_22 ++ b_d cB cC cI cJ cZ oA rA σ_22)) hP fl_6 fl_6 [0, 1, 2, 3, 4, 5] rfl
      have hDc := bx_D (bs := [b_m cB cC cI cJ cZ oA rA σ_22, b_w cB cC cI cJ cZ oA rA σ_22, b_s cB cC cI cJ cZ oA rA σ_22, b_c cB cC cI cJ cZ oA rA σ_22, b_t cB cC cI cJ cZ oA rA σ_22, b_d cB cC cI cJ cZ oA rA σ_22]) (bs' := [b_m cB cC cI cJ cZ oA rA σ_22, b_w cB cC cI cJ cZ oA rA σ_22, b_s cB cC cI cJ cZ oA rA σ_22, b_c cB cC cI cJ cZ oA rA σ_22, b_t cB cC cI cJ cZ oA rA σ_22, b_d cB cC cI cJ cZ oA rA σ_22]) (ws' := (b_m cB cC cI cJ cZ oA rA σ_22 ++ b_w cB cC cI cJ cZ oA rA σ_22 ++ b_s cB cC cI cJ cZ oA rA σ_22 ++ b_c cB cC cI cJ cZ oA rA σ_22 ++ b_t cB cC cI cJ cZ oA rA σ_22 ++ b_d cB cC cI cJ cZ oA rA σ_22)) (hDD σ_22) fl_6 fl_6 [0, 1, 2, 3, 4, 5] (by decide +kernel) rfl
      have hFc := bx_F (bs := [b_m cB cC cI cJ cZ oA rA σ_22, b_w cB cC cI cJ cZ oA rA σ_22, b_s cB cC cI cJ cZ oA rA σ_22, b_c cB cC cI cJ cZ oA rA σ_22, b_t cB cC cI cJ cZ oA rA σ_22, b_d cB cC cI cJ cZ oA rA σ_22]) (bs' := [b_m cB cC cI cJ cZ oA rA σ_22, b_w cB cC cI cJ cZ oA rA σ_22, b_s cB cC cI cJ cZ oA rA σ_22, b_c cB cC cI cJ cZ oA rA σ_22, b_t cB cC cI cJ cZ oA rA σ_22, b_d cB cC cI cJ cZ oA rA σ_22]) (wc := (b_m cB cC cI cJ cZ oA rA σ_22 ++ b_w cB cC cI cJ cZ oA rA σ_22 ++ b_s cB cC cI cJ cZ oA rA σ_22 ++ b_c cB cC cI cJ cZ oA rA σ_22 ++ b_t cB cC cI cJ cZ oA rA σ_22 ++ b_d cB cC cI cJ cZ oA rA σ_22)) (hDD σ_22) hS hA fl_6 fl_6 [0, 1, 2, 3, 4, 5] rfl
      refine g_ofv (wc := (b_m cB cC cI cJ cZ oA rA σ_22 ++ b_w cB cC cI cJ cZ oA rA σ_22 ++ b_s cB cC cI cJ cZ oA rA σ_22 ++ b_c cB cC cI cJ cZ oA rA σ_22 ++ b_t cB cC cI cJ cZ oA rA σ_22 ++ b_d cB cC cI cJ cZ oA rA σ_22)) (wr := ([] : va_W)) hP (hDD σ_22) hS hFc (bx_ix [b_m cB cC cI cJ cZ oA rA σ_22, b_w cB cC cI cJ cZ oA rA σ_22, b_s cB cC cI cJ cZ oA rA σ_22, b_c cB cC cI cJ cZ oA rA σ_22, b_t cB cC cI cJ cZ oA rA σ_22, b_d cB cC cI cJ cZ oA rA σ_22] [0, 1, 2, 3, 4, 5]) (bx_ix [b_m cB cC cI cJ cZ oA rA σ_22, b_w cB cC cI cJ cZ oA rA σ_22, b_s cB cC cI cJ cZ oA rA σ_22, b_c cB cC cI cJ cZ oA rA σ_22, b_t cB cC cI cJ cZ oA rA σ_22, b_d cB cC cI cJ cZ oA rA σ_22] []) (bx_C (bs := [b_m cB cC cI cJ cZ oA rA σ_22, b_w cB cC cI cJ cZ oA rA σ_22, b_s cB cC cI cJ cZ oA rA σ_22, b_c cB cC cI cJ cZ oA rA σ_22, b_t cB cC cI cJ cZ oA rA σ_22, b_d cB cC cI cJ cZ oA rA σ_22]) (bs' := [b_m cB cC cI cJ cZ oA rA σ_22, b_w cB cC cI cJ cZ oA rA σ_22, b_s cB cC cI cJ cZ oA rA σ_22, b_c cB cC cI cJ cZ oA rA σ_22, b_t cB cC cI cJ cZ oA rA σ_22, b_d cB cC cI cJ cZ oA rA σ_22]) (is := [0, 1, 2, 3, 4, 5]) fl_6 fl_6 rfl) (bx_C (bs := [b_m cB cC cI cJ cZ oA rA σ_22, b_w cB cC cI cJ cZ oA rA σ_22, b_s cB cC cI cJ cZ oA rA σ_22, b_c cB cC cI cJ cZ oA rA σ_22, b_t cB cC cI cJ cZ oA rA σ_22, b_d cB cC cI cJ cZ oA rA σ_22]) (bs' := []) (is := []) fl_6 fl_0 rfl) (bx_n (by decide +kernel)) (bx_d (by decide +kernel)) (va_runV (As := [.int 5, .int (p0 + 3)]) (rest := []) ⟨hx, hb, hml, hown, hts⟩ (k_X4_fail l dC dI cB cC cI cJ cZ cP oA rA H.size  5 (p0 + 3) σ_22 _ hu_26) (cwV 2 hts (g_gV wq_725 wq_726 wq_2037 wq_4 wq_727) rfl rfl rfl (by decide +kernel) ⟨Nat.le_of_ble_eq_true rfl, Nat.le_of_ble_eq_true rfl⟩) (g_preV g_bl0 hK hPc hDc hS hE hFc g_to0 (q0 := 0) (ci := 4) rfl rfl) rfl rfl hl.1 rfl (lv_room (Nat.le_of_ble_eq_true rfl)) dX4_tellArray_86 ⟨Nat.le_of_ble_eq_true rfl, Nat.le_of_ble_eq_true rfl⟩) (fun u9 H locs hw9 hP' hD' hS => ?_)
      clear hPc hDc hFc
      have hP : va_P (dC, dI) vwCl (b_m cB cC cI cJ cZ oA rA u_26.2 ++ b_w cB cC cI cJ cZ oA rA u_26.2 ++ b_s cB cC cI cJ cZ oA rA u_26.2 ++ b_c cB cC cI cJ cZ oA rA u_26.2 ++ b_t cB cC cI cJ cZ oA rA u_26.2 ++ b_d cB cC cI cJ cZ oA rA u_26.2) H := hP'
      clear hP' hD'
      exact Jj_15  u_26.2 hF_27 _ _ hP hS ls (lv_sub hl [0, 2, 3, 4] rfl)
    refine lv_icmp_lt (tgt := 81) hx hb dX4_tellArray_61 (by decide) (fun c_28 => ?_) (fun c_28 => ?_)
    · have hF_29 := ipos c_28 hF_24
      clear hF_24
      exact Jj_23  σ_10 hF_29 _ _ hP hS ls (lv_sub hl [1, 2, 3, 4, 0] rfl)
    · have hF_30 := ineg c_28 hF_24
      clear hF_24
      refine lv_iload_n hx hb dX4_tellArray_64 rfl (lv_at hl 3 rfl) ?_
      refine lv_sipush (v := 400) hx hb dX4_tellArray_65 (by decide +kernel) ?_
      refine lv_icmp_gt (tgt := 81) hx hb dX4_tellArray_68 (by decide) (fun c_31 => ?_) (fun c_31 => ?_)
      · have hF_32 := ipos c_31 hF_30
        clear hF_30
        exact Jj_23  σ_10 hF_32 _ _ hP hS ls (lv_sub hl [1, 2, 3, 4, 0] rfl)
      · have hF_33 := ineg c_31 hF_30
        clear hF_30
        refine lv_iload hx hb dX4_tellArray_71 (lv_at hl 0 rfl) ?_
        refine lv_iload_n hx hb dX4_tellArray_73 rfl (lv_at hl 3 rfl) ?_
        refine lv_iadd hx hb dX4_tellArray_74 ?_
        refine lv_sipush (v := 1000) hx hb dX4_tellArray_75 (by decide +kernel) ?_
        refine lv_icmp_le (tgt := 89) hx hb dX4_tellArray_78 (by decide) (fun c_34 => ?_) (fun c_34 => ?_)
        · have hF_35 := ipos c_34 hF_33
          clear hF_33
          exact Jj_15  σ_10 hF_35 _ _ hP hS ls (lv_sub hl [1, 3, 4, 0] rfl)
        · have hF_36 := ineg c_34 hF_33
          clear hF_33
          exact Jj_23  σ_10 hF_36 _ _ hP hS ls (lv_sub hl [1, 2, 3, 4, 0] rfl)
  refine lv_if_le (tgt := 56) hx hb dX4_tellArray_37 (by decide) (fun c_37 => ?_) (fun c_37 => ?_)
  · have hF_38 := ipos c_37 hF_12
    clear hF_12
    refine lv_iconst (v := 0) hx hb dX4_tellArray_56 (by decide +kernel) ?_
    exact Jj_11 0 σ_5 hF_38 _ _ hP hS ls (lv_sub hl [2, 3, 1, 0] rfl)
  · have hF_39 := ineg c_37 hF_12
    clear hF_12
    refine lv_aload_n hx hb dX4_tellArray_40 rfl (lv_at hl 2 rfl) ?_
    refine va_get (D := (dC, dI)) (ci := 4) (v := .ref (oA 4)) (C := RX4) (T := TX4) (N := 18) hx hb hts ii_X4 hown hK hP 0 rfl rfl 1 (by decide) (hts (.fieldLink RX4 36 "StoryHouse$Meanings" "story" "LStoryHouse$Story;") wq_87) (fun _ h9 => h9) rfl dX4_tellArray_41 ?_
    refine va_get (D := (dC, dI)) (ci := 7) (v := .ref (rA 4 12)) (C := RX7) (T := TX7) (N := 19) hx hb hts ii_X7 hown hK hP 16 rfl rfl 12 (by decide) (hts (.fieldLink RX4 171 "StoryHouse$Story" "cellEnds" "[I") wq_182) (fun _ h9 => h9) rfl dX4_tellArray_44 ?_
    refine lv_iload_n hx hb dX4_tellArray_47 rfl (lv_at hl 0 rfl) ?_
    refine lv_iconst (v := 1) hx hb dX4_tellArray_48 (by decide +kernel) ?_
    refine lv_isub hx hb dX4_tellArray_49 ?_
    obtain ⟨x_40, ex_40, hF_41⟩ := bnd_e hF_39
    clear hF_39
    refine m_top ex_40 ?_
    have hq9 : ((b_m cB cC cI cJ cZ oA rA σ_5 ++ b_w cB cC cI cJ cZ oA rA σ_5 ++ b_s cB cC cI cJ cZ oA rA σ_5 ++ b_c cB cC cI cJ cZ oA rA σ_5 ++ b_t cB cC cI cJ cZ oA rA σ_5 ++ b_d cB cC cI cJ cZ oA rA σ_5))[29]? = some (rA 4 12, .inl (cI, 20, .inl ((σ_5 4).2.1 12))) := rfl
    have hPc := hP.sub (ws' := [(rA 4 12, .inl (cI, 20, .inl ((σ_5 4).2.1 12)))]) [29] (pk_fm (er_C hq9))
    have hDc := (hDD σ_5).sub (ws' := [(rA 4 12, .inl (cI, 20, .inl ((σ_5 4).2.1 12)))]) [29] (by decide +kernel) (er_C hq9)
    have hFc := va_free (wc := [(rA 4 12, .inl (cI, 20, .inl ((σ_5 4).2.1 12)))]) (hDD σ_5) hS hA [29] (er_C hq9)
    refine g_ofi (wc := [(rA 4 12, .inl (cI, 20, .inl ((σ_5 4).2.1 12)))]) (wr := (((b_m cB cC cI cJ cZ oA rA σ_5 ++ b_w cB cC cI cJ cZ oA rA σ_5 ++ b_s cB cC cI cJ cZ oA rA σ_5 ++ b_c cB cC cI cJ cZ oA rA σ_5 ++ b_t cB cC cI cJ cZ oA rA σ_5 ++ b_d cB cC cI cJ cZ oA rA σ_5)).eraseIdx 29)) hP (hDD σ_5) hS hFc [29] ((List.range ((b_m cB cC cI cJ cZ oA rA σ_5 ++ b_w cB cC cI cJ cZ oA rA σ_5 ++ b_s cB cC cI cJ cZ oA rA σ_5 ++ b_c cB cC cI cJ cZ oA rA σ_5 ++ b_t cB cC cI cJ cZ oA rA σ_5 ++ b_d cB cC cI cJ cZ oA rA σ_5)).length).eraseIdx 29) (er_C hq9) er_R er_n er_d (va_runSN (As := [.ref (rA 4 12), .int x_40]) (rest := []) ⟨hx, hb, hml, hown, hts⟩ (c_X11_at l dC dI cB cC cI cJ cZ cP H.size (rA 4 12) x_40 20 ((σ_5 4).2.1 12) (by decide)) ⟨va_cnB 2 hts (g_gA wq_407) rfl rfl rfl (nw_24 hN) (hts (.initialized RX11) wq_1) (by decide +kernel) ⟨Nat.le_of_ble_eq_true rfl, Nat.le_of_ble_eq_true rfl⟩, (hts (.static yX11_at) wq_406), trivial⟩ (g_preS g_bl0 hK hPc hDc hS hE hFc g_to0) rfl rfl hl.1 rfl (lv_room (Nat.le_of_ble_eq_true rfl)) dX4_tellArray_50 ⟨Nat.le_of_ble_eq_true rfl, Nat.le_of_ble_eq_true rfl⟩) (fun r9 u9 H locs hw9 hP' hD' hS => ?_)
    clear hPc hDc hFc hD'
    have hP : va_P (dC, dI) vwCl (b_m cB cC cI cJ cZ oA rA σ_5 ++ b_w cB cC cI cJ cZ oA rA σ_5 ++ b_s cB cC cI cJ cZ oA rA σ_5 ++ b_c cB cC cI cJ cZ oA rA σ_5 ++ b_t cB cC cI cJ cZ oA rA σ_5 ++ b_d cB cC cI cJ cZ oA rA σ_5) H := er_I hP' hq9
    clear hP' hq9
    subst hw9
    obtain ⟨x_42, ex_42, hF_43⟩ := bnd_e hF_41
    clear hF_41
    refine m_top ex_42 ?_
    refine lv_goto (tgt := 57) hx hb dX4_tellArray_53 (by decide) ?_
    exact Jj_11 x_42 σ_5 hF_43 _ _ hP hS ls (lv_sub hl [2, 3, 1, 0] rfl)
