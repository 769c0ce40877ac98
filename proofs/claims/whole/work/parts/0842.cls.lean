/-! methods of the class: what each does is its function -/
theorem dX8_findVerb_0 : decode cX8_findVerb 0 = .ok (.iconst 0, 1) := by decide +kernel
theorem dX8_findVerb_1 : decode cX8_findVerb 1 = .ok (.istore_n 1, 1) := by decide +kernel
theorem dX8_findVerb_2 : decode cX8_findVerb 2 = .ok (.aload_n 0, 1) := by decide +kernel
theorem dX8_findVerb_3 : decode cX8_findVerb 3 = .ok (.getfield 85, 3) := by decide +kernel
theorem dX8_findVerb_6 : decode cX8_findVerb 6 = .ok (.getfield 139, 3) := by decide +kernel
theorem dX8_findVerb_9 : decode cX8_findVerb 9 = .ok (.iconst 1, 1) := by decide +kernel
theorem dX8_findVerb_10 : decode cX8_findVerb 10 = .ok (.invokestatic 70, 3) := by decide +kernel
theorem dX8_findVerb_13 : decode cX8_findVerb 13 = .ok (.istore_n 2, 1) := by decide +kernel
theorem dX8_findVerb_14 : decode cX8_findVerb 14 = .ok (.iconst 1, 1) := by decide +kernel
theorem dX8_findVerb_15 : decode cX8_findVerb 15 = .ok (.istore_n 3, 1) := by decide +kernel
theorem dX8_findVerb_16 : decode cX8_findVerb 16 = .ok (.iload_n 3, 1) := by decide +kernel
theorem dX8_findVerb_17 : decode cX8_findVerb 17 = .ok (.iload_n 2, 1) := by decide +kernel
theorem dX8_findVerb_18 : decode cX8_findVerb 18 = .ok (.if_icmp .gt 51, 3) := by decide +kernel
theorem dX8_findVerb_21 : decode cX8_findVerb 21 = .ok (.iload_n 3, 1) := by decide +kernel
theorem dX8_findVerb_22 : decode cX8_findVerb 22 = .ok (.bipush 60, 2) := by decide +kernel
theorem dX8_findVerb_24 : decode cX8_findVerb 24 = .ok (.if_icmp .gt 45, 3) := by decide +kernel
theorem dX8_findVerb_27 : decode cX8_findVerb 27 = .ok (.aload_n 0, 1) := by decide +kernel
theorem dX8_findVerb_28 : decode cX8_findVerb 28 = .ok (.getfield 85, 3) := by decide +kernel
theorem dX8_findVerb_31 : decode cX8_findVerb 31 = .ok (.bipush 120, 2) := by decide +kernel
theorem dX8_findVerb_33 : decode cX8_findVerb 33 = .ok (.iload_n 3, 1) := by decide +kernel
theorem dX8_findVerb_34 : decode cX8_findVerb 34 = .ok (.iadd, 1) := by decide +kernel
theorem dX8_findVerb_35 : decode cX8_findVerb 35 = .ok (.aload_n 0, 1) := by decide +kernel
theorem dX8_findVerb_36 : decode cX8_findVerb 36 = .ok (.iconst 0, 1) := by decide +kernel
theorem dX8_findVerb_37 : decode cX8_findVerb 37 = .ok (.invokevirtual 55, 3) := by decide +kernel
theorem dX8_findVerb_40 : decode cX8_findVerb 40 = .ok (.invokevirtual 142, 3) := by decide +kernel
theorem dX8_findVerb_43 : decode cX8_findVerb 43 = .ok (.ifCond .eq 20, 3) := by decide +kernel
theorem dX8_findVerb_46 : decode cX8_findVerb 46 = .ok (.iconst 1, 1) := by decide +kernel
theorem dX8_findVerb_47 : decode cX8_findVerb 47 = .ok (.istore_n 1, 1) := by decide +kernel
theorem dX8_findVerb_48 : decode cX8_findVerb 48 = .ok (.aload_n 0, 1) := by decide +kernel
theorem dX8_findVerb_49 : decode cX8_findVerb 49 = .ok (.iload_n 3, 1) := by decide +kernel
theorem dX8_findVerb_50 : decode cX8_findVerb 50 = .ok (.invokevirtual 146, 3) := by decide +kernel
theorem dX8_findVerb_53 : decode cX8_findVerb 53 = .ok (.ifCond .eq 10, 3) := by decide +kernel
theorem dX8_findVerb_56 : decode cX8_findVerb 56 = .ok (.aload_n 0, 1) := by decide +kernel
theorem dX8_findVerb_57 : decode cX8_findVerb 57 = .ok (.iload_n 3, 1) := by decide +kernel
theorem dX8_findVerb_58 : decode cX8_findVerb 58 = .ok (.putfield 127, 3) := by decide +kernel
theorem dX8_findVerb_61 : decode cX8_findVerb 61 = .ok (.iconst 1, 1) := by decide +kernel
theorem dX8_findVerb_62 : decode cX8_findVerb 62 = .ok (.ireturn, 1) := by decide +kernel
theorem dX8_findVerb_63 : decode cX8_findVerb 63 = .ok (.iinc 3 1, 3) := by decide +kernel
theorem dX8_findVerb_66 : decode cX8_findVerb 66 = .ok (.goto (-50), 3) := by decide +kernel
theorem dX8_findVerb_69 : decode cX8_findVerb 69 = .ok (.aload_n 0, 1) := by decide +kernel
theorem dX8_findVerb_70 : decode cX8_findVerb 70 = .ok (.iload_n 1, 1) := by decide +kernel
theorem dX8_findVerb_71 : decode cX8_findVerb 71 = .ok (.ifCond .eq 8, 3) := by decide +kernel
theorem dX8_findVerb_74 : decode cX8_findVerb 74 = .ok (.ldc 149, 2) := by decide +kernel
theorem dX8_findVerb_76 : decode cX8_findVerb 76 = .ok (.goto 5, 3) := by decide +kernel
theorem dX8_findVerb_79 : decode cX8_findVerb 79 = .ok (.ldc 151, 2) := by decide +kernel
theorem dX8_findVerb_81 : decode cX8_findVerb 81 = .ok (.invokevirtual 42, 3) := by decide +kernel
theorem dX8_findVerb_84 : decode cX8_findVerb 84 = .ok (.ireturn, 1) := by decide +kernel
def F_X8_findVerb  (Γ : HS) : HR :=
  bnd ((g_at 7 ((Γ 4).2.1 0) 1)) fun (x_1 : Int32) =>
  loopF (fun (again_4 : (Int32 × Int32 × HS) → HR) (s_3 : Int32 × Int32 × HS) => (
    bnd (fun  (σ_7 : HS) => (
      if s_3.1 = 0 then (
        (F_X8_refuse ([73, 32, 100, 111, 32, 110, 111, 116, 32, 107, 110, 111, 119, 32, 104, 111, 119, 32, 116, 111, 32, 100, 111, 32, 116, 104, 97, 116, 46] : List Int32) σ_7).bind fun u_14 =>
        if ¬ (u_14.1 = 0 ∨ u_14.1 = 1) then none else
        some (u_14.1, u_14.2)
      ) else (
        (F_X8_refuse ([73, 32, 100, 105, 100, 32, 110, 111, 116, 32, 103, 101, 116, 32, 116, 104, 97, 116, 46] : List Int32) σ_7).bind fun u_20 =>
        if ¬ (u_20.1 = 0 ∨ u_20.1 = 1) then none else
        some (u_20.1, u_20.2)
      )
    ) : HS → HR) fun j_8 =>
    if x_1 < s_3.2.1 then (
      j_8  s_3.2.2
    ) else (
      if 60 < s_3.2.1 then (
        j_8  s_3.2.2
      ) else (
        (F_X8_term 0 s_3.2.2).bind fun u_30 =>
        (F_X7_owns (120 + s_3.2.1) u_30.1 u_30.2).bind fun u_32 =>
        bnd (mrg (fun j => j == 4 || j == 5 || j == 6 || j == 7) u_30.2 u_32.2) fun σ_34 =>
        bnd (fun (v1_36 : Int32) (σ_37 : HS) => (
          bnd (s_3.2.1 + 1) fun (x_41 : Int32) =>
          again_4 (v1_36, x_41, σ_37)
        ) : Int32 → HS → HR) fun j_38 =>
        if u_32.1 = 0 then (
          j_38 s_3.1 σ_34
        ) else (
          (F_X8_fits s_3.2.1 σ_34).bind fun u_46 =>
          if u_46.1 = 0 then (
            j_38 1 u_46.2
          ) else (
            bnd (cI' u_46.2 11 8 s_3.2.1) fun σ_51 =>
            some (1, σ_51)
          )
        )
      )
    )
  )) FU (0, 1, Γ)
set_option maxHeartbeats 4000000 in
set_option maxRecDepth 100000 in
theorem k_X8_findVerb (l : Launch) (dC : Nat → ClassId) (dI : Nat → Nat → Nat) (cB cC cI cJ cZ cP : ClassId) (oA : Nat → Nat) (rA : Nat → Nat → Nat) (sz : Nat)   (Γ : HS) (res : Int32 × HS) (hF : F_X8_findVerb  Γ = some res) : Met l yX8_findVerb (g_ws yX8_findVerb cX8_findVerb 4 (some .boolean)) ({ frames := 8, cells := 0, slots := 0, locals := 189 }) (va_Pc [.ref (oA 11)] (g_B (dC, dI) [(cB, .byte), (cC, .char), (cI, .int), (cJ, .long), (cZ, .boolean), (cP, .object "StoryHouse$Play")] sz (b_e cB cC cI cJ cZ oA rA Γ ++ b_k cB cC cI cJ cZ oA rA Γ ++ b_p cB cC cI cJ cZ oA rA Γ ++ b_o cB cC cI cJ cZ oA rA Γ ++ b_s cB cC cI cJ cZ oA rA Γ ++ b_c cB cC cI cJ cZ oA rA Γ ++ b_t cB cC cI cJ cZ oA rA Γ ++ b_d cB cC cI cJ cZ oA rA Γ) g_0)) (va_Qi (fun r (_ : Unit) => r = res.1) (g_Bo (dC, dI) (va_A (b_e cB cC cI cJ cZ oA rA Γ ++ b_k cB cC cI cJ cZ oA rA Γ ++ b_p cB cC cI cJ cZ oA rA Γ ++ b_o cB cC cI cJ cZ oA rA Γ ++ b_s cB cC cI cJ cZ oA rA Γ ++ b_c cB cC cI cJ cZ oA rA Γ ++ b_t cB cC cI cJ cZ oA rA Γ ++ b_d cB cC cI cJ cZ oA rA Γ) sz) (fun (_ : Unit) => (b_e cB cC cI cJ cZ oA rA res.2 ++ b_k cB cC cI cJ cZ oA rA res.2 ++ b_p cB cC cI cJ cZ oA rA res.2 ++ b_o cB cC cI cJ cZ oA rA res.2 ++ b_s cB cC cI cJ cZ oA rA res.2 ++ b_c cB cC cI cJ cZ oA rA res.2 ++ b_t cB cC cI cJ cZ oA rA res.2 ++ b_d cB cC cI cJ cZ oA rA res.2))) (va_A (b_e cB cC cI cJ cZ oA rA Γ ++ b_k cB cC cI cJ cZ oA rA Γ ++ b_p cB cC cI cJ cZ oA rA Γ ++ b_o cB cC cI cJ cZ oA rA Γ ++ b_s cB cC cI cJ cZ oA rA Γ ++ b_c cB cC cI cJ cZ oA rA Γ ++ b_t cB cC cI cJ cZ oA rA Γ ++ b_d cB cC cI cJ cZ oA rA Γ) sz)) 0 0 (va_A (b_e cB cC cI cJ cZ oA rA Γ ++ b_k cB cC cI cJ cZ oA rA Γ ++ b_p cB cC cI cJ cZ oA rA Γ ++ b_o cB cC cI cJ cZ oA rA Γ ++ b_s cB cC cI cJ cZ oA rA Γ ++ b_c cB cC cI cJ cZ oA rA Γ ++ b_t cB cC cI cJ cZ oA rA Γ ++ b_d cB cC cI cJ cZ oA rA Γ) sz) := by
  refine Met.ofW (cc := cX8_findVerb) (maxL := 4) (ret := (some .boolean)) (by decide) rfl ?_
  intro p e s m args below meth c s₁ B hml hv
  obtain ⟨rfl, hsz, hP, hK, hD0, hE, hX⟩ := hv
  have hx := B.exec
  have hb := B.bytes
  have hr := B.returns
  have hts0 := atoms_spec (ws := g_ws yX8_findVerb cX8_findVerb 4 (some .boolean)) B.pre
  have hts : ∀ w ∈ lw_good, w.before ([.ref (oA 11)] : List Value).toArray s = true := fun w z => hts0 w (List.mem_cons_of_mem _ z)
  have hown : s.vm.findClass RX8 = some m.cls := findClass_of_methodNamed B.named
  have hlocks := B.notSynchronized
  subst hsz
  have hD1 := hD0.self (sz := s.heap.size)
  generalize hAe : va_A (b_e cB cC cI cJ cZ oA rA Γ ++ b_k cB cC cI cJ cZ oA rA Γ ++ b_p cB cC cI cJ cZ oA rA Γ ++ b_o cB cC cI cJ cZ oA rA Γ ++ b_s cB cC cI cJ cZ oA rA Γ ++ b_c cB cC cI cJ cZ oA rA Γ ++ b_t cB cC cI cJ cZ oA rA Γ ++ b_d cB cC cI cJ cZ oA rA Γ) s.heap.size = A at hD1 hE hX ⊢
  have hA : ∀ q : Nat, s.heap.size ≤ q → A q := fun q z => by rw [← hAe]; exact Or.inr z
  have hDD : ∀ Γ : HS, va_D A (b_e cB cC cI cJ cZ oA rA Γ ++ b_k cB cC cI cJ cZ oA rA Γ ++ b_p cB cC cI cJ cZ oA rA Γ ++ b_o cB cC cI cJ cZ oA rA Γ ++ b_s cB cC cI cJ cZ oA rA Γ ++ b_c cB cC cI cJ cZ oA rA Γ ++ b_t cB cC cI cJ cZ oA rA Γ ++ b_d cB cC cI cJ cZ oA rA Γ) := fun Γ9 => va_D_fst (ws := (b_e cB cC cI cJ cZ oA rA Γ ++ b_k cB cC cI cJ cZ oA rA Γ ++ b_p cB cC cI cJ cZ oA rA Γ ++ b_o cB cC cI cJ cZ oA rA Γ ++ b_s cB cC cI cJ cZ oA rA Γ ++ b_c cB cC cI cJ cZ oA rA Γ ++ b_t cB cC cI cJ cZ oA rA Γ ++ b_d cB cC cI cJ cZ oA rA Γ)) (ws' := (b_e cB cC cI cJ cZ oA rA Γ9 ++ b_k cB cC cI cJ cZ oA rA Γ9 ++ b_p cB cC cI cJ cZ oA rA Γ9 ++ b_o cB cC cI cJ cZ oA rA Γ9 ++ b_s cB cC cI cJ cZ oA rA Γ9 ++ b_c cB cC cI cJ cZ oA rA Γ9 ++ b_t cB cC cI cJ cZ oA rA Γ9 ++ b_d cB cC cI cJ cZ oA rA Γ9)) rfl hD1
  have hN := hE.1
  have hS : va_S A s.heap s.heap [] := va_S.rf
  have hl := lv_entry ([.ref (oA 11)]) (n := 4) (Nat.le_of_ble_eq_true rfl)
  rw [lg_entry_eq]
  generalize (lg_sl ([.ref (oA 11)]) ++ List.replicate (4 - (lg_sl ([.ref (oA 11)])).length) Slot.unset).toArray = ls at hl ⊢
  have hl : lv_has ls 4 [(0, .ref (oA 11))] := hl
  unfold F_X8_findVerb at hF
  refine lv_iconst (v := 0) hx hb dX8_findVerb_0 (by decide +kernel) ?_
  refine lv_istore_n (lv' := [(1, .int 0), (0, .ref (oA 11))]) hx hb dX8_findVerb_1 rfl hl (by decide) rfl (fun ls hl => ?_)
  refine lv_aload_n hx hb dX8_findVerb_2 rfl (lv_at hl 1 rfl) ?_
  refine va_get (D := (dC, dI)) (ci := 8) (v := .ref (oA 4)) (C := RX8) (T := TX8) (N := 16) hx hb hts ii_X8 hown hK hP 0 rfl rfl 3 (by decide) (hts (.fieldLink RX8 85 "StoryHouse$Teller" "story" "LStoryHouse$Story;") wq_290) (fun _ h9 => h9) rfl dX8_findVerb_3 ?_
  refine va_get (D := (dC, dI)) (ci := 7) (v := .ref (rA 4 0)) (C := RX7) (T := TX7) (N := 19) hx hb hts ii_X7 hown hK hP 19 rfl rfl 0 (by decide) (hts (.fieldLink RX8 139 "StoryHouse$Story" "counts" "[I") wq_155) (fun _ h9 => h9) rfl dX8_findVerb_6 ?_
  refine lv_iconst (v := 1) hx hb dX8_findVerb_9 (by decide +kernel) ?_
  have hq9 : ((b_e cB cC cI cJ cZ oA rA Γ ++ b_k cB cC cI cJ cZ oA rA Γ ++ b_p cB cC cI cJ cZ oA rA Γ ++ b_o cB cC cI cJ cZ oA rA Γ ++ b_s cB cC cI cJ cZ oA rA Γ ++ b_c cB cC cI cJ cZ oA rA Γ ++ b_t cB cC cI cJ cZ oA rA Γ ++ b_d cB cC cI cJ cZ oA rA Γ))[20]? = some (rA 4 0, .inl (cI, 7, .inl ((Γ 4).2.1 0))) := rfl
  have hPc := hP.sub (ws' := [(rA 4 0, .inl (cI, 7, .inl ((Γ 4).2.1 0)))]) [20] (pk_fm (er_C hq9))
  have hDc := (hDD Γ).sub (ws' := [(rA 4 0, .inl (cI, 7, .inl ((Γ 4).2.1 0)))]) [20] (by decide +kernel) (er_C hq9)
  have hFc := va_free (wc := [(rA 4 0, .inl (cI, 7, .inl ((Γ 4).2.1 0)))]) (hDD Γ) hS hA [20] (er_C hq9)
  refine g_ofi (wc := [(rA 4 0, .inl (cI, 7, .inl ((Γ 4).2.1 0)))]) (wr := (((b_e cB cC cI cJ cZ oA rA Γ ++ b_k cB cC cI cJ cZ oA rA Γ ++ b_p cB cC cI cJ cZ oA rA Γ ++ b_o cB cC cI cJ cZ oA rA Γ ++ b_s cB cC cI cJ cZ oA rA Γ ++ b_c cB cC cI cJ cZ oA rA Γ ++ b_t cB cC cI cJ cZ oA rA Γ ++ b_d cB cC cI cJ cZ oA rA Γ)).eraseIdx 20)) hP (hDD Γ) hS hFc [20] ((List.range ((b_e cB cC cI cJ cZ oA rA Γ ++ b_k cB cC cI cJ cZ oA rA Γ ++ b_p cB cC cI cJ cZ oA rA Γ ++ b_o cB cC cI cJ cZ oA rA Γ ++ b_s cB cC cI cJ cZ oA rA Γ ++ b_c cB cC cI cJ cZ oA rA Γ ++ b_t cB cC cI cJ cZ oA rA Γ ++ b_d cB cC cI cJ cZ oA rA Γ)).length).eraseIdx 20) (er_C hq9) er_R er_n er_d (va_runSN (As := [.ref (rA 4 0), .int 1]) (rest := []) ⟨hx, hb, hml, hown, hts⟩ (c_X11_at l dC dI cB cC cI cJ cZ cP s.heap.size (rA 4 0) 1 7 ((Γ 4).2.1 0) (by decide)) ⟨va_cnB 2 hts (g_gA wq_407) rfl rfl rfl (nw_31 hN) (hts (.initialized RX11) wq_1) (by decide +kernel) ⟨Nat.le_of_ble_eq_true rfl, Nat.le_of_ble_eq_true rfl⟩, (hts (.static yX11_at) wq_406), trivial⟩ (g_preS g_bl0 hK hPc hDc hS hE hFc g_to0) rfl rfl hl.1 rfl (lv_room (Nat.le_of_ble_eq_true rfl)) dX8_findVerb_10 ⟨Nat.le_of_ble_eq_true rfl, Nat.le_of_ble_eq_true rfl⟩) (fun r9 u9 H locs hw9 hP' hD' hS => ?_)
  clear hPc hDc hFc hD'
  have hP : va_P (dC, dI) vwCl (b_e cB cC cI cJ cZ oA rA Γ ++ b_k cB cC cI cJ cZ oA rA Γ ++ b_p cB cC cI cJ cZ oA rA Γ ++ b_o cB cC cI cJ cZ oA rA Γ ++ b_s cB cC cI cJ cZ oA rA Γ ++ b_c cB cC cI cJ cZ oA rA Γ ++ b_t cB cC cI cJ cZ oA rA Γ ++ b_d cB cC cI cJ cZ oA rA Γ) H := er_I hP' hq9
  clear hP' hq9
  subst hw9
  obtain ⟨x_1, ex_1, hF_2⟩ := bnd_e hF
  clear hF
  refine m_top ex_1 ?_
  refine lv_istore_n (lv' := [(2, .int x_1), (1, .int 0), (0, .ref (oA 11))]) hx hb dX8_findVerb_13 rfl hl (by decide) rfl (fun ls hl => ?_)
  refine lv_iconst (v := 1) hx hb dX8_findVerb_14 (by decide +kernel) ?_
  refine lv_istore_n (lv' := [(3, .int 1), (2, .int x_1), (1, .int 0), (0, .ref (oA 11))]) hx hb dX8_findVerb_15 rfl hl (by decide) rfl (fun ls hl => ?_)
  refine loopF_ind (P := fun (s_3 : Int32 × Int32 × HS) => ∀ (H : Heap) (locs : List Loc), va_P (dC, dI) vwCl (b_e cB cC cI cJ cZ oA rA s_3.2.2 ++ b_k cB cC cI cJ cZ oA rA s_3.2.2 ++ b_p cB cC cI cJ cZ oA rA s_3.2.2 ++ b_o cB cC cI cJ cZ oA rA s_3.2.2 ++ b_s cB cC cI cJ cZ oA rA s_3.2.2 ++ b_c cB cC cI cJ cZ oA rA s_3.2.2 ++ b_t cB cC cI cJ cZ oA rA s_3.2.2 ++ b_d cB cC cI cJ cZ oA rA s_3.2.2) H → va_S A s.heap H locs → ∀ ls : Array Slot, lv_has ls 4 [(0, .ref (oA 11)), (1, .int s_3.1), (2, .int x_1), (3, .int s_3.2.1)] → W p l e (headSpec (g_ws yX8_findVerb cX8_findVerb 4 (some .boolean)) { frames := 8, cells := 0, slots := 0, locals := 189 }).room s m ([.ref (oA 11)] : List Value).toArray below meth c H locs 0 0 (MQ below (va_Qi (fun r (_ : Unit) => r = res.1) (g_Bo (dC, dI) A (fun (_ : Unit) => (b_e cB cC cI cJ cZ oA rA res.2 ++ b_k cB cC cI cJ cZ oA rA res.2 ++ b_p cB cC cI cJ cZ oA rA res.2 ++ b_o cB cC cI cJ cZ oA rA res.2 ++ b_s cB cC cI cJ cZ oA rA res.2 ++ b_c cB cC cI cJ cZ oA rA res.2 ++ b_t cB cC cI cJ cZ oA rA res.2 ++ b_d cB cC cI cJ cZ oA rA res.2))) A) ([.ref (oA 11)] : List Value).toArray s 0 0 A) (F0 m 16 ls [])) ?_ _ _ hF_2 _ _ hP hS ls (lv_sub hl [3, 2, 1, 0] rfl)
  intro again_4 s_3 ih_5 hF_6
  intro H locs hP hS ls hl
  refine lv_iload_n hx hb dX8_findVerb_16 rfl (lv_at hl 3 rfl) ?_
  refine lv_iload_n hx hb dX8_findVerb_17 rfl (lv_at hl 2 rfl) ?_
  obtain ⟨j_8, ej_8, hF_9⟩ := bnd_e hF_6
  clear hF_6
  have Jj_8 : ∀  (σ_7 : HS), j_8  σ_7 = some res → ∀ (H : Heap) (locs : List Loc), va_P (dC, dI) vwCl (b_e cB cC cI cJ cZ oA rA σ_7 ++ b_k cB cC cI cJ cZ oA rA σ_7 ++ b_p cB cC cI cJ cZ oA rA σ_7 ++ b_o cB cC cI cJ cZ oA rA σ_7 ++ b_s cB cC cI cJ cZ oA rA σ_7 ++ b_c cB cC cI cJ cZ oA rA σ_7 ++ b_t cB cC cI cJ cZ oA rA σ_7 ++ b_d cB cC cI cJ cZ oA rA σ_7) H → va_S A s.heap H locs → ∀ ls : Array Slot, lv_has ls 4 [(0, .ref (oA 11)), (1, .int s_3.1)] → W p l e (headSpec (g_ws yX8_findVerb cX8_findVerb 4 (some .boolean)) { frames := 8, cells := 0, slots := 0, locals := 189 }).room s m ([.ref (oA 11)] : List Value).toArray below meth c H locs 0 0 (MQ below (va_Qi (fun r (_ : Unit) => r = res.1) (g_Bo (dC, dI) A (fun (_ : Unit) => (b_e cB cC cI cJ cZ oA rA res.2 ++ b_k cB cC cI cJ cZ oA rA res.2 ++ b_p cB cC cI cJ cZ oA rA res.2 ++ b_o cB cC cI cJ cZ oA rA res.2 ++ b_s cB cC cI cJ cZ oA rA res.2 ++ b_c cB cC cI cJ cZ oA rA res.2 ++ b_t cB cC cI cJ cZ oA rA res.2 ++ b_d cB cC cI cJ cZ oA rA res.2))) A) ([.ref (oA 11)] : List Value).toArray s 0 0 A) (F0 m 69 ls []) := by
    intro  σ_7 hF0 H locs hP hS ls hl
    subst ej_8
    have hF_10 := hF0
    clear hF0
    refine lv_aload_n hx hb dX8_findVerb_69 rfl (lv_at hl 0 rfl) ?_
    refine lv_iload_n hx hb dX8_findVerb_70 rfl (lv_at hl 1 rfl) ?_
    refine lv_if_eq (tgt := 79) hx hb dX8_findVerb_71 (by decide) (fun c_11 => ?_) (fun c_11 => ?_)
    · have hF_12 := ipos c_11 hF_10
      clear hF_10
      obtain ⟨q_13, vq_13, hRq_13, hSq_13⟩ := hE.2.2.2.2 _ (List.mem_of_getElem? (i := 41) rfl)
      refine va_ldcS (own := RX8) (tx := "I do not know how to do that.") hx hb hown hRq_13 dX8_findVerb_79 ?_
      obtain ⟨u_14, hu_14, hF_15⟩ := Option.bind_eq_some_iff.mp hF_12
      clear hF_12
      have hPc := bx_P (bs := [b_e cB cC cI cJ cZ oA rA σ_7, b_k cB cC cI cJ cZ oA rA σ_7, b_p cB cC cI cJ cZ oA rA σ_7, b_o cB cC cI cJ cZ oA rA σ_7, b_s cB cC cI cJ cZ oA rA σ_7, b_c cB cC cI cJ cZ oA rA σ_7, b_t cB cC cI cJ cZ oA rA σ_7, b_d cB cC cI cJ cZ oA rA σ_7]) (bs' := [b_e cB cC cI cJ cZ oA rA σ_7, b_k cB cC cI cJ cZ oA rA σ_7, b_p cB cC cI cJ cZ oA rA σ_7, b_o cB cC cI cJ cZ oA rA σ_7, b_s cB cC cI cJ cZ oA rA σ_7, b_c cB cC cI cJ cZ oA rA σ_7, b_t cB cC cI cJ cZ oA rA σ_7, b_d cB cC cI cJ cZ oA rA σ_7]) (ws' := (b_e cB cC cI cJ cZ oA rA σ_7 ++ b_k cB cC cI cJ cZ oA rA σ_7 ++ b_p cB cC cI cJ cZ oA rA σ_7 ++ b_o cB cC cI cJ cZ oA rA σ_7 ++ b_s cB cC cI cJ cZ oA rA σ_7 ++ b_c cB cC cI cJ cZ oA rA σ_7 ++ b_t cB cC cI cJ cZ oA rA σ_7 ++ b_d cB cC cI cJ cZ oA rA σ_7)) hP fl_8 fl_8 [0, 1, 2, 3, 4, 5, 6, 7] rfl
      have hDc := bx_D (bs := [b_e cB cC cI cJ cZ oA rA σ_7, b_k cB cC cI cJ cZ oA rA σ_7, b_p cB cC cI cJ cZ oA rA σ_7, b_o cB cC cI cJ cZ oA rA σ_7, b_s cB cC cI cJ cZ oA rA σ_7, b_c cB cC cI cJ cZ oA rA σ_7, b_t cB cC cI cJ cZ oA rA σ_7, b_d cB cC cI cJ cZ oA rA σ_7]) (bs' := [b_e cB cC cI cJ cZ oA rA σ_7, b_k cB cC cI cJ cZ oA rA σ_7, b_p cB cC cI cJ cZ oA rA σ_7, b_o cB cC cI cJ cZ oA rA σ_7, b_s cB cC cI cJ cZ oA rA σ_7, b_c cB cC cI cJ cZ oA rA σ_7, b_t cB cC cI cJ cZ oA rA σ_7, b_d cB cC cI cJ cZ oA rA σ_7]) (ws' := (b_e cB cC cI cJ cZ oA rA σ_7 ++ b_k cB cC cI cJ cZ oA rA σ_7 ++ b_p cB cC cI cJ cZ oA rA σ_7 ++ b_o cB cC cI cJ cZ oA rA σ_7 ++ b_s cB cC cI cJ cZ oA rA σ_7 ++ b_c cB cC cI cJ cZ oA rA σ_7 ++ b_t cB cC cI cJ cZ oA rA σ_7 ++ b_d cB cC cI cJ cZ oA rA σ_7)) (hDD σ_7) fl_8 fl_8 [0, 1, 2, 3, 4, 5, 6, 7] (by decide +kernel) rfl
      have hFc := bx_F (bs := [b_e cB cC cI cJ cZ oA rA σ_7, b_k cB cC cI cJ cZ oA rA σ_7, b_p cB cC cI cJ cZ oA rA σ_7, b_o cB cC cI cJ cZ oA rA σ_7, b_s cB cC cI cJ cZ oA rA σ_7, b_c cB cC cI cJ cZ oA rA σ_7, b_t cB cC cI cJ cZ oA rA σ_7, b_d cB cC cI cJ cZ oA rA σ_7]) (bs' := [b_e cB cC cI cJ cZ oA rA σ_7, b_k cB cC cI cJ cZ oA rA σ_7, b_p cB cC cI cJ cZ oA rA σ_7, b_o cB cC cI cJ cZ oA rA σ_7, b_s cB cC cI cJ cZ oA rA σ_7, b_c cB cC cI cJ cZ oA rA σ_7, b_t cB cC cI cJ cZ oA rA σ_7, b_d cB cC cI cJ cZ oA rA σ_7]) (wc := (b_e cB cC cI cJ cZ oA rA σ_7 ++ b_k cB cC cI cJ cZ oA rA σ_7 ++ b_p cB cC cI cJ cZ oA rA σ_7 ++ b_o cB cC cI cJ cZ oA rA σ_7 ++ b_s cB cC cI cJ cZ oA rA σ_7 ++ b_c cB cC cI cJ cZ oA rA σ_7 ++ b_t cB cC cI cJ cZ oA rA σ_7 ++ b_d cB cC cI cJ cZ oA rA σ_7)) (hDD σ_7) hS hA fl_8 fl_8 [0, 1, 2, 3, 4, 5, 6, 7] rfl
      refine g_ofi (wc := (b_e cB cC cI cJ cZ oA rA σ_7 ++ b_k cB cC cI cJ cZ oA rA σ_7 ++ b_p cB cC cI cJ cZ oA rA σ_7 ++ b_o cB cC cI cJ cZ oA rA σ_7 ++ b_s cB cC cI cJ cZ oA rA σ_7 ++ b_c cB cC cI cJ cZ oA rA σ_7 ++ b_t cB cC cI cJ cZ oA rA σ_7 ++ b_d cB cC cI cJ cZ oA rA σ_7)) (wr := ([] : va_W)) hP (hDD σ_7) hS hFc (bx_ix [b_e cB cC cI cJ cZ oA rA σ_7, b_k cB cC cI cJ cZ oA rA σ_7, b_p cB cC cI cJ cZ oA rA σ_7, b_o cB cC cI cJ cZ oA rA σ_7, b_s cB cC cI cJ cZ oA rA σ_7, b_c cB cC cI cJ cZ oA rA σ_7, b_t cB cC cI cJ cZ oA rA σ_7, b_d cB cC cI cJ cZ oA rA σ_7] [0, 1, 2, 3, 4, 5, 6, 7]) (bx_ix [b_e cB cC cI cJ cZ oA rA σ_7, b_k cB cC cI cJ cZ oA rA σ_7, b_p cB cC cI cJ cZ oA rA σ_7, b_o cB cC cI cJ cZ oA rA σ_7, b_s cB cC cI cJ cZ oA rA σ_7, b_c cB cC cI cJ cZ oA rA σ_7, b_t cB cC cI cJ cZ oA rA σ_7, b_d cB cC cI cJ cZ oA rA σ_7] []) (bx_C (bs := [b_e cB cC cI cJ cZ oA rA σ_7, b_k cB cC cI cJ cZ oA rA σ_7, b_p cB cC cI cJ cZ oA rA σ_7, b_o cB cC cI cJ cZ oA rA σ_7, b_s cB cC cI cJ cZ oA rA σ_7, b_c cB cC cI cJ cZ oA rA σ_7, b_t cB cC cI cJ cZ oA rA σ_7, b_d cB cC cI cJ cZ oA rA σ_7]) (bs' := [b_e cB cC cI cJ cZ oA rA σ_7, b_k cB cC cI cJ cZ oA rA σ_7, b_p cB cC cI cJ cZ oA rA σ_7, b_o cB cC cI cJ cZ oA rA σ_7, b_s cB cC cI cJ cZ oA rA σ_7, b_c cB cC cI cJ cZ oA rA σ_7, b_t cB cC cI cJ cZ oA rA σ_7, b_d cB cC cI cJ cZ oA rA σ_7]) (is := [0, 1, 2, 3, 4, 5, 6, 7]) fl_8 fl_8 rfl) (bx_C (bs := [b_e cB cC cI cJ cZ oA rA σ_7, b_k cB cC cI cJ cZ oA rA σ_7, b_p cB cC cI cJ cZ oA rA σ_7, b_o cB cC cI cJ cZ oA rA σ_7, b_s cB cC cI cJ cZ oA rA σ_7, b_c cB cC cI cJ cZ oA rA σ_7, b_t cB cC cI cJ cZ oA rA σ_7, b_d cB cC cI cJ cZ oA rA σ_7]) (bs' := []) (is := []) fl_8 fl_0 rfl) (bx_n (by decide +kernel)) (bx_d (by decide +kernel)) (va_runV (As := [.ref q_13]) (rest := []) ⟨hx, hb, hml, hown, hts⟩ (k_X8_refuse l dC dI cB cC cI cJ cZ cP oA rA H.size q_13 _ ([73, 32, 100, 111, 32, 110, 111, 116, 32, 107, 110, 111, 119, 32, 104, 111, 119, 32, 116, 111, 32, 100, 111, 32, 116, 104, 97, 116, 46] : List Int32) σ_7 _ hu_14) (cwV 1 hts (g_gV wq_1050 wq_1051 wq_2071 wq_12 wq_1052) rfl rfl rfl (by decide +kernel) ⟨Nat.le_of_ble_eq_true rfl, Nat.le_of_ble_eq_true rfl⟩) (g_preV g_blS hK hPc hDc hS hE hFc (g_toS hSq_13 hS hFc) (q0 := 0) (ci := 8) rfl rfl) rfl rfl hl.1 rfl (lv_room (Nat.le_of_ble_eq_true rfl)) dX8_findVerb_81 ⟨Nat.le_of_ble_eq_true rfl, Nat.le_of_ble_eq_true rfl⟩) (fun r9 u9 H locs hw9 hP' hD' hS => ?_)
      clear hPc hDc hFc
      subst hw9
      have hP : va_P (dC, dI) vwCl (b_e cB cC cI cJ cZ oA rA u_14.2 ++ b_k cB cC cI cJ cZ oA rA u_14.2 ++ b_p cB cC cI cJ cZ oA rA u_14.2 ++ b_o cB cC cI cJ cZ oA rA u_14.2 ++ b_s cB cC cI cJ cZ oA rA u_14.2 ++ b_c cB cC cI cJ cZ oA rA u_14.2 ++ b_t cB cC cI cJ cZ oA rA u_14.2 ++ b_d cB cC cI cJ cZ oA rA u_14.2) H := hP'
      clear hP' hD'
      obtain ⟨g_16, hF_17⟩ := nif_e hF_15
      clear hF_15
      have h9 := Option.some.inj hF_17
      subst h9
      exact W.zret (v := u_14.1) hx hb hr (m_bool (Classical.not_not.mp g_16)).1 (fun t ht hW => ⟨⟨u_14.1, (), rfl, rfl, m_end ht hP, hDD _⟩, hS.F ht⟩) hS.2.2 dX8_findVerb_84
    · have hF_18 := ineg c_11 hF_10
      clear hF_10
      obtain ⟨q_19, vq_19, hRq_19, hSq_19⟩ := hE.2.2.2.2 _ (List.mem_of_getElem? (i := 40) rfl)
      refine va_ldcS (own := RX8) (tx := "I did not get that.") hx hb hown hRq_19 dX8_findVerb_74 ?_
      refine lv_goto (tgt := 81) hx hb dX8_findVerb_76 (by decide) ?_
      obtain ⟨u_20, hu_20, hF_21⟩ := Option.bind_eq_some_iff.mp hF_18
      clear hF_18
      have hPc := bx_P (bs := [b_e cB cC cI cJ cZ oA rA σ_7, b_k cB cC cI cJ cZ oA rA σ_7, b_p cB cC cI cJ cZ oA rA σ_7, b_o cB cC cI cJ cZ oA rA σ_7, b_s cB cC cI cJ cZ oA rA σ_7, b_c cB cC cI cJ cZ oA rA σ_7, b_t cB cC cI cJ cZ oA rA σ_7, b_d cB cC cI cJ cZ oA rA σ_7]) (bs' := [b_e cB cC cI cJ cZ oA rA σ_7, b_k cB cC cI cJ cZ oA rA σ_7, b_p cB cC cI cJ cZ oA rA σ_7, b_o cB cC cI cJ cZ oA rA σ_7, b_s cB cC cI cJ cZ oA rA σ_7, b_c cB cC cI cJ cZ oA rA σ_7, b_t cB cC cI cJ cZ oA rA σ_7, b_d cB cC cI cJ cZ oA rA σ_7]) (ws' := (b_e cB cC cI cJ cZ oA rA σ_7 ++ b_k cB cC cI cJ cZ oA rA σ_7 ++ b_p cB cC cI cJ cZ oA rA σ_7 ++ b_o cB cC cI cJ cZ oA rA σ_7 ++ b_s cB cC cI cJ cZ oA rA σ_7 ++ b_c cB cC cI cJ cZ oA rA σ_7 ++ b_t cB cC cI cJ cZ oA rA σ_7 ++ b_d cB cC cI cJ cZ oA rA σ_7)) hP fl_8 fl_8 [0, 1, 2, 3, 4, 5, 6, 7] rfl
      have hDc := bx_D (bs := [b_e cB cC cI cJ cZ oA rA σ_7, b_k cB cC cI cJ cZ oA rA σ_7, b_p cB cC cI cJ cZ oA rA σ_7, b_o cB cC cI cJ cZ oA rA σ_7, b_s cB cC cI cJ cZ oA rA σ_7, b_c cB cC cI cJ cZ oA rA σ_7, b_t cB cC cI cJ cZ oA rA σ_7, b_d cB cC cI cJ cZ oA rA σ_7]) (bs' := [b_e cB cC cI cJ cZ oA rA σ_7, b_k cB cC cI cJ cZ oA rA σ_7, b_p cB cC cI cJ cZ oA rA σ_7, b_o cB cC cI cJ cZ oA rA σ_7, b_s cB cC cI cJ cZ oA rA σ_7, b_c cB cC cI cJ cZ oA rA σ_7, b_t cB cC cI cJ cZ oA rA σ_7, b_d cB cC cI cJ cZ oA rA σ_7]) (ws' := (b_e cB cC cI cJ cZ oA rA σ_7 ++ b_k cB cC cI cJ cZ oA rA σ_7 ++ b_p cB cC cI cJ cZ oA rA σ_7 ++ b_o cB cC cI cJ cZ oA rA σ_7 ++ b_s cB cC cI cJ cZ oA rA σ_7 ++ b_c cB cC cI cJ cZ oA rA σ_7 ++ b_t cB cC cI cJ cZ oA rA σ_7 ++ b_d cB cC cI cJ cZ oA rA σ_7)) (hDD σ_7) fl_8 fl_8 [0, 1, 2, 3, 4, 5, 6, 7] (by decide +kernel) rfl
      have hFc := bx_F (bs := [b_e cB cC cI cJ cZ oA rA σ_7, b_k cB cC cI cJ cZ oA rA σ_7, b_p cB cC cI cJ cZ oA rA σ_7, b_o cB cC cI cJ cZ oA rA σ_7, b_s cB cC cI cJ cZ oA rA σ_7, b_c cB cC cI cJ cZ oA rA σ_7, b_t cB cC cI cJ cZ oA rA σ_7, b_d cB cC cI cJ cZ oA rA σ_7]) (bs' := [b_e cB cC cI cJ cZ oA rA σ_7, b_k cB cC cI cJ cZ oA rA σ_7, b_p cB cC cI cJ cZ oA rA σ_7, b_o cB cC cI cJ cZ oA rA σ_7, b_s cB cC cI cJ cZ oA rA σ_7, b_c cB cC cI cJ cZ oA rA σ_7, b_t cB cC cI cJ cZ oA rA σ_7, b_d cB cC cI cJ cZ oA rA σ_7]) (wc := (b_e cB cC cI cJ cZ oA rA σ_7 ++ b_k cB cC cI cJ cZ oA rA σ_7 ++ b_p cB cC cI cJ cZ oA rA σ_7 ++ b_o cB cC cI cJ cZ oA rA σ_7 ++ b_s cB cC cI cJ cZ oA rA σ_7 ++ b_c cB cC cI cJ cZ oA rA σ_7 ++ b_t cB cC cI cJ cZ oA rA σ_7 ++ b_d cB cC cI cJ cZ oA rA σ_7)) (hDD σ_7) hS hA fl_8 fl_8 [0, 1, 2, 3, 4, 5, 6, 7] rfl
      refine g_ofi (wc := (b_e cB cC cI cJ cZ oA rA σ_7 ++ b_k cB cC cI cJ cZ oA rA σ_7 ++ b_p cB cC cI cJ cZ oA rA σ_7 ++ b_o cB cC cI cJ cZ oA rA σ_7 ++ b_s cB cC cI cJ cZ oA rA σ_7 ++ b_c cB cC cI cJ cZ oA rA σ_7 ++ b_t cB cC cI cJ cZ oA rA σ_7 ++ b_d cB cC cI cJ cZ oA rA σ_7)) (wr := ([] : va_W)) hP (hDD σ_7) hS hFc (bx_ix [b_e cB cC cI cJ cZ oA rA σ_7, b_k cB cC cI cJ cZ oA rA σ_7, b_p cB cC cI cJ cZ oA rA σ_7, b_o cB cC cI cJ cZ oA rA σ_7, b_s cB cC cI cJ cZ oA rA σ_7, b_c cB cC cI cJ cZ oA rA σ_7, b_t cB cC cI cJ cZ oA rA σ_7, b_d cB cC cI cJ cZ oA rA σ_7] [0, 1, 2, 3, 4, 5, 6, 7]) (bx_ix [b_e cB cC cI cJ cZ oA rA σ_7, b_k cB cC cI cJ cZ oA rA σ_7, b_p cB cC cI cJ cZ oA rA σ_7, b_o cB cC cI cJ cZ oA rA σ_7, b_s cB cC cI cJ cZ oA rA σ_7, b_c cB cC cI cJ cZ oA rA σ_7, b_t cB cC cI cJ cZ oA rA σ_7, b_d cB cC cI cJ cZ oA rA σ_7] []) (bx_C (bs := [b_e cB cC cI cJ cZ oA rA σ_7, b_k cB cC cI cJ cZ oA rA σ_7, b_p cB cC cI cJ cZ oA rA σ_7, b_o cB cC cI cJ cZ oA rA σ_7, b_s cB cC cI cJ cZ oA rA σ_7, b_c cB cC cI cJ cZ oA rA σ_7, b_t cB cC cI cJ cZ oA rA σ_7, b_d cB cC cI cJ cZ oA rA σ_7]) (bs' := [b_e cB cC cI cJ cZ oA rA σ_7, b_k cB cC cI cJ cZ oA rA σ_7, b_p cB cC cI cJ cZ oA rA σ_7, b_o cB cC cI cJ cZ oA rA σ_7, b_s cB cC cI cJ cZ oA rA σ_7, b_c cB cC cI cJ cZ oA rA σ_7, b_t cB cC cI cJ cZ oA rA σ_7, b_d cB cC cI cJ cZ oA rA σ_7]) (is := [0, 1, 2, 3, 4, 5, 6, 7]) fl_8 fl_8 rfl) (bx_C (bs := [b_e cB cC cI cJ cZ oA rA σ_7, b_k cB cC cI cJ cZ oA rA σ_7, b_p cB cC cI cJ cZ oA rA σ_7, b_o cB cC cI cJ cZ oA rA σ_7, b_s cB cC cI cJ cZ oA rA σ_7, b_c cB cC cI cJ cZ oA rA σ_7, b_t cB cC cI cJ cZ oA rA σ_7, b_d cB cC cI cJ cZ oA rA σ_7]) (bs' := []) (is := []) fl_8 fl_0 rfl) (bx_n (by decide +kernel)) (bx_d (by decide +kernel)) (va_runV (As := [.ref q_19]) (rest := []) ⟨hx, hb, hml, hown, hts⟩ (k_X8_refuse l dC dI cB cC cI cJ cZ cP oA rA H.size q_19 _ ([73, 32, 100, 105, 100, 32, 110, 111, 116, 32, 103, 101, 116, 32, 116, 104, 97, 116, 46] : List Int32) σ_7 _ hu_20) (cwV 1 hts (g_gV wq_1050 wq_1051 wq_2071 wq_12 wq_1052) rfl rfl rfl (by decide +kernel) ⟨Nat.le_of_ble_eq_true rfl, Nat.le_of_ble_eq_true rfl⟩) (g_preV g_blS hK hPc hDc hS hE hFc (g_toS hSq_19 hS hFc) (q0 := 0) (ci := 8) rfl rfl) rfl rfl hl.1 rfl (lv_room (Nat.le_of_ble_eq_true rfl)) dX8_findVerb_81 ⟨Nat.le_of_ble_eq_true rfl, Nat.le_of_ble_eq_true rfl⟩) (fun r9 u9 H locs hw9 hP' hD' hS => ?_)
      clear hPc hDc hFc
      subst hw9
      have hP : va_P (dC, dI) vwCl (b_e cB cC cI cJ cZ oA rA u_20.2 ++ b_k cB cC cI cJ cZ oA rA u_20.2 ++ b_p cB cC cI cJ cZ oA rA u_20.2 ++ b_o cB cC cI cJ cZ oA rA u_20.2 ++ b_s cB cC cI cJ cZ oA rA u_20.2 ++ b_c cB cC cI cJ cZ oA rA u_20.2 ++ b_t cB cC cI cJ cZ oA rA u_20.2 ++ b_d cB cC cI cJ cZ oA rA u_20.2) H := hP'
      clear hP' hD'
      obtain ⟨g_22, hF_23⟩ := nif_e hF_21
      clear hF_21
      have h9 := Option.some.inj hF_23
      subst h9
      exact W.zret (v := u_20.1) hx hb hr (m_bool (Classical.not_not.mp g_22)).1 (fun t ht hW => ⟨⟨u_20.1, (), rfl, rfl, m_end ht hP, hDD _⟩, hS.F ht⟩) hS.2.2 dX8_findVerb_84
  refine lv_icmp_gt (tgt := 69) hx hb dX8_findVerb_18 (by decide) (fun c_24 => ?_) (fun c_24 => ?_)
  · have hF_25 := ipos c_24 hF_9
    clear hF_9
    exact Jj_8  s_3.2.2 hF_25 _ _ hP hS ls (lv_sub hl [0, 1] rfl)
  · have hF_26 := ineg c_24 hF_9
    clear hF_9
    refine lv_iload_n hx hb dX8_findVerb_21 rfl (lv_at hl 3 rfl) ?_
    refine lv_bipush (v := 60) hx hb dX8_findVerb_22 (by decide +kernel) ?_
    refine lv_icmp_gt (tgt := 69) hx hb dX8_findVerb_24 (by decide) (fun c_27 => ?_) (fun c_27 => ?_)
    · have hF_28 := ipos c_27 hF_26
      clear hF_26
      exact Jj_8  s_3.2.2 hF_28 _ _ hP hS ls (lv_sub hl [0, 1] rfl)
    · have hF_29 := ineg c_27 hF_26
      clear hF_26
      refine lv_aload_n hx hb dX8_findVerb_27 rfl (lv_at hl 0 rfl) ?_
      refine va_get (D := (dC, dI)) (ci := 8) (v := .ref (oA 4)) (C := RX8) (T := TX8) (N := 16) hx hb hts ii_X8 hown hK hP 0 rfl rfl 3 (by decide) (hts (.fieldLink RX8 85 "StoryHouse$Teller" "story" "LStoryHouse$Story;") wq_290) (fun _ h9 => h9) rfl dX8_findVerb_28 ?_
      refine lv_bipush (v := 120) hx hb dX8_findVerb_31 (by decide +kernel) ?_
      refine lv_iload_n hx hb dX8_findVerb_33 rfl (lv_at hl 3 rfl) ?_
      refine lv_iadd hx hb dX8_findVerb_34 ?_
      refine lv_aload_n hx hb dX8_findVerb_35 rfl (lv_at hl 0 rfl) ?_
      refine lv_iconst (v := 0) hx hb dX8_findVerb_36 (by decide +kernel) ?_
      obtain ⟨u_30, hu_30, hF_31⟩ := Option.bind_eq_some_iff.mp hF_29
      clear hF_29
      have hPc := bx_P (bs := [b_e cB cC cI cJ cZ oA rA s_3.2.2, b_k cB cC cI cJ cZ oA rA s_3.2.2, b_p cB cC cI cJ cZ oA rA s_3.2.2, b_o cB cC cI cJ cZ oA rA s_3.2.2, b_s cB cC cI cJ cZ oA rA s_3.2.2, b_c cB cC cI cJ cZ oA rA s_3.2.2, b_t cB cC cI cJ cZ oA rA s_3.2.2, b_d cB cC cI cJ cZ oA rA s_3.2.2]) (bs' := [b_e cB cC cI cJ cZ oA rA s_3.2.2, b_k cB cC cI cJ cZ oA rA s_3.2.2, b_p cB cC cI cJ cZ oA rA s_3.2.2, b_o cB cC cI cJ cZ oA rA s_3.2.2, b_s cB cC cI cJ cZ oA rA s_3.2.2, b_c cB cC cI cJ cZ oA rA s_3.2.2, b_t cB cC cI cJ cZ oA rA s_3.2.2, b_d cB cC cI cJ cZ oA rA s_3.2.2]) (ws' := (b_e cB cC cI cJ cZ oA rA s_3.2.2 ++ b_k cB cC cI cJ cZ oA rA s_3.2.2 ++ b_p cB cC cI cJ cZ oA rA s_3.2.2 ++ b_o cB cC cI cJ cZ oA rA s_3.2.2 ++ b_s cB cC cI cJ cZ oA rA s_3.2.2 ++ b_c cB cC cI cJ cZ oA rA s_3.2.2 ++ b_t cB cC cI cJ cZ oA rA s_3.2.2 ++ b_d cB cC cI cJ cZ oA rA s_3.2.2)) hP fl_8 fl_8 [0, 1, 2, 3, 4, 5, 6, 7] rfl
      have hDc := bx_D (bs := [b_e cB cC cI cJ cZ oA rA s_3.2.2, b_k cB cC cI cJ cZ oA rA s_3.2.2, b_p cB cC cI cJ cZ oA rA s_3.2.2, b_o cB cC cI cJ cZ oA rA s_3.2.2, b_s cB cC cI cJ cZ oA rA s_3.2.2, b_c cB cC cI cJ cZ oA rA s_3.2.2, b_t cB cC cI cJ cZ oA rA s_3.2.2, b_d cB cC cI cJ cZ oA rA s_3.2.2]) (bs' := [b_e cB cC cI cJ cZ oA rA s_3.2.2, b_k cB cC cI cJ cZ oA rA s_3.2.2, b_p cB cC cI cJ cZ oA rA s_3.2.2, b_o cB cC cI cJ cZ oA rA s_3.2.2, b_s cB cC cI cJ cZ oA rA s_3.2.2, b_c cB cC cI cJ cZ oA rA s_3.2.2, b_t cB cC cI cJ cZ oA rA s_3.2.2, b_d cB cC cI cJ cZ oA rA s_3.2.2]) (ws' := (b_e cB cC cI cJ cZ oA rA s_3.2.2 ++ b_k cB cC cI cJ cZ oA rA s_3.2.2 ++ b_p cB cC cI cJ cZ oA rA s_3.2.2 ++ b_o cB cC cI cJ cZ oA rA s_3.2.2 ++ b_s cB cC cI cJ cZ oA rA s_3.2.2 ++ b_c cB cC cI cJ cZ oA rA s_3.2.2 ++ b_t cB cC cI cJ cZ oA rA s_3.2.2 ++ b_d cB cC cI cJ cZ oA rA s_3.2.2)) (hDD s_3.2.2) fl_8 fl_8 [0, 1, 2, 3, 4, 5, 6, 7] (by decide +kernel) rfl
      have hFc := bx_F (bs := [b_e cB cC cI cJ cZ oA rA s_3.2.2, b_k cB cC cI cJ cZ oA rA s_3.2.2, b_p cB cC cI cJ cZ oA rA s_3.2.2, b_o cB cC cI cJ cZ oA rA s_3.2.2, b_s cB cC cI cJ cZ oA rA s_3.2.2, b_c cB cC cI cJ cZ oA rA s_3.2.2, b_t cB cC cI cJ cZ oA rA s_3.2.2, b_d cB cC cI cJ cZ oA rA s_3.2.2]) (bs' := [b_e cB cC cI cJ cZ oA rA s_3.2.2, b_k cB cC cI cJ cZ oA rA s_3.2.2, b_p cB cC cI cJ cZ oA rA s_3.2.2, b_o cB cC cI cJ cZ oA rA s_3.2.2, b_s cB cC cI cJ cZ oA rA s_3.2.2, b_c cB cC cI cJ cZ oA rA s_3.2.2, b_t cB cC cI cJ cZ oA rA s_3.2.2, b_d cB cC cI cJ cZ oA rA s_3.2.2]) (wc := (b_e cB cC cI cJ cZ oA rA s_3.2.2 ++ b_k cB cC cI cJ cZ oA rA s_3.2.2 ++ b_p cB cC cI cJ cZ oA rA s_3.2.2 ++ b_o cB cC cI cJ cZ oA rA s_3.2.2 ++ b_s cB cC cI cJ cZ oA rA s_3.2.2 ++ b_c cB cC cI cJ cZ oA rA s_3.2.2 ++ b_t cB cC cI cJ cZ oA rA s_3.2.2 ++ b_d cB cC cI cJ cZ oA rA s_3.2.2)) (hDD s_3.2.2) hS hA fl_8 fl_8 [0, 1, 2, 3, 4, 5, 6, 7] rfl
      refine g_ofi (wc := (b_e cB cC cI cJ cZ oA rA s_3.2.2 ++ b_k cB cC cI cJ cZ oA rA s_3.2.2 ++ b_p cB cC cI cJ cZ oA rA s_3.2.2 ++ b_o cB cC cI cJ cZ oA rA s_3.2.2 ++ b_s cB cC cI cJ cZ oA rA s_3.2.2 ++ b_c cB cC cI cJ cZ oA rA s_3.2.2 ++ b_t cB cC cI cJ cZ oA rA s_3.2.2 ++ b_d cB cC cI cJ cZ oA rA s_3.2.2)) (wr := ([] : va_W)) hP (hDD s_3.2.2) hS hFc (bx_ix [b_e cB cC cI cJ cZ oA rA s_3.2.2, b_k cB cC cI cJ cZ oA rA s_3.2.2, b_p cB cC cI cJ cZ oA rA s_3.2.2, b_o cB cC cI cJ cZ oA rA s_3.2.2, b_s cB cC cI cJ cZ oA rA s_3.2.2, b_c cB cC cI cJ cZ oA rA s_3.2.2, b_t cB cC cI cJ cZ oA rA s_3.2.2, b_d cB cC cI cJ cZ oA rA s_3.2.2] [0, 1, 2, 3, 4, 5, 6, 7]) (bx_ix [b_e cB cC cI cJ cZ oA rA s_3.2.2, b_k cB cC cI cJ cZ oA rA s_3.2.2, b_p cB cC cI cJ cZ oA rA s_3.2.2, b_o cB cC cI cJ cZ oA rA s_3.2.2, b_s cB cC cI cJ cZ oA rA s_3.2.2, b_c cB cC cI cJ cZ oA rA s_3.2.2, b_t cB cC cI cJ cZ oA rA s_3.2.2, b_d cB cC cI cJ cZ oA rA s_3.2.2] []) (bx_C (bs := [b_e cB cC cI cJ cZ oA rA s_3.2.2, b_k cB cC cI cJ cZ oA rA s_3.2.2, b_p cB cC cI cJ cZ oA rA s_3.2.2, b_o cB cC cI cJ cZ oA rA s_3.2.2, b_s cB cC cI cJ cZ oA rA s_3.2.2, b_c cB cC cI cJ cZ oA rA s_3.2.2, b_t cB cC cI cJ cZ oA rA s_3.2.2, b_d cB cC cI cJ cZ oA rA s_3.2.2]) (bs' := [b_e cB cC cI cJ cZ oA rA s_3.2.2, b_k cB cC cI cJ cZ oA rA s_3.2.2, b_p cB cC cI cJ cZ oA rA s_3.2.2, b_o cB cC cI cJ cZ oA rA s_3.2.2, b_s cB cC cI cJ cZ oA rA s_3.2.2, b_c cB cC cI cJ cZ oA rA s_3.2.2, b_t cB cC cI cJ cZ oA rA s_3.2.2, b_d cB cC cI cJ cZ oA rA s_3.2.2]) (is := [0, 1, 2, 3, 4, 5, 6, 7]) fl_8 fl_8 rfl) (bx_C (bs := [b_e cB cC cI cJ cZ oA rA s_3.2.2, b_k cB cC cI cJ cZ oA rA s_3.2.2, b_p cB cC cI cJ cZ oA rA s_3.2.2, b_o cB cC cI cJ cZ oA rA s_3.2.2, b_s cB cC cI cJ cZ oA rA s_3.2.2, b_c cB cC cI cJ cZ oA rA s_3.2.2, b_t cB cC cI cJ cZ oA rA s_3.2.2, b_d cB cC cI cJ cZ oA rA s_3.2.2]) (bs' := []) (is := []) fl_8 fl_0 rfl) (bx_n (by decide +kernel)) (bx_d (by decide +kernel)) (va_runV (As := [.int 0]) (rest := [.int (120 + s_3.2.1), .ref (oA 4)]) ⟨hx, hb, hml, hown, hts⟩ (k_X8_term l dC dI cB cC cI cJ cZ cP oA rA H.size  0 s_3.2.2 _ hu_30) (cwV 1 hts (g_gV wq_1065 wq_1066 wq_2074 wq_12 wq_1067) rfl rfl rfl (by decide +kernel) ⟨Nat.le_of_ble_eq_true rfl, Nat.le_of_ble_eq_true rfl⟩) (g_preV g_bl0 hK hPc hDc hS hE hFc g_to0 (q0 := 0) (ci := 8) rfl rfl) rfl rfl hl.1 rfl (lv_room (Nat.le_of_ble_eq_true rfl)) dX8_findVerb_37 ⟨Nat.le_of_ble_eq_true rfl, Nat.le_of_ble_eq_true rfl⟩) (fun r9 u9 H locs hw9 hP' hD' hS => ?_)
      clear hPc hDc hFc
      subst hw9
      have hP : va_P (dC, dI) vwCl (b_e cB cC cI cJ cZ oA rA u_30.2 ++ b_k cB cC cI cJ cZ oA rA u_30.2 ++ b_p cB cC cI cJ cZ oA rA u_30.2 ++ b_o cB cC cI cJ cZ oA rA u_30.2 ++ b_s cB cC cI cJ cZ oA rA u_30.2 ++ b_c cB cC cI cJ cZ oA rA u_30.2 ++ b_t cB cC cI cJ cZ oA rA u_30.2 ++ b_d cB cC cI cJ cZ oA rA u_30.2) H := hP'
      clear hP' hD'
      obtain ⟨u_32, hu_32, hF_33⟩ := Option.bind_eq_some_iff.mp hF_31
      clear hF_31
      have hPc := bx_P (bs := [b_e cB cC cI cJ cZ oA rA u_30.2, b_k cB cC cI cJ cZ oA rA u_30.2, b_p cB cC cI cJ cZ oA rA u_30.2, b_o cB cC cI cJ cZ oA rA u_30.2, b_s cB cC cI cJ cZ oA rA u_30.2, b_c cB cC cI cJ cZ oA rA u_30.2, b_t cB cC cI cJ cZ oA rA u_30.2, b_d cB cC cI cJ cZ oA rA u_30.2]) (bs' := [b_s cB cC cI cJ cZ oA rA u_30.2, b_c cB cC cI cJ cZ oA rA u_30.2, b_t cB cC cI cJ cZ oA rA u_30.2, b_d cB cC cI cJ cZ oA rA u_30.2]) (ws' := (b_s cB cC cI cJ cZ oA rA u_30.2 ++ b_c cB cC cI cJ cZ oA rA u_30.2 ++ b_t cB cC cI cJ cZ oA rA u_30.2 ++ b_d cB cC cI cJ cZ oA rA u_30.2)) hP fl_8 fl_4 [4, 5, 6, 7] rfl
      have hDc := bx_D (bs := [b_e cB cC cI cJ cZ oA rA u_30.2, b_k cB cC cI cJ cZ oA rA u_30.2, b_p cB cC cI cJ cZ oA rA u_30.2, b_o cB cC cI cJ cZ oA rA u_30.2, b_s cB cC cI cJ cZ oA rA u_30.2, b_c cB cC cI cJ cZ oA rA u_30.2, b_t cB cC cI cJ cZ oA rA u_30.2, b_d cB cC cI cJ cZ oA rA u_30.2]) (bs' := [b_s cB cC cI cJ cZ oA rA u_30.2, b_c cB cC cI cJ cZ oA rA u_30.2, b_t cB cC cI cJ cZ oA rA u_30.2, b_d cB cC cI cJ cZ oA rA u_30.2]) (ws' := (b_s cB cC cI cJ cZ oA rA u_30.2 ++ b_c cB cC cI cJ cZ oA rA u_30.2 ++ b_t cB cC cI cJ cZ oA rA u_30.2 ++ b_d cB cC cI cJ cZ oA rA u_30.2)) (hDD u_30.2) fl_8 fl_4 [4, 5, 6, 7] (by decide +kernel) rfl
      have hFc := bx_F (bs := [b_e cB cC cI cJ cZ oA rA u_30.2, b_k cB cC cI cJ cZ oA rA u_30.2, b_p cB cC cI cJ cZ oA rA u_30.2, b_o cB cC cI cJ cZ oA rA u_30.2, b_s cB cC cI cJ cZ oA rA u_30.2, b_c cB cC cI cJ cZ oA rA u_30.2, b_t cB cC cI cJ cZ oA rA u_30.2, b_d cB cC cI cJ cZ oA rA u_30.2]) (bs' := [b_s cB cC cI cJ cZ oA rA u_30.2, b_c cB cC cI cJ cZ oA rA u_30.2, b_t cB cC cI cJ cZ oA rA u_30.2, b_d cB cC cI cJ cZ oA rA u_30.2]) (wc := (b_s cB cC cI cJ cZ oA rA u_30.2 ++ b_c cB cC cI cJ cZ oA rA u_30.2 ++ b_t cB cC cI cJ cZ oA rA u_30.2 ++ b_d cB cC cI cJ cZ oA rA u_30.2)) (hDD u_30.2) hS hA fl_8 fl_4 [4, 5, 6, 7] rfl
      refine g_ofi (wc := (b_s cB cC cI cJ cZ oA rA u_30.2 ++ b_c cB cC cI cJ cZ oA rA u_30.2 ++ b_t cB cC cI cJ cZ oA rA u_30.2 ++ b_d cB cC cI cJ cZ oA rA u_30.2)) (wr := (b_e cB cC cI cJ cZ oA rA u_30.2 ++ b_k cB cC cI cJ cZ oA rA u_30.2 ++ b_p cB cC cI cJ cZ oA rA u_30.2 ++ b_o cB cC cI cJ cZ oA rA u_30.2)) hP (hDD u_30.2) hS hFc (bx_ix [b_e cB cC cI cJ cZ oA rA u_30.2, b_k cB cC cI cJ cZ oA rA u_30.2, b_p cB cC cI cJ cZ oA rA u_30.2, b_o cB cC cI cJ cZ oA rA u_30.2, b_s cB cC cI cJ cZ oA rA u_30.2, b_c cB cC cI cJ cZ oA rA u_30.2, b_t cB cC cI cJ cZ oA rA u_30.2, b_d cB cC cI cJ cZ oA rA u_30.2] [4, 5, 6, 7]) (bx_ix [b_e cB cC cI cJ cZ oA rA u_30.2, b_k cB cC cI cJ cZ oA rA u_30.2, b_p cB cC cI cJ cZ oA rA u_30.2, b_o cB cC cI cJ cZ oA rA u_30.2, b_s cB cC cI cJ cZ oA rA u_30.2, b_c cB cC cI cJ cZ oA rA u_30.2, b_t cB cC cI cJ cZ oA rA u_30.2, b_d cB cC cI cJ cZ oA rA u_30.2] [0, 1, 2, 3]) (bx_C (bs := [b_e cB cC cI cJ cZ oA rA u_30.2, b_k cB cC cI cJ cZ oA rA u_30.2, b_p cB cC cI cJ cZ oA rA u_30.2, b_o cB cC cI cJ cZ oA rA u_30.2, b_s cB cC cI cJ cZ oA rA u_30.2, b_c cB cC cI cJ cZ oA rA u_30.2, b_t cB cC cI cJ cZ oA rA u_30.2, b_d cB cC cI cJ cZ oA rA u_30.2]) (bs' := [b_s cB cC cI cJ cZ oA rA u_30.2, b_c cB cC cI cJ cZ oA rA u_30.2, b_t cB cC cI cJ cZ oA rA u_30.2, b_d cB cC cI cJ cZ oA rA u_30.2]) (is := [4, 5, 6, 7]) fl_8 fl_4 rfl) (bx_C (bs := [b_e cB cC cI cJ cZ oA rA u_30.2, b_k cB cC cI cJ cZ oA rA u_30.2, b_p cB cC cI cJ cZ oA rA u_30.2, b_o cB cC cI cJ cZ oA rA u_30.2, b_s cB cC cI cJ cZ oA rA u_30.2, b_c cB cC cI cJ cZ oA rA u_30.2, b_t cB cC cI cJ cZ oA rA u_30.2, b_d cB cC cI cJ cZ oA rA u_30.2]) (bs' := [b_e cB cC cI cJ cZ oA rA u_30.2, b_k cB cC cI cJ cZ oA rA u_30.2, b_p cB cC cI cJ cZ oA rA u_30.2, b_o cB cC cI cJ cZ oA rA u_30.2]) (is := [0, 1, 2, 3]) fl_8 fl_4 rfl) (bx_n (by decide +kernel)) (bx_d (by decide +kernel)) (va_runV (As := [.int (120 + s_3.2.1), .int u_30.1]) (rest := []) ⟨hx, hb, hml, hown, hts⟩ (k_X7_owns l dC dI cB cC cI cJ cZ cP oA rA H.size  (120 + s_3.2.1) u_30.1 u_30.2 _ hu_32) (cwV 2 hts (g_gV wq_1078 wq_1079 wq_1080 wq_5 wq_1081) rfl rfl rfl (by decide +kernel) ⟨Nat.le_of_ble_eq_true rfl, Nat.le_of_ble_eq_true rfl⟩) (g_preV g_bl0 hK hPc hDc hS hE hFc g_to0 (q0 := 0) (ci := 7) rfl rfl) rfl rfl hl.1 rfl (lv_room (Nat.le_of_ble_eq_true rfl)) dX8_findVerb_40 ⟨Nat.le_of_ble_eq_true rfl, Nat.le_of_ble_eq_true rfl⟩) (fun r9 u9 H locs hw9 hP' hD' hS => ?_)
      clear hPc hDc hFc
      subst hw9
      obtain ⟨σ_34, eσ_34, hF_35⟩ := bnd_e hF_33
      clear hF_33
      have hP : va_P (dC, dI) vwCl (b_e cB cC cI cJ cZ oA rA σ_34 ++ b_k cB cC cI cJ cZ oA rA σ_34 ++ b_p cB cC cI cJ cZ oA rA σ_34 ++ b_o cB cC cI cJ cZ oA rA σ_34 ++ b_s cB cC cI cJ cZ oA rA σ_34 ++ b_c cB cC cI cJ cZ oA rA σ_34 ++ b_t cB cC cI cJ cZ oA rA σ_34 ++ b_d cB cC cI cJ cZ oA rA σ_34) H := by rw [eσ_34]; exact bx_P (bs := [b_e cB cC cI cJ cZ oA rA u_30.2, b_k cB cC cI cJ cZ oA rA u_30.2, b_p cB cC cI cJ cZ oA rA u_30.2, b_o cB cC cI cJ cZ oA rA u_30.2] ++ [b_s cB cC cI cJ cZ oA rA u_32.2, b_c cB cC cI cJ cZ oA rA u_32.2, b_t cB cC cI cJ cZ oA rA u_32.2, b_d cB cC cI cJ cZ oA rA u_32.2]) (bs' := [b_e cB cC cI cJ cZ oA rA (mrg (fun j => j == 4 || j == 5 || j == 6 || j == 7) u_30.2 u_32.2), b_k cB cC cI cJ cZ oA rA (mrg (fun j => j == 4 || j == 5 || j == 6 || j == 7) u_30.2 u_32.2), b_p cB cC cI cJ cZ oA rA (mrg (fun j => j == 4 || j == 5 || j == 6 || j == 7) u_30.2 u_32.2), b_o cB cC cI cJ cZ oA rA (mrg (fun j => j == 4 || j == 5 || j == 6 || j == 7) u_30.2 u_32.2), b_s cB cC cI cJ cZ oA rA (mrg (fun j => j == 4 || j == 5 || j == 6 || j == 7) u_30.2 u_32.2), b_c cB cC cI cJ cZ oA rA (mrg (fun j => j == 4 || j == 5 || j == 6 || j == 7) u_30.2 u_32.2), b_t cB cC cI cJ cZ oA rA (mrg (fun j => j == 4 || j == 5 || j == 6 || j == 7) u_30.2 u_32.2), b_d cB cC cI cJ cZ oA rA (mrg (fun j => j == 4 || j == 5 || j == 6 || j == 7) u_30.2 u_32.2)]) hP' (fl_a fl_4 fl_4) fl_8 [0, 1, 2, 3, 4, 5, 6, 7] rfl
      clear hP' hD'
      obtain ⟨j_38, ej_38, hF_39⟩ := bnd_e hF_35
      clear hF_35
      have Jj_38 : ∀ (v1_36 : Int32) (σ_37 : HS), j_38 v1_36 σ_37 = some res → ∀ (H : Heap) (locs : List Loc), va_P (dC, dI) vwCl (b_e cB cC cI cJ cZ oA rA σ_37 ++ b_k cB cC cI cJ cZ oA rA σ_37 ++ b_p cB cC cI cJ cZ oA rA σ_37 ++ b_o cB cC cI cJ cZ oA rA σ_37 ++ b_s cB cC cI cJ cZ oA rA σ_37 ++ b_c cB cC cI cJ cZ oA rA σ_37 ++ b_t cB cC cI cJ cZ oA rA σ_37 ++ b_d cB cC cI cJ cZ oA rA σ_37) H → va_S A s.heap H locs → ∀ ls : Array Slot, lv_has ls 4 [(0, .ref (oA 11)), (1, .int v1_36), (2, .int x_1), (3, .int s_3.2.1)] → W p l e (headSpec (g_ws yX8_findVerb cX8_findVerb 4 (some .boolean)) { frames := 8, cells := 0, slots := 0, locals := 189 }).room s m ([.ref (oA 11)] : List Value).toArray below meth c H locs 0 0 (MQ below (va_Qi (fun r (_ : Unit) => r = res.1) (g_Bo (dC, dI) A (fun (_ : Unit) => (b_e cB cC cI cJ cZ oA rA res.2 ++ b_k cB cC cI cJ cZ oA rA res.2 ++ b_p cB cC cI cJ cZ oA rA res.2 ++ b_o cB cC cI cJ cZ oA rA res.2 ++ b_s cB cC cI cJ cZ oA rA res.2 ++ b_c cB cC cI cJ cZ oA rA res.2 ++ b_t cB cC cI cJ cZ oA rA res.2 ++ b_d cB cC cI cJ cZ oA rA res.2))) A) ([.ref (oA 11)] : List Value).toArray s 0 0 A) (F0 m 63 ls []) := by
        intro v1_36 σ_37 hF0 H locs hP hS ls hl
        subst ej_38
        have hF_40 := hF0
        clear hF0
        obtain ⟨x_41, ex_41, hF_42⟩ := bnd_e hF_40
        clear hF_40
        refine lv_iinc (v := x_41) (lv' := [(3, .int x_41), (0, .ref (oA 11)), (1, .int v1_36), (2, .int x_1)]) hx hb dX8_findVerb_63 hl (k := 3) rfl (by rw [ex_41]; rfl) (by decide) rfl (fun ls hl => ?_)
        refine lv_goto (tgt := 16) hx hb dX8_findVerb_66 (by decide) ?_
        exact ih_5 (v1_36, x_41, σ_37) hF_42 _ _ hP hS ls (lv_sub hl [1, 2, 3, 0] rfl)
      refine lv_if_eq (tgt := 63) hx hb dX8_findVerb_43 (by decide) (fun c_43 => ?_) (fun c_43 => ?_)
      · have hF_44 := ipos c_43 hF_39
        clear hF_39
        exact Jj_38 s_3.1 σ_34 hF_44 _ _ hP hS ls (lv_sub hl [0, 1, 2, 3] rfl)
      · have hF_45 := ineg c_43 hF_39
        clear hF_39
        refine lv_iconst (v := 1) hx hb dX8_findVerb_46 (by decide +kernel) ?_
        refine lv_istore_n (lv' := [(1, .int 1), (0, .ref (oA 11)), (2, .int x_1), (3, .int s_3.2.1)]) hx hb dX8_findVerb_47 rfl hl (by decide) rfl (fun ls hl => ?_)
        refine lv_aload_n hx hb dX8_findVerb_48 rfl (lv_at hl 1 rfl) ?_
        refine lv_iload_n hx hb dX8_findVerb_49 rfl (lv_at hl 3 rfl) ?_
        obtain ⟨u_46, hu_46, hF_47⟩ := Option.bind_eq_some_iff.mp hF_45
        clear hF_45
        have hPc := bx_P (bs := [b_e cB cC cI cJ cZ oA rA σ_34, b_k cB cC cI cJ cZ oA rA σ_34, b_p cB cC cI cJ cZ oA rA σ_34, b_o cB cC cI cJ cZ oA rA σ_34, b_s cB cC cI cJ cZ oA rA σ_34, b_c cB cC cI cJ cZ oA rA σ_34, b_t cB cC cI cJ cZ oA rA σ_34, b_d cB cC cI cJ cZ oA rA σ_34]) (bs' := [b_e cB cC cI cJ cZ oA rA σ_34, b_k cB cC cI cJ cZ oA rA σ_34, b_p cB cC cI cJ cZ oA rA σ_34, b_o cB cC cI cJ cZ oA rA σ_34, b_s cB cC cI cJ cZ oA rA σ_34, b_c cB cC cI cJ cZ oA rA σ_34, b_t cB cC cI cJ cZ oA rA σ_34, b_d cB cC cI cJ cZ oA rA σ_34]) (ws' := (b_e cB cC cI cJ cZ oA rA σ_34 ++ b_k cB cC cI cJ cZ oA rA σ_34 ++ b_p cB cC cI cJ cZ oA rA σ_34 ++ b_o cB cC cI cJ cZ oA rA σ_34 ++ b_s cB cC cI cJ cZ oA rA σ_34 ++ b_c cB cC cI cJ cZ oA rA σ_34 ++ b_t cB cC cI cJ cZ oA rA σ_34 ++ b_d cB cC cI cJ cZ oA rA σ_34)) hP fl_8 fl_8 [0, 1, 2, 3, 4, 5, 6, 7] rfl
        have hDc := bx_D (bs := [b_e cB cC cI cJ cZ oA rA σ_34, b_k cB cC cI cJ cZ oA rA σ_34, b_p cB cC cI cJ cZ oA rA σ_34, b_o cB cC cI cJ cZ oA rA σ_34, b_s cB cC cI cJ cZ oA rA σ_34, b_c cB cC cI cJ cZ oA rA σ_34, b_t cB cC cI cJ cZ oA rA σ_34, b_d cB cC cI cJ cZ oA rA σ_34]) (bs' := [b_e cB cC cI cJ cZ oA rA σ_34, b_k cB cC cI cJ cZ oA rA σ_34, b_p cB cC cI cJ cZ oA rA σ_34, b_o cB cC cI cJ cZ oA rA σ_34, b_s cB cC cI cJ cZ oA rA σ_34, b_c cB cC cI cJ cZ oA rA σ_34, b_t cB cC cI cJ cZ oA rA σ_34, b_d cB cC cI cJ cZ oA rA σ_34]) (ws' := (b_e cB cC cI cJ cZ oA rA σ_34 ++ b_k cB cC cI cJ cZ oA rA σ_34 ++ b_p cB cC cI cJ cZ oA rA σ_34 ++ b_o cB cC cI cJ cZ oA rA σ_34 ++ b_s cB cC cI cJ cZ oA rA σ_34 ++ b_c cB cC cI cJ cZ oA rA σ_34 ++ b_t cB cC cI cJ cZ oA rA σ_34 ++ b_d cB cC cI cJ cZ oA rA σ_34)) (hDD σ_34) fl_8 fl_8 [0, 1, 2, 3, 4, 5, 6, 7] (by decide +kernel) rfl
        have hFc := bx_F (bs := [b_e cB cC cI cJ cZ oA rA σ_34, b_k cB cC cI cJ cZ oA rA σ_34, b_p cB cC cI cJ cZ oA rA σ_34, b_o cB cC cI cJ cZ oA rA σ_34, b_s cB cC cI cJ cZ oA rA σ_34, b_c cB cC cI cJ cZ oA rA σ_34, b_t cB cC cI cJ cZ oA rA σ_34, b_d cB cC cI cJ cZ oA rA σ_34]) (bs' := [b_e cB cC cI cJ cZ oA rA σ_34, b_k cB cC cI cJ cZ oA rA σ_34, b_p cB cC cI cJ cZ oA rA σ_34, b_o cB cC cI cJ cZ oA rA σ_34, b_s cB cC cI cJ cZ oA rA σ_34, b_c cB cC cI cJ cZ oA rA σ_34, b_t cB cC cI cJ cZ oA rA σ_34, b_d cB cC cI cJ cZ oA rA σ_34]) (wc := (b_e cB cC cI cJ cZ oA rA σ_34 ++ b_k cB cC cI cJ cZ oA rA σ_34 ++ b_p cB cC cI cJ cZ oA rA σ_34 ++ b_o cB cC cI cJ cZ oA rA σ_34 ++ b_s cB cC cI cJ cZ oA rA σ_34 ++ b_c cB cC cI cJ cZ oA rA σ_34 ++ b_t cB cC cI cJ cZ oA rA σ_34 ++ b_d cB cC cI cJ cZ oA rA σ_34)) (hDD σ_34) hS hA fl_8 fl_8 [0, 1, 2, 3, 4, 5, 6, 7] rfl
        refine g_ofi (wc := (b_e cB cC cI cJ cZ oA rA σ_34 ++ b_k cB cC cI cJ cZ oA rA σ_34 ++ b_p cB cC cI cJ cZ oA rA σ_34 ++ b_o cB cC cI cJ cZ oA rA σ_34 ++ b_s cB cC cI cJ cZ oA rA σ_34 ++ b_c cB cC cI cJ cZ oA rA σ_34 ++ b_t cB cC cI cJ cZ oA rA σ_34 ++ b_d cB cC cI cJ cZ oA rA σ_34)) (wr := ([] : va_W)) hP (hDD σ_34) hS hFc (bx_ix [b_e cB cC cI cJ cZ oA rA σ_34, b_k cB cC cI cJ cZ oA rA σ_34, b_p cB cC cI cJ cZ oA rA σ_34, b_o cB cC cI cJ cZ oA rA σ_34, b_s cB cC cI cJ cZ oA rA σ_34, b_c cB cC cI cJ cZ oA rA σ_34, b_t cB cC cI cJ cZ oA rA σ_34, b_d cB cC cI cJ cZ oA rA σ_34] [0, 1, 2, 3, 4, 5, 6, 7]) (bx_ix [b_e cB cC cI cJ cZ oA rA σ_34, b_k cB cC cI cJ cZ oA rA σ_34, b_p cB cC cI cJ cZ oA rA σ_34, b_o cB cC cI cJ cZ oA rA σ_34, b_s cB cC cI cJ cZ oA rA σ_34, b_c cB cC cI cJ cZ oA rA σ_34, b_t cB cC cI cJ cZ oA rA σ_34, b_d cB cC cI cJ cZ oA rA σ_34] []) (bx_C (bs := [b_e cB cC cI cJ cZ oA rA σ_34, b_k cB cC cI cJ cZ oA rA σ_34, b_p cB cC cI cJ cZ oA rA σ_34, b_o cB cC cI cJ cZ oA rA σ_34, b_s cB cC cI cJ cZ oA rA σ_34, b_c cB cC cI cJ cZ oA rA σ_34, b_t cB cC cI cJ cZ oA rA σ_34, b_d cB cC cI cJ cZ oA rA σ_34]) (bs' := [b_e cB cC cI cJ cZ oA rA σ_34, b_k cB cC cI cJ cZ oA rA σ_34, b_p cB cC cI cJ cZ oA rA σ_34, b_o cB cC cI cJ cZ oA rA σ_34, b_s cB cC cI cJ cZ oA rA σ_34, b_c cB cC cI cJ cZ oA rA σ_34, b_t cB cC cI cJ cZ oA rA σ_34, b_d cB cC cI cJ cZ oA rA σ_34]) (is := [0, 1, 2, 3, 4, 5, 6, 7]) fl_8 fl_8 rfl) (bx_C (bs := [b_e cB cC cI cJ cZ oA rA σ_34, b_k cB cC cI cJ cZ oA rA σ_34, b_p cB cC cI cJ cZ oA rA σ_34, b_o cB cC cI cJ cZ oA rA σ_34, b_s cB cC cI cJ cZ oA rA σ_34, b_c cB cC cI cJ cZ oA rA σ_34, b_t cB cC cI cJ cZ oA rA σ_34, b_d cB cC cI cJ cZ oA rA σ_34]) (bs' := []) (is := []) fl_8 fl_0 rfl) (bx_n (by decide +kernel)) (bx_d (by decide +kernel)) (va_runV (As := [.int s_3.2.1]) (rest := []) ⟨hx, hb, hml, hown, hts⟩ (k_X8_fits l dC dI cB cC cI cJ cZ cP oA rA H.size  s_3.2.1 σ_34 _ hu_46) (cwV 1 hts (g_gV wq_1082 wq_1083 wq_2076 wq_12 wq_1084) rfl rfl rfl (by decide +kernel) ⟨Nat.le_of_ble_eq_true rfl, Nat.le_of_ble_eq_true rfl⟩) (g_preV g_bl0 hK hPc hDc hS hE hFc g_to0 (q0 := 0) (ci := 8) rfl rfl) rfl rfl hl.1 rfl (lv_room (Nat.le_of_ble_eq_true rfl)) dX8_findVerb_50 ⟨Nat.le_of_ble_eq_true rfl, Nat.le_of_ble_eq_true rfl⟩) (fun r9 u9 H locs hw9 hP' hD' hS => ?_)
        clear hPc hDc hFc
        subst hw9
        have hP : va_P (dC, dI) vwCl (b_e cB cC cI cJ cZ oA rA u_46.2 ++ b_k cB cC cI cJ cZ oA rA u_46.2 ++ b_p cB cC cI cJ cZ oA rA u_46.2 ++ b_o cB cC cI cJ cZ oA rA u_46.2 ++ b_s cB cC cI cJ cZ oA rA u_46.2 ++ b_c cB cC cI cJ cZ oA rA u_46.2 ++ b_t cB cC cI cJ cZ oA rA u_46.2 ++ b_d cB cC cI cJ cZ oA rA u_46.2) H := hP'
        clear hP' hD'
        refine lv_if_eq (tgt := 63) hx hb dX8_findVerb_53 (by decide) (fun c_48 => ?_) (fun c_48 => ?_)
        · have hF_49 := ipos c_48 hF_47
          clear hF_47
          exact Jj_38 1 u_46.2 hF_49 _ _ hP hS ls (lv_sub hl [1, 0, 2, 3] rfl)
        · have hF_50 := ineg c_48 hF_47
          clear hF_47
          refine lv_aload_n hx hb dX8_findVerb_56 rfl (lv_at hl 1 rfl) ?_
          refine lv_iload_n hx hb dX8_findVerb_57 rfl (lv_at hl 3 rfl) ?_
          obtain ⟨σ_51, eσ_51, hF_52⟩ := bnd_e hF_50
          clear hF_50
          refine va_put (D := (dC, dI)) (ci := 8) (v := .int s_3.2.1) (ty := .int) (C := RX8) (T := TX8) (N := 16) hx hb hts ii_X8 tyX8 tyX8_ok nmX8 hown hK hP (hDD _) hS 0 rfl rfl 8 (by decide) (hts (.fieldLink RX8 127 "StoryHouse$Teller" "verb" "I") wq_295) (fun _ h9 => h9) rfl (by decide +kernel) rfl rfl (Nat.le_of_ble_eq_true rfl) dX8_findVerb_58 (fun H locs hP' _ hS => ?_)
          have hP : va_P (dC, dI) vwCl (b_e cB cC cI cJ cZ oA rA σ_51 ++ b_k cB cC cI cJ cZ oA rA σ_51 ++ b_p cB cC cI cJ cZ oA rA σ_51 ++ b_o cB cC cI cJ cZ oA rA σ_51 ++ b_s cB cC cI cJ cZ oA rA σ_51 ++ b_c cB cC cI cJ cZ oA rA σ_51 ++ b_t cB cC cI cJ cZ oA rA σ_51 ++ b_d cB cC cI cJ cZ oA rA σ_51) H := by rw [eσ_51]; exact cs_ekposctd_e_8 ▸ hP'
          clear hP'
          refine lv_iconst (v := 1) hx hb dX8_findVerb_61 (by decide +kernel) ?_
          have h9 := Option.some.inj hF_52
          subst h9
          exact W.zret (v := 1) hx hb hr (by decide +kernel) (fun t ht hW => ⟨⟨1, (), rfl, rfl, m_end ht hP, hDD _⟩, hS.F ht⟩) hS.2.2 dX8_findVerb_62
theorem dX8_understand_0 : decode cX8_understand 0 = .ok (.aload_n 0, 1) := by decide +kernel
theorem dX8_understand_1 : decode cX8_understand 1 = .ok (.iconst 0, 1) := by decide +kernel
theorem dX8_understand_2 : decode cX8_understand 2 = .ok (.putfield 114, 3) := by decide +kernel
theorem dX8_understand_5 : decode cX8_understand 5 = .ok (.aload_n 0, 1) := by decide +kernel
theorem dX8_understand_6 : decode cX8_understand 6 = .ok (.iconst 0, 1) := by decide +kernel
theorem dX8_understand_7 : decode cX8_understand 7 = .ok (.putfield 117, 3) := by decide +kernel
theorem dX8_understand_10 : decode cX8_understand 10 = .ok (.aload_n 0, 1) := by decide +kernel
theorem dX8_understand_11 : decode cX8_understand 11 = .ok (.iconst 0, 1) := by decide +kernel
theorem dX8_understand_12 : decode cX8_understand 12 = .ok (.putfield 120, 3) := by decide +kernel
theorem dX8_understand_15 : decode cX8_understand 15 = .ok (.aload_n 0, 1) := by decide +kernel
theorem dX8_understand_16 : decode cX8_understand 16 = .ok (.iconst 0, 1) := by decide +kernel
theorem dX8_understand_17 : decode cX8_understand 17 = .ok (.invokevirtual 55, 3) := by decide +kernel
theorem dX8_understand_20 : decode cX8_understand 20 = .ok (.bipush 8, 2) := by decide +kernel
theorem dX8_understand_22 : decode cX8_understand 22 = .ok (.if_icmp .ne 7, 3) := by decide +kernel
theorem dX8_understand_25 : decode cX8_understand 25 = .ok (.iconst 1, 1) := by decide +kernel
theorem dX8_understand_26 : decode cX8_understand 26 = .ok (.goto 4, 3) := by decide +kernel
theorem dX8_understand_29 : decode cX8_understand 29 = .ok (.iconst 0, 1) := by decide +kernel
theorem dX8_understand_30 : decode cX8_understand 30 = .ok (.istore_n 1, 1) := by decide +kernel
theorem dX8_understand_31 : decode cX8_understand 31 = .ok (.aload_n 0, 1) := by decide +kernel
theorem dX8_understand_32 : decode cX8_understand 32 = .ok (.aload_n 0, 1) := by decide +kernel
theorem dX8_understand_33 : decode cX8_understand 33 = .ok (.getfield 50, 3) := by decide +kernel
theorem dX8_understand_36 : decode cX8_understand 36 = .ok (.iconst 1, 1) := by decide +kernel
theorem dX8_understand_37 : decode cX8_understand 37 = .ok (.isub, 1) := by decide +kernel
theorem dX8_understand_38 : decode cX8_understand 38 = .ok (.invokevirtual 55, 3) := by decide +kernel
theorem dX8_understand_41 : decode cX8_understand 41 = .ok (.invokestatic 124, 3) := by decide +kernel
theorem dX8_understand_44 : decode cX8_understand 44 = .ok (.istore_n 2, 1) := by decide +kernel
theorem dX8_understand_45 : decode cX8_understand 45 = .ok (.iload_n 2, 1) := by decide +kernel
theorem dX8_understand_46 : decode cX8_understand 46 = .ok (.ifCond .eq 32, 3) := by decide +kernel
theorem dX8_understand_49 : decode cX8_understand 49 = .ok (.aload_n 0, 1) := by decide +kernel
theorem dX8_understand_50 : decode cX8_understand 50 = .ok (.getfield 50, 3) := by decide +kernel
theorem dX8_understand_53 : decode cX8_understand 53 = .ok (.iload_n 1, 1) := by decide +kernel
theorem dX8_understand_54 : decode cX8_understand 54 = .ok (.ifCond .eq 7, 3) := by decide +kernel
theorem dX8_understand_57 : decode cX8_understand 57 = .ok (.iconst 2, 1) := by decide +kernel
theorem dX8_understand_58 : decode cX8_understand 58 = .ok (.goto 4, 3) := by decide +kernel
theorem dX8_understand_61 : decode cX8_understand 61 = .ok (.iconst 1, 1) := by decide +kernel
theorem dX8_understand_62 : decode cX8_understand 62 = .ok (.if_icmp .ne 16, 3) := by decide +kernel
theorem dX8_understand_65 : decode cX8_understand 65 = .ok (.aload_n 0, 1) := by decide +kernel
theorem dX8_understand_66 : decode cX8_understand 66 = .ok (.bipush 11, 2) := by decide +kernel
theorem dX8_understand_68 : decode cX8_understand 68 = .ok (.putfield 127, 3) := by decide +kernel
theorem dX8_understand_71 : decode cX8_understand 71 = .ok (.aload_n 0, 1) := by decide +kernel
theorem dX8_understand_72 : decode cX8_understand 72 = .ok (.iload_n 2, 1) := by decide +kernel
theorem dX8_understand_73 : decode cX8_understand 73 = .ok (.putfield 114, 3) := by decide +kernel
theorem dX8_understand_76 : decode cX8_understand 76 = .ok (.iconst 1, 1) := by decide +kernel
theorem dX8_understand_77 : decode cX8_understand 77 = .ok (.ireturn, 1) := by decide +kernel
theorem dX8_understand_78 : decode cX8_understand 78 = .ok (.iload_n 1, 1) := by decide +kernel
theorem dX8_understand_79 : decode cX8_understand 79 = .ok (.ifCond .eq 10, 3) := by decide +kernel
theorem dX8_understand_82 : decode cX8_understand 82 = .ok (.aload_n 0, 1) := by decide +kernel
theorem dX8_understand_83 : decode cX8_understand 83 = .ok (.ldc 130, 2) := by decide +kernel
theorem dX8_understand_85 : decode cX8_understand 85 = .ok (.invokevirtual 42, 3) := by decide +kernel
theorem dX8_understand_88 : decode cX8_understand 88 = .ok (.ireturn, 1) := by decide +kernel
theorem dX8_understand_89 : decode cX8_understand 89 = .ok (.aload_n 0, 1) := by decide +kernel
theorem dX8_understand_90 : decode cX8_understand 90 = .ok (.invokevirtual 132, 3) := by decide +kernel
theorem dX8_understand_93 : decode cX8_understand 93 = .ok (.ifCond .eq 14, 3) := by decide +kernel
theorem dX8_understand_96 : decode cX8_understand 96 = .ok (.aload_n 0, 1) := by decide +kernel
theorem dX8_understand_97 : decode cX8_understand 97 = .ok (.invokevirtual 136, 3) := by decide +kernel
theorem dX8_understand_100 : decode cX8_understand 100 = .ok (.ifCond .eq 7, 3) := by decide +kernel
theorem dX8_understand_103 : decode cX8_understand 103 = .ok (.iconst 1, 1) := by decide +kernel
theorem dX8_understand_104 : decode cX8_understand 104 = .ok (.goto 4, 3) := by decide +kernel
theorem dX8_understand_107 : decode cX8_understand 107 = .ok (.iconst 0, 1) := by decide +kernel
theorem dX8_understand_108 : decode cX8_understand 108 = .ok (.ireturn, 1) := by decide +kernel
def F_X8_understand  (Γ : HS) : HR :=
  bnd (cI' Γ 11 10 0) fun σ_1 =>
  bnd (cI' σ_1 11 11 0) fun σ_3 =>
  bnd (cI' σ_3 11 12 0) fun σ_5 =>
  (F_X8_term 0 σ_5).bind fun u_7 =>
  bnd (fun (t_9 : Int32) (σ_10 : HS) => (
    (F_X8_term (((σ_10 11).1 7) - 1) σ_10).bind fun u_14 =>
    (F_X8_directionOf u_14.1 u_14.2).bind fun u_16 =>
    bnd (fun  (σ_18 : HS) => (
      if t_9 = 0 then (
        (F_X8_findVerb σ_18).bind fun u_24 =>
        if u_24.1 = 0 then (
          some (0, u_24.2)
        ) else (
          (F_X8_findNouns u_24.2).bind fun u_29 =>
          if u_29.1 = 0 then (
            some (0, u_29.2)
          ) else (
            some (1, u_29.2)
          )
        )
      ) else (
        (F_X8_refuse ([87, 104, 101, 114, 101, 32, 100, 111, 32, 121, 111, 117, 32, 119, 97, 110, 116, 32, 116, 111, 32, 103, 111, 63] : List Int32) σ_18).bind fun u_36 =>
        if ¬ (u_36.1 = 0 ∨ u_36.1 = 1) then none else
        some (u_36.1, u_36.2)
      )
    ) : HS → HR) fun j_19 =>
    if u_16.1 = 0 then (
      j_19  u_14.2
    ) else (
      bnd (fun (t_43 : Int32) (σ_44 : HS) => (
        if ((u_14.2 11).1 7) = t_43 then (
          bnd (cI' σ_44 11 8 11) fun σ_50 =>
          bnd (cI' σ_50 11 10 u_16.1) fun σ_52 =>
          some (1, σ_52)
        ) else (
          j_19  σ_44
        )
      ) : Int32 → HS → HR) fun j_45 =>
      if t_9 = 0 then (
        j_45 1 u_14.2
      ) else (
        j_45 2 u_14.2
      )
    )
  ) : Int32 → HS → HR) fun j_11 =>
  if u_7.1 = 8 then (
    j_11 1 u_7.2
  ) else (
    j_11 0 u_7.2
  )
set_option maxHeartbeats 4000000 in
set_option maxRecDepth 100000 in
theorem k_X8_understand (l : Launch) (dC : Nat → ClassId) (dI : Nat → Nat → Nat) (cB cC cI cJ cZ cP : ClassId) (oA : Nat → Nat) (rA : Nat → Nat → Nat) (sz : Nat)   (Γ : HS) (res : Int32 × HS) (hF : F_X8_understand  Γ = some res) : Met l yX8_understand (g_ws yX8_understand cX8_understand 3 (some .boolean)) ({ frames := 10, cells := 0, slots := 0, locals := 234 }) (va_Pc [.ref (oA 11)] (g_B (dC, dI) [(cB, .byte), (cC, .char), (cI, .int), (cJ, .long), (cZ, .boolean), (cP, .object "StoryHouse$Play")] sz (b_e cB cC cI cJ cZ oA rA Γ ++ b_k cB cC cI cJ cZ oA rA Γ ++ b_p cB cC cI cJ cZ oA rA Γ ++ b_o cB cC cI cJ cZ oA rA Γ ++ b_s cB cC cI cJ cZ oA rA Γ ++ b_c cB cC cI cJ cZ oA rA Γ ++ b_t cB cC cI cJ cZ oA rA Γ ++ b_d cB cC cI cJ cZ oA rA Γ) g_0)) (va_Qi (fun r (_ : Unit) => r = res.1) (g_Bo (dC, dI) (va_A (b_e cB cC cI cJ cZ oA rA Γ ++ b_k cB cC cI cJ cZ oA rA Γ ++ b_p cB cC cI cJ cZ oA rA Γ ++ b_o cB cC cI cJ cZ oA rA Γ ++ b_s cB cC cI cJ cZ oA rA Γ ++ b_c cB cC cI cJ cZ oA rA Γ ++ b_t cB cC cI cJ cZ oA rA Γ ++ b_d cB cC cI cJ cZ oA rA Γ) sz) (fun (_ : Unit) => (b_e cB cC cI cJ cZ oA rA res.2 ++ b_k cB cC cI cJ cZ oA rA res.2 ++ b_p cB cC cI cJ cZ oA rA res.2 ++ b_o cB cC cI cJ cZ oA rA res.2 ++ b_s cB cC cI cJ cZ oA rA res.2 ++ b_c cB cC cI cJ cZ oA rA res.2 ++ b_t cB cC cI cJ cZ oA rA res.2 ++ b_d cB cC cI cJ cZ oA rA res.2))) (va_A (b_e cB cC cI cJ cZ oA rA Γ ++ b_k cB cC cI cJ cZ oA rA Γ ++ b_p cB cC cI cJ cZ oA rA Γ ++ b_o cB cC cI cJ cZ oA rA Γ ++ b_s cB cC cI cJ cZ oA rA Γ ++ b_c cB cC cI cJ cZ oA rA Γ ++ b_t cB cC cI cJ cZ oA rA Γ ++ b_d cB cC cI cJ cZ oA rA Γ) sz)) 0 0 (va_A (b_e cB cC cI cJ cZ oA rA Γ ++ b_k cB cC cI cJ cZ oA rA Γ ++ b_p cB cC cI cJ cZ oA rA Γ ++ b_o cB cC cI cJ cZ oA rA Γ ++ b_s cB cC cI cJ cZ oA rA Γ ++ b_c cB cC cI cJ cZ oA rA Γ ++ b_t cB cC cI cJ cZ oA rA Γ ++ b_d cB cC cI cJ cZ oA rA Γ) sz) := by
  refine Met.ofW (cc := cX8_understand) (maxL := 3) (ret := (some .boolean)) (by decide) rfl ?_
  intro p e s m args below meth c s₁ B hml hv
  obtain ⟨rfl, hsz, hP, hK, hD0, hE, hX⟩ := hv
  have hx := B.exec
  have hb := B.bytes
  have hr := B.returns
  have hts0 := atoms_spec (ws := g_ws yX8_understand cX8_understand 3 (some .boolean)) B.pre
  have hts : ∀ w ∈ lw_good, w.before ([.ref (oA 11)] : List Value).toArray s = true := fun w z => hts0 w (List.mem_cons_of_mem _ z)
  have hown : s.vm.findClass RX8 = some m.cls := findClass_of_methodNamed B.named
  have hlocks := B.notSynchronized
  subst hsz
  have hD1 := hD0.self (sz := s.heap.size)
  generalize hAe : va_A (b_e cB cC cI cJ cZ oA rA Γ ++ b_k cB cC cI cJ cZ oA rA Γ ++ b_p cB cC cI cJ cZ oA rA Γ ++ b_o cB cC cI cJ cZ oA rA Γ ++ b_s cB cC cI cJ cZ oA rA Γ ++ b_c cB cC cI cJ cZ oA rA Γ ++ b_t cB cC cI cJ cZ oA rA Γ ++ b_d cB cC cI cJ cZ oA rA Γ) s.heap.size = A at hD1 hE hX ⊢
  have hA : ∀ q : Nat, s.heap.size ≤ q → A q := fun q z => by rw [← hAe]; exact Or.inr z
  have hDD : ∀ Γ : HS, va_D A (b_e cB cC cI cJ cZ oA rA Γ ++ b_k cB cC cI cJ cZ oA rA Γ ++ b_p cB cC cI cJ cZ oA rA Γ ++ b_o cB cC cI cJ cZ oA rA Γ ++ b_s cB cC cI cJ cZ oA rA Γ ++ b_c cB cC cI cJ cZ oA rA Γ ++ b_t cB cC cI cJ cZ oA rA Γ ++ b_d cB cC cI cJ cZ oA rA Γ) := fun Γ9 => va_D_fst (ws := (b_e cB cC cI cJ cZ oA rA Γ ++ b_k cB cC cI cJ cZ oA rA Γ ++ b_p cB cC cI cJ cZ oA rA Γ ++ b_o cB cC cI cJ cZ oA rA Γ ++ b_s cB cC cI cJ cZ oA rA Γ ++ b_c cB cC cI cJ cZ oA rA Γ ++ b_t cB cC cI cJ cZ oA rA Γ ++ b_d cB cC cI cJ cZ oA rA Γ)) (ws' := (b_e cB cC cI cJ cZ oA rA Γ9 ++ b_k cB cC cI cJ cZ oA rA Γ9 ++ b_p cB cC cI cJ cZ oA rA Γ9 ++ b_o cB cC cI cJ cZ oA rA Γ9 ++ b_s cB cC cI cJ cZ oA rA Γ9 ++ b_c cB cC cI cJ cZ oA rA Γ9 ++ b_t cB cC cI cJ cZ oA rA Γ9 ++ b_d cB cC cI cJ cZ oA rA Γ9)) rfl hD1
  have hN := hE.1
  have hS : va_S A s.heap s.heap [] := va_S.rf
  have hl := lv_entry ([.ref (oA 11)]) (n := 3) (Nat.le_of_ble_eq_true rfl)
  rw [lg_entry_eq]
  generalize (lg_sl ([.ref (oA 11)]) ++ List.replicate (3 - (lg_sl ([.ref (oA 11)])).length) Slot.unset).toArray = ls at hl ⊢
  have hl : lv_has ls 3 [(0, .ref (oA 11))] := hl
  unfold F_X8_understand at hF
  refine lv_aload_n hx hb dX8_understand_0 rfl (lv_at hl 0 rfl) ?_
  refine lv_iconst (v := 0) hx hb dX8_understand_1 (by decide +kernel) ?_
  obtain ⟨σ_1, eσ_1, hF_2⟩ := bnd_e hF
  clear hF
  refine va_put (D := (dC, dI)) (ci := 8) (v := .int 0) (ty := .int) (C := RX8) (T := TX8) (N := 16) hx hb hts ii_X8 tyX8 tyX8_ok nmX8 hown hK hP (hDD _) hS 0 rfl rfl 10 (by decide) (hts (.fieldLink RX8 114 "StoryHouse$Teller" "noun" "I") wq_297) (fun _ h9 => h9) rfl (by decide +kernel) rfl rfl (Nat.le_of_ble_eq_true rfl) dX8_understand_2 (fun H locs hP' _ hS => ?_)
  have hP : va_P (dC, dI) vwCl (b_e cB cC cI cJ cZ oA rA σ_1 ++ b_k cB cC cI cJ cZ oA rA σ_1 ++ b_p cB cC cI cJ cZ oA rA σ_1 ++ b_o cB cC cI cJ cZ oA rA σ_1 ++ b_s cB cC cI cJ cZ oA rA σ_1 ++ b_c cB cC cI cJ cZ oA rA σ_1 ++ b_t cB cC cI cJ cZ oA rA σ_1 ++ b_d cB cC cI cJ cZ oA rA σ_1) H := by rw [eσ_1]; exact cs_ekposctd_e_10 ▸ hP'
  clear hP'
  refine lv_aload_n hx hb dX8_understand_5 rfl (lv_at hl 0 rfl) ?_
  refine lv_iconst (v := 0) hx hb dX8_understand_6 (by decide +kernel) ?_
  obtain ⟨σ_3, eσ_3, hF_4⟩ := bnd_e hF_2
  clear hF_2
  refine va_put (D := (dC, dI)) (ci := 8) (v := .int 0) (ty := .int) (C := RX8) (T := TX8) (N := 16) hx hb hts ii_X8 tyX8 tyX8_ok nmX8 hown hK hP (hDD _) hS 0 rfl rfl 11 (by decide) (hts (.fieldLink RX8 117 "StoryHouse$Teller" "second" "I") wq_298) (fun _ h9 => h9) rfl (by decide +kernel) rfl rfl (Nat.le_of_ble_eq_true rfl) dX8_understand_7 (fun H locs hP' _ hS => ?_)
  have hP : va_P (dC, dI) vwCl (b_e cB cC cI cJ cZ oA rA σ_3 ++ b_k cB cC cI cJ cZ oA rA σ_3 ++ b_p cB cC cI cJ cZ oA rA σ_3 ++ b_o cB cC cI cJ cZ oA rA σ_3 ++ b_s cB cC cI cJ cZ oA rA σ_3 ++ b_c cB cC cI cJ cZ oA rA σ_3 ++ b_t cB cC cI cJ cZ oA rA σ_3 ++ b_d cB cC cI cJ cZ oA rA σ_3) H := by rw [eσ_3]; exact cs_ekposctd_e_11 ▸ hP'
  clear hP'
  refine lv_aload_n hx hb dX8_understand_10 rfl (lv_at hl 0 rfl) ?_
  refine lv_iconst (v := 0) hx hb dX8_understand_11 (by decide +kernel) ?_
  obtain ⟨σ_5, eσ_5, hF_6⟩ := bnd_e hF_4
  clear hF_4
  refine va_put (D := (dC, dI)) (ci := 8) (v := .int 0) (ty := .boolean) (C := RX8) (T := TX8) (N := 16) hx hb hts ii_X8 tyX8 tyX8_ok nmX8 hown hK hP (hDD _) hS 0 rfl rfl 12 (by decide) (hts (.fieldLink RX8 120 "StoryHouse$Teller" "all" "Z") wq_299) (fun _ h9 => h9) rfl (by decide +kernel) (by decide +kernel) (by decide +kernel) (Nat.le_of_ble_eq_true rfl) dX8_understand_12 (fun H locs hP' _ hS => ?_)
  have hP : va_P (dC, dI) vwCl (b_e cB cC cI cJ cZ oA rA σ_5 ++ b_k cB cC cI cJ cZ oA rA σ_5 ++ b_p cB cC cI cJ cZ oA rA σ_5 ++ b_o cB cC cI cJ cZ oA rA σ_5 ++ b_s cB cC cI cJ cZ oA rA σ_5 ++ b_c cB cC cI cJ cZ oA rA σ_5 ++ b_t cB cC cI cJ cZ oA rA σ_5 ++ b_d cB cC cI cJ cZ oA rA σ_5) H := by rw [eσ_5]; exact cs_ekposctd_e_12 ▸ hP'
  clear hP'
  refine lv_aload_n hx hb dX8_understand_15 rfl (lv_at hl 0 rfl) ?_
  refine lv_iconst (v := 0) hx hb dX8_understand_16 (by decide +kernel) ?_
  obtain ⟨u_7, hu_7, hF_8⟩ := Option.bind_eq_some_iff.mp hF_6
  clear hF_6
  have hPc := bx_P (bs := [b_e cB cC cI cJ cZ oA rA σ_5, b_k cB cC cI cJ cZ oA rA σ_5, b_p cB cC cI cJ cZ oA rA σ_5, b_o cB cC cI cJ cZ oA rA σ_5, b_s cB cC cI cJ cZ oA rA σ_5, b_c cB cC cI cJ cZ oA rA σ_5, b_t cB cC cI cJ cZ oA rA σ_5, b_d cB cC cI cJ cZ oA rA σ_5]) (bs' := [b_e cB cC cI cJ cZ oA rA σ_5, b_k cB cC cI cJ cZ oA rA σ_5, b_p cB cC cI cJ cZ oA rA σ_5, b_o cB cC cI cJ cZ oA rA σ_5, b_s cB cC cI cJ cZ oA rA σ_5, b_c cB cC cI cJ cZ oA rA σ_5, b_t cB cC cI cJ cZ oA rA σ_5, b_d cB cC cI cJ cZ oA rA σ_5]) (ws' := (b_e cB cC cI cJ cZ oA rA σ_5 ++ b_k cB cC cI cJ cZ oA rA σ_5 ++ b_p cB cC cI cJ cZ oA rA σ_5 ++ b_o cB cC cI cJ cZ oA rA σ_5 ++ b_s cB cC cI cJ cZ oA rA σ_5 ++ b_c cB cC cI cJ cZ oA rA σ_5 ++ b_t cB cC cI cJ cZ oA rA σ_5 ++ b_d cB cC cI cJ cZ oA rA σ_5)) hP fl_8 fl_8 [0, 1, 2, 3, 4, 5, 6, 7] rfl
  have hDc := bx_D (bs := [b_e cB cC cI cJ cZ oA rA σ_5, b_k cB cC cI cJ cZ oA rA σ_5, b_p cB cC cI cJ cZ oA rA σ_5, b_o cB cC cI cJ cZ oA rA σ_5, b_s cB cC cI cJ cZ oA rA σ_5, b_c cB cC cI cJ cZ oA rA σ_5, b_t cB cC cI cJ cZ oA rA σ_5, b_d cB cC cI cJ cZ oA rA σ_5]) (bs' := [b_e cB cC cI cJ cZ oA rA σ_5, b_k cB cC cI cJ cZ oA rA σ_5, b_p cB cC cI cJ cZ oA rA σ_5, b_o cB cC cI cJ cZ oA rA σ_5, b_s cB cC cI cJ cZ oA rA σ_5, b_c cB cC cI cJ cZ oA rA σ_5, b_t cB cC cI cJ cZ oA rA σ_5, b_d cB cC cI cJ cZ oA rA σ_5]) (ws' := (b_e cB cC cI cJ cZ oA rA σ_5 ++ b_k cB cC cI cJ cZ oA rA σ_5 ++ b_p cB cC cI cJ cZ oA rA σ_5 ++ b_o cB cC cI cJ cZ oA rA σ_5 ++ b_s cB cC cI cJ cZ oA rA σ_5 ++ b_c cB cC cI cJ cZ oA rA σ_5 ++ b_t cB cC cI cJ cZ oA rA σ_5 ++ b_d cB cC cI cJ cZ oA rA σ_5)) (hDD σ_5) fl_8 fl_8 [0, 1, 2, 3, 4, 5, 6, 7] (by decide +kernel) rfl
  have hFc := bx_F (bs := [b_e cB cC cI cJ cZ oA rA σ_5, b_k cB cC cI cJ cZ oA rA σ_5, b_p cB cC cI cJ cZ oA rA σ_5, b_o cB cC cI cJ cZ oA rA σ_5, b_s cB cC cI cJ cZ oA rA σ_5, b_c cB cC cI cJ cZ oA rA σ_5, b_t cB cC cI cJ cZ oA rA σ_5, b_d cB cC cI cJ cZ oA rA σ_5]) (bs' := [b_e cB cC cI cJ cZ oA rA σ_5, b_k cB cC cI cJ cZ oA rA σ_5, b_p cB cC cI cJ cZ oA rA σ_5, b_o cB cC cI cJ cZ oA rA σ_5, b_s cB cC cI cJ cZ oA rA σ_5, b_c cB cC cI cJ cZ oA rA σ_5, b_t cB cC cI cJ cZ oA rA σ_5, b_d cB cC cI cJ cZ oA rA σ_5]) (wc := (b_e cB cC cI cJ cZ oA rA σ_5 ++ b_k cB cC cI cJ cZ oA rA σ_5 ++ b_p cB cC cI cJ cZ oA rA σ_5 ++ b_o cB cC cI cJ cZ oA rA σ_5 ++ b_s cB cC cI cJ cZ oA rA σ_5 ++ b_c cB cC cI cJ cZ oA rA σ_5 ++ b_t cB cC cI cJ cZ oA rA σ_5 ++ b_d cB cC cI cJ cZ oA rA σ_5)) (hDD σ_5) hS hA fl_8 fl_8 [0, 1, 2, 3, 4, 5, 6, 7] rfl
  refine g_ofi (wc := (b_e cB cC cI cJ cZ oA rA σ_5 ++ b_k cB cC cI cJ cZ oA rA σ_5 ++ b_p cB cC cI cJ cZ oA rA σ_5 ++ b_o cB cC cI cJ cZ oA rA σ_5 ++ b_s cB cC cI cJ cZ oA rA σ_5 ++ b_c cB cC cI cJ cZ oA rA σ_5 ++ b_t cB cC cI cJ cZ oA rA σ_5 ++ b_d cB cC cI cJ cZ oA rA σ_5)) (wr := ([] : va_W)) hP (hDD σ_5) hS hFc (bx_ix [b_e cB cC cI cJ cZ oA rA σ_5, b_k cB cC cI cJ cZ oA rA σ_5, b_p cB cC cI cJ cZ oA rA σ_5, b_o cB cC cI cJ cZ oA rA σ_5, b_s cB cC cI cJ cZ oA rA σ_5, b_c cB cC cI cJ cZ oA rA σ_5, b_t cB cC cI cJ cZ oA rA σ_5, b_d cB cC cI cJ cZ oA rA σ_5] [0, 1, 2, 3, 4, 5, 6, 7]) (bx_ix [b_e cB cC cI cJ cZ oA rA σ_5, b_k cB cC cI cJ cZ oA rA σ_5, b_p cB cC cI cJ cZ oA rA σ_5, b_o cB cC cI cJ cZ oA rA σ_5, b_s cB cC cI cJ cZ oA rA σ_5, b_c cB cC cI cJ cZ oA rA σ_5, b_t cB cC cI cJ cZ oA rA σ_5, b_d cB cC cI cJ cZ oA rA σ_5] []) (bx_C (bs := [b_e cB cC cI cJ cZ oA rA σ_5, b_k cB cC cI cJ cZ oA rA σ_5, b_p cB cC cI cJ cZ oA rA σ_5, b_o cB cC cI cJ cZ oA rA σ_5, b_s cB cC cI cJ cZ oA rA σ_5, b_c cB cC cI cJ cZ oA rA σ_5, b_t cB cC cI cJ cZ oA rA σ_5, b_d cB cC cI cJ cZ oA rA σ_5]) (bs' := [b_e cB cC cI cJ cZ oA rA σ_5, b_k cB cC cI cJ cZ oA rA σ_5, b_p cB cC cI cJ cZ oA rA σ_5, b_o cB cC cI cJ cZ oA rA σ_5, b_s cB cC cI cJ cZ oA rA σ_5, b_c cB cC cI cJ cZ oA rA σ_5, b_t cB cC cI cJ cZ oA rA σ_5, b_d cB cC cI cJ cZ oA rA σ_5]) (is := [0, 1, 2, 3, 4, 5, 6, 7]) fl_8 fl_8 rfl) (bx_C (bs := [b_e cB cC cI cJ cZ oA rA σ_5, b_k cB cC cI cJ cZ oA rA σ_5, b_p cB cC cI cJ cZ oA rA σ_5, b_o cB cC cI cJ cZ oA rA σ_5, b_s cB cC cI cJ cZ oA rA σ_5, b_c cB cC cI cJ cZ oA rA σ_5, b_t cB cC cI cJ cZ oA rA σ_5, b_d cB cC cI cJ cZ oA rA σ_5]) (bs' := []) (is := []) fl_8 fl_0 rfl) (bx_n (by decide +kernel)) (bx_d (by decide +kernel)) (va_runV (As := [.int 0]) (rest := []) ⟨hx, hb, hml, hown, hts⟩ (k_X8_term l dC dI cB cC cI cJ cZ cP oA rA H.size  0 σ_5 _ hu_7) (cwV 1 hts (g_gV wq_1065 wq_1066 wq_2074 wq_12 wq_1067) rfl rfl rfl (by decide +kernel) ⟨Nat.le_of_ble_eq_true rfl, Nat.le_of_ble_eq_true rfl⟩) (g_preV g_bl0 hK hPc hDc hS hE hFc g_to0 (q0 := 0) (ci := 8) rfl rfl) rfl rfl hl.1 rfl (lv_room (Nat.le_of_ble_eq_true rfl)) dX8_understand_17 ⟨Nat.le_of_ble_eq_true rfl, Nat.le_of_ble_eq_true rfl⟩) (fun r9 u9 H locs hw9 hP' hD' hS => ?_)
  clear hPc hDc hFc
  subst hw9
  have hP : va_P (dC, dI) vwCl (b_e cB cC cI cJ cZ oA rA u_7.2 ++ b_k cB cC cI cJ cZ oA rA u_7.2 ++ b_p cB cC cI cJ cZ oA rA u_7.2 ++ b_o cB cC cI cJ cZ oA rA u_7.2 ++ b_s cB cC cI cJ cZ oA rA u_7.2 ++ b_c cB cC cI cJ cZ oA rA u_7.2 ++ b_t cB cC cI cJ cZ oA rA u_7.2 ++ b_d cB cC cI cJ cZ oA rA u_7.2) H := hP'
  clear hP' hD'
  refine lv_bipush (v := 8) hx hb dX8_understand_20 (by decide +kernel) ?_
  obtain ⟨j_11, ej_11, hF_12⟩ := bnd_e hF_8
  clear hF_8
  have Jj_11 : ∀ (t_9 : Int32) (σ_10 : HS), j_11 t_9 σ_10 = some res → ∀ (H : Heap) (locs : List Loc), va_P (dC, dI) vwCl (b_e cB cC cI cJ cZ oA rA σ_10 ++ b_k cB cC cI cJ cZ oA rA σ_10 ++ b_p cB cC cI cJ cZ oA rA σ_10 ++ b_o cB cC cI cJ cZ oA rA σ_10 ++ b_s cB cC cI cJ cZ oA rA σ_10 ++ b_c cB cC cI cJ cZ oA rA σ_10 ++ b_t cB cC cI cJ cZ oA rA σ_10 ++ b_d cB cC cI cJ cZ oA rA σ_10) H → va_S A s.heap H locs → ∀ ls : Array Slot, lv_has ls 3 [(0, .ref (oA 11))] → W p l e (headSpec (g_ws yX8_understand cX8_understand 3 (some .boolean)) { frames := 10, cells := 0, slots := 0, locals := 234 }).room s m ([.ref (oA 11)] : List Value).toArray below meth c H locs 0 0 (MQ below (va_Qi (fun r (_ : Unit) => r = res.1) (g_Bo (dC, dI) A (fun (_ : Unit) => (b_e cB cC cI cJ cZ oA rA res.2 ++ b_k cB cC cI cJ cZ oA rA res.2 ++ b_p cB cC cI cJ cZ oA rA res.2 ++ b_o cB cC cI cJ cZ oA rA res.2 ++ b_s cB cC cI cJ cZ oA rA res.2 ++ b_c cB cC cI cJ cZ oA rA res.2 ++ b_t cB cC cI cJ cZ oA rA res.2 ++ b_d cB cC cI cJ cZ oA rA res.2))) A) ([.ref (oA 11)] : List Value).toArray s 0 0 A) (F0 m 30 ls [.int t_9]) := by
    intro t_9 σ_10 hF0 H locs hP hS ls hl
    subst ej_11
    have hF_13 := hF0
    clear hF0
    refine lv_istore_n (lv' := [(1, .int t_9), (0, .ref (oA 11))]) hx hb dX8_understand_30 rfl hl (by decide) rfl (fun ls hl => ?_)
    refine lv_aload_n hx hb dX8_understand_31 rfl (lv_at hl 1 rfl) ?_
    refine lv_aload_n hx hb dX8_understand_32 rfl (lv_at hl 1 rfl) ?_
    refine va_get (D := (dC, dI)) (ci := 8) (v := .int ((σ_10 11).1 7)) (C := RX8) (T := TX8) (N := 16) hx hb hts ii_X8 hown hK hP 0 rfl rfl 7 (by decide) (hts (.fieldLink RX8 50 "StoryHouse$Teller" "termCount" "I") wq_294) (fun _ h9 => h9) rfl dX8_understand_33 ?_
    refine lv_iconst (v := 1) hx hb dX8_understand_36 (by decide +kernel) ?_
    refine lv_isub hx hb dX8_understand_37 ?_
    obtain ⟨u_14, hu_14, hF_15⟩ := Option.bind_eq_some_iff.mp hF_13
    clear hF_13
    have hPc := bx_P (bs := [b_e cB cC cI cJ cZ oA rA σ_10, b_k cB cC cI cJ cZ oA rA σ_10, b_p cB cC cI cJ cZ oA rA σ_10, b_o cB cC cI cJ cZ oA rA σ_10, b_s cB cC cI cJ cZ oA rA σ_10, b_c cB cC cI cJ cZ oA rA σ_10, b_t cB cC cI cJ cZ oA rA σ_10, b_d cB cC cI cJ cZ oA rA σ_10]) (bs' := [b_e cB cC cI cJ cZ oA rA σ_10, b_k cB cC cI cJ cZ oA rA σ_10, b_p cB cC cI cJ cZ oA rA σ_10, b_o cB cC cI cJ cZ oA rA σ_10, b_s cB cC cI cJ cZ oA rA σ_10, b_c cB cC cI cJ cZ oA rA σ_10, b_t cB cC cI cJ cZ oA rA σ_10, b_d cB cC cI cJ cZ oA rA σ_10]) (ws' := (b_e cB cC cI cJ cZ oA rA σ_10 ++ b_k cB cC cI cJ cZ oA rA σ_10 ++ b_p cB cC cI cJ cZ oA rA σ_10 ++ b_o cB cC cI cJ cZ oA rA σ_10 ++ b_s cB cC cI cJ cZ oA rA σ_10 ++ b_c cB cC cI cJ cZ oA rA σ_10 ++ b_t cB cC cI cJ cZ oA rA σ_10 ++ b_d cB cC cI cJ cZ oA rA σ_10)) hP fl_8 fl_8 [0, 1, 2, 3, 4, 5, 6, 7] rfl
    have hDc := bx_D (bs := [b_e cB cC cI cJ cZ oA rA σ_10, b_k cB cC cI cJ cZ oA rA σ_10, b_p cB cC cI cJ cZ oA rA σ_10, b_o cB cC cI cJ cZ oA rA σ_10, b_s cB cC cI cJ cZ oA rA σ_10, b_c cB cC cI cJ cZ oA rA σ_10, b_t cB cC cI cJ cZ oA rA σ_10, b_d cB cC cI cJ cZ oA rA σ_10]) (bs' := [b_e cB cC cI cJ cZ oA rA σ_10, b_k cB cC cI cJ cZ oA rA σ_10, b_p cB cC cI cJ cZ oA rA σ_10, b_o cB cC cI cJ cZ oA rA σ_10, b_s cB cC cI cJ cZ oA rA σ_10, b_c cB cC cI cJ cZ oA rA σ_10, b_t cB cC cI cJ cZ oA rA σ_10, b_d cB cC cI cJ cZ oA rA σ_10]) (ws' := (b_e cB cC cI cJ cZ oA rA σ_10 ++ b_k cB cC cI cJ cZ oA rA σ_10 ++ b_p cB cC cI cJ cZ oA rA σ_10 ++ b_o cB cC cI cJ cZ oA rA σ_10 ++ b_s cB cC cI cJ cZ oA rA σ_10 ++ b_c cB cC cI cJ cZ oA rA σ_10 ++ b_t cB cC cI cJ cZ oA rA σ_10 ++ b_d cB cC cI cJ cZ oA rA σ_10)) (hDD σ_10) fl_8 fl_8 [0, 1, 2, 3, 4, 5, 6, 7] (by decide +kernel) rfl
    have hFc := bx_F (bs := [b_e cB cC cI cJ cZ oA rA σ_10, b_k cB cC cI cJ cZ oA rA σ_10, b_p cB cC cI cJ cZ oA rA σ_10, b_o cB cC cI cJ cZ oA rA σ_10, b_s cB cC cI cJ cZ oA rA σ_10, b_c cB cC cI cJ cZ oA rA σ_10, b_t cB cC cI cJ cZ oA rA σ_10, b_d cB cC cI cJ cZ oA rA σ_10]) (bs' := [b_e cB cC cI cJ cZ oA rA σ_10, b_k cB cC cI cJ cZ oA rA σ_10, b_p cB cC cI cJ cZ oA rA σ_10, b_o cB cC cI cJ cZ oA rA σ_10, b_s cB cC cI cJ cZ oA rA σ_10, b_c cB cC cI cJ cZ oA rA σ_10, b_t cB cC cI cJ cZ oA rA σ_10, b_d cB cC cI cJ cZ oA rA σ_10]) (wc := (b_e cB cC cI cJ cZ oA rA σ_10 ++ b_k cB cC cI cJ cZ oA rA σ_10 ++ b_p cB cC cI cJ cZ oA rA σ_10 ++ b_o cB cC cI cJ cZ oA rA σ_10 ++ b_s cB cC cI cJ cZ oA rA σ_10 ++ b_c cB cC cI cJ cZ oA rA σ_10 ++ b_t cB cC cI cJ cZ oA rA σ_10 ++ b_d cB cC cI cJ cZ oA rA σ_10)) (hDD σ_10) hS hA fl_8 fl_8 [0, 1, 2, 3, 4, 5, 6, 7] rfl
    refine g_ofi (wc := (b_e cB cC cI cJ cZ oA rA σ_10 ++ b_k cB cC cI cJ cZ oA rA σ_10 ++ b_p cB cC cI cJ cZ oA rA σ_10 ++ b_o cB cC cI cJ cZ oA rA σ_10 ++ b_s cB cC cI cJ cZ oA rA σ_10 ++ b_c cB cC cI cJ cZ oA rA σ_10 ++ b_t cB cC cI cJ cZ oA rA σ_10 ++ b_d cB cC cI cJ cZ oA rA σ_10)) (wr := ([] : va_W)) hP (hDD σ_10) hS hFc (bx_ix [b_e cB cC cI cJ cZ oA rA σ_10, b_k cB cC cI cJ cZ oA rA σ_10, b_p cB cC cI cJ cZ oA rA σ_10, b_o cB cC cI cJ cZ oA rA σ_10, b_s cB cC cI cJ cZ oA rA σ_10, b_c cB cC cI cJ cZ oA rA σ_10, b_t cB cC cI cJ cZ oA rA σ_10, b_d cB cC cI cJ cZ oA rA σ_10] [0, 1, 2, 3, 4, 5, 6, 7]) (bx_ix [b_e cB cC cI cJ cZ oA rA σ_10, b_k cB cC cI cJ cZ oA rA σ_10, b_p cB cC cI cJ cZ oA rA σ_10, b_o cB cC cI cJ cZ oA rA σ_10, b_s cB cC cI cJ cZ oA rA σ_10, b_c cB cC cI cJ cZ oA rA σ_10, b_t cB cC cI cJ cZ oA rA σ_10, b_d cB cC cI cJ cZ oA rA σ_10] []) (bx_C (bs := [b_e cB cC cI cJ cZ oA rA σ_10, b_k cB cC cI cJ cZ oA rA σ_10, b_p cB cC cI cJ cZ oA rA σ_10, b_o cB cC cI cJ cZ oA rA σ_10, b_s cB cC cI cJ cZ oA rA σ_10, b_c cB cC cI cJ cZ oA rA σ_10, b_t cB cC cI cJ cZ oA rA σ_10, b_d cB cC cI cJ cZ oA rA σ_10]) (bs' := [b_e cB cC cI cJ cZ oA rA σ_10, b_k cB cC cI cJ cZ oA rA σ_10, b_p cB cC cI cJ cZ oA rA σ_10, b_o cB cC cI cJ cZ oA rA σ_10, b_s cB cC cI cJ cZ oA rA σ_10, b_c cB cC cI cJ cZ oA rA σ_10, b_t cB cC cI cJ cZ oA rA σ_10, b_d cB cC cI cJ cZ oA rA σ_10]) (is := [0, 1, 2, 3, 4, 5, 6, 7]) fl_8 fl_8 rfl) (bx_C (bs := [b_e cB cC cI cJ cZ oA rA σ_10, b_k cB cC cI cJ cZ oA rA σ_10, b_p cB cC cI cJ cZ oA rA σ_10, b_o cB cC cI cJ cZ oA rA σ_10, b_s cB cC cI cJ cZ oA rA σ_10, b_c cB cC cI cJ cZ oA rA σ_10, b_t cB cC cI cJ cZ oA rA σ_10, b_d cB cC cI cJ cZ oA rA σ_10]) (bs' := []) (is := []) fl_8 fl_0 rfl) (bx_n (by decide +kernel)) (bx_d (by decide +kernel)) (va_runV (As := [.int (((σ_10 11).1 7) - 1)]) (rest := []) ⟨hx, hb, hml, hown, hts⟩ (k_X8_term l dC dI cB cC cI cJ cZ cP oA rA H.size  (((σ_10 11).1 7) - 1) σ_10 _ hu_14) (cwV 1 hts (g_gV wq_1065 wq_1066 wq_2074 wq_12 wq_1067) rfl rfl rfl (by decide +kernel) ⟨Nat.le_of_ble_eq_true rfl, Nat.le_of_ble_eq_true rfl⟩) (g_preV g_bl0 hK hPc hDc hS hE hFc g_to0 (q0 := 0) (ci := 8) rfl rfl) rfl rfl hl.1 rfl (lv_room (Nat.le_of_ble_eq_true rfl)) dX8_understand_38 ⟨Nat.le_of_ble_eq_true rfl, Nat.le_of_ble_eq_true rfl⟩) (fun r9 u9 H locs hw9 hP' hD' hS => ?_)
    clear hPc hDc hFc
    subst hw9
    have hP : va_P (dC, dI) vwCl (b_e cB cC cI cJ cZ oA rA u_14.2 ++ b_k cB cC cI cJ cZ oA rA u_14.2 ++ b_p cB cC cI cJ cZ oA rA u_14.2 ++ b_o cB cC cI cJ cZ oA rA u_14.2 ++ b_s cB cC cI cJ cZ oA rA u_14.2 ++ b_c cB cC cI cJ cZ oA rA u_14.2 ++ b_t cB cC cI cJ cZ oA rA u_14.2 ++ b_d cB cC cI cJ cZ oA rA u_14.2) H := hP'
    clear hP' hD'
    obtain ⟨u_16, hu_16, hF_17⟩ := Option.bind_eq_some_iff.mp hF_15
    clear hF_15
    have hPc : va_P (dC, dI) vwCl [] H := fun k q z => by simp at z
    have hDc : va_D A [] := ⟨fun i j p q z => by simp at z, fun k q z => by simp at z⟩
    have hFc := c_nil hA hS
    refine c_cs (v := u_16.1) hA hP hS (va_runS (As := [.int u_14.1]) (rest := []) ⟨hx, hb, hml, hown, hts⟩ (k_X8_directionOf l dC dI cB cC cI cJ cZ cP oA rA H.size  u_14.1 u_14.2 _ hu_16) (va_cwS 1 hts (g_gS wq_1072 wq_1073 wq_12 wq_1074) rfl rfl rfl (by decide +kernel) ⟨Nat.le_of_ble_eq_true rfl, Nat.le_of_ble_eq_true rfl⟩) (g_preS g_bl0 hK hPc hDc hS hE hFc g_to0) rfl rfl hl.1 rfl (lv_room (Nat.le_of_ble_eq_true rfl)) dX8_understand_41 ⟨Nat.le_of_ble_eq_true rfl, Nat.le_of_ble_eq_true rfl⟩) (fun H locs hP hS => ?_)
    clear hPc hDc hFc
    refine lv_istore_n (lv' := [(2, .int u_16.1), (1, .int t_9), (0, .ref (oA 11))]) hx hb dX8_understand_44 rfl hl (by decide) rfl (fun ls hl => ?_)
    refine lv_iload_n hx hb dX8_understand_45 rfl (lv_at hl 0 rfl) ?_
    obtain ⟨j_19, ej_19, hF_20⟩ := bnd_e hF_17
    clear hF_17
    have Jj_19 : ∀  (σ_18 : HS), j_19  σ_18 = some res → ∀ (H : Heap) (locs : List Loc), va_P (dC, dI) vwCl (b_e cB cC cI cJ cZ oA rA σ_18 ++ b_k cB cC cI cJ cZ oA rA σ_18 ++ b_p cB cC cI cJ cZ oA rA σ_18 ++ b_o cB cC cI cJ cZ oA rA σ_18 ++ b_s cB cC cI cJ cZ oA rA σ_18 ++ b_c cB cC cI cJ cZ oA rA σ_18 ++ b_t cB cC cI cJ cZ oA rA σ_18 ++ b_d cB cC cI cJ cZ oA rA σ_18) H → va_S A s.heap H locs → ∀ ls : Array Slot, lv_has ls 3 [(0, .ref (oA 11)), (1, .int t_9)] → W p l e (headSpec (g_ws yX8_understand cX8_understand 3 (some .boolean)) { frames := 10, cells := 0, slots := 0, locals := 234 }).room s m ([.ref (oA 11)] : List Value).toArray below meth c H locs 0 0 (MQ below (va_Qi (fun r (_ : Unit) => r = res.1) (g_Bo (dC, dI) A (fun (_ : Unit) => (b_e cB cC cI cJ cZ oA rA res.2 ++ b_k cB cC cI cJ cZ oA rA res.2 ++ b_p cB cC cI cJ cZ oA rA res.2 ++ b_o cB cC cI cJ cZ oA rA res.2 ++ b_s cB cC cI cJ cZ oA rA res.2 ++ b_c cB cC cI cJ cZ oA rA res.2 ++ b_t cB cC cI cJ cZ oA rA res.2 ++ b_d cB cC cI cJ cZ oA rA res.2))) A) ([.ref (oA 11)] : List Value).toArray s 0 0 A) (F0 m 78 ls []) := by
      intro  σ_18 hF0 H locs hP hS ls hl
      subst ej_19
      have hF_21 := hF0
      clear hF0
      refine lv_iload_n hx hb dX8_understand_78 rfl (lv_at hl 1 rfl) ?_
      refine lv_if_eq (tgt := 89) hx hb dX8_understand_79 (by decide) (fun c_22 => ?_) (fun c_22 => ?_)
      · have hF_23 := ipos c_22 hF_21
        clear hF_21
        refine lv_aload_n hx hb dX8_understand_89 rfl (lv_at hl 0 rfl) ?_
        obtain ⟨u_24, hu_24, hF_25⟩ := Option.bind_eq_some_iff.mp hF_23
        clear hF_23
        have hPc := bx_P (bs := [b_e cB cC cI cJ cZ oA rA σ_18, b_k cB cC cI cJ cZ oA rA σ_18, b_p cB cC cI cJ cZ oA rA σ_18, b_o cB cC cI cJ cZ oA rA σ_18, b_s cB cC cI cJ cZ oA rA σ_18, b_c cB cC cI cJ cZ oA rA σ_18, b_t cB cC cI cJ cZ oA rA σ_18, b_d cB cC cI cJ cZ oA rA σ_18]) (bs' := [b_e cB cC cI cJ cZ oA rA σ_18, b_k cB cC cI cJ cZ oA rA σ_18, b_p cB cC cI cJ cZ oA rA σ_18, b_o cB cC cI cJ cZ oA rA σ_18, b_s cB cC cI cJ cZ oA rA σ_18, b_c cB cC cI cJ cZ oA rA σ_18, b_t cB cC cI cJ cZ oA rA σ_18, b_d cB cC cI cJ cZ oA rA σ_18]) (ws' := (b_e cB cC cI cJ cZ oA rA σ_18 ++ b_k cB cC cI cJ cZ oA rA σ_18 ++ b_p cB cC cI cJ cZ oA rA σ_18 ++ b_o cB cC cI cJ cZ oA rA σ_18 ++ b_s cB cC cI cJ cZ oA rA σ_18 ++ b_c cB cC cI cJ cZ oA rA σ_18 ++ b_t cB cC cI cJ cZ oA rA σ_18 ++ b_d cB cC cI cJ cZ oA rA σ_18)) hP fl_8 fl_8 [0, 1, 2, 3, 4, 5, 6, 7] rfl
        have hDc := bx_D (bs := [b_e cB cC cI cJ cZ oA rA σ_18, b_k cB cC cI cJ cZ oA rA σ_18, b_p cB cC cI cJ cZ oA rA σ_18, b_o cB cC cI cJ cZ oA rA σ_18, b_s cB cC cI cJ cZ oA rA σ_18, b_c cB cC cI cJ cZ oA rA σ_18, b_t cB cC cI cJ cZ oA rA σ_18, b_d cB cC cI cJ cZ oA rA σ_18]) (bs' := [b_e cB cC cI cJ cZ oA rA σ_18, b_k cB cC cI cJ cZ oA rA σ_18, b_p cB cC cI cJ cZ oA rA σ_18, b_o cB cC cI cJ cZ oA rA σ_18, b_s cB cC cI cJ cZ oA rA σ_18, b_c cB cC cI cJ cZ oA rA σ_18, b_t cB cC cI cJ cZ oA rA σ_18, b_d cB cC cI cJ cZ oA rA σ_18]) (ws' := (b_e cB cC cI cJ cZ oA rA σ_18 ++ b_k cB cC cI cJ cZ oA rA σ_18 ++ b_p cB cC cI cJ cZ oA rA σ_18 ++ b_o cB cC cI cJ cZ oA rA σ_18 ++ b_s cB cC cI cJ cZ oA rA σ_18 ++ b_c cB cC cI cJ cZ oA rA σ_18 ++ b_t cB cC cI cJ cZ oA rA σ_18 ++ b_d cB cC cI cJ cZ oA rA σ_18)) (hDD σ_18) fl_8 fl_8 [0, 1, 2, 3, 4, 5, 6, 7] (by decide +kernel) rfl
        have hFc := bx_F (bs := [b_e cB cC cI cJ cZ oA rA σ_18, b_k cB cC cI cJ cZ oA rA σ_18, b_p cB cC cI cJ cZ oA rA σ_18, b_o cB cC cI cJ cZ oA rA σ_18, b_s cB cC cI cJ cZ oA rA σ_18, b_c cB cC cI cJ cZ oA rA σ_18, b_t cB cC cI cJ cZ oA rA σ_18, b_d cB cC cI cJ cZ oA rA σ_18]) (bs' := [b_e cB cC cI cJ cZ oA rA σ_18, b_k cB cC cI cJ cZ oA rA σ_18, b_p cB cC cI cJ cZ oA rA σ_18, b_o cB cC cI cJ cZ oA rA σ_18, b_s cB cC cI cJ cZ oA rA σ_18, b_c cB cC cI cJ cZ oA rA σ_18, b_t cB cC cI cJ cZ oA rA σ_18, b_d cB cC cI cJ cZ oA rA σ_18]) (wc := (b_e cB cC cI cJ cZ oA rA σ_18 ++ b_k cB cC cI cJ cZ oA rA σ_18 ++ b_p cB cC cI cJ cZ oA rA σ_18 ++ b_o cB cC cI cJ cZ oA rA σ_18 ++ b_s cB cC cI cJ cZ oA rA σ_18 ++ b_c cB cC cI cJ cZ oA rA σ_18 ++ b_t cB cC cI cJ cZ oA rA σ_18 ++ b_d cB cC cI cJ cZ oA rA σ_18)) (hDD σ_18) hS hA fl_8 fl_8 [0, 1, 2, 3, 4, 5, 6, 7] rfl
        refine g_ofi (wc := (b_e cB cC cI cJ cZ oA rA σ_18 ++ b_k cB cC cI cJ cZ oA rA σ_18 ++ b_p cB cC cI cJ cZ oA rA σ_18 ++ b_o cB cC cI cJ cZ oA rA σ_18 ++ b_s cB cC cI cJ cZ oA rA σ_18 ++ b_c cB cC cI cJ cZ oA rA σ_18 ++ b_t cB cC cI cJ cZ oA rA σ_18 ++ b_d cB cC cI cJ cZ oA rA σ_18)) (wr := ([] : va_W)) hP (hDD σ_18) hS hFc (bx_ix [b_e cB cC cI cJ cZ oA rA σ_18, b_k cB cC cI cJ cZ oA rA σ_18, b_p cB cC cI cJ cZ oA rA σ_18, b_o cB cC cI cJ cZ oA rA σ_18, b_s cB cC cI cJ cZ oA rA σ_18, b_c cB cC cI cJ cZ oA rA σ_18, b_t cB cC cI cJ cZ oA rA σ_18, b_d cB cC cI cJ cZ oA rA σ_18] [0, 1, 2, 3, 4, 5, 6, 7]) (bx_ix [b_e cB cC cI cJ cZ oA rA σ_18, b_k cB cC cI cJ cZ oA rA σ_18, b_p cB cC cI cJ cZ oA rA σ_18, b_o cB cC cI cJ cZ oA rA σ_18, b_s cB cC cI cJ cZ oA rA σ_18, b_c cB cC cI cJ cZ oA rA σ_18, b_t cB cC cI cJ cZ oA rA σ_18, b_d cB cC cI cJ cZ oA rA σ_18] []) (bx_C (bs := [b_e cB cC cI cJ cZ oA rA σ_18, b_k cB cC cI cJ cZ oA rA σ_18, b_p cB cC cI cJ cZ oA rA σ_18, b_o cB cC cI cJ cZ oA rA σ_18, b_s cB cC cI cJ cZ oA rA σ_18, b_c cB cC cI cJ cZ oA rA σ_18, b_t cB cC cI cJ cZ oA rA σ_18, b_d cB cC cI cJ cZ oA rA σ_18]) (bs' := [b_e cB cC cI cJ cZ oA rA σ_18, b_k cB cC cI cJ cZ oA rA σ_18, b_p cB cC cI cJ cZ oA rA σ_18, b_o cB cC cI cJ cZ oA rA σ_18, b_s cB cC cI cJ cZ oA rA σ_18, b_c cB cC cI cJ cZ oA rA σ_18, b_t cB cC cI cJ cZ oA rA σ_18, b_d cB cC cI cJ cZ oA rA σ_18]) (is := [0, 1, 2, 3, 4, 5, 6, 7]) fl_8 fl_8 rfl) (bx_C (bs := [b_e cB cC cI cJ cZ oA rA σ_18, b_k cB cC cI cJ cZ oA rA σ_18, b_p cB cC cI cJ cZ oA rA σ_18, b_o cB cC cI cJ cZ oA rA σ_18, b_s cB cC cI cJ cZ oA rA σ_18, b_c cB cC cI cJ cZ oA rA σ_18, b_t cB cC cI cJ cZ oA rA σ_18, b_d cB cC cI cJ cZ oA rA σ_18]) (bs' := []) (is := []) fl_8 fl_0 rfl) (bx_n (by decide +kernel)) (bx_d (by decide +kernel)) (va_runV (As := []) (rest := []) ⟨hx, hb, hml, hown, hts⟩ (k_X8_findVerb l dC dI cB cC cI cJ cZ cP oA rA H.size  σ_18 _ hu_24) (cwV 0 hts (g_gV wq_1075 wq_1076 wq_2075 wq_12 wq_1077) rfl rfl rfl (by decide +kernel) ⟨Nat.le_of_ble_eq_true rfl, Nat.le_of_ble_eq_true rfl⟩) (g_preV g_bl0 hK hPc hDc hS hE hFc g_to0 (q0 := 0) (ci := 8) rfl rfl) rfl rfl hl.1 rfl (lv_room (Nat.le_of_ble_eq_true rfl)) dX8_understand_90 ⟨Nat.le_of_ble_eq_true rfl, Nat.le_of_ble_eq_true rfl⟩) (fun r9 u9 H locs hw9 hP' hD' hS => ?_)
        clear hPc hDc hFc
        subst hw9
        have hP : va_P (dC, dI) vwCl (b_e cB cC cI cJ cZ oA rA u_24.2 ++ b_k cB cC cI cJ cZ oA rA u_24.2 ++ b_p cB cC cI cJ cZ oA rA u_24.2 ++ b_o cB cC cI cJ cZ oA rA u_24.2 ++ b_s cB cC cI cJ cZ oA rA u_24.2 ++ b_c cB cC cI cJ cZ oA rA u_24.2 ++ b_t cB cC cI cJ cZ oA rA u_24.2 ++ b_d cB cC cI cJ cZ oA rA u_24.2) H := hP'
        clear hP' hD'
        refine lv_if_eq (tgt := 107) hx hb dX8_understand_93 (by decide) (fun c_26 => ?_) (fun c_26 => ?_)
        · have hF_27 := ipos c_26 hF_25
          clear hF_25
          refine lv_iconst (v := 0) hx hb dX8_understand_107 (by decide +kernel) ?_
          have h9 := Option.some.inj hF_27
          subst h9
          exact W.zret (v := 0) hx hb hr (by decide +kernel) (fun t ht hW => ⟨⟨0, (), rfl, rfl, m_end ht hP, hDD _⟩, hS.F ht⟩) hS.2.2 dX8_understand_108
        · have hF_28 := ineg c_26 hF_25
          clear hF_25
          refine lv_aload_n hx hb dX8_understand_96 rfl (lv_at hl 0 rfl) ?_
          obtain ⟨u_29, hu_29, hF_30⟩ := Option.bind_eq_some_iff.mp hF_28
          clear hF_28
          have hPc := bx_P (bs := [b_e cB cC cI cJ cZ oA rA u_24.2, b_k cB cC cI cJ cZ oA rA u_24.2, b_p cB cC cI cJ cZ oA rA u_24.2, b_o cB cC cI cJ cZ oA rA u_24.2, b_s cB cC cI cJ cZ oA rA u_24.2, b_c cB cC cI cJ cZ oA rA u_24.2, b_t cB cC cI cJ cZ oA rA u_24.2, b_d cB cC cI cJ cZ oA rA u_24.2]) (bs' := [b_e cB cC cI cJ cZ oA rA u_24.2, b_k cB cC cI cJ cZ oA rA u_24.2, b_p cB cC cI cJ cZ oA rA u_24.2, b_o cB cC cI cJ cZ oA rA u_24.2, b_s cB cC cI cJ cZ oA rA u_24.2, b_c cB cC cI cJ cZ oA rA u_24.2, b_t cB cC cI cJ cZ oA rA u_24.2, b_d cB cC cI cJ cZ oA rA u_24.2]) (ws' := (b_e cB cC cI cJ cZ oA rA u_24.2 ++ b_k cB cC cI cJ cZ oA rA u_24.2 ++ b_p cB cC cI cJ cZ oA rA u_24.2 ++ b_o cB cC cI cJ cZ oA rA u_24.2 ++ b_s cB cC cI cJ cZ oA rA u_24.2 ++ b_c cB cC cI cJ cZ oA rA u_24.2 ++ b_t cB cC cI cJ cZ oA rA u_24.2 ++ b_d cB cC cI cJ cZ oA rA u_24.2)) hP fl_8 fl_8 [0, 1, 2, 3, 4, 5, 6, 7] rfl
          have hDc := bx_D (bs := [b_e cB cC cI cJ cZ oA rA u_24.2, b_k cB cC cI cJ cZ oA rA u_24.2, b_p cB cC cI cJ cZ oA rA u_24.2, b_o cB cC cI cJ cZ oA rA u_24.2, b_s cB cC cI cJ cZ oA rA u_24.2, b_c cB cC cI cJ cZ oA rA u_24.2, b_t cB cC cI cJ cZ oA rA u_24.2, b_d cB cC cI cJ cZ oA rA u_24.2]) (bs' := [b_e cB cC cI cJ cZ oA rA u_24.2, b_k cB cC cI cJ cZ oA rA u_24.2, b_p cB cC cI cJ cZ oA rA u_24.2, b_o cB cC cI cJ cZ oA rA u_24.2, b_s cB cC cI cJ cZ oA rA u_24.2, b_c cB cC cI cJ cZ oA rA u_24.2, b_t cB cC cI cJ cZ oA rA u_24.2, b_d cB cC cI cJ cZ oA rA u_24.2]) (ws' := (b_e cB cC cI cJ cZ oA rA u_24.2 ++ b_k cB cC cI cJ cZ oA rA u_24.2 ++ b_p cB cC cI cJ cZ oA rA u_24.2 ++ b_o cB cC cI cJ cZ oA rA u_24.2 ++ b_s cB cC cI cJ cZ oA rA u_24.2 ++ b_c cB cC cI cJ cZ oA rA u_24.2 ++ b_t cB cC cI cJ cZ oA rA u_24.2 ++ b_d cB cC cI cJ cZ oA rA u_24.2)) (hDD u_24.2) fl_8 fl_8 [0, 1, 2, 3, 4, 5, 6, 7] (by decide +kernel) rfl
          have hFc := bx_F (bs := [b_e cB cC cI cJ cZ oA rA u_24.2, b_k cB cC cI cJ cZ oA rA u_24.2, b_p cB cC cI cJ cZ oA rA u_24.2, b_o cB cC cI cJ cZ oA rA u_24.2, b_s cB cC cI cJ cZ oA rA u_24.2, b_c cB cC cI cJ cZ oA rA u_24.2, b_t cB cC cI cJ cZ oA rA u_24.2, b_d cB cC cI cJ cZ oA rA u_24.2]) (bs' := [b_e cB cC cI cJ cZ oA rA u_24.2, b_k cB cC cI cJ cZ oA rA u_24.2, b_p cB cC cI cJ cZ oA rA u_24.2, b_o cB cC cI cJ cZ oA rA u_24.2, b_s cB cC cI cJ cZ oA rA u_24.2, b_c cB cC cI cJ cZ oA rA u_24.2, b_t cB cC cI cJ cZ oA rA u_24.2, b_d cB cC cI cJ cZ oA rA u_24.2]) (wc := (b_e cB cC cI cJ cZ oA rA u_24.2 ++ b_k cB cC cI cJ cZ oA rA u_24.2 ++ b_p cB cC cI cJ cZ oA rA u_24.2 ++ b_o cB cC cI cJ cZ oA rA u_24.2 ++ b_s cB cC cI cJ cZ oA rA u_24.2 ++ b_c cB cC cI cJ cZ oA rA u_24.2 ++ b_t cB cC cI cJ cZ oA rA u_24.2 ++ b_d cB cC cI cJ cZ oA rA u_24.2)) (hDD u_24.2) hS hA fl_8 fl_8 [0, 1, 2, 3, 4, 5, 6, 7] rfl
          refine g_ofi (wc := (b_e cB cC cI cJ cZ oA rA u_24.2 ++ b_k cB cC cI cJ cZ oA rA u_24.2 ++ b_p cB cC cI cJ cZ oA rA u_24.2 ++ b_o cB cC cI cJ cZ oA rA u_24.2 ++ b_s cB cC cI cJ cZ oA rA u_24.2 ++ b_c cB cC cI cJ cZ oA rA u_24.2 ++ b_t cB cC cI cJ cZ oA rA u_24.2 ++ b_d cB cC cI cJ cZ oA rA u_24.2)) (wr := ([] : va_W)) hP (hDD u_24.2) hS hFc (bx_ix [b_e cB cC cI cJ cZ oA rA u_24.2, b_k cB cC cI cJ cZ oA rA u_24.2, b_p cB cC cI cJ cZ oA rA u_24.2, b_o cB cC cI cJ cZ oA rA u_24.2, b_s cB cC cI cJ cZ oA rA u_24.2, b_c cB cC cI cJ cZ oA rA u_24.2, b_t cB cC cI cJ cZ oA rA u_24.2, b_d cB cC cI cJ cZ oA rA u_24.2] [0, 1, 2, 3, 4, 5, 6, 7]) (bx_ix [b_e cB cC cI cJ cZ oA rA u_24.2, b_k cB cC cI cJ cZ oA rA u_24.2, b_p cB cC cI cJ cZ oA rA u_24.2, b_o cB cC cI cJ cZ oA rA u_24.2, b_s cB cC cI cJ cZ oA rA u_24.2, b_c cB cC cI cJ cZ oA rA u_24.2, b_t cB cC cI cJ cZ oA rA u_24.2, b_d cB cC cI cJ cZ oA rA u_24.2] []) (bx_C (bs := [b_e cB cC cI cJ cZ oA rA u_24.2, b_k cB cC cI cJ cZ oA rA u_24.2, b_p cB cC cI cJ cZ oA rA u_24.2, b_o cB cC cI cJ cZ oA rA u_24.2, b_s cB cC cI cJ cZ oA rA u_24.2, b_c cB cC cI cJ cZ oA rA u_24.2, b_t cB cC cI cJ cZ oA rA u_24.2, b_d cB cC cI cJ cZ oA rA u_24.2]) (bs' := [b_e cB cC cI cJ cZ oA rA u_24.2, b_k cB cC cI cJ cZ oA rA u_24.2, b_p cB cC cI cJ cZ oA rA u_24.2, b_o cB cC cI cJ cZ oA rA u_24.2, b_s cB cC cI cJ cZ oA rA u_24.2, b_c cB cC cI cJ cZ oA rA u_24.2, b_t cB cC cI cJ cZ oA rA u_24.2, b_d cB cC cI cJ cZ oA rA u_24.2]) (is := [0, 1, 2, 3, 4, 5, 6, 7]) fl_8 fl_8 rfl) (bx_C (bs := [b_e cB cC cI cJ cZ oA rA u_24.2, b_k cB cC cI cJ cZ oA rA u_24.2, b_p cB cC cI cJ cZ oA rA u_24.2, b_o cB cC cI cJ cZ oA rA u_24.2, b_s cB cC cI cJ cZ oA rA u_24.2, b_c cB cC cI cJ cZ oA rA u_24.2, b_t cB cC cI cJ cZ oA rA u_24.2, b_d cB cC cI cJ cZ oA rA u_24.2]) (bs' := []) (is := []) fl_8 fl_0 rfl) (bx_n (by decide +kernel)) (bx_d (by decide +kernel)) (va_runV (As := []) (rest := []) ⟨hx, hb, hml, hown, hts⟩ (k_X8_findNouns l dC dI cB cC cI cJ cZ cP oA rA H.size  u_24.2 _ hu_29) (cwV 0 hts (g_gV wq_1085 wq_1086 wq_2077 wq_12 wq_1087) rfl rfl rfl (by decide +kernel) ⟨Nat.le_of_ble_eq_true rfl, Nat.le_of_ble_eq_true rfl⟩) (g_preV g_bl0 hK hPc hDc hS hE hFc g_to0 (q0 := 0) (ci := 8) rfl rfl) rfl rfl hl.1 rfl (lv_room (Nat.le_of_ble_eq_true rfl)) dX8_understand_97 ⟨Nat.le_of_ble_eq_true rfl, Nat.le_of_ble_eq_true rfl⟩) (fun r9 u9 H locs hw9 hP' hD' hS => ?_)
          clear hPc hDc hFc
          subst hw9
          have hP : va_P (dC, dI) vwCl (b_e cB cC cI cJ cZ oA rA u_29.2 ++ b_k cB cC cI cJ cZ oA rA u_29.2 ++ b_p cB cC cI cJ cZ oA rA u_29.2 ++ b_o cB cC cI cJ cZ oA rA u_29.2 ++ b_s cB cC cI cJ cZ oA rA u_29.2 ++ b_c cB cC cI cJ cZ oA rA u_29.2 ++ b_t cB cC cI cJ cZ oA rA u_29.2 ++ b_d cB cC cI cJ cZ oA rA u_29.2) H := hP'
          clear hP' hD'
          refine lv_if_eq (tgt := 107) hx hb dX8_understand_100 (by decide) (fun c_31 => ?_) (fun c_31 => ?_)
          · have hF_32 := ipos c_31 hF_30
            clear hF_30
            refine lv_iconst (v := 0) hx hb dX8_understand_107 (by decide +kernel) ?_
            have h9 := Option.some.inj hF_32
            subst h9
            exact W.zret (v := 0) hx hb hr (by decide +kernel) (fun t ht hW => ⟨⟨0, (), rfl, rfl, m_end ht hP, hDD _⟩, hS.F ht⟩) hS.2.2 dX8_understand_108
          · have hF_33 := ineg c_31 hF_30
            clear hF_30
            refine lv_iconst (v := 1) hx hb dX8_understand_103 (by decide +kernel) ?_
            refine lv_goto (tgt := 108) hx hb dX8_understand_104 (by decide) ?_
            have h9 := Option.some.inj hF_33
            subst h9
            exact W.zret (v := 1) hx hb hr (by decide +kernel) (fun t ht hW => ⟨⟨1, (), rfl, rfl, m_end ht hP, hDD _⟩, hS.F ht⟩) hS.2.2 dX8_understand_108
      · have hF_34 := ineg c_22 hF_21
        clear hF_21
        refine lv_aload_n hx hb dX8_understand_82 rfl (lv_at hl 0 rfl) ?_
        obtain ⟨q_35, vq_35, hRq_35, hSq_35⟩ := hE.2.2.2.2 _ (List.mem_of_getElem? (i := 39) rfl)
        refine va_ldcS (own := RX8) (tx := "Where do you want to go?") hx hb hown hRq_35 dX8_understand_83 ?_
        obtain ⟨u_36, hu_36, hF_37⟩ := Option.bind_eq_some_iff.mp hF_34
        clear hF_34
        have hPc := bx_P (bs := [b_e cB cC cI cJ cZ oA rA σ_18, b_k cB cC cI cJ cZ oA rA σ_18, b_p cB cC cI cJ cZ oA rA σ_18, b_o cB cC cI cJ cZ oA rA σ_18, b_s cB cC cI cJ cZ oA rA σ_18, b_c cB cC cI cJ cZ oA rA σ_18, b_t cB cC cI cJ cZ oA rA σ_18, b_d cB cC cI cJ cZ oA rA σ_18]) (bs' := [b_e cB cC cI cJ cZ oA rA σ_18, b_k cB cC cI cJ cZ oA rA σ_18, b_p cB cC cI cJ cZ oA rA σ_18, b_o cB cC cI cJ cZ oA rA σ_18, b_s cB cC cI cJ cZ oA rA σ_18, b_c cB cC cI cJ cZ oA rA σ_18, b_t cB cC cI cJ cZ oA rA σ_18, b_d cB cC cI cJ cZ oA rA σ_18]) (ws' := (b_e cB cC cI cJ cZ oA rA σ_18 ++ b_k cB cC cI cJ cZ oA rA σ_18 ++ b_p cB cC cI cJ cZ oA rA σ_18 ++ b_o cB cC cI cJ cZ oA rA σ_18 ++ b_s cB cC cI cJ cZ oA rA σ_18 ++ b_c cB cC cI cJ cZ oA rA σ_18 ++ b_t cB cC cI cJ cZ oA rA σ_18 ++ b_d cB cC cI cJ cZ oA rA σ_18)) hP fl_8 fl_8 [0, 1, 2, 3, 4, 5, 6, 7] rfl
        have hDc := bx_D (bs := [b_e cB cC cI cJ cZ oA rA σ_18, b_k cB cC cI cJ cZ oA rA σ_18, b_p cB cC cI cJ cZ oA rA σ_18, b_o cB cC cI cJ cZ oA rA σ_18, b_s cB cC cI cJ cZ oA rA σ_18, b_c cB cC cI cJ cZ oA rA σ_18, b_t cB cC cI cJ cZ oA rA σ_18, b_d cB cC cI cJ cZ oA rA σ_18]) (bs' := [b_e cB cC cI cJ cZ oA rA σ_18, b_k cB cC cI cJ cZ oA rA σ_18, b_p cB cC cI cJ cZ oA rA σ_18, b_o cB cC cI cJ cZ oA rA σ_18, b_s cB cC cI cJ cZ oA rA σ_18, b_c cB cC cI cJ cZ oA rA σ_18, b_t cB cC cI cJ cZ oA rA σ_18, b_d cB cC cI cJ cZ oA rA σ_18]) (ws' := (b_e cB cC cI cJ cZ oA rA σ_18 ++ b_k cB cC cI cJ cZ oA rA σ_18 ++ b_p cB cC cI cJ cZ oA rA σ_18 ++ b_o cB cC cI cJ cZ oA rA σ_18 ++ b_s cB cC cI cJ cZ oA rA σ_18 ++ b_c cB cC cI cJ cZ oA rA σ_18 ++ b_t cB cC cI cJ cZ oA rA σ_18 ++ b_d cB cC cI cJ cZ oA rA σ_18)) (hDD σ_18) fl_8 fl_8 [0, 1, 2, 3, 4, 5, 6, 7] (by decide +kernel) rfl
        have hFc := bx_F (bs := [b_e cB cC cI cJ cZ oA rA σ_18, b_k cB cC cI cJ cZ oA rA σ_18, b_p cB cC cI cJ cZ oA rA σ_18, b_o cB cC cI cJ cZ oA rA σ_18, b_s cB cC cI cJ cZ oA rA σ_18, b_c cB cC cI cJ cZ oA rA σ_18, b_t cB cC cI cJ cZ oA rA σ_18, b_d cB cC cI cJ cZ oA rA σ_18]) (bs' := [b_e cB cC cI cJ cZ oA rA σ_18, b_k cB cC cI cJ cZ oA rA σ_18, b_p cB cC cI cJ cZ oA rA σ_18, b_o cB cC cI cJ cZ oA rA σ_18, b_s cB cC cI cJ cZ oA rA σ_18, b_c cB cC cI cJ cZ oA rA σ_18, b_t cB cC cI cJ cZ oA rA σ_18, b_d cB cC cI cJ cZ oA rA σ_18]) (wc := (b_e cB cC cI cJ cZ oA rA σ_18 ++ b_k cB cC cI cJ cZ oA rA σ_18 ++ b_p cB cC cI cJ cZ oA rA σ_18 ++ b_o cB cC cI cJ cZ oA rA σ_18 ++ b_s cB cC cI cJ cZ oA rA σ_18 ++ b_c cB cC cI cJ cZ oA rA σ_18 ++ b_t cB cC cI cJ cZ oA rA σ_18 ++ b_d cB cC cI cJ cZ oA rA σ_18)) (hDD σ_18) hS hA fl_8 fl_8 [0, 1, 2, 3, 4, 5, 6, 7] rfl
        refine g_ofi (wc := (b_e cB cC cI cJ cZ oA rA σ_18 ++ b_k cB cC cI cJ cZ oA rA σ_18 ++ b_p cB cC cI cJ cZ oA rA σ_18 ++ b_o cB cC cI cJ cZ oA rA σ_18 ++ b_s cB cC cI cJ cZ oA rA σ_18 ++ b_c cB cC cI cJ cZ oA rA σ_18 ++ b_t cB cC cI cJ cZ oA rA σ_18 ++ b_d cB cC cI cJ cZ oA rA σ_18)) (wr := ([] : va_W)) hP (hDD σ_18) hS hFc (bx_ix [b_e cB cC cI cJ cZ oA rA σ_18, b_k cB cC cI cJ cZ oA rA σ_18, b_p cB cC cI cJ cZ oA rA σ_18, b_o cB cC cI cJ cZ oA rA σ_18, b_s cB cC cI cJ cZ oA rA σ_18, b_c cB cC cI cJ cZ oA rA σ_18, b_t cB cC cI cJ cZ oA rA σ_18, b_d cB cC cI cJ cZ oA rA σ_18] [0, 1, 2, 3, 4, 5, 6, 7]) (bx_ix [b_e cB cC cI cJ cZ oA rA σ_18, b_k cB cC cI cJ cZ oA rA σ_18, b_p cB cC cI cJ cZ oA rA σ_18, b_o cB cC cI cJ cZ oA rA σ_18, b_s cB cC cI cJ cZ oA rA σ_18, b_c cB cC cI cJ cZ oA rA σ_18, b_t cB cC cI cJ cZ oA rA σ_18, b_d cB cC cI cJ cZ oA rA σ_18] []) (bx_C (bs := [b_e cB cC cI cJ cZ oA rA σ_18, b_k cB cC cI cJ cZ oA rA σ_18, b_p cB cC cI cJ cZ oA rA σ_18, b_o cB cC cI cJ cZ oA rA σ_18, b_s cB cC cI cJ cZ oA rA σ_18, b_c cB cC cI cJ cZ oA rA σ_18, b_t cB cC cI cJ cZ oA rA σ_18, b_d cB cC cI cJ cZ oA rA σ_18]) (bs' := [b_e cB cC cI cJ cZ oA rA σ_18, b_k cB cC cI cJ cZ oA rA σ_18, b_p cB cC cI cJ cZ oA rA σ_18, b_o cB cC cI cJ cZ oA rA σ_18, b_s cB cC cI cJ cZ oA rA σ_18, b_c cB cC cI cJ cZ oA rA σ_18, b_t cB cC cI cJ cZ oA rA σ_18, b_d cB cC cI cJ cZ oA rA σ_18]) (is := [0, 1, 2, 3, 4, 5, 6, 7]) fl_8 fl_8 rfl) (bx_C (bs := [b_e cB cC cI cJ cZ oA rA σ_18, b_k cB cC cI cJ cZ oA rA σ_18, b_p cB cC cI cJ cZ oA rA σ_18, b_o cB cC cI cJ cZ oA rA σ_18, b_s cB cC cI cJ cZ oA rA σ_18, b_c cB cC cI cJ cZ oA rA σ_18, b_t cB cC cI cJ cZ oA rA σ_18, b_d cB cC cI cJ cZ oA rA σ_18]) (bs' := []) (is := []) fl_8 fl_0 rfl) (bx_n (by decide +kernel)) (bx_d (by decide +kernel)) (va_runV (As := [.ref q_35]) (rest := []) ⟨hx, hb, hml, hown, hts⟩ (k_X8_refuse l dC dI cB cC cI cJ cZ cP oA rA H.size q_35 _ ([87, 104, 101, 114, 101, 32, 100, 111, 32, 121, 111, 117, 32, 119, 97, 110, 116, 32, 116, 111, 32, 103, 111, 63] : List Int32) σ_18 _ hu_36) (cwV 1 hts (g_gV wq_1050 wq_1051 wq_2071 wq_12 wq_1052) rfl rfl rfl (by decide +kernel) ⟨Nat.le_of_ble_eq_true rfl, Nat.le_of_ble_eq_true rfl⟩) (g_preV g_blS hK hPc hDc hS hE hFc (g_toS hSq_35 hS hFc) (q0 := 0) (ci := 8) rfl rfl) rfl rfl hl.1 rfl (lv_room (Nat.le_of_ble_eq_true rfl)) dX8_understand_85 ⟨Nat.le_of_ble_eq_true rfl, Nat.le_of_ble_eq_true rfl⟩) (fun r9 u9 H locs hw9 hP' hD' hS => ?_)
        clear hPc hDc hFc
        subst hw9
        have hP : va_P (dC, dI) vwCl (b_e cB cC cI cJ cZ oA rA u_36.2 ++ b_k cB cC cI cJ cZ oA rA u_36.2 ++ b_p cB cC cI cJ cZ oA rA u_36.2 ++ b_o cB cC cI cJ cZ oA rA u_36.2 ++ b_s cB cC cI cJ cZ oA rA u_36.2 ++ b_c cB cC cI cJ cZ oA rA u_36.2 ++ b_t cB cC cI cJ cZ oA rA u_36.2 ++ b_d cB cC cI cJ cZ oA rA u_36.2) H := hP'
        clear hP' hD'
        obtain ⟨g_38, hF_39⟩ := nif_e hF_37
        clear hF_37
        have h9 := Option.some.inj hF_39
        subst h9
        exact W.zret (v := u_36.1) hx hb hr (m_bool (Classical.not_not.mp g_38)).1 (fun t ht hW => ⟨⟨u_36.1, (), rfl, rfl, m_end ht hP, hDD _⟩, hS.F ht⟩) hS.2.2 dX8_understand_88
    refine lv_if_eq (tgt := 78) hx hb dX8_understand_46 (by decide) (fun c_40 => ?_) (fun c_40 => ?_)
    · have hF_41 := ipos c_40 hF_20
      clear hF_20
      exact Jj_19  u_14.2 hF_41 _ _ hP hS ls (lv_sub hl [2, 1] rfl)
    · have hF_42 := ineg c_40 hF_20
      clear hF_20
      refine lv_aload_n hx hb dX8_understand_49 rfl (lv_at hl 2 rfl) ?_
      refine va_get (D := (dC, dI)) (ci := 8) (v := .int ((u_14.2 11).1 7)) (C := RX8) (T := TX8) (N := 16) hx hb hts ii_X8 hown hK hP 0 rfl rfl 7 (by decide) (hts (.fieldLink RX8 50 "StoryHouse$Teller" "termCount" "I") wq_294) (fun _ h9 => h9) rfl dX8_understand_50 ?_
      refine lv_iload_n hx hb dX8_understand_53 rfl (lv_at hl 1 rfl) ?_
      obtain ⟨j_45, ej_45, hF_46⟩ := bnd_e hF_42
      clear hF_42
      have Jj_45 : ∀ (t_43 : Int32) (σ_44 : HS), j_45 t_43 σ_44 = some res → ∀ (H : Heap) (locs : List Loc), va_P (dC, dI) vwCl (b_e cB cC cI cJ cZ oA rA σ_44 ++ b_k cB cC cI cJ cZ oA rA σ_44 ++ b_p cB cC cI cJ cZ oA rA σ_44 ++ b_o cB cC cI cJ cZ oA rA σ_44 ++ b_s cB cC cI cJ cZ oA rA σ_44 ++ b_c cB cC cI cJ cZ oA rA σ_44 ++ b_t cB cC cI cJ cZ oA rA σ_44 ++ b_d cB cC cI cJ cZ oA rA σ_44) H → va_S A s.heap H locs → ∀ ls : Array Slot, lv_has ls 3 [(0, .ref (oA 11)), (1, .int t_9), (2, .int u_16.1)] → W p l e (headSpec (g_ws yX8_understand cX8_understand 3 (some .boolean)) { frames := 10, cells := 0, slots := 0, locals := 234 }).room s m ([.ref (oA 11)] : List Value).toArray below meth c H locs 0 0 (MQ below (va_Qi (fun r (_ : Unit) => r = res.1) (g_Bo (dC, dI) A (fun (_ : Unit) => (b_e cB cC cI cJ cZ oA rA res.2 ++ b_k cB cC cI cJ cZ oA rA res.2 ++ b_p cB cC cI cJ cZ oA rA res.2 ++ b_o cB cC cI cJ cZ oA rA res.2 ++ b_s cB cC cI cJ cZ oA rA res.2 ++ b_c cB cC cI cJ cZ oA rA res.2 ++ b_t cB cC cI cJ cZ oA rA res.2 ++ b_d cB cC cI cJ cZ oA rA res.2))) A) ([.ref (oA 11)] : List Value).toArray s 0 0 A) (F0 m 62 ls [.int t_43, .int ((u_14.2 11).1 7)]) := by
        intro t_43 σ_44 hF0 H locs hP hS ls hl
        subst ej_45
        have hF_47 := hF0
        clear hF0
        refine lv_icmp_ne (tgt := 78) hx hb dX8_understand_62 (by decide) (fun c_48 => ?_) (fun c_48 => ?_)
        · have hF_54 := ineg c_48 hF_47
          clear hF_47
          exact Jj_19  σ_44 hF_54 _ _ hP hS ls (lv_sub hl [0, 1] rfl)
        · have hF_49 := ipos c_48 hF_47
          clear hF_47
          refine lv_aload_n hx hb dX8_understand_65 rfl (lv_at hl 0 rfl) ?_
          refine lv_bipush (v := 11) hx hb dX8_understand_66 (by decide +kernel) ?_
          obtain ⟨σ_50, eσ_50, hF_51⟩ := bnd_e hF_49
          clear hF_49
          refine va_put (D := (dC, dI)) (ci := 8) (v := .int 11) (ty := .int) (C := RX8) (T := TX8) (N := 16) hx hb hts ii_X8 tyX8 tyX8_ok nmX8 hown hK hP (hDD _) hS 0 rfl rfl 8 (by decide) (hts (.fieldLink RX8 127 "StoryHouse$Teller" "verb" "I") wq_295) (fun _ h9 => h9) rfl (by decide +kernel) rfl rfl (Nat.le_of_ble_eq_true rfl) dX8_understand_68 (fun H locs hP' _ hS => ?_)
          have hP : va_P (dC, dI) vwCl (b_e cB cC cI cJ cZ oA rA σ_50 ++ b_k cB cC cI cJ cZ oA rA σ_50 ++ b_p cB cC cI cJ cZ oA rA σ_50 ++ b_o cB cC cI cJ cZ oA rA σ_50 ++ b_s cB cC cI cJ cZ oA rA σ_50 ++ b_c cB cC cI cJ cZ oA rA σ_50 ++ b_t cB cC cI cJ cZ oA rA σ_50 ++ b_d cB cC cI cJ cZ oA rA σ_50) H := by rw [eσ_50]; exact cs_ekposctd_e_8 ▸ hP'
          clear hP'
          refine lv_aload_n hx hb dX8_understand_71 rfl (lv_at hl 0 rfl) ?_
          refine lv_iload_n hx hb dX8_understand_72 rfl (lv_at hl 2 rfl) ?_
          obtain ⟨σ_52, eσ_52, hF_53⟩ := bnd_e hF_51
          clear hF_51
          refine va_put (D := (dC, dI)) (ci := 8) (v := .int u_16.1) (ty := .int) (C := RX8) (T := TX8) (N := 16) hx hb hts ii_X8 tyX8 tyX8_ok nmX8 hown hK hP (hDD _) hS 0 rfl rfl 10 (by decide) (hts (.fieldLink RX8 114 "StoryHouse$Teller" "noun" "I") wq_297) (fun _ h9 => h9) rfl (by decide +kernel) rfl rfl (Nat.le_of_ble_eq_true rfl) dX8_understand_73 (fun H locs hP' _ hS => ?_)
          have hP : va_P (dC, dI) vwCl (b_e cB cC cI cJ cZ oA rA σ_52 ++ b_k cB cC cI cJ cZ oA rA σ_52 ++ b_p cB cC cI cJ cZ oA rA σ_52 ++ b_o cB cC cI cJ cZ oA rA σ_52 ++ b_s cB cC cI cJ cZ oA rA σ_52 ++ b_c cB cC cI cJ cZ oA rA σ_52 ++ b_t cB cC cI cJ cZ oA rA σ_52 ++ b_d cB cC cI cJ cZ oA rA σ_52) H := by rw [eσ_52]; exact cs_ekposctd_e_10 ▸ hP'
          clear hP'
          refine lv_iconst (v := 1) hx hb dX8_understand_76 (by decide +kernel) ?_
          have h9 := Option.some.inj hF_53
          subst h9
          exact W.zret (v := 1) hx hb hr (by decide +kernel) (fun t ht hW => ⟨⟨1, (), rfl, rfl, m_end ht hP, hDD _⟩, hS.F ht⟩) hS.2.2 dX8_understand_77
      refine lv_if_eq (tgt := 61) hx hb dX8_understand_54 (by decide) (fun c_55 => ?_) (fun c_55 => ?_)
      · have hF_56 := ipos c_55 hF_46
        clear hF_46
        refine lv_iconst (v := 1) hx hb dX8_understand_61 (by decide +kernel) ?_
        exact Jj_45 1 u_14.2 hF_56 _ _ hP hS ls (lv_sub hl [2, 1, 0] rfl)
      · have hF_57 := ineg c_55 hF_46
        clear hF_46
        refine lv_iconst (v := 2) hx hb dX8_understand_57 (by decide +kernel) ?_
        refine lv_goto (tgt := 62) hx hb dX8_understand_58 (by decide) ?_
        exact Jj_45 2 u_14.2 hF_57 _ _ hP hS ls (lv_sub hl [2, 1, 0] rfl)
  refine lv_icmp_ne (tgt := 29) hx hb dX8_understand_22 (by decide) (fun c_58 => ?_) (fun c_58 => ?_)
  · have hF_60 := ineg c_58 hF_12
    clear hF_12
    refine lv_iconst (v := 0) hx hb dX8_understand_29 (by decide +kernel) ?_
    exact Jj_11 0 u_7.2 hF_60 _ _ hP hS ls (lv_sub hl [0] rfl)
  · have hF_59 := ipos c_58 hF_12
    clear hF_12
    refine lv_iconst (v := 1) hx hb dX8_understand_25 (by decide +kernel) ?_
    refine lv_goto (tgt := 30) hx hb dX8_understand_26 (by decide) ?_
    exact Jj_11 1 u_7.2 hF_59 _ _ hP hS ls (lv_sub hl [0] rfl)
