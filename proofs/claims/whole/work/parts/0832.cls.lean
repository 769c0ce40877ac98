/-! methods of the class: what each does is its function -/
theorem dX7_firstRoom_0 : decode cX7_firstRoom 0 = .ok (.iconst 1, 1) := by decide +kernel
theorem dX7_firstRoom_1 : decode cX7_firstRoom 1 = .ok (.istore_n 1, 1) := by decide +kernel
theorem dX7_firstRoom_2 : decode cX7_firstRoom 2 = .ok (.iload_n 1, 1) := by decide +kernel
theorem dX7_firstRoom_3 : decode cX7_firstRoom 3 = .ok (.bipush 120, 2) := by decide +kernel
theorem dX7_firstRoom_5 : decode cX7_firstRoom 5 = .ok (.if_icmp .gt 29, 3) := by decide +kernel
theorem dX7_firstRoom_8 : decode cX7_firstRoom 8 = .ok (.iload_n 1, 1) := by decide +kernel
theorem dX7_firstRoom_9 : decode cX7_firstRoom 9 = .ok (.aload_n 0, 1) := by decide +kernel
theorem dX7_firstRoom_10 : decode cX7_firstRoom 10 = .ok (.getfield 9, 3) := by decide +kernel
theorem dX7_firstRoom_13 : decode cX7_firstRoom 13 = .ok (.iconst 0, 1) := by decide +kernel
theorem dX7_firstRoom_14 : decode cX7_firstRoom 14 = .ok (.iaload, 1) := by decide +kernel
theorem dX7_firstRoom_15 : decode cX7_firstRoom 15 = .ok (.if_icmp .gt 19, 3) := by decide +kernel
theorem dX7_firstRoom_18 : decode cX7_firstRoom 18 = .ok (.aload_n 0, 1) := by decide +kernel
theorem dX7_firstRoom_19 : decode cX7_firstRoom 19 = .ok (.iload_n 1, 1) := by decide +kernel
theorem dX7_firstRoom_20 : decode cX7_firstRoom 20 = .ok (.invokevirtual 162, 3) := by decide +kernel
theorem dX7_firstRoom_23 : decode cX7_firstRoom 23 = .ok (.ifCond .eq 5, 3) := by decide +kernel
theorem dX7_firstRoom_26 : decode cX7_firstRoom 26 = .ok (.iload_n 1, 1) := by decide +kernel
theorem dX7_firstRoom_27 : decode cX7_firstRoom 27 = .ok (.ireturn, 1) := by decide +kernel
theorem dX7_firstRoom_28 : decode cX7_firstRoom 28 = .ok (.iinc 1 1, 3) := by decide +kernel
theorem dX7_firstRoom_31 : decode cX7_firstRoom 31 = .ok (.goto (-29), 3) := by decide +kernel
theorem dX7_firstRoom_34 : decode cX7_firstRoom 34 = .ok (.iconst 0, 1) := by decide +kernel
theorem dX7_firstRoom_35 : decode cX7_firstRoom 35 = .ok (.ireturn, 1) := by decide +kernel
def F_X7_firstRoom  (Γ : HS) : HR :=
  loopF (fun (again_2 : (Int32 × HS) → HR) (s_1 : Int32 × HS) => (
    if 120 < s_1.1 then (
      some (0, s_1.2)
    ) else (
      if ((s_1.2 4).2.1 0 (0 : Int32).toNatClampNeg) < s_1.1 then (
        some (0, s_1.2)
      ) else (
        (F_X7_isRoom s_1.1 s_1.2).bind fun u_11 =>
        if u_11.1 = 0 then (
          bnd (s_1.1 + 1) fun (x_15 : Int32) =>
          again_2 (x_15, u_11.2)
        ) else (
          some (s_1.1, u_11.2)
        )
      )
    )
  )) FU (1, Γ)
set_option maxHeartbeats 4000000 in
set_option maxRecDepth 100000 in
theorem k_X7_firstRoom (l : Launch) (dC : Nat → ClassId) (dI : Nat → Nat → Nat) (cB cC cI cJ cZ cP : ClassId) (oA : Nat → Nat) (rA : Nat → Nat → Nat) (sz : Nat)   (Γ : HS) (res : Int32 × HS) (hF : F_X7_firstRoom  Γ = some res) : Met l yX7_firstRoom (g_ws yX7_firstRoom cX7_firstRoom 2 (some .int)) ({ frames := 2, cells := 0, slots := 0, locals := 61 }) (va_Pc [.ref (oA 4)] (g_B (dC, dI) [(cB, .byte), (cC, .char), (cI, .int), (cJ, .long), (cZ, .boolean), (cP, .object "StoryHouse$Play")] sz (b_s cB cC cI cJ cZ oA rA Γ ++ b_c cB cC cI cJ cZ oA rA Γ ++ b_t cB cC cI cJ cZ oA rA Γ ++ b_d cB cC cI cJ cZ oA rA Γ) g_0)) (va_Qi (fun r (_ : Unit) => r = res.1) (g_Bo (dC, dI) (va_A (b_s cB cC cI cJ cZ oA rA Γ ++ b_c cB cC cI cJ cZ oA rA Γ ++ b_t cB cC cI cJ cZ oA rA Γ ++ b_d cB cC cI cJ cZ oA rA Γ) sz) (fun (_ : Unit) => (b_s cB cC cI cJ cZ oA rA res.2 ++ b_c cB cC cI cJ cZ oA rA res.2 ++ b_t cB cC cI cJ cZ oA rA res.2 ++ b_d cB cC cI cJ cZ oA rA res.2))) (va_A (b_s cB cC cI cJ cZ oA rA Γ ++ b_c cB cC cI cJ cZ oA rA Γ ++ b_t cB cC cI cJ cZ oA rA Γ ++ b_d cB cC cI cJ cZ oA rA Γ) sz)) 0 0 (va_A (b_s cB cC cI cJ cZ oA rA Γ ++ b_c cB cC cI cJ cZ oA rA Γ ++ b_t cB cC cI cJ cZ oA rA Γ ++ b_d cB cC cI cJ cZ oA rA Γ) sz) := by
  refine Met.ofW (cc := cX7_firstRoom) (maxL := 2) (ret := (some .int)) (by decide) rfl ?_
  intro p e s m args below meth c s₁ B hml hv
  obtain ⟨rfl, hsz, hP, hK, hD0, hE, hX⟩ := hv
  have hx := B.exec
  have hb := B.bytes
  have hr := B.returns
  have hts0 := atoms_spec (ws := g_ws yX7_firstRoom cX7_firstRoom 2 (some .int)) B.pre
  have hts : ∀ w ∈ lw_good, w.before ([.ref (oA 4)] : List Value).toArray s = true := fun w z => hts0 w (List.mem_cons_of_mem _ z)
  have hown : s.vm.findClass RX7 = some m.cls := findClass_of_methodNamed B.named
  have hlocks := B.notSynchronized
  subst hsz
  have hD1 := hD0.self (sz := s.heap.size)
  generalize hAe : va_A (b_s cB cC cI cJ cZ oA rA Γ ++ b_c cB cC cI cJ cZ oA rA Γ ++ b_t cB cC cI cJ cZ oA rA Γ ++ b_d cB cC cI cJ cZ oA rA Γ) s.heap.size = A at hD1 hE hX ⊢
  have hA : ∀ q : Nat, s.heap.size ≤ q → A q := fun q z => by rw [← hAe]; exact Or.inr z
  have hDD : ∀ Γ : HS, va_D A (b_s cB cC cI cJ cZ oA rA Γ ++ b_c cB cC cI cJ cZ oA rA Γ ++ b_t cB cC cI cJ cZ oA rA Γ ++ b_d cB cC cI cJ cZ oA rA Γ) := fun Γ9 => va_D_fst (ws := (b_s cB cC cI cJ cZ oA rA Γ ++ b_c cB cC cI cJ cZ oA rA Γ ++ b_t cB cC cI cJ cZ oA rA Γ ++ b_d cB cC cI cJ cZ oA rA Γ)) (ws' := (b_s cB cC cI cJ cZ oA rA Γ9 ++ b_c cB cC cI cJ cZ oA rA Γ9 ++ b_t cB cC cI cJ cZ oA rA Γ9 ++ b_d cB cC cI cJ cZ oA rA Γ9)) rfl hD1
  have hN := hE.1
  have hS : va_S A s.heap s.heap [] := va_S.rf
  have hl := lv_entry ([.ref (oA 4)]) (n := 2) (Nat.le_of_ble_eq_true rfl)
  rw [lg_entry_eq]
  generalize (lg_sl ([.ref (oA 4)]) ++ List.replicate (2 - (lg_sl ([.ref (oA 4)])).length) Slot.unset).toArray = ls at hl ⊢
  have hl : lv_has ls 2 [(0, .ref (oA 4))] := hl
  unfold F_X7_firstRoom at hF
  refine lv_iconst (v := 1) hx hb dX7_firstRoom_0 (by decide +kernel) ?_
  refine lv_istore_n (lv' := [(1, .int 1), (0, .ref (oA 4))]) hx hb dX7_firstRoom_1 rfl hl (by decide) rfl (fun ls hl => ?_)
  refine loopF_ind (P := fun (s_1 : Int32 × HS) => ∀ (H : Heap) (locs : List Loc), va_P (dC, dI) vwCl (b_s cB cC cI cJ cZ oA rA s_1.2 ++ b_c cB cC cI cJ cZ oA rA s_1.2 ++ b_t cB cC cI cJ cZ oA rA s_1.2 ++ b_d cB cC cI cJ cZ oA rA s_1.2) H → va_S A s.heap H locs → ∀ ls : Array Slot, lv_has ls 2 [(0, .ref (oA 4)), (1, .int s_1.1)] → W p l e (headSpec (g_ws yX7_firstRoom cX7_firstRoom 2 (some .int)) { frames := 2, cells := 0, slots := 0, locals := 61 }).room s m ([.ref (oA 4)] : List Value).toArray below meth c H locs 0 0 (MQ below (va_Qi (fun r (_ : Unit) => r = res.1) (g_Bo (dC, dI) A (fun (_ : Unit) => (b_s cB cC cI cJ cZ oA rA res.2 ++ b_c cB cC cI cJ cZ oA rA res.2 ++ b_t cB cC cI cJ cZ oA rA res.2 ++ b_d cB cC cI cJ cZ oA rA res.2))) A) ([.ref (oA 4)] : List Value).toArray s 0 0 A) (F0 m 2 ls [])) ?_ _ _ hF _ _ hP hS ls (lv_sub hl [1, 0] rfl)
  intro again_2 s_1 ih_3 hF_4
  intro H locs hP hS ls hl
  refine lv_iload_n hx hb dX7_firstRoom_2 rfl (lv_at hl 1 rfl) ?_
  refine lv_bipush (v := 120) hx hb dX7_firstRoom_3 (by decide +kernel) ?_
  refine lv_icmp_gt (tgt := 34) hx hb dX7_firstRoom_5 (by decide) (fun c_5 => ?_) (fun c_5 => ?_)
  · have hF_6 := ipos c_5 hF_4
    clear hF_4
    refine lv_iconst (v := 0) hx hb dX7_firstRoom_34 (by decide +kernel) ?_
    have h9 := Option.some.inj hF_6
    subst h9
    exact W.iret (v := 0) hx hb hr (fun t ht hW => ⟨⟨0, (), rfl, rfl, m_end ht hP, hDD _⟩, hS.F ht⟩) hS.2.2 dX7_firstRoom_35
  · have hF_7 := ineg c_5 hF_4
    clear hF_4
    refine lv_iload_n hx hb dX7_firstRoom_8 rfl (lv_at hl 1 rfl) ?_
    refine lv_aload_n hx hb dX7_firstRoom_9 rfl (lv_at hl 0 rfl) ?_
    refine va_get (D := (dC, dI)) (ci := 7) (v := .ref (rA 4 0)) (C := RX7) (T := TX7) (N := 19) hx hb hts ii_X7 hown hK hP 0 rfl rfl 0 (by decide) (hts (.fieldLink RX7 9 "StoryHouse$Story" "counts" "[I") wq_152) (fun _ h9 => h9) rfl dX7_firstRoom_10 ?_
    refine lv_iconst (v := 0) hx hb dX7_firstRoom_13 (by decide +kernel) ?_
    refine va_iald (f := (s_1.2 4).2.1 0) hx hb hK hP 1 2 rfl rfl (vp_in_iff.mpr (by decide +kernel)) dX7_firstRoom_14 ?_
    refine lv_icmp_gt (tgt := 34) hx hb dX7_firstRoom_15 (by decide) (fun c_8 => ?_) (fun c_8 => ?_)
    · have hF_9 := ipos c_8 hF_7
      clear hF_7
      refine lv_iconst (v := 0) hx hb dX7_firstRoom_34 (by decide +kernel) ?_
      have h9 := Option.some.inj hF_9
      subst h9
      exact W.iret (v := 0) hx hb hr (fun t ht hW => ⟨⟨0, (), rfl, rfl, m_end ht hP, hDD _⟩, hS.F ht⟩) hS.2.2 dX7_firstRoom_35
    · have hF_10 := ineg c_8 hF_7
      clear hF_7
      refine lv_aload_n hx hb dX7_firstRoom_18 rfl (lv_at hl 0 rfl) ?_
      refine lv_iload_n hx hb dX7_firstRoom_19 rfl (lv_at hl 1 rfl) ?_
      obtain ⟨u_11, hu_11, hF_12⟩ := Option.bind_eq_some_iff.mp hF_10
      clear hF_10
      have hPc := bx_P (bs := [b_s cB cC cI cJ cZ oA rA s_1.2, b_c cB cC cI cJ cZ oA rA s_1.2, b_t cB cC cI cJ cZ oA rA s_1.2, b_d cB cC cI cJ cZ oA rA s_1.2]) (bs' := [b_s cB cC cI cJ cZ oA rA s_1.2, b_c cB cC cI cJ cZ oA rA s_1.2, b_t cB cC cI cJ cZ oA rA s_1.2, b_d cB cC cI cJ cZ oA rA s_1.2]) (ws' := (b_s cB cC cI cJ cZ oA rA s_1.2 ++ b_c cB cC cI cJ cZ oA rA s_1.2 ++ b_t cB cC cI cJ cZ oA rA s_1.2 ++ b_d cB cC cI cJ cZ oA rA s_1.2)) hP fl_4 fl_4 [0, 1, 2, 3] rfl
      have hDc := bx_D (bs := [b_s cB cC cI cJ cZ oA rA s_1.2, b_c cB cC cI cJ cZ oA rA s_1.2, b_t cB cC cI cJ cZ oA rA s_1.2, b_d cB cC cI cJ cZ oA rA s_1.2]) (bs' := [b_s cB cC cI cJ cZ oA rA s_1.2, b_c cB cC cI cJ cZ oA rA s_1.2, b_t cB cC cI cJ cZ oA rA s_1.2, b_d cB cC cI cJ cZ oA rA s_1.2]) (ws' := (b_s cB cC cI cJ cZ oA rA s_1.2 ++ b_c cB cC cI cJ cZ oA rA s_1.2 ++ b_t cB cC cI cJ cZ oA rA s_1.2 ++ b_d cB cC cI cJ cZ oA rA s_1.2)) (hDD s_1.2) fl_4 fl_4 [0, 1, 2, 3] (by decide +kernel) rfl
      have hFc := bx_F (bs := [b_s cB cC cI cJ cZ oA rA s_1.2, b_c cB cC cI cJ cZ oA rA s_1.2, b_t cB cC cI cJ cZ oA rA s_1.2, b_d cB cC cI cJ cZ oA rA s_1.2]) (bs' := [b_s cB cC cI cJ cZ oA rA s_1.2, b_c cB cC cI cJ cZ oA rA s_1.2, b_t cB cC cI cJ cZ oA rA s_1.2, b_d cB cC cI cJ cZ oA rA s_1.2]) (wc := (b_s cB cC cI cJ cZ oA rA s_1.2 ++ b_c cB cC cI cJ cZ oA rA s_1.2 ++ b_t cB cC cI cJ cZ oA rA s_1.2 ++ b_d cB cC cI cJ cZ oA rA s_1.2)) (hDD s_1.2) hS hA fl_4 fl_4 [0, 1, 2, 3] rfl
      refine g_ofi (wc := (b_s cB cC cI cJ cZ oA rA s_1.2 ++ b_c cB cC cI cJ cZ oA rA s_1.2 ++ b_t cB cC cI cJ cZ oA rA s_1.2 ++ b_d cB cC cI cJ cZ oA rA s_1.2)) (wr := ([] : va_W)) hP (hDD s_1.2) hS hFc (bx_ix [b_s cB cC cI cJ cZ oA rA s_1.2, b_c cB cC cI cJ cZ oA rA s_1.2, b_t cB cC cI cJ cZ oA rA s_1.2, b_d cB cC cI cJ cZ oA rA s_1.2] [0, 1, 2, 3]) (bx_ix [b_s cB cC cI cJ cZ oA rA s_1.2, b_c cB cC cI cJ cZ oA rA s_1.2, b_t cB cC cI cJ cZ oA rA s_1.2, b_d cB cC cI cJ cZ oA rA s_1.2] []) (bx_C (bs := [b_s cB cC cI cJ cZ oA rA s_1.2, b_c cB cC cI cJ cZ oA rA s_1.2, b_t cB cC cI cJ cZ oA rA s_1.2, b_d cB cC cI cJ cZ oA rA s_1.2]) (bs' := [b_s cB cC cI cJ cZ oA rA s_1.2, b_c cB cC cI cJ cZ oA rA s_1.2, b_t cB cC cI cJ cZ oA rA s_1.2, b_d cB cC cI cJ cZ oA rA s_1.2]) (is := [0, 1, 2, 3]) fl_4 fl_4 rfl) (bx_C (bs := [b_s cB cC cI cJ cZ oA rA s_1.2, b_c cB cC cI cJ cZ oA rA s_1.2, b_t cB cC cI cJ cZ oA rA s_1.2, b_d cB cC cI cJ cZ oA rA s_1.2]) (bs' := []) (is := []) fl_4 fl_0 rfl) (bx_n (by decide +kernel)) (bx_d (by decide +kernel)) (va_runV (As := [.int s_1.1]) (rest := []) ⟨hx, hb, hml, hown, hts⟩ (k_X7_isRoom l dC dI cB cC cI cJ cZ cP oA rA H.size  s_1.1 s_1.2 _ hu_11) (cwV 1 hts (g_gV wq_815 wq_816 wq_817 wq_5 wq_818) rfl rfl rfl (by decide +kernel) ⟨Nat.le_of_ble_eq_true rfl, Nat.le_of_ble_eq_true rfl⟩) (g_preV g_bl0 hK hPc hDc hS hE hFc g_to0 (q0 := 0) (ci := 7) rfl rfl) rfl rfl hl.1 rfl (lv_room (Nat.le_of_ble_eq_true rfl)) dX7_firstRoom_20 ⟨Nat.le_of_ble_eq_true rfl, Nat.le_of_ble_eq_true rfl⟩) (fun r9 u9 H locs hw9 hP' hD' hS => ?_)
      clear hPc hDc hFc
      subst hw9
      have hP : va_P (dC, dI) vwCl (b_s cB cC cI cJ cZ oA rA u_11.2 ++ b_c cB cC cI cJ cZ oA rA u_11.2 ++ b_t cB cC cI cJ cZ oA rA u_11.2 ++ b_d cB cC cI cJ cZ oA rA u_11.2) H := hP'
      clear hP' hD'
      refine lv_if_eq (tgt := 28) hx hb dX7_firstRoom_23 (by decide) (fun c_13 => ?_) (fun c_13 => ?_)
      · have hF_14 := ipos c_13 hF_12
        clear hF_12
        obtain ⟨x_15, ex_15, hF_16⟩ := bnd_e hF_14
        clear hF_14
        refine lv_iinc (v := x_15) (lv' := [(1, .int x_15), (0, .ref (oA 4))]) hx hb dX7_firstRoom_28 hl (k := 1) rfl (by rw [ex_15]; rfl) (by decide) rfl (fun ls hl => ?_)
        refine lv_goto (tgt := 2) hx hb dX7_firstRoom_31 (by decide) ?_
        exact ih_3 (x_15, u_11.2) hF_16 _ _ hP hS ls (lv_sub hl [1, 0] rfl)
      · have hF_17 := ineg c_13 hF_12
        clear hF_12
        refine lv_iload_n hx hb dX7_firstRoom_26 rfl (lv_at hl 1 rfl) ?_
        have h9 := Option.some.inj hF_17
        subst h9
        exact W.iret (v := s_1.1) hx hb hr (fun t ht hW => ⟨⟨s_1.1, (), rfl, rfl, m_end ht hP, hDD _⟩, hS.F ht⟩) hS.2.2 dX7_firstRoom_27
theorem dX7_hasRoom_0 : decode cX7_hasRoom 0 = .ok (.aload_n 0, 1) := by decide +kernel
theorem dX7_hasRoom_1 : decode cX7_hasRoom 1 = .ok (.invokevirtual 159, 3) := by decide +kernel
theorem dX7_hasRoom_4 : decode cX7_hasRoom 4 = .ok (.ifCond .eq 7, 3) := by decide +kernel
theorem dX7_hasRoom_7 : decode cX7_hasRoom 7 = .ok (.iconst 1, 1) := by decide +kernel
theorem dX7_hasRoom_8 : decode cX7_hasRoom 8 = .ok (.goto 4, 3) := by decide +kernel
theorem dX7_hasRoom_11 : decode cX7_hasRoom 11 = .ok (.iconst 0, 1) := by decide +kernel
theorem dX7_hasRoom_12 : decode cX7_hasRoom 12 = .ok (.ireturn, 1) := by decide +kernel
def F_X7_hasRoom  (Γ : HS) : HR :=
  (F_X7_firstRoom Γ).bind fun u_1 =>
  if u_1.1 = 0 then (
    some (0, u_1.2)
  ) else (
    some (1, u_1.2)
  )
set_option maxHeartbeats 4000000 in
set_option maxRecDepth 100000 in
theorem k_X7_hasRoom (l : Launch) (dC : Nat → ClassId) (dI : Nat → Nat → Nat) (cB cC cI cJ cZ cP : ClassId) (oA : Nat → Nat) (rA : Nat → Nat → Nat) (sz : Nat)   (Γ : HS) (res : Int32 × HS) (hF : F_X7_hasRoom  Γ = some res) : Met l yX7_hasRoom (g_ws yX7_hasRoom cX7_hasRoom 1 (some .boolean)) ({ frames := 3, cells := 0, slots := 0, locals := 82 }) (va_Pc [.ref (oA 4)] (g_B (dC, dI) [(cB, .byte), (cC, .char), (cI, .int), (cJ, .long), (cZ, .boolean), (cP, .object "StoryHouse$Play")] sz (b_s cB cC cI cJ cZ oA rA Γ ++ b_c cB cC cI cJ cZ oA rA Γ ++ b_t cB cC cI cJ cZ oA rA Γ ++ b_d cB cC cI cJ cZ oA rA Γ) g_0)) (va_Qi (fun r (_ : Unit) => r = res.1) (g_Bo (dC, dI) (va_A (b_s cB cC cI cJ cZ oA rA Γ ++ b_c cB cC cI cJ cZ oA rA Γ ++ b_t cB cC cI cJ cZ oA rA Γ ++ b_d cB cC cI cJ cZ oA rA Γ) sz) (fun (_ : Unit) => (b_s cB cC cI cJ cZ oA rA res.2 ++ b_c cB cC cI cJ cZ oA rA res.2 ++ b_t cB cC cI cJ cZ oA rA res.2 ++ b_d cB cC cI cJ cZ oA rA res.2))) (va_A (b_s cB cC cI cJ cZ oA rA Γ ++ b_c cB cC cI cJ cZ oA rA Γ ++ b_t cB cC cI cJ cZ oA rA Γ ++ b_d cB cC cI cJ cZ oA rA Γ) sz)) 0 0 (va_A (b_s cB cC cI cJ cZ oA rA Γ ++ b_c cB cC cI cJ cZ oA rA Γ ++ b_t cB cC cI cJ cZ oA rA Γ ++ b_d cB cC cI cJ cZ oA rA Γ) sz) := by
  refine Met.ofW (cc := cX7_hasRoom) (maxL := 1) (ret := (some .boolean)) (by decide) rfl ?_
  intro p e s m args below meth c s₁ B hml hv
  obtain ⟨rfl, hsz, hP, hK, hD0, hE, hX⟩ := hv
  have hx := B.exec
  have hb := B.bytes
  have hr := B.returns
  have hts0 := atoms_spec (ws := g_ws yX7_hasRoom cX7_hasRoom 1 (some .boolean)) B.pre
  have hts : ∀ w ∈ lw_good, w.before ([.ref (oA 4)] : List Value).toArray s = true := fun w z => hts0 w (List.mem_cons_of_mem _ z)
  have hown : s.vm.findClass RX7 = some m.cls := findClass_of_methodNamed B.named
  have hlocks := B.notSynchronized
  subst hsz
  have hD1 := hD0.self (sz := s.heap.size)
  generalize hAe : va_A (b_s cB cC cI cJ cZ oA rA Γ ++ b_c cB cC cI cJ cZ oA rA Γ ++ b_t cB cC cI cJ cZ oA rA Γ ++ b_d cB cC cI cJ cZ oA rA Γ) s.heap.size = A at hD1 hE hX ⊢
  have hA : ∀ q : Nat, s.heap.size ≤ q → A q := fun q z => by rw [← hAe]; exact Or.inr z
  have hDD : ∀ Γ : HS, va_D A (b_s cB cC cI cJ cZ oA rA Γ ++ b_c cB cC cI cJ cZ oA rA Γ ++ b_t cB cC cI cJ cZ oA rA Γ ++ b_d cB cC cI cJ cZ oA rA Γ) := fun Γ9 => va_D_fst (ws := (b_s cB cC cI cJ cZ oA rA Γ ++ b_c cB cC cI cJ cZ oA rA Γ ++ b_t cB cC cI cJ cZ oA rA Γ ++ b_d cB cC cI cJ cZ oA rA Γ)) (ws' := (b_s cB cC cI cJ cZ oA rA Γ9 ++ b_c cB cC cI cJ cZ oA rA Γ9 ++ b_t cB cC cI cJ cZ oA rA Γ9 ++ b_d cB cC cI cJ cZ oA rA Γ9)) rfl hD1
  have hN := hE.1
  have hS : va_S A s.heap s.heap [] := va_S.rf
  have hl := lv_entry ([.ref (oA 4)]) (n := 1) (Nat.le_of_ble_eq_true rfl)
  rw [lg_entry_eq]
  generalize (lg_sl ([.ref (oA 4)]) ++ List.replicate (1 - (lg_sl ([.ref (oA 4)])).length) Slot.unset).toArray = ls at hl ⊢
  have hl : lv_has ls 1 [(0, .ref (oA 4))] := hl
  unfold F_X7_hasRoom at hF
  refine lv_aload_n hx hb dX7_hasRoom_0 rfl (lv_at hl 0 rfl) ?_
  obtain ⟨u_1, hu_1, hF_2⟩ := Option.bind_eq_some_iff.mp hF
  clear hF
  have hPc := bx_P (bs := [b_s cB cC cI cJ cZ oA rA Γ, b_c cB cC cI cJ cZ oA rA Γ, b_t cB cC cI cJ cZ oA rA Γ, b_d cB cC cI cJ cZ oA rA Γ]) (bs' := [b_s cB cC cI cJ cZ oA rA Γ, b_c cB cC cI cJ cZ oA rA Γ, b_t cB cC cI cJ cZ oA rA Γ, b_d cB cC cI cJ cZ oA rA Γ]) (ws' := (b_s cB cC cI cJ cZ oA rA Γ ++ b_c cB cC cI cJ cZ oA rA Γ ++ b_t cB cC cI cJ cZ oA rA Γ ++ b_d cB cC cI cJ cZ oA rA Γ)) hP fl_4 fl_4 [0, 1, 2, 3] rfl
  have hDc := bx_D (bs := [b_s cB cC cI cJ cZ oA rA Γ, b_c cB cC cI cJ cZ oA rA Γ, b_t cB cC cI cJ cZ oA rA Γ, b_d cB cC cI cJ cZ oA rA Γ]) (bs' := [b_s cB cC cI cJ cZ oA rA Γ, b_c cB cC cI cJ cZ oA rA Γ, b_t cB cC cI cJ cZ oA rA Γ, b_d cB cC cI cJ cZ oA rA Γ]) (ws' := (b_s cB cC cI cJ cZ oA rA Γ ++ b_c cB cC cI cJ cZ oA rA Γ ++ b_t cB cC cI cJ cZ oA rA Γ ++ b_d cB cC cI cJ cZ oA rA Γ)) (hDD Γ) fl_4 fl_4 [0, 1, 2, 3] (by decide +kernel) rfl
  have hFc := bx_F (bs := [b_s cB cC cI cJ cZ oA rA Γ, b_c cB cC cI cJ cZ oA rA Γ, b_t cB cC cI cJ cZ oA rA Γ, b_d cB cC cI cJ cZ oA rA Γ]) (bs' := [b_s cB cC cI cJ cZ oA rA Γ, b_c cB cC cI cJ cZ oA rA Γ, b_t cB cC cI cJ cZ oA rA Γ, b_d cB cC cI cJ cZ oA rA Γ]) (wc := (b_s cB cC cI cJ cZ oA rA Γ ++ b_c cB cC cI cJ cZ oA rA Γ ++ b_t cB cC cI cJ cZ oA rA Γ ++ b_d cB cC cI cJ cZ oA rA Γ)) (hDD Γ) hS hA fl_4 fl_4 [0, 1, 2, 3] rfl
  refine g_ofi (wc := (b_s cB cC cI cJ cZ oA rA Γ ++ b_c cB cC cI cJ cZ oA rA Γ ++ b_t cB cC cI cJ cZ oA rA Γ ++ b_d cB cC cI cJ cZ oA rA Γ)) (wr := ([] : va_W)) hP (hDD Γ) hS hFc (bx_ix [b_s cB cC cI cJ cZ oA rA Γ, b_c cB cC cI cJ cZ oA rA Γ, b_t cB cC cI cJ cZ oA rA Γ, b_d cB cC cI cJ cZ oA rA Γ] [0, 1, 2, 3]) (bx_ix [b_s cB cC cI cJ cZ oA rA Γ, b_c cB cC cI cJ cZ oA rA Γ, b_t cB cC cI cJ cZ oA rA Γ, b_d cB cC cI cJ cZ oA rA Γ] []) (bx_C (bs := [b_s cB cC cI cJ cZ oA rA Γ, b_c cB cC cI cJ cZ oA rA Γ, b_t cB cC cI cJ cZ oA rA Γ, b_d cB cC cI cJ cZ oA rA Γ]) (bs' := [b_s cB cC cI cJ cZ oA rA Γ, b_c cB cC cI cJ cZ oA rA Γ, b_t cB cC cI cJ cZ oA rA Γ, b_d cB cC cI cJ cZ oA rA Γ]) (is := [0, 1, 2, 3]) fl_4 fl_4 rfl) (bx_C (bs := [b_s cB cC cI cJ cZ oA rA Γ, b_c cB cC cI cJ cZ oA rA Γ, b_t cB cC cI cJ cZ oA rA Γ, b_d cB cC cI cJ cZ oA rA Γ]) (bs' := []) (is := []) fl_4 fl_0 rfl) (bx_n (by decide +kernel)) (bx_d (by decide +kernel)) (va_runV (As := []) (rest := []) ⟨hx, hb, hml, hown, hts⟩ (k_X7_firstRoom l dC dI cB cC cI cJ cZ cP oA rA s.heap.size  Γ _ hu_1) (cwV 0 hts (g_gV wq_811 wq_812 wq_813 wq_5 wq_814) rfl rfl rfl (by decide +kernel) ⟨Nat.le_of_ble_eq_true rfl, Nat.le_of_ble_eq_true rfl⟩) (g_preV g_bl0 hK hPc hDc hS hE hFc g_to0 (q0 := 0) (ci := 7) rfl rfl) rfl rfl hl.1 rfl (lv_room (Nat.le_of_ble_eq_true rfl)) dX7_hasRoom_1 ⟨Nat.le_of_ble_eq_true rfl, Nat.le_of_ble_eq_true rfl⟩) (fun r9 u9 H locs hw9 hP' hD' hS => ?_)
  clear hPc hDc hFc
  subst hw9
  have hP : va_P (dC, dI) vwCl (b_s cB cC cI cJ cZ oA rA u_1.2 ++ b_c cB cC cI cJ cZ oA rA u_1.2 ++ b_t cB cC cI cJ cZ oA rA u_1.2 ++ b_d cB cC cI cJ cZ oA rA u_1.2) H := hP'
  clear hP' hD'
  refine lv_if_eq (tgt := 11) hx hb dX7_hasRoom_4 (by decide) (fun c_3 => ?_) (fun c_3 => ?_)
  · have hF_4 := ipos c_3 hF_2
    clear hF_2
    refine lv_iconst (v := 0) hx hb dX7_hasRoom_11 (by decide +kernel) ?_
    have h9 := Option.some.inj hF_4
    subst h9
    exact W.zret (v := 0) hx hb hr (by decide +kernel) (fun t ht hW => ⟨⟨0, (), rfl, rfl, m_end ht hP, hDD _⟩, hS.F ht⟩) hS.2.2 dX7_hasRoom_12
  · have hF_5 := ineg c_3 hF_2
    clear hF_2
    refine lv_iconst (v := 1) hx hb dX7_hasRoom_7 (by decide +kernel) ?_
    refine lv_goto (tgt := 12) hx hb dX7_hasRoom_8 (by decide) ?_
    have h9 := Option.some.inj hF_5
    subst h9
    exact W.zret (v := 1) hx hb hr (by decide +kernel) (fun t ht hW => ⟨⟨1, (), rfl, rfl, m_end ht hP, hDD _⟩, hS.F ht⟩) hS.2.2 dX7_hasRoom_12
theorem dX4_giveAll_0 : decode cX4_giveAll 0 = .ok (.aload_n 0, 1) := by decide +kernel
theorem dX4_giveAll_1 : decode cX4_giveAll 1 = .ok (.aload_n 1, 1) := by decide +kernel
theorem dX4_giveAll_2 : decode cX4_giveAll 2 = .ok (.putfield 36, 3) := by decide +kernel
theorem dX4_giveAll_5 : decode cX4_giveAll 5 = .ok (.aload_n 0, 1) := by decide +kernel
theorem dX4_giveAll_6 : decode cX4_giveAll 6 = .ok (.iconst 0, 1) := by decide +kernel
theorem dX4_giveAll_7 : decode cX4_giveAll 7 = .ok (.putfield 40, 3) := by decide +kernel
theorem dX4_giveAll_10 : decode cX4_giveAll 10 = .ok (.aload_n 0, 1) := by decide +kernel
theorem dX4_giveAll_11 : decode cX4_giveAll 11 = .ok (.iconst (-1), 1) := by decide +kernel
theorem dX4_giveAll_12 : decode cX4_giveAll 12 = .ok (.putfield 44, 3) := by decide +kernel
theorem dX4_giveAll_15 : decode cX4_giveAll 15 = .ok (.aload_n 0, 1) := by decide +kernel
theorem dX4_giveAll_16 : decode cX4_giveAll 16 = .ok (.invokevirtual 47, 3) := by decide +kernel
theorem dX4_giveAll_19 : decode cX4_giveAll 19 = .ok (.aload_n 0, 1) := by decide +kernel
theorem dX4_giveAll_20 : decode cX4_giveAll 20 = .ok (.invokevirtual 50, 3) := by decide +kernel
theorem dX4_giveAll_23 : decode cX4_giveAll 23 = .ok (.iconst 0, 1) := by decide +kernel
theorem dX4_giveAll_24 : decode cX4_giveAll 24 = .ok (.istore_n 2, 1) := by decide +kernel
theorem dX4_giveAll_25 : decode cX4_giveAll 25 = .ok (.iload_n 2, 1) := by decide +kernel
theorem dX4_giveAll_26 : decode cX4_giveAll 26 = .ok (.aload_n 0, 1) := by decide +kernel
theorem dX4_giveAll_27 : decode cX4_giveAll 27 = .ok (.getfield 32, 3) := by decide +kernel
theorem dX4_giveAll_30 : decode cX4_giveAll 30 = .ok (.getfield 53, 3) := by decide +kernel
theorem dX4_giveAll_33 : decode cX4_giveAll 33 = .ok (.if_icmp .ge 26, 3) := by decide +kernel
theorem dX4_giveAll_36 : decode cX4_giveAll 36 = .ok (.aload_n 0, 1) := by decide +kernel
theorem dX4_giveAll_37 : decode cX4_giveAll 37 = .ok (.getfield 40, 3) := by decide +kernel
theorem dX4_giveAll_40 : decode cX4_giveAll 40 = .ok (.ifCond .ne 19, 3) := by decide +kernel
theorem dX4_giveAll_43 : decode cX4_giveAll 43 = .ok (.aload_n 0, 1) := by decide +kernel
theorem dX4_giveAll_44 : decode cX4_giveAll 44 = .ok (.iload_n 2, 1) := by decide +kernel
theorem dX4_giveAll_45 : decode cX4_giveAll 45 = .ok (.invokevirtual 56, 3) := by decide +kernel
theorem dX4_giveAll_48 : decode cX4_giveAll 48 = .ok (.aload_n 0, 1) := by decide +kernel
theorem dX4_giveAll_49 : decode cX4_giveAll 49 = .ok (.iload_n 2, 1) := by decide +kernel
theorem dX4_giveAll_50 : decode cX4_giveAll 50 = .ok (.invokevirtual 60, 3) := by decide +kernel
theorem dX4_giveAll_53 : decode cX4_giveAll 53 = .ok (.iinc 2 1, 3) := by decide +kernel
theorem dX4_giveAll_56 : decode cX4_giveAll 56 = .ok (.goto (-31), 3) := by decide +kernel
theorem dX4_giveAll_59 : decode cX4_giveAll 59 = .ok (.aload_n 0, 1) := by decide +kernel
theorem dX4_giveAll_60 : decode cX4_giveAll 60 = .ok (.invokevirtual 50, 3) := by decide +kernel
theorem dX4_giveAll_63 : decode cX4_giveAll 63 = .ok (.iconst 0, 1) := by decide +kernel
theorem dX4_giveAll_64 : decode cX4_giveAll 64 = .ok (.istore_n 2, 1) := by decide +kernel
theorem dX4_giveAll_65 : decode cX4_giveAll 65 = .ok (.iload_n 2, 1) := by decide +kernel
theorem dX4_giveAll_66 : decode cX4_giveAll 66 = .ok (.aload_n 0, 1) := by decide +kernel
theorem dX4_giveAll_67 : decode cX4_giveAll 67 = .ok (.getfield 32, 3) := by decide +kernel
theorem dX4_giveAll_70 : decode cX4_giveAll 70 = .ok (.getfield 53, 3) := by decide +kernel
theorem dX4_giveAll_73 : decode cX4_giveAll 73 = .ok (.if_icmp .ge 48, 3) := by decide +kernel
theorem dX4_giveAll_76 : decode cX4_giveAll 76 = .ok (.aload_n 0, 1) := by decide +kernel
theorem dX4_giveAll_77 : decode cX4_giveAll 77 = .ok (.getfield 40, 3) := by decide +kernel
theorem dX4_giveAll_80 : decode cX4_giveAll 80 = .ok (.ifCond .ne 41, 3) := by decide +kernel
theorem dX4_giveAll_83 : decode cX4_giveAll 83 = .ok (.aload_n 0, 1) := by decide +kernel
theorem dX4_giveAll_84 : decode cX4_giveAll 84 = .ok (.getfield 63, 3) := by decide +kernel
theorem dX4_giveAll_87 : decode cX4_giveAll 87 = .ok (.ifCond .eq 18, 3) := by decide +kernel
theorem dX4_giveAll_90 : decode cX4_giveAll 90 = .ok (.aload_n 0, 1) := by decide +kernel
theorem dX4_giveAll_91 : decode cX4_giveAll 91 = .ok (.getfield 66, 3) := by decide +kernel
theorem dX4_giveAll_94 : decode cX4_giveAll 94 = .ok (.ifCond .le 11, 3) := by decide +kernel
theorem dX4_giveAll_97 : decode cX4_giveAll 97 = .ok (.aload_n 0, 1) := by decide +kernel
theorem dX4_giveAll_98 : decode cX4_giveAll 98 = .ok (.iload_n 2, 1) := by decide +kernel
theorem dX4_giveAll_99 : decode cX4_giveAll 99 = .ok (.invokevirtual 69, 3) := by decide +kernel
theorem dX4_giveAll_102 : decode cX4_giveAll 102 = .ok (.goto 8, 3) := by decide +kernel
theorem dX4_giveAll_105 : decode cX4_giveAll 105 = .ok (.aload_n 0, 1) := by decide +kernel
theorem dX4_giveAll_106 : decode cX4_giveAll 106 = .ok (.iload_n 2, 1) := by decide +kernel
theorem dX4_giveAll_107 : decode cX4_giveAll 107 = .ok (.invokevirtual 72, 3) := by decide +kernel
theorem dX4_giveAll_110 : decode cX4_giveAll 110 = .ok (.aload_n 0, 1) := by decide +kernel
theorem dX4_giveAll_111 : decode cX4_giveAll 111 = .ok (.iload_n 2, 1) := by decide +kernel
theorem dX4_giveAll_112 : decode cX4_giveAll 112 = .ok (.invokevirtual 60, 3) := by decide +kernel
theorem dX4_giveAll_115 : decode cX4_giveAll 115 = .ok (.iinc 2 1, 3) := by decide +kernel
theorem dX4_giveAll_118 : decode cX4_giveAll 118 = .ok (.goto (-53), 3) := by decide +kernel
theorem dX4_giveAll_121 : decode cX4_giveAll 121 = .ok (.aload_n 0, 1) := by decide +kernel
theorem dX4_giveAll_122 : decode cX4_giveAll 122 = .ok (.getfield 40, 3) := by decide +kernel
theorem dX4_giveAll_125 : decode cX4_giveAll 125 = .ok (.ifCond .ne 38, 3) := by decide +kernel
theorem dX4_giveAll_128 : decode cX4_giveAll 128 = .ok (.aload_n 0, 1) := by decide +kernel
theorem dX4_giveAll_129 : decode cX4_giveAll 129 = .ok (.getfield 36, 3) := by decide +kernel
theorem dX4_giveAll_132 : decode cX4_giveAll 132 = .ok (.invokevirtual 75, 3) := by decide +kernel
theorem dX4_giveAll_135 : decode cX4_giveAll 135 = .ok (.ifCond .eq 13, 3) := by decide +kernel
theorem dX4_giveAll_138 : decode cX4_giveAll 138 = .ok (.aload_n 0, 1) := by decide +kernel
theorem dX4_giveAll_139 : decode cX4_giveAll 139 = .ok (.getfield 36, 3) := by decide +kernel
theorem dX4_giveAll_142 : decode cX4_giveAll 142 = .ok (.invokevirtual 81, 3) := by decide +kernel
theorem dX4_giveAll_145 : decode cX4_giveAll 145 = .ok (.ifCond .eq 18, 3) := by decide +kernel
theorem dX4_giveAll_148 : decode cX4_giveAll 148 = .ok (.aload_n 0, 1) := by decide +kernel
theorem dX4_giveAll_149 : decode cX4_giveAll 149 = .ok (.bipush 6, 2) := by decide +kernel
theorem dX4_giveAll_151 : decode cX4_giveAll 151 = .ok (.aload_n 0, 1) := by decide +kernel
theorem dX4_giveAll_152 : decode cX4_giveAll 152 = .ok (.getfield 32, 3) := by decide +kernel
theorem dX4_giveAll_155 : decode cX4_giveAll 155 = .ok (.getfield 53, 3) := by decide +kernel
theorem dX4_giveAll_158 : decode cX4_giveAll 158 = .ok (.iconst 1, 1) := by decide +kernel
theorem dX4_giveAll_159 : decode cX4_giveAll 159 = .ok (.isub, 1) := by decide +kernel
theorem dX4_giveAll_160 : decode cX4_giveAll 160 = .ok (.invokevirtual 84, 3) := by decide +kernel
theorem dX4_giveAll_163 : decode cX4_giveAll 163 = .ok (.aload_n 0, 1) := by decide +kernel
theorem dX4_giveAll_164 : decode cX4_giveAll 164 = .ok (.getfield 40, 3) := by decide +kernel
theorem dX4_giveAll_167 : decode cX4_giveAll 167 = .ok (.ireturn, 1) := by decide +kernel
def F_X4_giveAll  (Γ : HS) : HR :=
  bnd (cI' Γ 3 16 0) fun σ_1 =>
  bnd (cI' σ_1 3 17 (-1)) fun σ_3 =>
  (F_X4_gatherItems σ_3).bind fun u_5 =>
  (F_X4_startGoing u_5.2).bind fun u_7 =>
  loopF (fun (again_10 : (Int32 × HS) → HR) (s_9 : Int32 × HS) => (
    bnd (fun  (σ_13 : HS) => (
      (F_X4_startGoing σ_13).bind fun u_17 =>
      loopF (fun (again_20 : (Int32 × HS) → HR) (s_19 : Int32 × HS) => (
        bnd (fun  (σ_23 : HS) => (
          if ((σ_23 3).1 16) = 0 then (
            (F_X7_hasRoom σ_23).bind fun u_29 =>
            bnd (mrg (fun j => j == 4 || j == 5 || j == 6 || j == 7) σ_23 u_29.2) fun σ_31 =>
            bnd (fun  (σ_33 : HS) => (
              (F_X4_fail 6 (((σ_33 1).1 2) - 1) σ_33).bind fun u_37 =>
              some (((u_37.2 3).1 16), u_37.2)
            ) : HS → HR) fun j_34 =>
            if u_29.1 = 0 then (
              j_34  σ_31
            ) else (
              (F_X7_hasCircle σ_31).bind fun u_42 =>
              bnd (mrg (fun j => j == 4 || j == 5 || j == 6 || j == 7) σ_31 u_42.2) fun σ_44 =>
              if u_42.1 = 0 then (
                some (((σ_44 3).1 16), σ_44)
              ) else (
                j_34  σ_44
              )
            )
          ) else (
            some (((σ_23 3).1 16), σ_23)
          )
        ) : HS → HR) fun j_24 =>
        if ((s_19.2 1).1 2) ≤ s_19.1 then (
          j_24  s_19.2
        ) else (
          if ((s_19.2 3).1 16) = 0 then (
            bnd (fun  (σ_55 : HS) => (
              (F_X4_followScope s_19.1 σ_55).bind fun u_59 =>
              bnd (s_19.1 + 1) fun (x_61 : Int32) =>
              again_20 (x_61, u_59.2)
            ) : HS → HR) fun j_56 =>
            bnd (fun  (σ_63 : HS) => (
              (F_X4_itemWord s_19.1 σ_63).bind fun u_67 =>
              j_56  u_67.2
            ) : HS → HR) fun j_64 =>
            if ((s_19.2 3).1 12) = 0 then (
              j_64  s_19.2
            ) else (
              if ((s_19.2 3).1 11) ≤ 0 then (
                j_64  s_19.2
              ) else (
                (F_X4_bodyWord s_19.1 s_19.2).bind fun u_75 =>
                j_56  u_75.2
              )
            )
          ) else (
            j_24  s_19.2
          )
        )
      )) FU (0, u_17.2)
    ) : HS → HR) fun j_14 =>
    if ((s_9.2 1).1 2) ≤ s_9.1 then (
      j_14  s_9.2
    ) else (
      if ((s_9.2 3).1 16) = 0 then (
        (F_X4_tellWord s_9.1 s_9.2).bind fun u_83 =>
        (F_X4_followScope s_9.1 u_83.2).bind fun u_85 =>
        bnd (s_9.1 + 1) fun (x_87 : Int32) =>
        again_10 (x_87, u_85.2)
      ) else (
        j_14  s_9.2
      )
    )
  )) FU (0, u_7.2)
set_option maxHeartbeats 4000000 in
set_option maxRecDepth 100000 in
theorem k_X4_giveAll (l : Launch) (dC : Nat → ClassId) (dI : Nat → Nat → Nat) (cB cC cI cJ cZ cP : ClassId) (oA : Nat → Nat) (rA : Nat → Nat → Nat) (oc : Option Nat) (sz : Nat)   (Γ : HS) (res : Int32 × HS) (hF : F_X4_giveAll  Γ = some res) : Met l yX4_giveAll (g_ws yX4_giveAll cX4_giveAll 3 (some .int)) ({ frames := 8, cells := 0, slots := 0, locals := 198 }) (va_Pc [.ref (oA 3), .ref (oA 4)] (g_B (dC, dI) [(cB, .byte), (cC, .char), (cI, .int), (cJ, .long), (cZ, .boolean), (cP, .object "StoryHouse$Play")] sz ((b_m cB cC cI cJ cZ oA rA Γ ++ b_w cB cC cI cJ cZ oA rA Γ ++ b_s cB cC cI cJ cZ oA rA Γ ++ b_c cB cC cI cJ cZ oA rA Γ ++ b_t cB cC cI cJ cZ oA rA Γ ++ b_d cB cC cI cJ cZ oA rA Γ).set 0 (oA 3, .inr (4, (fX4 oA (rA 3) (Γ 3).1).set 1 (va_rf oc)))) g_0)) (va_Qi (fun r (_ : Unit) => r = res.1) (g_Bo (dC, dI) (va_A ((b_m cB cC cI cJ cZ oA rA Γ ++ b_w cB cC cI cJ cZ oA rA Γ ++ b_s cB cC cI cJ cZ oA rA Γ ++ b_c cB cC cI cJ cZ oA rA Γ ++ b_t cB cC cI cJ cZ oA rA Γ ++ b_d cB cC cI cJ cZ oA rA Γ).set 0 (oA 3, .inr (4, (fX4 oA (rA 3) (Γ 3).1).set 1 (va_rf oc)))) sz) (fun (_ : Unit) => (b_m cB cC cI cJ cZ oA rA res.2 ++ b_w cB cC cI cJ cZ oA rA res.2 ++ b_s cB cC cI cJ cZ oA rA res.2 ++ b_c cB cC cI cJ cZ oA rA res.2 ++ b_t cB cC cI cJ cZ oA rA res.2 ++ b_d cB cC cI cJ cZ oA rA res.2))) (va_A ((b_m cB cC cI cJ cZ oA rA Γ ++ b_w cB cC cI cJ cZ oA rA Γ ++ b_s cB cC cI cJ cZ oA rA Γ ++ b_c cB cC cI cJ cZ oA rA Γ ++ b_t cB cC cI cJ cZ oA rA Γ ++ b_d cB cC cI cJ cZ oA rA Γ).set 0 (oA 3, .inr (4, (fX4 oA (rA 3) (Γ 3).1).set 1 (va_rf oc)))) sz)) 0 0 (va_A ((b_m cB cC cI cJ cZ oA rA Γ ++ b_w cB cC cI cJ cZ oA rA Γ ++ b_s cB cC cI cJ cZ oA rA Γ ++ b_c cB cC cI cJ cZ oA rA Γ ++ b_t cB cC cI cJ cZ oA rA Γ ++ b_d cB cC cI cJ cZ oA rA Γ).set 0 (oA 3, .inr (4, (fX4 oA (rA 3) (Γ 3).1).set 1 (va_rf oc)))) sz) := by
  refine Met.ofW (cc := cX4_giveAll) (maxL := 3) (ret := (some .int)) (by decide) rfl ?_
  intro p e s m args below meth c s₁ B hml hv
  obtain ⟨rfl, hsz, hP, hK, hD0, hE, hX⟩ := hv
  have hx := B.exec
  have hb := B.bytes
  have hr := B.returns
  have hts0 := atoms_spec (ws := g_ws yX4_giveAll cX4_giveAll 3 (some .int)) B.pre
  have hts : ∀ w ∈ lw_good, w.before ([.ref (oA 3), .ref (oA 4)] : List Value).toArray s = true := fun w z => hts0 w (List.mem_cons_of_mem _ z)
  have hown : s.vm.findClass RX4 = some m.cls := findClass_of_methodNamed B.named
  have hlocks := B.notSynchronized
  subst hsz
  have hD1 := hD0.self (sz := s.heap.size)
  generalize hAe : va_A ((b_m cB cC cI cJ cZ oA rA Γ ++ b_w cB cC cI cJ cZ oA rA Γ ++ b_s cB cC cI cJ cZ oA rA Γ ++ b_c cB cC cI cJ cZ oA rA Γ ++ b_t cB cC cI cJ cZ oA rA Γ ++ b_d cB cC cI cJ cZ oA rA Γ).set 0 (oA 3, .inr (4, (fX4 oA (rA 3) (Γ 3).1).set 1 (va_rf oc)))) s.heap.size = A at hD1 hE hX ⊢
  have hA : ∀ q : Nat, s.heap.size ≤ q → A q := fun q z => by rw [← hAe]; exact Or.inr z
  have hDD : ∀ Γ : HS, va_D A (b_m cB cC cI cJ cZ oA rA Γ ++ b_w cB cC cI cJ cZ oA rA Γ ++ b_s cB cC cI cJ cZ oA rA Γ ++ b_c cB cC cI cJ cZ oA rA Γ ++ b_t cB cC cI cJ cZ oA rA Γ ++ b_d cB cC cI cJ cZ oA rA Γ) := fun Γ9 => va_D_fst (ws := ((b_m cB cC cI cJ cZ oA rA Γ ++ b_w cB cC cI cJ cZ oA rA Γ ++ b_s cB cC cI cJ cZ oA rA Γ ++ b_c cB cC cI cJ cZ oA rA Γ ++ b_t cB cC cI cJ cZ oA rA Γ ++ b_d cB cC cI cJ cZ oA rA Γ).set 0 (oA 3, .inr (4, (fX4 oA (rA 3) (Γ 3).1).set 1 (va_rf oc))))) (ws' := (b_m cB cC cI cJ cZ oA rA Γ9 ++ b_w cB cC cI cJ cZ oA rA Γ9 ++ b_s cB cC cI cJ cZ oA rA Γ9 ++ b_c cB cC cI cJ cZ oA rA Γ9 ++ b_t cB cC cI cJ cZ oA rA Γ9 ++ b_d cB cC cI cJ cZ oA rA Γ9)) rfl hD1
  have hN := hE.1
  have hS : va_S A s.heap s.heap [] := va_S.rf
  have hl := lv_entry ([.ref (oA 3), .ref (oA 4)]) (n := 3) (Nat.le_of_ble_eq_true rfl)
  rw [lg_entry_eq]
  generalize (lg_sl ([.ref (oA 3), .ref (oA 4)]) ++ List.replicate (3 - (lg_sl ([.ref (oA 3), .ref (oA 4)])).length) Slot.unset).toArray = ls at hl ⊢
  have hl : lv_has ls 3 [(0, .ref (oA 3)), (1, .ref (oA 4))] := hl
  unfold F_X4_giveAll at hF
  refine lv_aload_n hx hb dX4_giveAll_0 rfl (lv_at hl 0 rfl) ?_
  refine lv_aload_n hx hb dX4_giveAll_1 rfl (lv_at hl 1 rfl) ?_
  refine va_put (D := (dC, dI)) (ci := 4) (v := .ref (oA 4)) (ty := .object "StoryHouse$Story") (C := RX4) (T := TX4) (N := 18) hx hb hts ii_X4 tyX4 tyX4_ok nmX4 hown hK hP hD1 hS 0 rfl rfl 1 (by decide) (hts (.fieldLink RX4 36 "StoryHouse$Meanings" "story" "LStoryHouse$Story;") wq_87) (fun _ h9 => h9) rfl (by decide +kernel) rfl rfl (Nat.le_of_ble_eq_true rfl) dX4_giveAll_2 (fun H locs hP' _ hS => ?_)
  have hP : va_P (dC, dI) vwCl (b_m cB cC cI cJ cZ oA rA Γ ++ b_w cB cC cI cJ cZ oA rA Γ ++ b_s cB cC cI cJ cZ oA rA Γ ++ b_c cB cC cI cJ cZ oA rA Γ ++ b_t cB cC cI cJ cZ oA rA Γ ++ b_d cB cC cI cJ cZ oA rA Γ) H := ca_mwsctd_m_1 ▸ hP'
  clear hP'
  refine lv_aload_n hx hb dX4_giveAll_5 rfl (lv_at hl 0 rfl) ?_
  refine lv_iconst (v := 0) hx hb dX4_giveAll_6 (by decide +kernel) ?_
  obtain ⟨σ_1, eσ_1, hF_2⟩ := bnd_e hF
  clear hF
  refine va_put (D := (dC, dI)) (ci := 4) (v := .int 0) (ty := .int) (C := RX4) (T := TX4) (N := 18) hx hb hts ii_X4 tyX4 tyX4_ok nmX4 hown hK hP (hDD _) hS 0 rfl rfl 16 (by decide) (hts (.fieldLink RX4 40 "StoryHouse$Meanings" "fault" "I") wq_102) (fun _ h9 => h9) rfl (by decide +kernel) rfl rfl (Nat.le_of_ble_eq_true rfl) dX4_giveAll_7 (fun H locs hP' _ hS => ?_)
  have hP : va_P (dC, dI) vwCl (b_m cB cC cI cJ cZ oA rA σ_1 ++ b_w cB cC cI cJ cZ oA rA σ_1 ++ b_s cB cC cI cJ cZ oA rA σ_1 ++ b_c cB cC cI cJ cZ oA rA σ_1 ++ b_t cB cC cI cJ cZ oA rA σ_1 ++ b_d cB cC cI cJ cZ oA rA σ_1) H := by rw [eσ_1]; exact cs_mwsctd_m_16 ▸ hP'
  clear hP'
  refine lv_aload_n hx hb dX4_giveAll_10 rfl (lv_at hl 0 rfl) ?_
  refine lv_iconst (v := (-1)) hx hb dX4_giveAll_11 (by decide +kernel) ?_
  obtain ⟨σ_3, eσ_3, hF_4⟩ := bnd_e hF_2
  clear hF_2
  refine va_put (D := (dC, dI)) (ci := 4) (v := .int (-1)) (ty := .int) (C := RX4) (T := TX4) (N := 18) hx hb hts ii_X4 tyX4 tyX4_ok nmX4 hown hK hP (hDD _) hS 0 rfl rfl 17 (by decide) (hts (.fieldLink RX4 44 "StoryHouse$Meanings" "faultPlace" "I") wq_103) (fun _ h9 => h9) rfl (by decide +kernel) rfl rfl (Nat.le_of_ble_eq_true rfl) dX4_giveAll_12 (fun H locs hP' _ hS => ?_)
  have hP : va_P (dC, dI) vwCl (b_m cB cC cI cJ cZ oA rA σ_3 ++ b_w cB cC cI cJ cZ oA rA σ_3 ++ b_s cB cC cI cJ cZ oA rA σ_3 ++ b_c cB cC cI cJ cZ oA rA σ_3 ++ b_t cB cC cI cJ cZ oA rA σ_3 ++ b_d cB cC cI cJ cZ oA rA σ_3) H := by rw [eσ_3]; exact cs_mwsctd_m_17 ▸ hP'
  clear hP'
  refine lv_aload_n hx hb dX4_giveAll_15 rfl (lv_at hl 0 rfl) ?_
  obtain ⟨u_5, hu_5, hF_6⟩ := Option.bind_eq_some_iff.mp hF_4
  clear hF_4
  have hPc := bx_P (bs := [b_m cB cC cI cJ cZ oA rA σ_3, b_w cB cC cI cJ cZ oA rA σ_3, b_s cB cC cI cJ cZ oA rA σ_3, b_c cB cC cI cJ cZ oA rA σ_3, b_t cB cC cI cJ cZ oA rA σ_3, b_d cB cC cI cJ cZ oA rA σ_3]) (bs' := [b_m cB cC cI cJ cZ oA rA σ_3, b_w cB cC cI cJ cZ oA rA σ_3, b_s cB cC cI cJ cZ oA rA σ_3, b_c cB cC cI cJ cZ oA rA σ_3, b_t cB cC cI cJ cZ oA rA σ_3, b_d cB cC cI cJ cZ oA rA σ_3]) (ws' := (b_m cB cC cI cJ cZ oA rA σ_3 ++ b_w cB cC cI cJ cZ oA rA σ_3 ++ b_s cB cC cI cJ cZ oA rA σ_3 ++ b_c cB cC cI cJ cZ oA rA σ_3 ++ b_t cB cC cI cJ cZ oA rA σ_3 ++ b_d cB cC cI cJ cZ oA rA σ_3)) hP fl_6 fl_6 [0, 1, 2, 3, 4, 5] rfl
  have hDc := bx_D (bs := [b_m cB cC cI cJ cZ oA rA σ_3, b_w cB cC cI cJ cZ oA rA σ_3, b_s cB cC cI cJ cZ oA rA σ_3, b_c cB cC cI cJ cZ oA rA σ_3, b_t cB cC cI cJ cZ oA rA σ_3, b_d cB cC cI cJ cZ oA rA σ_3]) (bs' := [b_m cB cC cI cJ cZ oA rA σ_3, b_w cB cC cI cJ cZ oA rA σ_3, b_s cB cC cI cJ cZ oA rA σ_3, b_c cB cC cI cJ cZ oA rA σ_3, b_t cB cC cI cJ cZ oA rA σ_3, b_d cB cC cI cJ cZ oA rA σ_3]) (ws' := (b_m cB cC cI cJ cZ oA rA σ_3 ++ b_w cB cC cI cJ cZ oA rA σ_3 ++ b_s cB cC cI cJ cZ oA rA σ_3 ++ b_c cB cC cI cJ cZ oA rA σ_3 ++ b_t cB cC cI cJ cZ oA rA σ_3 ++ b_d cB cC cI cJ cZ oA rA σ_3)) (hDD σ_3) fl_6 fl_6 [0, 1, 2, 3, 4, 5] (by decide +kernel) rfl
  have hFc := bx_F (bs := [b_m cB cC cI cJ cZ oA rA σ_3, b_w cB cC cI cJ cZ oA rA σ_3, b_s cB cC cI cJ cZ oA rA σ_3, b_c cB cC cI cJ cZ oA rA σ_3, b_t cB cC cI cJ cZ oA rA σ_3, b_d cB cC cI cJ cZ oA rA σ_3]) (bs' := [b_m cB cC cI cJ cZ oA rA σ_3, b_w cB cC cI cJ cZ oA rA σ_3, b_s cB cC cI cJ cZ oA rA σ_3, b_c cB cC cI cJ cZ oA rA σ_3, b_t cB cC cI cJ cZ oA rA σ_3, b_d cB cC cI cJ cZ oA rA σ_3]) (wc := (b_m cB cC cI cJ cZ oA rA σ_3 ++ b_w cB cC cI cJ cZ oA rA σ_3 ++ b_s cB cC cI cJ cZ oA rA σ_3 ++ b_c cB cC cI cJ cZ oA rA σ_3 ++ b_t cB cC cI cJ cZ oA rA σ_3 ++ b_d cB cC cI cJ cZ oA rA σ_3)) (hDD σ_3) hS hA fl_6 fl_6 [0, 1, 2, 3, 4, 5] rfl
  refine g_ofv (wc := (b_m cB cC cI cJ cZ oA rA σ_3 ++ b_w cB cC cI cJ cZ oA rA σ_3 ++ b_s cB cC cI cJ cZ oA rA σ_3 ++ b_c cB cC cI cJ cZ oA rA σ_3 ++ b_t cB cC cI cJ cZ oA rA σ_3 ++ b_d cB cC cI cJ cZ oA rA σ_3)) (wr := ([] : va_W)) hP (hDD σ_3) hS hFc (bx_ix [b_m cB cC cI cJ cZ oA rA σ_3, b_w cB cC cI cJ cZ oA rA σ_3, b_s cB cC cI cJ cZ oA rA σ_3, b_c cB cC cI cJ cZ oA rA σ_3, b_t cB cC cI cJ cZ oA rA σ_3, b_d cB cC cI cJ cZ oA rA σ_3] [0, 1, 2, 3, 4, 5]) (bx_ix [b_m cB cC cI cJ cZ oA rA σ_3, b_w cB cC cI cJ cZ oA rA σ_3, b_s cB cC cI cJ cZ oA rA σ_3, b_c cB cC cI cJ cZ oA rA σ_3, b_t cB cC cI cJ cZ oA rA σ_3, b_d cB cC cI cJ cZ oA rA σ_3] []) (bx_C (bs := [b_m cB cC cI cJ cZ oA rA σ_3, b_w cB cC cI cJ cZ oA rA σ_3, b_s cB cC cI cJ cZ oA rA σ_3, b_c cB cC cI cJ cZ oA rA σ_3, b_t cB cC cI cJ cZ oA rA σ_3, b_d cB cC cI cJ cZ oA rA σ_3]) (bs' := [b_m cB cC cI cJ cZ oA rA σ_3, b_w cB cC cI cJ cZ oA rA σ_3, b_s cB cC cI cJ cZ oA rA σ_3, b_c cB cC cI cJ cZ oA rA σ_3, b_t cB cC cI cJ cZ oA rA σ_3, b_d cB cC cI cJ cZ oA rA σ_3]) (is := [0, 1, 2, 3, 4, 5]) fl_6 fl_6 rfl) (bx_C (bs := [b_m cB cC cI cJ cZ oA rA σ_3, b_w cB cC cI cJ cZ oA rA σ_3, b_s cB cC cI cJ cZ oA rA σ_3, b_c cB cC cI cJ cZ oA rA σ_3, b_t cB cC cI cJ cZ oA rA σ_3, b_d cB cC cI cJ cZ oA rA σ_3]) (bs' := []) (is := []) fl_6 fl_0 rfl) (bx_n (by decide +kernel)) (bx_d (by decide +kernel)) (va_runV (As := []) (rest := []) ⟨hx, hb, hml, hown, hts⟩ (k_X4_gatherItems l dC dI cB cC cI cJ cZ cP oA rA H.size  σ_3 _ hu_5) (cwV 0 hts (g_gV wq_709 wq_710 wq_2033 wq_4 wq_711) rfl rfl rfl (by decide +kernel) ⟨Nat.le_of_ble_eq_true rfl, Nat.le_of_ble_eq_true rfl⟩) (g_preV g_bl0 hK hPc hDc hS hE hFc g_to0 (q0 := 0) (ci := 4) rfl rfl) rfl rfl hl.1 rfl (lv_room (Nat.le_of_ble_eq_true rfl)) dX4_giveAll_16 ⟨Nat.le_of_ble_eq_true rfl, Nat.le_of_ble_eq_true rfl⟩) (fun u9 H locs hw9 hP' hD' hS => ?_)
  clear hPc hDc hFc
  have hP : va_P (dC, dI) vwCl (b_m cB cC cI cJ cZ oA rA u_5.2 ++ b_w cB cC cI cJ cZ oA rA u_5.2 ++ b_s cB cC cI cJ cZ oA rA u_5.2 ++ b_c cB cC cI cJ cZ oA rA u_5.2 ++ b_t cB cC cI cJ cZ oA rA u_5.2 ++ b_d cB cC cI cJ cZ oA rA u_5.2) H := hP'
  clear hP' hD'
  refine lv_aload_n hx hb dX4_giveAll_19 rfl (lv_at hl 0 rfl) ?_
  obtain ⟨u_7, hu_7, hF_8⟩ := Option.bind_eq_some_iff.mp hF_6
  clear hF_6
  have hPc := bx_P (bs := [b_m cB cC cI cJ cZ oA rA u_5.2, b_w cB cC cI cJ cZ oA rA u_5.2, b_s cB cC cI cJ cZ oA rA u_5.2, b_c cB cC cI cJ cZ oA rA u_5.2, b_t cB cC cI cJ cZ oA rA u_5.2, b_d cB cC cI cJ cZ oA rA u_5.2]) (bs' := [b_m cB cC cI cJ cZ oA rA u_5.2, b_w cB cC cI cJ cZ oA rA u_5.2, b_s cB cC cI cJ cZ oA rA u_5.2, b_c cB cC cI cJ cZ oA rA u_5.2, b_t cB cC cI cJ cZ oA rA u_5.2, b_d cB cC cI cJ cZ oA rA u_5.2]) (ws' := (b_m cB cC cI cJ cZ oA rA u_5.2 ++ b_w cB cC cI cJ cZ oA rA u_5.2 ++ b_s cB cC cI cJ cZ oA rA u_5.2 ++ b_c cB cC cI cJ cZ oA rA u_5.2 ++ b_t cB cC cI cJ cZ oA rA u_5.2 ++ b_d cB cC cI cJ cZ oA rA u_5.2)) hP fl_6 fl_6 [0, 1, 2, 3, 4, 5] rfl
  have hDc := bx_D (bs := [b_m cB cC cI cJ cZ oA rA u_5.2, b_w cB cC cI cJ cZ oA rA u_5.2, b_s cB cC cI cJ cZ oA rA u_5.2, b_c cB cC cI cJ cZ oA rA u_5.2, b_t cB cC cI cJ cZ oA rA u_5.2, b_d cB cC cI cJ cZ oA rA u_5.2]) (bs' := [b_m cB cC cI cJ cZ oA rA u_5.2, b_w cB cC cI cJ cZ oA rA u_5.2, b_s cB cC cI cJ cZ oA rA u_5.2, b_c cB cC cI cJ cZ oA rA u_5.2, b_t cB cC cI cJ cZ oA rA u_5.2, b_d cB cC cI cJ cZ oA rA u_5.2]) (ws' := (b_m cB cC cI cJ cZ oA rA u_5.2 ++ b_w cB cC cI cJ cZ oA rA u_5.2 ++ b_s cB cC cI cJ cZ oA rA u_5.2 ++ b_c cB cC cI cJ cZ oA rA u_5.2 ++ b_t cB cC cI cJ cZ oA rA u_5.2 ++ b_d cB cC cI cJ cZ oA rA u_5.2)) (hDD u_5.2) fl_6 fl_6 [0, 1, 2, 3, 4, 5] (by decide +kernel) rfl
  have hFc := bx_F (bs := [b_m cB cC cI cJ cZ oA rA u_5.2, b_w cB cC cI cJ cZ oA rA u_5.2, b_s cB cC cI cJ cZ oA rA u_5.2, b_c cB cC cI cJ cZ oA rA u_5.2, b_t cB cC cI cJ cZ oA rA u_5.2, b_d cB cC cI cJ cZ oA rA u_5.2]) (bs' := [b_m cB cC cI cJ cZ oA rA u_5.2, b_w cB cC cI cJ cZ oA rA u_5.2, b_s cB cC cI cJ cZ oA rA u_5.2, b_c cB cC cI cJ cZ oA rA u_5.2, b_t cB cC cI cJ cZ oA rA u_5.2, b_d cB cC cI cJ cZ oA rA u_5.2]) (wc := (b_m cB cC cI cJ cZ oA rA u_5.2 ++ b_w cB cC cI cJ cZ oA rA u_5.2 ++ b_s cB cC cI cJ cZ oA rA u_5.2 ++ b_c cB cC cI cJ cZ oA rA u_5.2 ++ b_t cB cC cI cJ cZ oA rA u_5.2 ++ b_d cB cC cI cJ cZ oA rA u_5.2)) (hDD u_5.2) hS hA fl_6 fl_6 [0, 1, 2, 3, 4, 5] rfl
  refine g_ofv (wc := (b_m cB cC cI cJ cZ oA rA u_5.2 ++ b_w cB cC cI cJ cZ oA rA u_5.2 ++ b_s cB cC cI cJ cZ oA rA u_5.2 ++ b_c cB cC cI cJ cZ oA rA u_5.2 ++ b_t cB cC cI cJ cZ oA rA u_5.2 ++ b_d cB cC cI cJ cZ oA rA u_5.2)) (wr := ([] : va_W)) hP (hDD u_5.2) hS hFc (bx_ix [b_m cB cC cI cJ cZ oA rA u_5.2, b_w cB cC cI cJ cZ oA rA u_5.2, b_s cB cC cI cJ cZ oA rA u_5.2, b_c cB cC cI cJ cZ oA rA u_5.2, b_t cB cC cI cJ cZ oA rA u_5.2, b_d cB cC cI cJ cZ oA rA u_5.2] [0, 1, 2, 3, 4, 5]) (bx_ix [b_m cB cC cI cJ cZ oA rA u_5.2, b_w cB cC cI cJ cZ oA rA u_5.2, b_s cB cC cI cJ cZ oA rA u_5.2, b_c cB cC cI cJ cZ oA rA u_5.2, b_t cB cC cI cJ cZ oA rA u_5.2, b_d cB cC cI cJ cZ oA rA u_5.2] []) (bx_C (bs := [b_m cB cC cI cJ cZ oA rA u_5.2, b_w cB cC cI cJ cZ oA rA u_5.2, b_s cB cC cI cJ cZ oA rA u_5.2, b_c cB cC cI cJ cZ oA rA u_5.2, b_t cB cC cI cJ cZ oA rA u_5.2, b_d cB cC cI cJ cZ oA rA u_5.2]) (bs' := [b_m cB cC cI cJ cZ oA rA u_5.2, b_w cB cC cI cJ cZ oA rA u_5.2, b_s cB cC cI cJ cZ oA rA u_5.2, b_c cB cC cI cJ cZ oA rA u_5.2, b_t cB cC cI cJ cZ oA rA u_5.2, b_d cB cC cI cJ cZ oA rA u_5.2]) (is := [0, 1, 2, 3, 4, 5]) fl_6 fl_6 rfl) (bx_C (bs := [b_m cB cC cI cJ cZ oA rA u_5.2, b_w cB cC cI cJ cZ oA rA u_5.2, b_s cB cC cI cJ cZ oA rA u_5.2, b_c cB cC cI cJ cZ oA rA u_5.2, b_t cB cC cI cJ cZ oA rA u_5.2, b_d cB cC cI cJ cZ oA rA u_5.2]) (bs' := []) (is := []) fl_6 fl_0 rfl) (bx_n (by decide +kernel)) (bx_d (by decide +kernel)) (va_runV (As := []) (rest := []) ⟨hx, hb, hml, hown, hts⟩ (k_X4_startGoing l dC dI cB cC cI cJ cZ cP oA rA H.size  u_5.2 _ hu_7) (cwV 0 hts (g_gV wq_716 wq_717 wq_2034 wq_4 wq_718) rfl rfl rfl (by decide +kernel) ⟨Nat.le_of_ble_eq_true rfl, Nat.le_of_ble_eq_true rfl⟩) (g_preV g_bl0 hK hPc hDc hS hE hFc g_to0 (q0 := 0) (ci := 4) rfl rfl) rfl rfl hl.1 rfl (lv_room (Nat.le_of_ble_eq_true rfl)) dX4_giveAll_20 ⟨Nat.le_of_ble_eq_true rfl, Nat.le_of_ble_eq_true rfl⟩) (fun u9 H locs hw9 hP' hD' hS => ?_)
  clear hPc hDc hFc
  have hP : va_P (dC, dI) vwCl (b_m cB cC cI cJ cZ oA rA u_7.2 ++ b_w cB cC cI cJ cZ oA rA u_7.2 ++ b_s cB cC cI cJ cZ oA rA u_7.2 ++ b_c cB cC cI cJ cZ oA rA u_7.2 ++ b_t cB cC cI cJ cZ oA rA u_7.2 ++ b_d cB cC cI cJ cZ oA rA u_7.2) H := hP'
  clear hP' hD'
  refine lv_iconst (v := 0) hx hb dX4_giveAll_23 (by decide +kernel) ?_
  refine lv_istore_n (lv' := [(2, .int 0), (0, .ref (oA 3)), (1, .ref (oA 4))]) hx hb dX4_giveAll_24 rfl hl (by decide) rfl (fun ls hl => ?_)
  refine loopF_ind (P := fun (s_9 : Int32 × HS) => ∀ (H : Heap) (locs : List Loc), va_P (dC, dI) vwCl (b_m cB cC cI cJ cZ oA rA s_9.2 ++ b_w cB cC cI cJ cZ oA rA s_9.2 ++ b_s cB cC cI cJ cZ oA rA s_9.2 ++ b_c cB cC cI cJ cZ oA rA s_9.2 ++ b_t cB cC cI cJ cZ oA rA s_9.2 ++ b_d cB cC cI cJ cZ oA rA s_9.2) H → va_S A s.heap H locs → ∀ ls : Array Slot, lv_has ls 3 [(0, .ref (oA 3)), (2, .int s_9.1)] → W p l e (headSpec (g_ws yX4_giveAll cX4_giveAll 3 (some .int)) { frames := 8, cells := 0, slots := 0, locals := 198 }).room s m ([.ref (oA 3), .ref (oA 4)] : List Value).toArray below meth c H locs 0 0 (MQ below (va_Qi (fun r (_ : Unit) => r = res.1) (g_Bo (dC, dI) A (fun (_ : Unit) => (b_m cB cC cI cJ cZ oA rA res.2 ++ b_w cB cC cI cJ cZ oA rA res.2 ++ b_s cB cC cI cJ cZ oA rA res.2 ++ b_c cB cC cI cJ cZ oA rA res.2 ++ b_t cB cC cI cJ cZ oA rA res.2 ++ b_d cB cC cI cJ cZ oA rA res.2))) A) ([.ref (oA 3), .ref (oA 4)] : List Value).toArray s 0 0 A) (F0 m 25 ls [])) ?_ _ _ hF_8 _ _ hP hS ls (lv_sub hl [1, 0] rfl)
  intro again_10 s_9 ih_11 hF_12
  intro H locs hP hS ls hl
  refine lv_iload_n hx hb dX4_giveAll_25 rfl (lv_at hl 1 rfl) ?_
  refine lv_aload_n hx hb dX4_giveAll_26 rfl (lv_at hl 0 rfl) ?_
  refine va_get (D := (dC, dI)) (ci := 4) (v := .ref (oA 1)) (C := RX4) (T := TX4) (N := 18) hx hb hts ii_X4 hown hK hP 0 rfl rfl 0 (by decide) (hts (.fieldLink RX4 32 "StoryHouse$Meanings" "words" "LStoryHouse$Words;") wq_86) (fun _ h9 => h9) rfl dX4_giveAll_27 ?_
  refine va_get (D := (dC, dI)) (ci := 10) (v := .int ((s_9.2 1).1 2)) (C := RX10) (T := TX10) (N := 12) hx hb hts ii_X10 hown hK hP 7 rfl rfl 2 (by decide) (hts (.fieldLink RX4 53 "StoryHouse$Words" "count" "I") wq_45) (fun _ h9 => h9) rfl dX4_giveAll_30 ?_
  obtain ⟨j_14, ej_14, hF_15⟩ := bnd_e hF_12
  clear hF_12
  have Jj_14 : ∀  (σ_13 : HS), j_14  σ_13 = some res → ∀ (H : Heap) (locs : List Loc), va_P (dC, dI) vwCl (b_m cB cC cI cJ cZ oA rA σ_13 ++ b_w cB cC cI cJ cZ oA rA σ_13 ++ b_s cB cC cI cJ cZ oA rA σ_13 ++ b_c cB cC cI cJ cZ oA rA σ_13 ++ b_t cB cC cI cJ cZ oA rA σ_13 ++ b_d cB cC cI cJ cZ oA rA σ_13) H → va_S A s.heap H locs → ∀ ls : Array Slot, lv_has ls 3 [(0, .ref (oA 3))] → W p l e (headSpec (g_ws yX4_giveAll cX4_giveAll 3 (some .int)) { frames := 8, cells := 0, slots := 0, locals := 198 }).room s m ([.ref (oA 3), .ref (oA 4)] : List Value).toArray below meth c H locs 0 0 (MQ below (va_Qi (fun r (_ : Unit) => r = res.1) (g_Bo (dC, dI) A (fun (_ : Unit) => (b_m cB cC cI cJ cZ oA rA res.2 ++ b_w cB cC cI cJ cZ oA rA res.2 ++ b_s cB cC cI cJ cZ oA rA res.2 ++ b_c cB cC cI cJ cZ oA rA res.2 ++ b_t cB cC cI cJ cZ oA rA res.2 ++ b_d cB cC cI cJ cZ oA rA res.2))) A) ([.ref (oA 3), .ref (oA 4)] : List Value).toArray s 0 0 A) (F0 m 59 ls []) := by
    intro  σ_13 hF0 H locs hP hS ls hl
    subst ej_14
    have hF_16 := hF0
    clear hF0
    refine lv_aload_n hx hb dX4_giveAll_59 rfl (lv_at hl 0 rfl) ?_
    obtain ⟨u_17, hu_17, hF_18⟩ := Option.bind_eq_some_iff.mp hF_16
    clear hF_16
    have hPc := bx_P (bs := [b_m cB cC cI cJ cZ oA rA σ_13, b_w cB cC cI cJ cZ oA rA σ_13, b_s cB cC cI cJ cZ oA rA σ_13, b_c cB cC cI cJ cZ oA rA σ_13, b_t cB cC cI cJ cZ oA rA σ_13, b_d cB cC cI cJ cZ oA rA σ_13]) (bs' := [b_m cB cC cI cJ cZ oA rA σ_13, b_w cB cC cI cJ cZ oA rA σ_13, b_s cB cC cI cJ cZ oA rA σ_13, b_c cB cC cI cJ cZ oA rA σ_13, b_t cB cC cI cJ cZ oA rA σ_13, b_d cB cC cI cJ cZ oA rA σ_13]) (ws' := (b_m cB cC cI cJ cZ oA rA σ_13 ++ b_w cB cC cI cJ cZ oA rA σ_13 ++ b_s cB cC cI cJ cZ oA rA σ_13 ++ b_c cB cC cI cJ cZ oA rA σ_13 ++ b_t cB cC cI cJ cZ oA rA σ_13 ++ b_d cB cC cI cJ cZ oA rA σ_13)) hP fl_6 fl_6 [0, 1, 2, 3, 4, 5] rfl
    have hDc := bx_D (bs := [b_m cB cC cI cJ cZ oA rA σ_13, b_w cB cC cI cJ cZ oA rA σ_13, b_s cB cC cI cJ cZ oA rA σ_13, b_c cB cC cI cJ cZ oA rA σ_13, b_t cB cC cI cJ cZ oA rA σ_13, b_d cB cC cI cJ cZ oA rA σ_13]) (bs' := [b_m cB cC cI cJ cZ oA rA σ_13, b_w cB cC cI cJ cZ oA rA σ_13, b_s cB cC cI cJ cZ oA rA σ_13, b_c cB cC cI cJ cZ oA rA σ_13, b_t cB cC cI cJ cZ oA rA σ_13, b_d cB cC cI cJ cZ oA rA σ_13]) (ws' := (b_m cB cC cI cJ cZ oA rA σ_13 ++ b_w cB cC cI cJ cZ oA rA σ_13 ++ b_s cB cC cI cJ cZ oA rA σ_13 ++ b_c cB cC cI cJ cZ oA rA σ_13 ++ b_t cB cC cI cJ cZ oA rA σ_13 ++ b_d cB cC cI cJ cZ oA rA σ_13)) (hDD σ_13) fl_6 fl_6 [0, 1, 2, 3, 4, 5] (by decide +kernel) rfl
    have hFc := bx_F (bs := [b_m cB cC cI cJ cZ oA rA σ_13, b_w cB cC cI cJ cZ oA rA σ_13, b_s cB cC cI cJ cZ oA rA σ_13, b_c cB cC cI cJ cZ oA rA σ_13, b_t cB cC cI cJ cZ oA rA σ_13, b_d cB cC cI cJ cZ oA rA σ_13]) (bs' := [b_m cB cC cI cJ cZ oA rA σ_13, b_w cB cC cI cJ cZ oA rA σ_13, b_s cB cC cI cJ cZ oA rA σ_13, b_c cB cC cI cJ cZ oA rA σ_13, b_t cB cC cI cJ cZ oA rA σ_13, b_d cB cC cI cJ cZ oA rA σ_13]) (wc := (b_m cB cC cI cJ cZ oA rA σ_13 ++ b_w cB cC cI cJ cZ oA rA σ_13 ++ b_s cB cC cI cJ cZ oA rA σ_13 ++ b_c cB cC cI cJ cZ oA rA σ_13 ++ b_t cB cC cI cJ cZ oA rA σ_13 ++ b_d cB cC cI cJ cZ oA rA σ_13)) (hDD σ_13) hS hA fl_6 fl_6 [0, 1, 2, 3, 4, 5] rfl
    refine g_ofv (wc := (b_m cB cC cI cJ cZ oA rA σ_13 ++ b_w cB cC cI cJ cZ oA rA σ_13 ++ b_s cB cC cI cJ cZ oA rA σ_13 ++ b_c cB cC cI cJ cZ oA rA σ_13 ++ b_t cB cC cI cJ cZ oA rA σ_13 ++ b_d cB cC cI cJ cZ oA rA σ_13)) (wr := ([] : va_W)) hP (hDD σ_13) hS hFc (bx_ix [b_m cB cC cI cJ cZ oA rA σ_13, b_w cB cC cI cJ cZ oA rA σ_13, b_s cB cC cI cJ cZ oA rA σ_13, b_c cB cC cI cJ cZ oA rA σ_13, b_t cB cC cI cJ cZ oA rA σ_13, b_d cB cC cI cJ cZ oA rA σ_13] [0, 1, 2, 3, 4, 5]) (bx_ix [b_m cB cC cI cJ cZ oA rA σ_13, b_w cB cC cI cJ cZ oA rA σ_13, b_s cB cC cI cJ cZ oA rA σ_13, b_c cB cC cI cJ cZ oA rA σ_13, b_t cB cC cI cJ cZ oA rA σ_13, b_d cB cC cI cJ cZ oA rA σ_13] []) (bx_C (bs := [b_m cB cC cI cJ cZ oA rA σ_13, b_w cB cC cI cJ cZ oA rA σ_13, b_s cB cC cI cJ cZ oA rA σ_13, b_c cB cC cI cJ cZ oA rA σ_13, b_t cB cC cI cJ cZ oA rA σ_13, b_d cB cC cI cJ cZ oA rA σ_13]) (bs' := [b_m cB cC cI cJ cZ oA rA σ_13, b_w cB cC cI cJ cZ oA rA σ_13, b_s cB cC cI cJ cZ oA rA σ_13, b_c cB cC cI cJ cZ oA rA σ_13, b_t cB cC cI cJ cZ oA rA σ_13, b_d cB cC cI cJ cZ oA rA σ_13]) (is := [0, 1, 2, 3, 4, 5]) fl_6 fl_6 rfl) (bx_C (bs := [b_m cB cC cI cJ cZ oA rA σ_13, b_w cB cC cI cJ cZ oA rA σ_13, b_s cB cC cI cJ cZ oA rA σ_13, b_c cB cC cI cJ cZ oA rA σ_13, b_t cB cC cI cJ cZ oA rA σ_13, b_d cB cC cI cJ cZ oA rA σ_13]) (bs' := []) (is := []) fl_6 fl_0 rfl) (bx_n (by decide +kernel)) (bx_d (by decide +kernel)) (va_runV (As := []) (rest := []) ⟨hx, hb, hml, hown, hts⟩ (k_X4_startGoing l dC dI cB cC cI cJ cZ cP oA rA H.size  σ_13 _ hu_17) (cwV 0 hts (g_gV wq_716 wq_717 wq_2034 wq_4 wq_718) rfl rfl rfl (by decide +kernel) ⟨Nat.le_of_ble_eq_true rfl, Nat.le_of_ble_eq_true rfl⟩) (g_preV g_bl0 hK hPc hDc hS hE hFc g_to0 (q0 := 0) (ci := 4) rfl rfl) rfl rfl hl.1 rfl (lv_room (Nat.le_of_ble_eq_true rfl)) dX4_giveAll_60 ⟨Nat.le_of_ble_eq_true rfl, Nat.le_of_ble_eq_true rfl⟩) (fun u9 H locs hw9 hP' hD' hS => ?_)
    clear hPc hDc hFc
    have hP : va_P (dC, dI) vwCl (b_m cB cC cI cJ cZ oA rA u_17.2 ++ b_w cB cC cI cJ cZ oA rA u_17.2 ++ b_s cB cC cI cJ cZ oA rA u_17.2 ++ b_c cB cC cI cJ cZ oA rA u_17.2 ++ b_t cB cC cI cJ cZ oA rA u_17.2 ++ b_d cB cC cI cJ cZ oA rA u_17.2) H := hP'
    clear hP' hD'
    refine lv_iconst (v := 0) hx hb dX4_giveAll_63 (by decide +kernel) ?_
    refine lv_istore_n (lv' := [(2, .int 0), (0, .ref (oA 3))]) hx hb dX4_giveAll_64 rfl hl (by decide) rfl (fun ls hl => ?_)
    refine loopF_ind (P := fun (s_19 : Int32 × HS) => ∀ (H : Heap) (locs : List Loc), va_P (dC, dI) vwCl (b_m cB cC cI cJ cZ oA rA s_19.2 ++ b_w cB cC cI cJ cZ oA rA s_19.2 ++ b_s cB cC cI cJ cZ oA rA s_19.2 ++ b_c cB cC cI cJ cZ oA rA s_19.2 ++ b_t cB cC cI cJ cZ oA rA s_19.2 ++ b_d cB cC cI cJ cZ oA rA s_19.2) H → va_S A s.heap H locs → ∀ ls : Array Slot, lv_has ls 3 [(0, .ref (oA 3)), (2, .int s_19.1)] → W p l e (headSpec (g_ws yX4_giveAll cX4_giveAll 3 (some .int)) { frames := 8, cells := 0, slots := 0, locals := 198 }).room s m ([.ref (oA 3), .ref (oA 4)] : List Value).toArray below meth c H locs 0 0 (MQ below (va_Qi (fun r (_ : Unit) => r = res.1) (g_Bo (dC, dI) A (fun (_ : Unit) => (b_m cB cC cI cJ cZ oA rA res.2 ++ b_w cB cC cI cJ cZ oA rA res.2 ++ b_s cB cC cI cJ cZ oA rA res.2 ++ b_c cB cC cI cJ cZ oA rA res.2 ++ b_t cB cC cI cJ cZ oA rA res.2 ++ b_d cB cC cI cJ cZ oA rA res.2))) A) ([.ref (oA 3), .ref (oA 4)] : List Value).toArray s 0 0 A) (F0 m 65 ls [])) ?_ _ _ hF_18 _ _ hP hS ls (lv_sub hl [1, 0] rfl)
    intro again_20 s_19 ih_21 hF_22
    intro H locs hP hS ls hl
    refine lv_iload_n hx hb dX4_giveAll_65 rfl (lv_at hl 1 rfl) ?_
    refine lv_aload_n hx hb dX4_giveAll_66 rfl (lv_at hl 0 rfl) ?_
    refine va_get (D := (dC, dI)) (ci := 4) (v := .ref (oA 1)) (C := RX4) (T := TX4) (N := 18) hx hb hts ii_X4 hown hK hP 0 rfl rfl 0 (by decide) (hts (.fieldLink RX4 32 "StoryHouse$Meanings" "words" "LStoryHouse$Words;") wq_86) (fun _ h9 => h9) rfl dX4_giveAll_67 ?_
    refine va_get (D := (dC, dI)) (ci := 10) (v := .int ((s_19.2 1).1 2)) (C := RX10) (T := TX10) (N := 12) hx hb hts ii_X10 hown hK hP 7 rfl rfl 2 (by decide) (hts (.fieldLink RX4 53 "StoryHouse$Words" "count" "I") wq_45) (fun _ h9 => h9) rfl dX4_giveAll_70 ?_
    obtain ⟨j_24, ej_24, hF_25⟩ := bnd_e hF_22
    clear hF_22
    have Jj_24 : ∀  (σ_23 : HS), j_24  σ_23 = some res → ∀ (H : Heap) (locs : List Loc), va_P (dC, dI) vwCl (b_m cB cC cI cJ cZ oA rA σ_23 ++ b_w cB cC cI cJ cZ oA rA σ_23 ++ b_s cB cC cI cJ cZ oA rA σ_23 ++ b_c cB cC cI cJ cZ oA rA σ_23 ++ b_t cB cC cI cJ cZ oA rA σ_23 ++ b_d cB cC cI cJ cZ oA rA σ_23) H → va_S A s.heap H locs → ∀ ls : Array Slot, lv_has ls 3 [(0, .ref (oA 3))] → W p l e (headSpec (g_ws yX4_giveAll cX4_giveAll 3 (some .int)) { frames := 8, cells := 0, slots := 0, locals := 198 }).room s m ([.ref (oA 3), .ref (oA 4)] : List Value).toArray below meth c H locs 0 0 (MQ below (va_Qi (fun r (_ : Unit) => r = res.1) (g_Bo (dC, dI) A (fun (_ : Unit) => (b_m cB cC cI cJ cZ oA rA res.2 ++ b_w cB cC cI cJ cZ oA rA res.2 ++ b_s cB cC cI cJ cZ oA rA res.2 ++ b_c cB cC cI cJ cZ oA rA res.2 ++ b_t cB cC cI cJ cZ oA rA res.2 ++ b_d cB cC cI cJ cZ oA rA res.2))) A) ([.ref (oA 3), .ref (oA 4)] : List Value).toArray s 0 0 A) (F0 m 121 ls []) := by
      intro  σ_23 hF0 H locs hP hS ls hl
      subst ej_24
      have hF_26 := hF0
      clear hF0
      refine lv_aload_n hx hb dX4_giveAll_121 rfl (lv_at hl 0 rfl) ?_
      refine va_get (D := (dC, dI)) (ci := 4) (v := .int ((σ_23 3).1 16)) (C := RX4) (T := TX4) (N := 18) hx hb hts ii_X4 hown hK hP 0 rfl rfl 16 (by decide) (hts (.fieldLink RX4 40 "StoryHouse$Meanings" "fault" "I") wq_102) (fun _ h9 => h9) rfl dX4_giveAll_122 ?_
      refine lv_if_ne (tgt := 163) hx hb dX4_giveAll_125 (by decide) (fun c_27 => ?_) (fun c_27 => ?_)
      · have hF_49 := ineg c_27 hF_26
        clear hF_26
        refine lv_aload_n hx hb dX4_giveAll_163 rfl (lv_at hl 0 rfl) ?_
        refine va_get (D := (dC, dI)) (ci := 4) (v := .int ((σ_23 3).1 16)) (C := RX4) (T := TX4) (N := 18) hx hb hts ii_X4 hown hK hP 0 rfl rfl 16 (by decide) (hts (.fieldLink RX4 40 "StoryHouse$Meanings" "fault" "I") wq_102) (fun _ h9 => h9) rfl dX4_giveAll_164 ?_
        have h9 := Option.some.inj hF_49
        subst h9
        exact W.iret (v := ((σ_23 3).1 16)) hx hb hr (fun t ht hW => ⟨⟨((σ_23 3).1 16), (), rfl, rfl, m_end ht hP, hDD _⟩, hS.F ht⟩) hS.2.2 dX4_giveAll_167
      · have hF_28 := ipos c_27 hF_26
        clear hF_26
        refine lv_aload_n hx hb dX4_giveAll_128 rfl (lv_at hl 0 rfl) ?_
        refine va_get (D := (dC, dI)) (ci := 4) (v := .ref (oA 4)) (C := RX4) (T := TX4) (N := 18) hx hb hts ii_X4 hown hK hP 0 rfl rfl 1 (by decide) (hts (.fieldLink RX4 36 "StoryHouse$Meanings" "story" "LStoryHouse$Story;") wq_87) (fun _ h9 => h9) rfl dX4_giveAll_129 ?_
        obtain ⟨u_29, hu_29, hF_30⟩ := Option.bind_eq_some_iff.mp hF_28
        clear hF_28
        have hPc := bx_P (bs := [b_m cB cC cI cJ cZ oA rA σ_23, b_w cB cC cI cJ cZ oA rA σ_23, b_s cB cC cI cJ cZ oA rA σ_23, b_c cB cC cI cJ cZ oA rA σ_23, b_t cB cC cI cJ cZ oA rA σ_23, b_d cB cC cI cJ cZ oA rA σ_23]) (bs' := [b_s cB cC cI cJ cZ oA rA σ_23, b_c cB cC cI cJ cZ oA rA σ_23, b_t cB cC cI cJ cZ oA rA σ_23, b_d cB cC cI cJ cZ oA rA σ_23]) (ws' := (b_s cB cC cI cJ cZ oA rA σ_23 ++ b_c cB cC cI cJ cZ oA rA σ_23 ++ b_t cB cC cI cJ cZ oA rA σ_23 ++ b_d cB cC cI cJ cZ oA rA σ_23)) hP fl_6 fl_4 [2, 3, 4, 5] rfl
        have hDc := bx_D (bs := [b_m cB cC cI cJ cZ oA rA σ_23, b_w cB cC cI cJ cZ oA rA σ_23, b_s cB cC cI cJ cZ oA rA σ_23, b_c cB cC cI cJ cZ oA rA σ_23, b_t cB cC cI cJ cZ oA rA σ_23, b_d cB cC cI cJ cZ oA rA σ_23]) (bs' := [b_s cB cC cI cJ cZ oA rA σ_23, b_c cB cC cI cJ cZ oA rA σ_23, b_t cB cC cI cJ cZ oA rA σ_23, b_d cB cC cI cJ cZ oA rA σ_23]) (ws' := (b_s cB cC cI cJ cZ oA rA σ_23 ++ b_c cB cC cI cJ cZ oA rA σ_23 ++ b_t cB cC cI cJ cZ oA rA σ_23 ++ b_d cB cC cI cJ cZ oA rA σ_23)) (hDD σ_23) fl_6 fl_4 [2, 3, 4, 5] (by decide +kernel) rfl
        have hFc := bx_F (bs := [b_m cB cC cI cJ cZ oA rA σ_23, b_w cB cC cI cJ cZ oA rA σ_23, b_s cB cC cI cJ cZ oA rA σ_23, b_c cB cC cI cJ cZ oA rA σ_23, b_t cB cC cI cJ cZ oA rA σ_23, b_d cB cC cI cJ cZ oA rA σ_23]) (bs' := [b_s cB cC cI cJ cZ oA rA σ_23, b_c cB cC cI cJ cZ oA rA σ_23, b_t cB cC cI cJ cZ oA rA σ_23, b_d cB cC cI cJ cZ oA rA σ_23]) (wc := (b_s cB cC cI cJ cZ oA rA σ_23 ++ b_c cB cC cI cJ cZ oA rA σ_23 ++ b_t cB cC cI cJ cZ oA rA σ_23 ++ b_d cB cC cI cJ cZ oA rA σ_23)) (hDD σ_23) hS hA fl_6 fl_4 [2, 3, 4, 5] rfl
        refine g_ofi (wc := (b_s cB cC cI cJ cZ oA rA σ_23 ++ b_c cB cC cI cJ cZ oA rA σ_23 ++ b_t cB cC cI cJ cZ oA rA σ_23 ++ b_d cB cC cI cJ cZ oA rA σ_23)) (wr := (b_m cB cC cI cJ cZ oA rA σ_23 ++ b_w cB cC cI cJ cZ oA rA σ_23)) hP (hDD σ_23) hS hFc (bx_ix [b_m cB cC cI cJ cZ oA rA σ_23, b_w cB cC cI cJ cZ oA rA σ_23, b_s cB cC cI cJ cZ oA rA σ_23, b_c cB cC cI cJ cZ oA rA σ_23, b_t cB cC cI cJ cZ oA rA σ_23, b_d cB cC cI cJ cZ oA rA σ_23] [2, 3, 4, 5]) (bx_ix [b_m cB cC cI cJ cZ oA rA σ_23, b_w cB cC cI cJ cZ oA rA σ_23, b_s cB cC cI cJ cZ oA rA σ_23, b_c cB cC cI cJ cZ oA rA σ_23, b_t cB cC cI cJ cZ oA rA σ_23, b_d cB cC cI cJ cZ oA rA σ_23] [0, 1]) (bx_C (bs := [b_m cB cC cI cJ cZ oA rA σ_23, b_w cB cC cI cJ cZ oA rA σ_23, b_s cB cC cI cJ cZ oA rA σ_23, b_c cB cC cI cJ cZ oA rA σ_23, b_t cB cC cI cJ cZ oA rA σ_23, b_d cB cC cI cJ cZ oA rA σ_23]) (bs' := [b_s cB cC cI cJ cZ oA rA σ_23, b_c cB cC cI cJ cZ oA rA σ_23, b_t cB cC cI cJ cZ oA rA σ_23, b_d cB cC cI cJ cZ oA rA σ_23]) (is := [2, 3, 4, 5]) fl_6 fl_4 rfl) (bx_C (bs := [b_m cB cC cI cJ cZ oA rA σ_23, b_w cB cC cI cJ cZ oA rA σ_23, b_s cB cC cI cJ cZ oA rA σ_23, b_c cB cC cI cJ cZ oA rA σ_23, b_t cB cC cI cJ cZ oA rA σ_23, b_d cB cC cI cJ cZ oA rA σ_23]) (bs' := [b_m cB cC cI cJ cZ oA rA σ_23, b_w cB cC cI cJ cZ oA rA σ_23]) (is := [0, 1]) fl_6 fl_2 rfl) (bx_n (by decide +kernel)) (bx_d (by decide +kernel)) (va_runV (As := []) (rest := []) ⟨hx, hb, hml, hown, hts⟩ (k_X7_hasRoom l dC dI cB cC cI cJ cZ cP oA rA H.size  σ_23 _ hu_29) (cwV 0 hts (g_gV wq_807 wq_808 wq_809 wq_5 wq_810) rfl rfl rfl (by decide +kernel) ⟨Nat.le_of_ble_eq_true rfl, Nat.le_of_ble_eq_true rfl⟩) (g_preV g_bl0 hK hPc hDc hS hE hFc g_to0 (q0 := 0) (ci := 7) rfl rfl) rfl rfl hl.1 rfl (lv_room (Nat.le_of_ble_eq_true rfl)) dX4_giveAll_132 ⟨Nat.le_of_ble_eq_true rfl, Nat.le_of_ble_eq_true rfl⟩) (fun r9 u9 H locs hw9 hP' hD' hS => ?_)
        clear hPc hDc hFc
        subst hw9
        obtain ⟨σ_31, eσ_31, hF_32⟩ := bnd_e hF_30
        clear hF_30
        have hP : va_P (dC, dI) vwCl (b_m cB cC cI cJ cZ oA rA σ_31 ++ b_w cB cC cI cJ cZ oA rA σ_31 ++ b_s cB cC cI cJ cZ oA rA σ_31 ++ b_c cB cC cI cJ cZ oA rA σ_31 ++ b_t cB cC cI cJ cZ oA rA σ_31 ++ b_d cB cC cI cJ cZ oA rA σ_31) H := by rw [eσ_31]; exact bx_P (bs := [b_m cB cC cI cJ cZ oA rA σ_23, b_w cB cC cI cJ cZ oA rA σ_23] ++ [b_s cB cC cI cJ cZ oA rA u_29.2, b_c cB cC cI cJ cZ oA rA u_29.2, b_t cB cC cI cJ cZ oA rA u_29.2, b_d cB cC cI cJ cZ oA rA u_29.2]) (bs' := [b_m cB cC cI cJ cZ oA rA (mrg (fun j => j == 4 || j == 5 || j == 6 || j == 7) σ_23 u_29.2), b_w cB cC cI cJ cZ oA rA (mrg (fun j => j == 4 || j == 5 || j == 6 || j == 7) σ_23 u_29.2), b_s cB cC cI cJ cZ oA rA (mrg (fun j => j == 4 || j == 5 || j == 6 || j == 7) σ_23 u_29.2), b_c cB cC cI cJ cZ oA rA (mrg (fun j => j == 4 || j == 5 || j == 6 || j == 7) σ_23 u_29.2), b_t cB cC cI cJ cZ oA rA (mrg (fun j => j == 4 || j == 5 || j == 6 || j == 7) σ_23 u_29.2), b_d cB cC cI cJ cZ oA rA (mrg (fun j => j == 4 || j == 5 || j == 6 || j == 7) σ_23 u_29.2)]) hP' (fl_a fl_2 fl_4) fl_6 [0, 1, 2, 3, 4, 5] rfl
        clear hP' hD'
        obtain ⟨j_34, ej_34, hF_35⟩ := bnd_e hF_32
        clear hF_32
        have Jj_34 : ∀  (σ_33 : HS), j_34  σ_33 = some res → ∀ (H : Heap) (locs : List Loc), va_P (dC, dI) vwCl (b_m cB cC cI cJ cZ oA rA σ_33 ++ b_w cB cC cI cJ cZ oA rA σ_33 ++ b_s cB cC cI cJ cZ oA rA σ_33 ++ b_c cB cC cI cJ cZ oA rA σ_33 ++ b_t cB cC cI cJ cZ oA rA σ_33 ++ b_d cB cC cI cJ cZ oA rA σ_33) H → va_S A s.heap H locs → ∀ ls : Array Slot, lv_has ls 3 [(0, .ref (oA 3))] → W p l e (headSpec (g_ws yX4_giveAll cX4_giveAll 3 (some .int)) { frames := 8, cells := 0, slots := 0, locals := 198 }).room s m ([.ref (oA 3), .ref (oA 4)] : List Value).toArray below meth c H locs 0 0 (MQ below (va_Qi (fun r (_ : Unit) => r = res.1) (g_Bo (dC, dI) A (fun (_ : Unit) => (b_m cB cC cI cJ cZ oA rA res.2 ++ b_w cB cC cI cJ cZ oA rA res.2 ++ b_s cB cC cI cJ cZ oA rA res.2 ++ b_c cB cC cI cJ cZ oA rA res.2 ++ b_t cB cC cI cJ cZ oA rA res.2 ++ b_d cB cC cI cJ cZ oA rA res.2))) A) ([.ref (oA 3), .ref (oA 4)] : List Value).toArray s 0 0 A) (F0 m 148 ls []) := by
          intro  σ_33 hF0 H locs hP hS ls hl
          subst ej_34
          have hF_36 := hF0
          clear hF0
          refine lv_aload_n hx hb dX4_giveAll_148 rfl (lv_at hl 0 rfl) ?_
          refine lv_bipush (v := 6) hx hb dX4_giveAll_149 (by decide +kernel) ?_
          refine lv_aload_n hx hb dX4_giveAll_151 rfl (lv_at hl 0 rfl) ?_
          refine va_get (D := (dC, dI)) (ci := 4) (v := .ref (oA 1)) (C := RX4) (T := TX4) (N := 18) hx hb hts ii_X4 hown hK hP 0 rfl rfl 0 (by decide) (hts (.fieldLink RX4 32 "StoryHouse$Meanings" "words" "LStoryHouse$Words;") wq_86) (fun _ h9 => h9) rfl dX4_giveAll_152 ?_
          refine va_get (D := (dC, dI)) (ci := 10) (v := .int ((σ_33 1).1 2)) (C := RX10) (T := TX10) (N := 12) hx hb hts ii_X10 hown hK hP 7 rfl rfl 2 (by decide) (hts (.fieldLink RX4 53 "StoryHouse$Words" "count" "I") wq_45) (fun _ h9 => h9) rfl dX4_giveAll_155 ?_
          refine lv_iconst (v := 1) hx hb dX4_giveAll_158 (by decide +kernel) ?_
          refine lv_isub hx hb dX4_giveAll_159 ?_
          obtain ⟨u_37, hu_37, hF_38⟩ := Option.bind_eq_some_iff.mp hF_36
          clear hF_36
          have hPc := bx_P (bs := [b_m cB cC cI cJ cZ oA rA σ_33, b_w cB cC cI cJ cZ oA rA σ_33, b_s cB cC cI cJ cZ oA rA σ_33, b_c cB cC cI cJ cZ oA rA σ_33, b_t cB cC cI cJ cZ oA rA σ_33, b_d cB cC cI cJ cZ oA rA σ_33]) (bs' := [b_m cB cC cI cJ cZ oA rA σ_33, b_w cB cC cI cJ cZ oA rA σ_33, b_s cB cC cI cJ cZ oA rA σ_33, b_c cB cC cI cJ cZ oA rA σ_33, b_t cB cC cI cJ cZ oA rA σ_33, b_d cB cC cI cJ cZ oA rA σ_33]) (ws' := (b_m cB cC cI cJ cZ oA rA σ_33 ++ b_w cB cC cI cJ cZ oA rA σ_33 ++ b_s cB cC cI cJ cZ oA rA σ_33 ++ b_c cB cC cI cJ cZ oA rA σ_33 ++ b_t cB cC cI cJ cZ oA rA σ_33 ++ b_d cB cC cI cJ cZ oA rA σ_33)) hP fl_6 fl_6 [0, 1, 2, 3, 4, 5] rfl
          have hDc := bx_D (bs := [b_m cB cC cI cJ cZ oA rA σ_33, b_w cB cC cI cJ cZ oA rA σ_33, b_s cB cC cI cJ cZ oA rA σ_33, b_c cB cC cI cJ cZ oA rA σ_33, b_t cB cC cI cJ cZ oA rA σ_33, b_d cB cC cI cJ cZ oA rA σ_33]) (bs' := [b_m cB cC cI cJ cZ oA rA σ_33, b_w cB cC cI cJ cZ oA rA σ_33, b_s cB cC cI cJ cZ oA rA σ_33, b_c cB cC cI cJ cZ oA rA σ_33, b_t cB cC cI cJ cZ oA rA σ_33, b_d cB cC cI cJ cZ oA rA σ_33]) (ws' := (b_m cB cC cI cJ cZ oA rA σ_33 ++ b_w cB cC cI cJ cZ oA rA σ_33 ++ b_s cB cC cI cJ cZ oA rA σ_33 ++ b_c cB cC cI cJ cZ oA rA σ_33 ++ b_t cB cC cI cJ cZ oA rA σ_33 ++ b_d cB cC cI cJ cZ oA rA σ_33)) (hDD σ_33) fl_6 fl_6 [0, 1, 2, 3, 4, 5] (by decide +kernel) rfl
          have hFc := bx_F (bs := [b_m cB cC cI cJ cZ oA rA σ_33, b_w cB cC cI cJ cZ oA rA σ_33, b_s cB cC cI cJ cZ oA rA σ_33, b_c cB cC cI cJ cZ oA rA σ_33, b_t cB cC cI cJ cZ oA rA σ_33, b_d cB cC cI cJ cZ oA rA σ_33]) (bs' := [b_m cB cC cI cJ cZ oA rA σ_33, b_w cB cC cI cJ cZ oA rA σ_33, b_s cB cC cI cJ cZ oA rA σ_33, b_c cB cC cI cJ cZ oA rA σ_33, b_t cB cC cI cJ cZ oA rA σ_33, b_d cB cC cI cJ cZ oA rA σ_33]) (wc := (b_m cB cC cI cJ cZ oA rA σ_33 ++ b_w cB cC cI cJ cZ oA rA σ_33 ++ b_s cB cC cI cJ cZ oA rA σ_33 ++ b_c cB cC cI cJ cZ oA rA σ_33 ++ b_t cB cC cI cJ cZ oA rA σ_33 ++ b_d cB cC cI cJ cZ oA rA σ_33)) (hDD σ_33) hS hA fl_6 fl_6 [0, 1, 2, 3, 4, 5] rfl
          refine g_ofv (wc := (b_m cB cC cI cJ cZ oA rA σ_33 ++ b_w cB cC cI cJ cZ oA rA σ_33 ++ b_s cB cC cI cJ cZ oA rA σ_33 ++ b_c cB cC cI cJ cZ oA rA σ_33 ++ b_t cB cC cI cJ cZ oA rA σ_33 ++ b_d cB cC cI cJ cZ oA rA σ_33)) (wr := ([] : va_W)) hP (hDD σ_33) hS hFc (bx_ix [b_m cB cC cI cJ cZ oA rA σ_33, b_w cB cC cI cJ cZ oA rA σ_33, b_s cB cC cI cJ cZ oA rA σ_33, b_c cB cC cI cJ cZ oA rA σ_33, b_t cB cC cI cJ cZ oA rA σ_33, b_d cB cC cI cJ cZ oA rA σ_33] [0, 1, 2, 3, 4, 5]) (bx_ix [b_m cB cC cI cJ cZ oA rA σ_33, b_w cB cC cI cJ cZ oA rA σ_33, b_s cB cC cI cJ cZ oA rA σ_33, b_c cB cC cI cJ cZ oA rA σ_33, b_t cB cC cI cJ cZ oA rA σ_33, b_d cB cC cI cJ cZ oA rA σ_33] []) (bx_C (bs := [b_m cB cC cI cJ cZ oA rA σ_33, b_w cB cC cI cJ cZ oA rA σ_33, b_s cB cC cI cJ cZ oA rA σ_33, b_c cB cC cI cJ cZ oA rA σ_33, b_t cB cC cI cJ cZ oA rA σ_33, b_d cB cC cI cJ cZ oA rA σ_33]) (bs' := [b_m cB cC cI cJ cZ oA rA σ_33, b_w cB cC cI cJ cZ oA rA σ_33, b_s cB cC cI cJ cZ oA rA σ_33, b_c cB cC cI cJ cZ oA rA σ_33, b_t cB cC cI cJ cZ oA rA σ_33, b_d cB cC cI cJ cZ oA rA σ_33]) (is := [0, 1, 2, 3, 4, 5]) fl_6 fl_6 rfl) (bx_C (bs := [b_m cB cC cI cJ cZ oA rA σ_33, b_w cB cC cI cJ cZ oA rA σ_33, b_s cB cC cI cJ cZ oA rA σ_33, b_c cB cC cI cJ cZ oA rA σ_33, b_t cB cC cI cJ cZ oA rA σ_33, b_d cB cC cI cJ cZ oA rA σ_33]) (bs' := []) (is := []) fl_6 fl_0 rfl) (bx_n (by decide +kernel)) (bx_d (by decide +kernel)) (va_runV (As := [.int 6, .int (((σ_33 1).1 2) - 1)]) (rest := []) ⟨hx, hb, hml, hown, hts⟩ (k_X4_fail l dC dI cB cC cI cJ cZ cP oA rA H.size  6 (((σ_33 1).1 2) - 1) σ_33 _ hu_37) (cwV 2 hts (g_gV wq_725 wq_726 wq_2037 wq_4 wq_727) rfl rfl rfl (by decide +kernel) ⟨Nat.le_of_ble_eq_true rfl, Nat.le_of_ble_eq_true rfl⟩) (g_preV g_bl0 hK hPc hDc hS hE hFc g_to0 (q0 := 0) (ci := 4) rfl rfl) rfl rfl hl.1 rfl (lv_room (Nat.le_of_ble_eq_true rfl)) dX4_giveAll_160 ⟨Nat.le_of_ble_eq_true rfl, Nat.le_of_ble_eq_true rfl⟩) (fun u9 H locs hw9 hP' hD' hS => ?_)
          clear hPc hDc hFc
          have hP : va_P (dC, dI) vwCl (b_m cB cC cI cJ cZ oA rA u_37.2 ++ b_w cB cC cI cJ cZ oA rA u_37.2 ++ b_s cB cC cI cJ cZ oA rA u_37.2 ++ b_c cB cC cI cJ cZ oA rA u_37.2 ++ b_t cB cC cI cJ cZ oA rA u_37.2 ++ b_d cB cC cI cJ cZ oA rA u_37.2) H := hP'
          clear hP' hD'
          refine lv_aload_n hx hb dX4_giveAll_163 rfl (lv_at hl 0 rfl) ?_
          refine va_get (D := (dC, dI)) (ci := 4) (v := .int ((u_37.2 3).1 16)) (C := RX4) (T := TX4) (N := 18) hx hb hts ii_X4 hown hK hP 0 rfl rfl 16 (by decide) (hts (.fieldLink RX4 40 "StoryHouse$Meanings" "fault" "I") wq_102) (fun _ h9 => h9) rfl dX4_giveAll_164 ?_
          have h9 := Option.some.inj hF_38
          subst h9
          exact W.iret (v := ((u_37.2 3).1 16)) hx hb hr (fun t ht hW => ⟨⟨((u_37.2 3).1 16), (), rfl, rfl, m_end ht hP, hDD _⟩, hS.F ht⟩) hS.2.2 dX4_giveAll_167
        refine lv_if_eq (tgt := 148) hx hb dX4_giveAll_135 (by decide) (fun c_39 => ?_) (fun c_39 => ?_)
        · have hF_40 := ipos c_39 hF_35
          clear hF_35
          exact Jj_34  σ_31 hF_40 _ _ hP hS ls (lv_sub hl [0] rfl)
        · have hF_41 := ineg c_39 hF_35
          clear hF_35
          refine lv_aload_n hx hb dX4_giveAll_138 rfl (lv_at hl 0 rfl) ?_
          refine va_get (D := (dC, dI)) (ci := 4) (v := .ref (oA 4)) (C := RX4) (T := TX4) (N := 18) hx hb hts ii_X4 hown hK hP 0 rfl rfl 1 (by decide) (hts (.fieldLink RX4 36 "StoryHouse$Meanings" "story" "LStoryHouse$Story;") wq_87) (fun _ h9 => h9) rfl dX4_giveAll_139 ?_
          obtain ⟨u_42, hu_42, hF_43⟩ := Option.bind_eq_some_iff.mp hF_41
          clear hF_41
          have hPc := bx_P (bs := [b_m cB cC cI cJ cZ oA rA σ_31, b_w cB cC cI cJ cZ oA rA σ_31, b_s cB cC cI cJ cZ oA rA σ_31, b_c cB cC cI cJ cZ oA rA σ_31, b_t cB cC cI cJ cZ oA rA σ_31, b_d cB cC cI cJ cZ oA rA σ_31]) (bs' := [b_s cB cC cI cJ cZ oA rA σ_31, b_c cB cC cI cJ cZ oA rA σ_31, b_t cB cC cI cJ cZ oA rA σ_31, b_d cB cC cI cJ cZ oA rA σ_31]) (ws' := (b_s cB cC cI cJ cZ oA rA σ_31 ++ b_c cB cC cI cJ cZ oA rA σ_31 ++ b_t cB cC cI cJ cZ oA rA σ_31 ++ b_d cB cC cI cJ cZ oA rA σ_31)) hP fl_6 fl_4 [2, 3, 4, 5] rfl
          have hDc := bx_D (bs := [b_m cB cC cI cJ cZ oA rA σ_31, b_w cB cC cI cJ cZ oA rA σ_31, b_s cB cC cI cJ cZ oA rA σ_31, b_c cB cC cI cJ cZ oA rA σ_31, b_t cB cC cI cJ cZ oA rA σ_31, b_d cB cC cI cJ cZ oA rA σ_31]) (bs' := [b_s cB cC cI cJ cZ oA rA σ_31, b_c cB cC cI cJ cZ oA rA σ_31, b_t cB cC cI cJ cZ oA rA σ_31, b_d cB cC cI cJ cZ oA rA σ_31]) (ws' := (b_s cB cC cI cJ cZ oA rA σ_31 ++ b_c cB cC cI cJ cZ oA rA σ_31 ++ b_t cB cC cI cJ cZ oA rA σ_31 ++ b_d cB cC cI cJ cZ oA rA σ_31)) (hDD σ_31) fl_6 fl_4 [2, 3, 4, 5] (by decide +kernel) rfl
          have hFc := bx_F (bs := [b_m cB cC cI cJ cZ oA rA σ_31, b_w cB cC cI cJ cZ oA rA σ_31, b_s cB cC cI cJ cZ oA rA σ_31, b_c cB cC cI cJ cZ oA rA σ_31, b_t cB cC cI cJ cZ oA rA σ_31, b_d cB cC cI cJ cZ oA rA σ_31]) (bs' := [b_s cB cC cI cJ cZ oA rA σ_31, b_c cB cC cI cJ cZ oA rA σ_31, b_t cB cC cI cJ cZ oA rA σ_31, b_d cB cC cI cJ cZ oA rA σ_31]) (wc := (b_s cB cC cI cJ cZ oA rA σ_31 ++ b_c cB cC cI cJ cZ oA rA σ_31 ++ b_t cB cC cI cJ cZ oA rA σ_31 ++ b_d cB cC cI cJ cZ oA rA σ_31)) (hDD σ_31) hS hA fl_6 fl_4 [2, 3, 4, 5] rfl
          refine g_ofi (wc := (b_s cB cC cI cJ cZ oA rA σ_31 ++ b_c cB cC cI cJ cZ oA rA σ_31 ++ b_t cB cC cI cJ cZ oA rA σ_31 ++ b_d cB cC cI cJ cZ oA rA σ_31)) (wr := (b_m cB cC cI cJ cZ oA rA σ_31 ++ b_w cB cC cI cJ cZ oA rA σ_31)) hP (hDD σ_31) hS hFc (bx_ix [b_m cB cC cI cJ cZ oA rA σ_31, b_w cB cC cI cJ cZ oA rA σ_31, b_s cB cC cI cJ cZ oA rA σ_31, b_c cB cC cI cJ cZ oA rA σ_31, b_t cB cC cI cJ cZ oA rA σ_31, b_d cB cC cI cJ cZ oA rA σ_31] [2, 3, 4, 5]) (bx_ix [b_m cB cC cI cJ cZ oA rA σ_31, b_w cB cC cI cJ cZ oA rA σ_31, b_s cB cC cI cJ cZ oA rA σ_31, b_c cB cC cI cJ cZ oA rA σ_31, b_t cB cC cI cJ cZ oA rA σ_31, b_d cB cC cI cJ cZ oA rA σ_31] [0, 1]) (bx_C (bs := [b_m cB cC cI cJ cZ oA rA σ_31, b_w cB cC cI cJ cZ oA rA σ_31, b_s cB cC cI cJ cZ oA rA σ_31, b_c cB cC cI cJ cZ oA rA σ_31, b_t cB cC cI cJ cZ oA rA σ_31, b_d cB cC cI cJ cZ oA rA σ_31]) (bs' := [b_s cB cC cI cJ cZ oA rA σ_31, b_c cB cC cI cJ cZ oA rA σ_31, b_t cB cC cI cJ cZ oA rA σ_31, b_d cB cC cI cJ cZ oA rA σ_31]) (is := [2, 3, 4, 5]) fl_6 fl_4 rfl) (bx_C (bs := [b_m cB cC cI cJ cZ oA rA σ_31, b_w cB cC cI cJ cZ oA rA σ_31, b_s cB cC cI cJ cZ oA rA σ_31, b_c cB cC cI cJ cZ oA rA σ_31, b_t cB cC cI cJ cZ oA rA σ_31, b_d cB cC cI cJ cZ oA rA σ_31]) (bs' := [b_m cB cC cI cJ cZ oA rA σ_31, b_w cB cC cI cJ cZ oA rA σ_31]) (is := [0, 1]) fl_6 fl_2 rfl) (bx_n (by decide +kernel)) (bx_d (by decide +kernel)) (va_runV (As := []) (rest := []) ⟨hx, hb, hml, hown, hts⟩ (k_X7_hasCircle l dC dI cB cC cI cJ cZ cP oA rA H.size  σ_31 _ hu_42) (cwV 0 hts (g_gV wq_819 wq_820 wq_821 wq_5 wq_822) rfl rfl rfl (by decide +kernel) ⟨Nat.le_of_ble_eq_true rfl, Nat.le_of_ble_eq_true rfl⟩) (g_preV g_bl0 hK hPc hDc hS hE hFc g_to0 (q0 := 0) (ci := 7) rfl rfl) rfl rfl hl.1 rfl (lv_room (Nat.le_of_ble_eq_true rfl)) dX4_giveAll_142 ⟨Nat.le_of_ble_eq_true rfl, Nat.le_of_ble_eq_true rfl⟩) (fun r9 u9 H locs hw9 hP' hD' hS => ?_)
          clear hPc hDc hFc
          subst hw9
          obtain ⟨σ_44, eσ_44, hF_45⟩ := bnd_e hF_43
          clear hF_43
          have hP : va_P (dC, dI) vwCl (b_m cB cC cI cJ cZ oA rA σ_44 ++ b_w cB cC cI cJ cZ oA rA σ_44 ++ b_s cB cC cI cJ cZ oA rA σ_44 ++ b_c cB cC cI cJ cZ oA rA σ_44 ++ b_t cB cC cI cJ cZ oA rA σ_44 ++ b_d cB cC cI cJ cZ oA rA σ_44) H := by rw [eσ_44]; exact bx_P (bs := [b_m cB cC cI cJ cZ oA rA σ_31, b_w cB cC cI cJ cZ oA rA σ_31] ++ [b_s cB cC cI cJ cZ oA rA u_42.2, b_c cB cC cI cJ cZ oA rA u_42.2, b_t cB cC cI cJ cZ oA rA u_42.2, b_d cB cC cI cJ cZ oA rA u_42.2]) (bs' := [b_m cB cC cI cJ cZ oA rA (mrg (fun j => j == 4 || j == 5 || j == 6 || j == 7) σ_31 u_42.2), b_w cB cC cI cJ cZ oA rA (mrg (fun j => j == 4 || j == 5 || j == 6 || j == 7) σ_31 u_42.2), b_s cB cC cI cJ cZ oA rA (mrg (fun j => j == 4 || j == 5 || j == 6 || j == 7) σ_31 u_42.2), b_c cB cC cI cJ cZ oA rA (mrg (fun j => j == 4 || j == 5 || j == 6 || j == 7) σ_31 u_42.2), b_t cB cC cI cJ cZ oA rA (mrg (fun j => j == 4 || j == 5 || j == 6 || j == 7) σ_31 u_42.2), b_d cB cC cI cJ cZ oA rA (mrg (fun j => j == 4 || j == 5 || j == 6 || j == 7) σ_31 u_42.2)]) hP' (fl_a fl_2 fl_4) fl_6 [0, 1, 2, 3, 4, 5] rfl
          clear hP' hD'
          refine lv_if_eq (tgt := 163) hx hb dX4_giveAll_145 (by decide) (fun c_46 => ?_) (fun c_46 => ?_)
          · have hF_47 := ipos c_46 hF_45
            clear hF_45
            refine lv_aload_n hx hb dX4_giveAll_163 rfl (lv_at hl 0 rfl) ?_
            refine va_get (D := (dC, dI)) (ci := 4) (v := .int ((σ_44 3).1 16)) (C := RX4) (T := TX4) (N := 18) hx hb hts ii_X4 hown hK hP 0 rfl rfl 16 (by decide) (hts (.fieldLink RX4 40 "StoryHouse$Meanings" "fault" "I") wq_102) (fun _ h9 => h9) rfl dX4_giveAll_164 ?_
            have h9 := Option.some.inj hF_47
            subst h9
            exact W.iret (v := ((σ_44 3).1 16)) hx hb hr (fun t ht hW => ⟨⟨((σ_44 3).1 16), (), rfl, rfl, m_end ht hP, hDD _⟩, hS.F ht⟩) hS.2.2 dX4_giveAll_167
          · have hF_48 := ineg c_46 hF_45
            clear hF_45
            exact Jj_34  σ_44 hF_48 _ _ hP hS ls (lv_sub hl [0] rfl)
    refine lv_icmp_ge (tgt := 121) hx hb dX4_giveAll_73 (by decide) (fun c_50 => ?_) (fun c_50 => ?_)
    · have hF_51 := ipos c_50 hF_25
      clear hF_25
      exact Jj_24  s_19.2 hF_51 _ _ hP hS ls (lv_sub hl [0] rfl)
    · have hF_52 := ineg c_50 hF_25
      clear hF_25
      refine lv_aload_n hx hb dX4_giveAll_76 rfl (lv_at hl 0 rfl) ?_
      refine va_get (D := (dC, dI)) (ci := 4) (v := .int ((s_19.2 3).1 16)) (C := RX4) (T := TX4) (N := 18) hx hb hts ii_X4 hown hK hP 0 rfl rfl 16 (by decide) (hts (.fieldLink RX4 40 "StoryHouse$Meanings" "fault" "I") wq_102) (fun _ h9 => h9) rfl dX4_giveAll_77 ?_
      refine lv_if_ne (tgt := 121) hx hb dX4_giveAll_80 (by decide) (fun c_53 => ?_) (fun c_53 => ?_)
      · have hF_77 := ineg c_53 hF_52
        clear hF_52
        exact Jj_24  s_19.2 hF_77 _ _ hP hS ls (lv_sub hl [0] rfl)
      · have hF_54 := ipos c_53 hF_52
        clear hF_52
        refine lv_aload_n hx hb dX4_giveAll_83 rfl (lv_at hl 0 rfl) ?_
        refine va_get (D := (dC, dI)) (ci := 4) (v := .int ((s_19.2 3).1 12)) (C := RX4) (T := TX4) (N := 18) hx hb hts ii_X4 hown hK hP 0 rfl rfl 12 (by decide) (hts (.fieldLink RX4 63 "StoryHouse$Meanings" "routine" "I") wq_98) (fun _ h9 => h9) rfl dX4_giveAll_84 ?_
        obtain ⟨j_56, ej_56, hF_57⟩ := bnd_e hF_54
        clear hF_54
        have Jj_56 : ∀  (σ_55 : HS), j_56  σ_55 = some res → ∀ (H : Heap) (locs : List Loc), va_P (dC, dI) vwCl (b_m cB cC cI cJ cZ oA rA σ_55 ++ b_w cB cC cI cJ cZ oA rA σ_55 ++ b_s cB cC cI cJ cZ oA rA σ_55 ++ b_c cB cC cI cJ cZ oA rA σ_55 ++ b_t cB cC cI cJ cZ oA rA σ_55 ++ b_d cB cC cI cJ cZ oA rA σ_55) H → va_S A s.heap H locs → ∀ ls : Array Slot, lv_has ls 3 [(0, .ref (oA 3)), (2, .int s_19.1)] → W p l e (headSpec (g_ws yX4_giveAll cX4_giveAll 3 (some .int)) { frames := 8, cells := 0, slots := 0, locals := 198 }).room s m ([.ref (oA 3), .ref (oA 4)] : List Value).toArray below meth c H locs 0 0 (MQ below (va_Qi (fun r (_ : Unit) => r = res.1) (g_Bo (dC, dI) A (fun (_ : Unit) => (b_m cB cC cI cJ cZ oA rA res.2 ++ b_w cB cC cI cJ cZ oA rA res.2 ++ b_s cB cC cI cJ cZ oA rA res.2 ++ b_c cB cC cI cJ cZ oA rA res.2 ++ b_t cB cC cI cJ cZ oA rA res.2 ++ b_d cB cC cI cJ cZ oA rA res.2))) A) ([.ref (oA 3), .ref (oA 4)] : List Value).toArray s 0 0 A) (F0 m 110 ls []) := by
          intro  σ_55 hF0 H locs hP hS ls hl
          subst ej_56
          have hF_58 := hF0
          clear hF0
          refine lv_aload_n hx hb dX4_giveAll_110 rfl (lv_at hl 0 rfl) ?_
          refine lv_iload_n hx hb dX4_giveAll_111 rfl (lv_at hl 1 rfl) ?_
          obtain ⟨u_59, hu_59, hF_60⟩ := Option.bind_eq_some_iff.mp hF_58
          clear hF_58
          have hPc := bx_P (bs := [b_m cB cC cI cJ cZ oA rA σ_55, b_w cB cC cI cJ cZ oA rA σ_55, b_s cB cC cI cJ cZ oA rA σ_55, b_c cB cC cI cJ cZ oA rA σ_55, b_t cB cC cI cJ cZ oA rA σ_55, b_d cB cC cI cJ cZ oA rA σ_55]) (bs' := [b_m cB cC cI cJ cZ oA rA σ_55, b_w cB cC cI cJ cZ oA rA σ_55, b_s cB cC cI cJ cZ oA rA σ_55, b_c cB cC cI cJ cZ oA rA σ_55, b_t cB cC cI cJ cZ oA rA σ_55, b_d cB cC cI cJ cZ oA rA σ_55]) (ws' := (b_m cB cC cI cJ cZ oA rA σ_55 ++ b_w cB cC cI cJ cZ oA rA σ_55 ++ b_s cB cC cI cJ cZ oA rA σ_55 ++ b_c cB cC cI cJ cZ oA rA σ_55 ++ b_t cB cC cI cJ cZ oA rA σ_55 ++ b_d cB cC cI cJ cZ oA rA σ_55)) hP fl_6 fl_6 [0, 1, 2, 3, 4, 5] rfl
          have hDc := bx_D (bs := [b_m cB cC cI cJ cZ oA rA σ_55, b_w cB cC cI cJ cZ oA rA σ_55, b_s cB cC cI cJ cZ oA rA σ_55, b_c cB cC cI cJ cZ oA rA σ_55, b_t cB cC cI cJ cZ oA rA σ_55, b_d cB cC cI cJ cZ oA rA σ_55]) (bs' := [b_m cB cC cI cJ cZ oA rA σ_55, b_w cB cC cI cJ cZ oA rA σ_55, b_s cB cC cI cJ cZ oA rA σ_55, b_c cB cC cI cJ cZ oA rA σ_55, b_t cB cC cI cJ cZ oA rA σ_55, b_d cB cC cI cJ cZ oA rA σ_55]) (ws' := (b_m cB cC cI cJ cZ oA rA σ_55 ++ b_w cB cC cI cJ cZ oA rA σ_55 ++ b_s cB cC cI cJ cZ oA rA σ_55 ++ b_c cB cC cI cJ cZ oA rA σ_55 ++ b_t cB cC cI cJ cZ oA rA σ_55 ++ b_d cB cC cI cJ cZ oA rA σ_55)) (hDD σ_55) fl_6 fl_6 [0, 1, 2, 3, 4, 5] (by decide +kernel) rfl
          have hFc := bx_F (bs := [b_m cB cC cI cJ cZ oA rA σ_55, b_w cB cC cI cJ cZ oA rA σ_55, b_s cB cC cI cJ cZ oA rA σ_55, b_c cB cC cI cJ cZ oA rA σ_55, b_t cB cC cI cJ cZ oA rA σ_55, b_d cB cC cI cJ cZ oA rA σ_55]) (bs' := [b_m cB cC cI cJ cZ oA rA σ_55, b_w cB cC cI cJ cZ oA rA σ_55, b_s cB cC cI cJ cZ oA rA σ_55, b_c cB cC cI cJ cZ oA rA σ_55, b_t cB cC cI cJ cZ oA rA σ_55, b_d cB cC cI cJ cZ oA rA σ_55]) (wc := (b_m cB cC cI cJ cZ oA rA σ_55 ++ b_w cB cC cI cJ cZ oA rA σ_55 ++ b_s cB cC cI cJ cZ oA rA σ_55 ++ b_c cB cC cI cJ cZ oA rA σ_55 ++ b_t cB cC cI cJ cZ oA rA σ_55 ++ b_d cB cC cI cJ cZ oA rA σ_55)) (hDD σ_55) hS hA fl_6 fl_6 [0, 1, 2, 3, 4, 5] rfl
          refine g_ofv (wc := (b_m cB cC cI cJ cZ oA rA σ_55 ++ b_w cB cC cI cJ cZ oA rA σ_55 ++ b_s cB cC cI cJ cZ oA rA σ_55 ++ b_c cB cC cI cJ cZ oA rA σ_55 ++ b_t cB cC cI cJ cZ oA rA σ_55 ++ b_d cB cC cI cJ cZ oA rA σ_55)) (wr := ([] : va_W)) hP (hDD σ_55) hS hFc (bx_ix [b_m cB cC cI cJ cZ oA rA σ_55, b_w cB cC cI cJ cZ oA rA σ_55, b_s cB cC cI cJ cZ oA rA σ_55, b_c cB cC cI cJ cZ oA rA σ_55, b_t cB cC cI cJ cZ oA rA σ_55, b_d cB cC cI cJ cZ oA rA σ_55] [0, 1, 2, 3, 4, 5]) (bx_ix [b_m cB cC cI cJ cZ oA rA σ_55, b_w cB cC cI cJ cZ oA rA σ_55, b_s cB cC cI cJ cZ oA rA σ_55, b_c cB cC cI cJ cZ oA rA σ_55, b_t cB cC cI cJ cZ oA rA σ_55, b_d cB cC cI cJ cZ oA rA σ_55] []) (bx_C (bs := [b_m cB cC cI cJ cZ oA rA σ_55, b_w cB cC cI cJ cZ oA rA σ_55, b_s cB cC cI cJ cZ oA rA σ_55, b_c cB cC cI cJ cZ oA rA σ_55, b_t cB cC cI cJ cZ oA rA σ_55, b_d cB cC cI cJ cZ oA rA σ_55]) (bs' := [b_m cB cC cI cJ cZ oA rA σ_55, b_w cB cC cI cJ cZ oA rA σ_55, b_s cB cC cI cJ cZ oA rA σ_55, b_c cB cC cI cJ cZ oA rA σ_55, b_t cB cC cI cJ cZ oA rA σ_55, b_d cB cC cI cJ cZ oA rA σ_55]) (is := [0, 1, 2, 3, 4, 5]) fl_6 fl_6 rfl) (bx_C (bs := [b_m cB cC cI cJ cZ oA rA σ_55, b_w cB cC cI cJ cZ oA rA σ_55, b_s cB cC cI cJ cZ oA rA σ_55, b_c cB cC cI cJ cZ oA rA σ_55, b_t cB cC cI cJ cZ oA rA σ_55, b_d cB cC cI cJ cZ oA rA σ_55]) (bs' := []) (is := []) fl_6 fl_0 rfl) (bx_n (by decide +kernel)) (bx_d (by decide +kernel)) (va_runV (As := [.int s_19.1]) (rest := []) ⟨hx, hb, hml, hown, hts⟩ (k_X4_followScope l dC dI cB cC cI cJ cZ cP oA rA H.size  s_19.1 σ_55 _ hu_59) (cwV 1 hts (g_gV wq_753 wq_754 wq_2046 wq_4 wq_755) rfl rfl rfl (by decide +kernel) ⟨Nat.le_of_ble_eq_true rfl, Nat.le_of_ble_eq_true rfl⟩) (g_preV g_bl0 hK hPc hDc hS hE hFc g_to0 (q0 := 0) (ci := 4) rfl rfl) rfl rfl hl.1 rfl (lv_room (Nat.le_of_ble_eq_true rfl)) dX4_giveAll_112 ⟨Nat.le_of_ble_eq_true rfl, Nat.le_of_ble_eq_true rfl⟩) (fun u9 H locs hw9 hP' hD' hS => ?_)
          clear hPc hDc hFc
          have hP : va_P (dC, dI) vwCl (b_m cB cC cI cJ cZ oA rA u_59.2 ++ b_w cB cC cI cJ cZ oA rA u_59.2 ++ b_s cB cC cI cJ cZ oA rA u_59.2 ++ b_c cB cC cI cJ cZ oA rA u_59.2 ++ b_t cB cC cI cJ cZ oA rA u_59.2 ++ b_d cB cC cI cJ cZ oA rA u_59.2) H := hP'
          clear hP' hD'
          obtain ⟨x_61, ex_61, hF_62⟩ := bnd_e hF_60
          clear hF_60
          refine lv_iinc (v := x_61) (lv' := [(2, .int x_61), (0, .ref (oA 3))]) hx hb dX4_giveAll_115 hl (k := 1) rfl (by rw [ex_61]; rfl) (by decide) rfl (fun ls hl => ?_)
          refine lv_goto (tgt := 65) hx hb dX4_giveAll_118 (by decide) ?_
          exact ih_21 (x_61, u_59.2) hF_62 _ _ hP hS ls (lv_sub hl [1, 0] rfl)
        obtain ⟨j_64, ej_64, hF_65⟩ := bnd_e hF_57
        clear hF_57
        have Jj_64 : ∀  (σ_63 : HS), j_64  σ_63 = some res → ∀ (H : Heap) (locs : List Loc), va_P (dC, dI) vwCl (b_m cB cC cI cJ cZ oA rA σ_63 ++ b_w cB cC cI cJ cZ oA rA σ_63 ++ b_s cB cC cI cJ cZ oA rA σ_63 ++ b_c cB cC cI cJ cZ oA rA σ_63 ++ b_t cB cC cI cJ cZ oA rA σ_63 ++ b_d cB cC cI cJ cZ oA rA σ_63) H → va_S A s.heap H locs → ∀ ls : Array Slot, lv_has ls 3 [(0, .ref (oA 3)), (2, .int s_19.1)] → W p l e (headSpec (g_ws yX4_giveAll cX4_giveAll 3 (some .int)) { frames := 8, cells := 0, slots := 0, locals := 198 }).room s m ([.ref (oA 3), .ref (oA 4)] : List Value).toArray below meth c H locs 0 0 (MQ below (va_Qi (fun r (_ : Unit) => r = res.1) (g_Bo (dC, dI) A (fun (_ : Unit) => (b_m cB cC cI cJ cZ oA rA res.2 ++ b_w cB cC cI cJ cZ oA rA res.2 ++ b_s cB cC cI cJ cZ oA rA res.2 ++ b_c cB cC cI cJ cZ oA rA res.2 ++ b_t cB cC cI cJ cZ oA rA res.2 ++ b_d cB cC cI cJ cZ oA rA res.2))) A) ([.ref (oA 3), .ref (oA 4)] : List Value).toArray s 0 0 A) (F0 m 105 ls []) := by
          intro  σ_63 hF0 H locs hP hS ls hl
          subst ej_64
          have hF_66 := hF0
          clear hF0
          refine lv_aload_n hx hb dX4_giveAll_105 rfl (lv_at hl 0 rfl) ?_
          refine lv_iload_n hx hb dX4_giveAll_106 rfl (lv_at hl 1 rfl) ?_
          obtain ⟨u_67, hu_67, hF_68⟩ := Option.bind_eq_some_iff.mp hF_66
          clear hF_66
          have hPc := bx_P (bs := [b_m cB cC cI cJ cZ oA rA σ_63, b_w cB cC cI cJ cZ oA rA σ_63, b_s cB cC cI cJ cZ oA rA σ_63, b_c cB cC cI cJ cZ oA rA σ_63, b_t cB cC cI cJ cZ oA rA σ_63, b_d cB cC cI cJ cZ oA rA σ_63]) (bs' := [b_m cB cC cI cJ cZ oA rA σ_63, b_w cB cC cI cJ cZ oA rA σ_63, b_s cB cC cI cJ cZ oA rA σ_63, b_c cB cC cI cJ cZ oA rA σ_63, b_t cB cC cI cJ cZ oA rA σ_63, b_d cB cC cI cJ cZ oA rA σ_63]) (ws' := (b_m cB cC cI cJ cZ oA rA σ_63 ++ b_w cB cC cI cJ cZ oA rA σ_63 ++ b_s cB cC cI cJ cZ oA rA σ_63 ++ b_c cB cC cI cJ cZ oA rA σ_63 ++ b_t cB cC cI cJ cZ oA rA σ_63 ++ b_d cB cC cI cJ cZ oA rA σ_63)) hP fl_6 fl_6 [0, 1, 2, 3, 4, 5] rfl
          have hDc := bx_D (bs := [b_m cB cC cI cJ cZ oA rA σ_63, b_w cB cC cI cJ cZ oA rA σ_63, b_s cB cC cI cJ cZ oA rA σ_63, b_c cB cC cI cJ cZ oA rA σ_63, b_t cB cC cI cJ cZ oA rA σ_63, b_d cB cC cI cJ cZ oA rA σ_63]) (bs' := [b_m cB cC cI cJ cZ oA rA σ_63, b_w cB cC cI cJ cZ oA rA σ_63, b_s cB cC cI cJ cZ oA rA σ_63, b_c cB cC cI cJ cZ oA rA σ_63, b_t cB cC cI cJ cZ oA rA σ_63, b_d cB cC cI cJ cZ oA rA σ_63]) (ws' := (b_m cB cC cI cJ cZ oA rA σ_63 ++ b_w cB cC cI cJ cZ oA rA σ_63 ++ b_s cB cC cI cJ cZ oA rA σ_63 ++ b_c cB cC cI cJ cZ oA rA σ_63 ++ b_t cB cC cI cJ cZ oA rA σ_63 ++ b_d cB cC cI cJ cZ oA rA σ_63)) (hDD σ_63) fl_6 fl_6 [0, 1, 2, 3, 4, 5] (by decide +kernel) rfl
          have hFc := bx_F (bs := [b_m cB cC cI cJ cZ oA rA σ_63, b_w cB cC cI cJ cZ oA rA σ_63, b_s cB cC cI cJ cZ oA rA σ_63, b_c cB cC cI cJ cZ oA rA σ_63, b_t cB cC cI cJ cZ oA rA σ_63, b_d cB cC cI cJ cZ oA rA σ_63]) (bs' := [b_m cB cC cI cJ cZ oA rA σ_63, b_w cB cC cI cJ cZ oA rA σ_63, b_s cB cC cI cJ cZ oA rA σ_63, b_c cB cC cI cJ cZ oA rA σ_63, b_t cB cC cI cJ cZ oA rA σ_63, b_d cB cC cI cJ cZ oA rA σ_63]) (wc := (b_m cB cC cI cJ cZ oA rA σ_63 ++ b_w cB cC cI cJ cZ oA rA σ_63 ++ b_s cB cC cI cJ cZ oA rA σ_63 ++ b_c cB cC cI cJ cZ oA rA σ_63 ++ b_t cB cC cI cJ cZ oA rA σ_63 ++ b_d cB cC cI cJ cZ oA rA σ_63)) (hDD σ_63) hS hA fl_6 fl_6 [0, 1, 2, 3, 4, 5] rfl
          refine g_ofv (wc := (b_m cB cC cI cJ cZ oA rA σ_63 ++ b_w cB cC cI cJ cZ oA rA σ_63 ++ b_s cB cC cI cJ cZ oA rA σ_63 ++ b_c cB cC cI cJ cZ oA rA σ_63 ++ b_t cB cC cI cJ cZ oA rA σ_63 ++ b_d cB cC cI cJ cZ oA rA σ_63)) (wr := ([] : va_W)) hP (hDD σ_63) hS hFc (bx_ix [b_m cB cC cI cJ cZ oA rA σ_63, b_w cB cC cI cJ cZ oA rA σ_63, b_s cB cC cI cJ cZ oA rA σ_63, b_c cB cC cI cJ cZ oA rA σ_63, b_t cB cC cI cJ cZ oA rA σ_63, b_d cB cC cI cJ cZ oA rA σ_63] [0, 1, 2, 3, 4, 5]) (bx_ix [b_m cB cC cI cJ cZ oA rA σ_63, b_w cB cC cI cJ cZ oA rA σ_63, b_s cB cC cI cJ cZ oA rA σ_63, b_c cB cC cI cJ cZ oA rA σ_63, b_t cB cC cI cJ cZ oA rA σ_63, b_d cB cC cI cJ cZ oA rA σ_63] []) (bx_C (bs := [b_m cB cC cI cJ cZ oA rA σ_63, b_w cB cC cI cJ cZ oA rA σ_63, b_s cB cC cI cJ cZ oA rA σ_63, b_c cB cC cI cJ cZ oA rA σ_63, b_t cB cC cI cJ cZ oA rA σ_63, b_d cB cC cI cJ cZ oA rA σ_63]) (bs' := [b_m cB cC cI cJ cZ oA rA σ_63, b_w cB cC cI cJ cZ oA rA σ_63, b_s cB cC cI cJ cZ oA rA σ_63, b_c cB cC cI cJ cZ oA rA σ_63, b_t cB cC cI cJ cZ oA rA σ_63, b_d cB cC cI cJ cZ oA rA σ_63]) (is := [0, 1, 2, 3, 4, 5]) fl_6 fl_6 rfl) (bx_C (bs := [b_m cB cC cI cJ cZ oA rA σ_63, b_w cB cC cI cJ cZ oA rA σ_63, b_s cB cC cI cJ cZ oA rA σ_63, b_c cB cC cI cJ cZ oA rA σ_63, b_t cB cC cI cJ cZ oA rA σ_63, b_d cB cC cI cJ cZ oA rA σ_63]) (bs' := []) (is := []) fl_6 fl_0 rfl) (bx_n (by decide +kernel)) (bx_d (by decide +kernel)) (va_runV (As := [.int s_19.1]) (rest := []) ⟨hx, hb, hml, hown, hts⟩ (k_X4_itemWord l dC dI cB cC cI cJ cZ cP oA rA H.size  s_19.1 σ_63 _ hu_67) (cwV 1 hts (g_gV wq_772 wq_773 wq_2052 wq_4 wq_774) rfl rfl rfl (by decide +kernel) ⟨Nat.le_of_ble_eq_true rfl, Nat.le_of_ble_eq_true rfl⟩) (g_preV g_bl0 hK hPc hDc hS hE hFc g_to0 (q0 := 0) (ci := 4) rfl rfl) rfl rfl hl.1 rfl (lv_room (Nat.le_of_ble_eq_true rfl)) dX4_giveAll_107 ⟨Nat.le_of_ble_eq_true rfl, Nat.le_of_ble_eq_true rfl⟩) (fun u9 H locs hw9 hP' hD' hS => ?_)
          clear hPc hDc hFc
          have hP : va_P (dC, dI) vwCl (b_m cB cC cI cJ cZ oA rA u_67.2 ++ b_w cB cC cI cJ cZ oA rA u_67.2 ++ b_s cB cC cI cJ cZ oA rA u_67.2 ++ b_c cB cC cI cJ cZ oA rA u_67.2 ++ b_t cB cC cI cJ cZ oA rA u_67.2 ++ b_d cB cC cI cJ cZ oA rA u_67.2) H := hP'
          clear hP' hD'
          exact Jj_56  u_67.2 hF_68 _ _ hP hS ls (lv_sub hl [0, 1] rfl)
        refine lv_if_eq (tgt := 105) hx hb dX4_giveAll_87 (by decide) (fun c_69 => ?_) (fun c_69 => ?_)
        · have hF_70 := ipos c_69 hF_65
          clear hF_65
          exact Jj_64  s_19.2 hF_70 _ _ hP hS ls (lv_sub hl [0, 1] rfl)
        · have hF_71 := ineg c_69 hF_65
          clear hF_65
          refine lv_aload_n hx hb dX4_giveAll_90 rfl (lv_at hl 0 rfl) ?_
          refine va_get (D := (dC, dI)) (ci := 4) (v := .int ((s_19.2 3).1 11)) (C := RX4) (T := TX4) (N := 18) hx hb hts ii_X4 hown hK hP 0 rfl rfl 11 (by decide) (hts (.fieldLink RX4 66 "StoryHouse$Meanings" "depth" "I") wq_97) (fun _ h9 => h9) rfl dX4_giveAll_91 ?_
          refine lv_if_le (tgt := 105) hx hb dX4_giveAll_94 (by decide) (fun c_72 => ?_) (fun c_72 => ?_)
          · have hF_73 := ipos c_72 hF_71
            clear hF_71
            exact Jj_64  s_19.2 hF_73 _ _ hP hS ls (lv_sub hl [0, 1] rfl)
          · have hF_74 := ineg c_72 hF_71
            clear hF_71
            refine lv_aload_n hx hb dX4_giveAll_97 rfl (lv_at hl 0 rfl) ?_
            refine lv_iload_n hx hb dX4_giveAll_98 rfl (lv_at hl 1 rfl) ?_
            obtain ⟨u_75, hu_75, hF_76⟩ := Option.bind_eq_some_iff.mp hF_74
            clear hF_74
            have hPc := bx_P (bs := [b_m cB cC cI cJ cZ oA rA s_19.2, b_w cB cC cI cJ cZ oA rA s_19.2, b_s cB cC cI cJ cZ oA rA s_19.2, b_c cB cC cI cJ cZ oA rA s_19.2, b_t cB cC cI cJ cZ oA rA s_19.2, b_d cB cC cI cJ cZ oA rA s_19.2]) (bs' := [b_m cB cC cI cJ cZ oA rA s_19.2, b_w cB cC cI cJ cZ oA rA s_19.2, b_s cB cC cI cJ cZ oA rA s_19.2, b_c cB cC cI cJ cZ oA rA s_19.2, b_t cB cC cI cJ cZ oA rA s_19.2, b_d cB cC cI cJ cZ oA rA s_19.2]) (ws' := (b_m cB cC cI cJ cZ oA rA s_19.2 ++ b_w cB cC cI cJ cZ oA rA s_19.2 ++ b_s cB cC cI cJ cZ oA rA s_19.2 ++ b_c cB cC cI cJ cZ oA rA s_19.2 ++ b_t cB cC cI cJ cZ oA rA s_19.2 ++ b_d cB cC cI cJ cZ oA rA s_19.2)) hP fl_6 fl_6 [0, 1, 2, 3, 4, 5] rfl
            have hDc := bx_D (bs := [b_m cB cC cI cJ cZ oA rA s_19.2, b_w cB cC cI cJ cZ oA rA s_19.2, b_s cB cC cI cJ cZ oA rA s_19.2, b_c cB cC cI cJ cZ oA rA s_19.2, b_t cB cC cI cJ cZ oA rA s_19.2, b_d cB cC cI cJ cZ oA rA s_19.2]) (bs' := [b_m cB cC cI cJ cZ oA rA s_19.2, b_w cB cC cI cJ cZ oA rA s_19.2, b_s cB cC cI cJ cZ oA rA s_19.2, b_c cB cC cI cJ cZ oA rA s_19.2, b_t cB cC cI cJ cZ oA rA s_19.2, b_d cB cC cI cJ cZ oA rA s_19.2]) (ws' := (b_m cB cC cI cJ cZ oA rA s_19.2 ++ b_w cB cC cI cJ cZ oA rA s_19.2 ++ b_s cB cC cI cJ cZ oA rA s_19.2 ++ b_c cB cC cI cJ cZ oA rA s_19.2 ++ b_t cB cC cI cJ cZ oA rA s_19.2 ++ b_d cB cC cI cJ cZ oA rA s_19.2)) (hDD s_19.2) fl_6 fl_6 [0, 1, 2, 3, 4, 5] (by decide +kernel) rfl
            have hFc := bx_F (bs := [b_m cB cC cI cJ cZ oA rA s_19.2, b_w cB cC cI cJ cZ oA rA s_19.2, b_s cB cC cI cJ cZ oA rA s_19.2, b_c cB cC cI cJ cZ oA rA s_19.2, b_t cB cC cI cJ cZ oA rA s_19.2, b_d cB cC cI cJ cZ oA rA s_19.2]) (bs' := [b_m cB cC cI cJ cZ oA rA s_19.2, b_w cB cC cI cJ cZ oA rA s_19.2, b_s cB cC cI cJ cZ oA rA s_19.2, b_c cB cC cI cJ cZ oA rA s_19.2, b_t cB cC cI cJ cZ oA rA s_19.2, b_d cB cC cI cJ cZ oA rA s_19.2]) (wc := (b_m cB cC cI cJ cZ oA rA s_19.2 ++ b_w cB cC cI cJ cZ oA rA s_19.2 ++ b_s cB cC cI cJ cZ oA rA s_19.2 ++ b_c cB cC cI cJ cZ oA rA s_19.2 ++ b_t cB cC cI cJ cZ oA rA s_19.2 ++ b_d cB cC cI cJ cZ oA rA s_19.2)) (hDD s_19.2) hS hA fl_6 fl_6 [0, 1, 2, 3, 4, 5] rfl
            refine g_ofv (wc := (b_m cB cC cI cJ cZ oA rA s_19.2 ++ b_w cB cC cI cJ cZ oA rA s_19.2 ++ b_s cB cC cI cJ cZ oA rA s_19.2 ++ b_c cB cC cI cJ cZ oA rA s_19.2 ++ b_t cB cC cI cJ cZ oA rA s_19.2 ++ b_d cB cC cI cJ cZ oA rA s_19.2)) (wr := ([] : va_W)) hP (hDD s_19.2) hS hFc (bx_ix [b_m cB cC cI cJ cZ oA rA s_19.2, b_w cB cC cI cJ cZ oA rA s_19.2, b_s cB cC cI cJ cZ oA rA s_19.2, b_c cB cC cI cJ cZ oA rA s_19.2, b_t cB cC cI cJ cZ oA rA s_19.2, b_d cB cC cI cJ cZ oA rA s_19.2] [0, 1, 2, 3, 4, 5]) (bx_ix [b_m cB cC cI cJ cZ oA rA s_19.2, b_w cB cC cI cJ cZ oA rA s_19.2, b_s cB cC cI cJ cZ oA rA s_19.2, b_c cB cC cI cJ cZ oA rA s_19.2, b_t cB cC cI cJ cZ oA rA s_19.2, b_d cB cC cI cJ cZ oA rA s_19.2] []) (bx_C (bs := [b_m cB cC cI cJ cZ oA rA s_19.2, b_w cB cC cI cJ cZ oA rA s_19.2, b_s cB cC cI cJ cZ oA rA s_19.2, b_c cB cC cI cJ cZ oA rA s_19.2, b_t cB cC cI cJ cZ oA rA s_19.2, b_d cB cC cI cJ cZ oA rA s_19.2]) (bs' := [b_m cB cC cI cJ cZ oA rA s_19.2, b_w cB cC cI cJ cZ oA rA s_19.2, b_s cB cC cI cJ cZ oA rA s_19.2, b_c cB cC cI cJ cZ oA rA s_19.2, b_t cB cC cI cJ cZ oA rA s_19.2, b_d cB cC cI cJ cZ oA rA s_19.2]) (is := [0, 1, 2, 3, 4, 5]) fl_6 fl_6 rfl) (bx_C (bs := [b_m cB cC cI cJ cZ oA rA s_19.2, b_w cB cC cI cJ cZ oA rA s_19.2, b_s cB cC cI cJ cZ oA rA s_19.2, b_c cB cC cI cJ cZ oA rA s_19.2, b_t cB cC cI cJ cZ oA rA s_19.2, b_d cB cC cI cJ cZ oA rA s_19.2]) (bs' := []) (is := []) fl_6 fl_0 rfl) (bx_n (by decide +kernel)) (bx_d (by decide +kernel)) (va_runV (As := [.int s_19.1]) (rest := []) ⟨hx, hb, hml, hown, hts⟩ (k_X4_bodyWord l dC dI cB cC cI cJ cZ cP oA rA H.size  s_19.1 s_19.2 _ hu_75) (cwV 1 hts (g_gV wq_759 wq_760 wq_2048 wq_4 wq_761) rfl rfl rfl (by decide +kernel) ⟨Nat.le_of_ble_eq_true rfl, Nat.le_of_ble_eq_true rfl⟩) (g_preV g_bl0 hK hPc hDc hS hE hFc g_to0 (q0 := 0) (ci := 4) rfl rfl) rfl rfl hl.1 rfl (lv_room (Nat.le_of_ble_eq_true rfl)) dX4_giveAll_99 ⟨Nat.le_of_ble_eq_true rfl, Nat.le_of_ble_eq_true rfl⟩) (fun u9 H locs hw9 hP' hD' hS => ?_)
            clear hPc hDc hFc
            have hP : va_P (dC, dI) vwCl (b_m cB cC cI cJ cZ oA rA u_75.2 ++ b_w cB cC cI cJ cZ oA rA u_75.2 ++ b_s cB cC cI cJ cZ oA rA u_75.2 ++ b_c cB cC cI cJ cZ oA rA u_75.2 ++ b_t cB cC cI cJ cZ oA rA u_75.2 ++ b_d cB cC cI cJ cZ oA rA u_75.2) H := hP'
            clear hP' hD'
            refine lv_goto (tgt := 110) hx hb dX4_giveAll_102 (by decide) ?_
            exact Jj_56  u_75.2 hF_76 _ _ hP hS ls (lv_sub hl [0, 1] rfl)
  refine lv_icmp_ge (tgt := 59) hx hb dX4_giveAll_33 (by decide) (fun c_78 => ?_) (fun c_78 => ?_)
  · have hF_79 := ipos c_78 hF_15
    clear hF_15
    exact Jj_14  s_9.2 hF_79 _ _ hP hS ls (lv_sub hl [0] rfl)
  · have hF_80 := ineg c_78 hF_15
    clear hF_15
    refine lv_aload_n hx hb dX4_giveAll_36 rfl (lv_at hl 0 rfl) ?_
    refine va_get (D := (dC, dI)) (ci := 4) (v := .int ((s_9.2 3).1 16)) (C := RX4) (T := TX4) (N := 18) hx hb hts ii_X4 hown hK hP 0 rfl rfl 16 (by decide) (hts (.fieldLink RX4 40 "StoryHouse$Meanings" "fault" "I") wq_102) (fun _ h9 => h9) rfl dX4_giveAll_37 ?_
    refine lv_if_ne (tgt := 59) hx hb dX4_giveAll_40 (by decide) (fun c_81 => ?_) (fun c_81 => ?_)
    · have hF_89 := ineg c_81 hF_80
      clear hF_80
      exact Jj_14  s_9.2 hF_89 _ _ hP hS ls (lv_sub hl [0] rfl)
    · have hF_82 := ipos c_81 hF_80
      clear hF_80
      refine lv_aload_n hx hb dX4_giveAll_43 rfl (lv_at hl 0 rfl) ?_
      refine lv_iload_n hx hb dX4_giveAll_44 rfl (lv_at hl 1 rfl) ?_
      obtain ⟨u_83, hu_83, hF_84⟩ := Option.bind_eq_some_iff.mp hF_82
      clear hF_82
      have hPc := bx_P (bs := [b_m cB cC cI cJ cZ oA rA s_9.2, b_w cB cC cI cJ cZ oA rA s_9.2, b_s cB cC cI cJ cZ oA rA s_9.2, b_c cB cC cI cJ cZ oA rA s_9.2, b_t cB cC cI cJ cZ oA rA s_9.2, b_d cB cC cI cJ cZ oA rA s_9.2]) (bs' := [b_m cB cC cI cJ cZ oA rA s_9.2, b_w cB cC cI cJ cZ oA rA s_9.2, b_s cB cC cI cJ cZ oA rA s_9.2, b_c cB cC cI cJ cZ oA rA s_9.2, b_t cB cC cI cJ cZ oA rA s_9.2, b_d cB cC cI cJ cZ oA rA s_9.2]) (ws' := (b_m cB cC cI cJ cZ oA rA s_9.2 ++ b_w cB cC cI cJ cZ oA rA s_9.2 ++ b_s cB cC cI cJ cZ oA rA s_9.2 ++ b_c cB cC cI cJ cZ oA rA s_9.2 ++ b_t cB cC cI cJ cZ oA rA s_9.2 ++ b_d cB cC cI cJ cZ oA rA s_9.2)) hP fl_6 fl_6 [0, 1, 2, 3, 4, 5] rfl
      have hDc := bx_D (bs := [b_m cB cC cI cJ cZ oA rA s_9.2, b_w cB cC cI cJ cZ oA rA s_9.2, b_s cB cC cI cJ cZ oA rA s_9.2, b_c cB cC cI cJ cZ oA rA s_9.2, b_t cB cC cI cJ cZ oA rA s_9.2, b_d cB cC cI cJ cZ oA rA s_9.2]) (bs' := [b_m cB cC cI cJ cZ oA rA s_9.2, b_w cB cC cI cJ cZ oA rA s_9.2, b_s cB cC cI cJ cZ oA rA s_9.2, b_c cB cC cI cJ cZ oA rA s_9.2, b_t cB cC cI cJ cZ oA rA s_9.2, b_d cB cC cI cJ cZ oA rA s_9.2]) (ws' := (b_m cB cC cI cJ cZ oA rA s_9.2 ++ b_w cB cC cI cJ cZ oA rA s_9.2 ++ b_s cB cC cI cJ cZ oA rA s_9.2 ++ b_c cB cC cI cJ cZ oA rA s_9.2 ++ b_t cB cC cI cJ cZ oA rA s_9.2 ++ b_d cB cC cI cJ cZ oA rA s_9.2)) (hDD s_9.2) fl_6 fl_6 [0, 1, 2, 3, 4, 5] (by decide +kernel) rfl
      have hFc := bx_F (bs := [b_m cB cC cI cJ cZ oA rA s_9.2, b_w cB cC cI cJ cZ oA rA s_9.2, b_s cB cC cI cJ cZ oA rA s_9.2, b_c cB cC cI cJ cZ oA rA s_9.2, b_t cB cC cI cJ cZ oA rA s_9.2, b_d cB cC cI cJ cZ oA rA s_9.2]) (bs' := [b_m cB cC cI cJ cZ oA rA s_9.2, b_w cB cC cI cJ cZ oA rA s_9.2, b_s cB cC cI cJ cZ oA rA s_9.2, b_c cB cC cI cJ cZ oA rA s_9.2, b_t cB cC cI cJ cZ oA rA s_9.2, b_d cB cC cI cJ cZ oA rA s_9.2]) (wc := (b_m cB cC cI cJ cZ oA rA s_9.2 ++ b_w cB cC cI cJ cZ oA rA s_9.2 ++ b_s cB cC cI cJ cZ oA rA s_9.2 ++ b_c cB cC cI cJ cZ oA rA s_9.2 ++ b_t cB cC cI cJ cZ oA rA s_9.2 ++ b_d cB cC cI cJ cZ oA rA s_9.2)) (hDD s_9.2) hS hA fl_6 fl_6 [0, 1, 2, 3, 4, 5] rfl
      refine g_ofv (wc := (b_m cB cC cI cJ cZ oA rA s_9.2 ++ b_w cB cC cI cJ cZ oA rA s_9.2 ++ b_s cB cC cI cJ cZ oA rA s_9.2 ++ b_c cB cC cI cJ cZ oA rA s_9.2 ++ b_t cB cC cI cJ cZ oA rA s_9.2 ++ b_d cB cC cI cJ cZ oA rA s_9.2)) (wr := ([] : va_W)) hP (hDD s_9.2) hS hFc (bx_ix [b_m cB cC cI cJ cZ oA rA s_9.2, b_w cB cC cI cJ cZ oA rA s_9.2, b_s cB cC cI cJ cZ oA rA s_9.2, b_c cB cC cI cJ cZ oA rA s_9.2, b_t cB cC cI cJ cZ oA rA s_9.2, b_d cB cC cI cJ cZ oA rA s_9.2] [0, 1, 2, 3, 4, 5]) (bx_ix [b_m cB cC cI cJ cZ oA rA s_9.2, b_w cB cC cI cJ cZ oA rA s_9.2, b_s cB cC cI cJ cZ oA rA s_9.2, b_c cB cC cI cJ cZ oA rA s_9.2, b_t cB cC cI cJ cZ oA rA s_9.2, b_d cB cC cI cJ cZ oA rA s_9.2] []) (bx_C (bs := [b_m cB cC cI cJ cZ oA rA s_9.2, b_w cB cC cI cJ cZ oA rA s_9.2, b_s cB cC cI cJ cZ oA rA s_9.2, b_c cB cC cI cJ cZ oA rA s_9.2, b_t cB cC cI cJ cZ oA rA s_9.2, b_d cB cC cI cJ cZ oA rA s_9.2]) (bs' := [b_m cB cC cI cJ cZ oA rA s_9.2, b_w cB cC cI cJ cZ oA rA s_9.2, b_s cB cC cI cJ cZ oA rA s_9.2, b_c cB cC cI cJ cZ oA rA s_9.2, b_t cB cC cI cJ cZ oA rA s_9.2, b_d cB cC cI cJ cZ oA rA s_9.2]) (is := [0, 1, 2, 3, 4, 5]) fl_6 fl_6 rfl) (bx_C (bs := [b_m cB cC cI cJ cZ oA rA s_9.2, b_w cB cC cI cJ cZ oA rA s_9.2, b_s cB cC cI cJ cZ oA rA s_9.2, b_c cB cC cI cJ cZ oA rA s_9.2, b_t cB cC cI cJ cZ oA rA s_9.2, b_d cB cC cI cJ cZ oA rA s_9.2]) (bs' := []) (is := []) fl_6 fl_0 rfl) (bx_n (by decide +kernel)) (bx_d (by decide +kernel)) (va_runV (As := [.int s_9.1]) (rest := []) ⟨hx, hb, hml, hown, hts⟩ (k_X4_tellWord l dC dI cB cC cI cJ cZ cP oA rA H.size  s_9.1 s_9.2 _ hu_83) (cwV 1 hts (g_gV wq_719 wq_720 wq_2035 wq_4 wq_721) rfl rfl rfl (by decide +kernel) ⟨Nat.le_of_ble_eq_true rfl, Nat.le_of_ble_eq_true rfl⟩) (g_preV g_bl0 hK hPc hDc hS hE hFc g_to0 (q0 := 0) (ci := 4) rfl rfl) rfl rfl hl.1 rfl (lv_room (Nat.le_of_ble_eq_true rfl)) dX4_giveAll_45 ⟨Nat.le_of_ble_eq_true rfl, Nat.le_of_ble_eq_true rfl⟩) (fun u9 H locs hw9 hP' hD' hS => ?_)
      clear hPc hDc hFc
      have hP : va_P (dC, dI) vwCl (b_m cB cC cI cJ cZ oA rA u_83.2 ++ b_w cB cC cI cJ cZ oA rA u_83.2 ++ b_s cB cC cI cJ cZ oA rA u_83.2 ++ b_c cB cC cI cJ cZ oA rA u_83.2 ++ b_t cB cC cI cJ cZ oA rA u_83.2 ++ b_d cB cC cI cJ cZ oA rA u_83.2) H := hP'
      clear hP' hD'
      refine lv_aload_n hx hb dX4_giveAll_48 rfl (lv_at hl 0 rfl) ?_
      refine lv_iload_n hx hb dX4_giveAll_49 rfl (lv_at hl 1 rfl) ?_
      obtain ⟨u_85, hu_85, hF_86⟩ := Option.bind_eq_some_iff.mp hF_84
      clear hF_84
      have hPc := bx_P (bs := [b_m cB cC cI cJ cZ oA rA u_83.2, b_w cB cC cI cJ cZ oA rA u_83.2, b_s cB cC cI cJ cZ oA rA u_83.2, b_c cB cC cI cJ cZ oA rA u_83.2, b_t cB cC cI cJ cZ oA rA u_83.2, b_d cB cC cI cJ cZ oA rA u_83.2]) (bs' := [b_m cB cC cI cJ cZ oA rA u_83.2, b_w cB cC cI cJ cZ oA rA u_83.2, b_s cB cC cI cJ cZ oA rA u_83.2, b_c cB cC cI cJ cZ oA rA u_83.2, b_t cB cC cI cJ cZ oA rA u_83.2, b_d cB cC cI cJ cZ oA rA u_83.2]) (ws' := (b_m cB cC cI cJ cZ oA rA u_83.2 ++ b_w cB cC cI cJ cZ oA rA u_83.2 ++ b_s cB cC cI cJ cZ oA rA u_83.2 ++ b_c cB cC cI cJ cZ oA rA u_83.2 ++ b_t cB cC cI cJ cZ oA rA u_83.2 ++ b_d cB cC cI cJ cZ oA rA u_83.2)) hP fl_6 fl_6 [0, 1, 2, 3, 4, 5] rfl
      have hDc := bx_D (bs := [b_m cB cC cI cJ cZ oA rA u_83.2, b_w cB cC cI cJ cZ oA rA u_83.2, b_s cB cC cI cJ cZ oA rA u_83.2, b_c cB cC cI cJ cZ oA rA u_83.2, b_t cB cC cI cJ cZ oA rA u_83.2, b_d cB cC cI cJ cZ oA rA u_83.2]) (bs' := [b_m cB cC cI cJ cZ oA rA u_83.2, b_w cB cC cI cJ cZ oA rA u_83.2, b_s cB cC cI cJ cZ oA rA u_83.2, b_c cB cC cI cJ cZ oA rA u_83.2, b_t cB cC cI cJ cZ oA rA u_83.2, b_d cB cC cI cJ cZ oA rA u_83.2]) (ws' := (b_m cB cC cI cJ cZ oA rA u_83.2 ++ b_w cB cC cI cJ cZ oA rA u_83.2 ++ b_s cB cC cI cJ cZ oA rA u_83.2 ++ b_c cB cC cI cJ cZ oA rA u_83.2 ++ b_t cB cC cI cJ cZ oA rA u_83.2 ++ b_d cB cC cI cJ cZ oA rA u_83.2)) (hDD u_83.2) fl_6 fl_6 [0, 1, 2, 3, 4, 5] (by decide +kernel) rfl
      have hFc := bx_F (bs := [b_m cB cC cI cJ cZ oA rA u_83.2, b_w cB cC cI cJ cZ oA rA u_83.2, b_s cB cC cI cJ cZ oA rA u_83.2, b_c cB cC cI cJ cZ oA rA u_83.2, b_t cB cC cI cJ cZ oA rA u_83.2, b_d cB cC cI cJ cZ oA rA u_83.2]) (bs' := [b_m cB cC cI cJ cZ oA rA u_83.2, b_w cB cC cI cJ cZ oA rA u_83.2, b_s cB cC cI cJ cZ oA rA u_83.2, b_c cB cC cI cJ cZ oA rA u_83.2, b_t cB cC cI cJ cZ oA rA u_83.2, b_d cB cC cI cJ cZ oA rA u_83.2]) (wc := (b_m cB cC cI cJ cZ oA rA u_83.2 ++ b_w cB cC cI cJ cZ oA rA u_83.2 ++ b_s cB cC cI cJ cZ oA rA u_83.2 ++ b_c cB cC cI cJ cZ oA rA u_83.2 ++ b_t cB cC cI cJ cZ oA rA u_83.2 ++ b_d cB cC cI cJ cZ oA rA u_83.2)) (hDD u_83.2) hS hA fl_6 fl_6 [0, 1, 2, 3, 4, 5] rfl
      refine g_ofv (wc := (b_m cB cC cI cJ cZ oA rA u_83.2 ++ b_w cB cC cI cJ cZ oA rA u_83.2 ++ b_s cB cC cI cJ cZ oA rA u_83.2 ++ b_c cB cC cI cJ cZ oA rA u_83.2 ++ b_t cB cC cI cJ cZ oA rA u_83.2 ++ b_d cB cC cI cJ cZ oA rA u_83.2)) (wr := ([] : va_W)) hP (hDD u_83.2) hS hFc (bx_ix [b_m cB cC cI cJ cZ oA rA u_83.2, b_w cB cC cI cJ cZ oA rA u_83.2, b_s cB cC cI cJ cZ oA rA u_83.2, b_c cB cC cI cJ cZ oA rA u_83.2, b_t cB cC cI cJ cZ oA rA u_83.2, b_d cB cC cI cJ cZ oA rA u_83.2] [0, 1, 2, 3, 4, 5]) (bx_ix [b_m cB cC cI cJ cZ oA rA u_83.2, b_w cB cC cI cJ cZ oA rA u_83.2, b_s cB cC cI cJ cZ oA rA u_83.2, b_c cB cC cI cJ cZ oA rA u_83.2, b_t cB cC cI cJ cZ oA rA u_83.2, b_d cB cC cI cJ cZ oA rA u_83.2] []) (bx_C (bs := [b_m cB cC cI cJ cZ oA rA u_83.2, b_w cB cC cI cJ cZ oA rA u_83.2, b_s cB cC cI cJ cZ oA rA u_83.2, b_c cB cC cI cJ cZ oA rA u_83.2, b_t cB cC cI cJ cZ oA rA u_83.2, b_d cB cC cI cJ cZ oA rA u_83.2]) (bs' := [b_m cB cC cI cJ cZ oA rA u_83.2, b_w cB cC cI cJ cZ oA rA u_83.2, b_s cB cC cI cJ cZ oA rA u_83.2, b_c cB cC cI cJ cZ oA rA u_83.2, b_t cB cC cI cJ cZ oA rA u_83.2, b_d cB cC cI cJ cZ oA rA u_83.2]) (is := [0, 1, 2, 3, 4, 5]) fl_6 fl_6 rfl) (bx_C (bs := [b_m cB cC cI cJ cZ oA rA u_83.2, b_w cB cC cI cJ cZ oA rA u_83.2, b_s cB cC cI cJ cZ oA rA u_83.2, b_c cB cC cI cJ cZ oA rA u_83.2, b_t cB cC cI cJ cZ oA rA u_83.2, b_d cB cC cI cJ cZ oA rA u_83.2]) (bs' := []) (is := []) fl_6 fl_0 rfl) (bx_n (by decide +kernel)) (bx_d (by decide +kernel)) (va_runV (As := [.int s_9.1]) (rest := []) ⟨hx, hb, hml, hown, hts⟩ (k_X4_followScope l dC dI cB cC cI cJ cZ cP oA rA H.size  s_9.1 u_83.2 _ hu_85) (cwV 1 hts (g_gV wq_753 wq_754 wq_2046 wq_4 wq_755) rfl rfl rfl (by decide +kernel) ⟨Nat.le_of_ble_eq_true rfl, Nat.le_of_ble_eq_true rfl⟩) (g_preV g_bl0 hK hPc hDc hS hE hFc g_to0 (q0 := 0) (ci := 4) rfl rfl) rfl rfl hl.1 rfl (lv_room (Nat.le_of_ble_eq_true rfl)) dX4_giveAll_50 ⟨Nat.le_of_ble_eq_true rfl, Nat.le_of_ble_eq_true rfl⟩) (fun u9 H locs hw9 hP' hD' hS => ?_)
      clear hPc hDc hFc
      have hP : va_P (dC, dI) vwCl (b_m cB cC cI cJ cZ oA rA u_85.2 ++ b_w cB cC cI cJ cZ oA rA u_85.2 ++ b_s cB cC cI cJ cZ oA rA u_85.2 ++ b_c cB cC cI cJ cZ oA rA u_85.2 ++ b_t cB cC cI cJ cZ oA rA u_85.2 ++ b_d cB cC cI cJ cZ oA rA u_85.2) H := hP'
      clear hP' hD'
      obtain ⟨x_87, ex_87, hF_88⟩ := bnd_e hF_86
      clear hF_86
      refine lv_iinc (v := x_87) (lv' := [(2, .int x_87), (0, .ref (oA 3))]) hx hb dX4_giveAll_53 hl (k := 1) rfl (by rw [ex_87]; rfl) (by decide) rfl (fun ls hl => ?_)
      refine lv_goto (tgt := 25) hx hb dX4_giveAll_56 (by decide) ?_
      exact ih_11 (x_87, u_85.2) hF_88 _ _ hP hS ls (lv_sub hl [1, 0] rfl)
theorem dX5_wipe_0 : decode cX5_wipe 0 = .ok (.aload_n 0, 1) := by decide +kernel
theorem dX5_wipe_1 : decode cX5_wipe 1 = .ok (.iconst 0, 1) := by decide +kernel
theorem dX5_wipe_2 : decode cX5_wipe 2 = .ok (.putfield 15, 3) := by decide +kernel
theorem dX5_wipe_5 : decode cX5_wipe 5 = .ok (.return_, 1) := by decide +kernel
def F_X5_wipe  (Γ : HS) : HR :=
  bnd (cI' Γ 8 1 0) fun σ_1 =>
  some (0, σ_1)
set_option maxHeartbeats 4000000 in
set_option maxRecDepth 100000 in
theorem k_X5_wipe (l : Launch) (dC : Nat → ClassId) (dI : Nat → Nat → Nat) (cB cC cI cJ cZ cP : ClassId) (oA : Nat → Nat) (rA : Nat → Nat → Nat) (sz : Nat)   (Γ : HS) (res : Int32 × HS) (hF : F_X5_wipe  Γ = some res) : Met l yX5_wipe (g_ws yX5_wipe cX5_wipe 1 none) ({ frames := 1, cells := 0, slots := 0, locals := 40 }) (va_Pc [.ref (oA 8)] (g_B (dC, dI) [(cB, .byte), (cC, .char), (cI, .int), (cJ, .long), (cZ, .boolean), (cP, .object "StoryHouse$Play")] sz (b_o cB cC cI cJ cZ oA rA Γ) g_0)) (va_Qv (fun (_ : Unit) => True) (g_Bo (dC, dI) (va_A (b_o cB cC cI cJ cZ oA rA Γ) sz) (fun (_ : Unit) => (b_o cB cC cI cJ cZ oA rA res.2))) (va_A (b_o cB cC cI cJ cZ oA rA Γ) sz)) 0 0 (va_A (b_o cB cC cI cJ cZ oA rA Γ) sz) := by
  refine Met.ofW (cc := cX5_wipe) (maxL := 1) (ret := none) (by decide) rfl ?_
  intro p e s m args below meth c s₁ B hml hv
  obtain ⟨rfl, hsz, hP, hK, hD0, hE, hX⟩ := hv
  have hx := B.exec
  have hb := B.bytes
  have hr := B.returns
  have hts0 := atoms_spec (ws := g_ws yX5_wipe cX5_wipe 1 none) B.pre
  have hts : ∀ w ∈ lw_good, w.before ([.ref (oA 8)] : List Value).toArray s = true := fun w z => hts0 w (List.mem_cons_of_mem _ z)
  have hown : s.vm.findClass RX5 = some m.cls := findClass_of_methodNamed B.named
  have hlocks := B.notSynchronized
  subst hsz
  have hD1 := hD0.self (sz := s.heap.size)
  generalize hAe : va_A (b_o cB cC cI cJ cZ oA rA Γ) s.heap.size = A at hD1 hE hX ⊢
  have hA : ∀ q : Nat, s.heap.size ≤ q → A q := fun q z => by rw [← hAe]; exact Or.inr z
  have hDD : ∀ Γ : HS, va_D A (b_o cB cC cI cJ cZ oA rA Γ) := fun Γ9 => va_D_fst (ws := (b_o cB cC cI cJ cZ oA rA Γ)) (ws' := (b_o cB cC cI cJ cZ oA rA Γ9)) rfl hD1
  have hN := hE.1
  have hS : va_S A s.heap s.heap [] := va_S.rf
  have hl := lv_entry ([.ref (oA 8)]) (n := 1) (Nat.le_of_ble_eq_true rfl)
  rw [lg_entry_eq]
  generalize (lg_sl ([.ref (oA 8)]) ++ List.replicate (1 - (lg_sl ([.ref (oA 8)])).length) Slot.unset).toArray = ls at hl ⊢
  have hl : lv_has ls 1 [(0, .ref (oA 8))] := hl
  unfold F_X5_wipe at hF
  refine lv_aload_n hx hb dX5_wipe_0 rfl (lv_at hl 0 rfl) ?_
  refine lv_iconst (v := 0) hx hb dX5_wipe_1 (by decide +kernel) ?_
  obtain ⟨σ_1, eσ_1, hF_2⟩ := bnd_e hF
  clear hF
  refine va_put (D := (dC, dI)) (ci := 5) (v := .int 0) (ty := .int) (C := RX5) (T := TX5) (N := 2) hx hb hts ii_X5 tyX5 tyX5_ok nmX5 hown hK hP (hDD _) hS 0 rfl rfl 1 (by decide) (hts (.fieldLink RX5 15 "StoryHouse$Out" "length" "I") wq_210) (fun _ h9 => h9) rfl (by decide +kernel) rfl rfl (Nat.le_of_ble_eq_true rfl) dX5_wipe_2 (fun H locs hP' _ hS => ?_)
  have hP : va_P (dC, dI) vwCl (b_o cB cC cI cJ cZ oA rA σ_1) H := by rw [eσ_1]; exact cs_o_o_1 ▸ hP'
  clear hP'
  have h9 := Option.some.inj hF_2
  subst h9
  exact W.vret hx hb hr (fun t ht hW => ⟨⟨(), rfl, trivial, m_end ht hP, hDD _⟩, hS.F ht⟩) hS.2.2 dX5_wipe_5
