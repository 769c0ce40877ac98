/-! methods of the class: what each does is its function -/
theorem dX6_isLight_0 : decode cX6_isLight 0 = .ok (.aload_n 0, 1) := by decide +kernel
theorem dX6_isLight_1 : decode cX6_isLight 1 = .ok (.aload_n 0, 1) := by decide +kernel
theorem dX6_isLight_2 : decode cX6_isLight 2 = .ok (.invokevirtual 99, 3) := by decide +kernel
theorem dX6_isLight_5 : decode cX6_isLight 5 = .ok (.bipush 6, 2) := by decide +kernel
theorem dX6_isLight_7 : decode cX6_isLight 7 = .ok (.invokevirtual 95, 3) := by decide +kernel
theorem dX6_isLight_10 : decode cX6_isLight 10 = .ok (.ifCond .ne 5, 3) := by decide +kernel
theorem dX6_isLight_13 : decode cX6_isLight 13 = .ok (.iconst 1, 1) := by decide +kernel
theorem dX6_isLight_14 : decode cX6_isLight 14 = .ok (.ireturn, 1) := by decide +kernel
theorem dX6_isLight_15 : decode cX6_isLight 15 = .ok (.iconst 1, 1) := by decide +kernel
theorem dX6_isLight_16 : decode cX6_isLight 16 = .ok (.istore_n 1, 1) := by decide +kernel
theorem dX6_isLight_17 : decode cX6_isLight 17 = .ok (.iload_n 1, 1) := by decide +kernel
theorem dX6_isLight_18 : decode cX6_isLight 18 = .ok (.bipush 120, 2) := by decide +kernel
theorem dX6_isLight_20 : decode cX6_isLight 20 = .ok (.if_icmp .gt 28, 3) := by decide +kernel
theorem dX6_isLight_23 : decode cX6_isLight 23 = .ok (.aload_n 0, 1) := by decide +kernel
theorem dX6_isLight_24 : decode cX6_isLight 24 = .ok (.iload_n 1, 1) := by decide +kernel
theorem dX6_isLight_25 : decode cX6_isLight 25 = .ok (.iconst 3, 1) := by decide +kernel
theorem dX6_isLight_26 : decode cX6_isLight 26 = .ok (.invokevirtual 95, 3) := by decide +kernel
theorem dX6_isLight_29 : decode cX6_isLight 29 = .ok (.ifCond .eq 13, 3) := by decide +kernel
theorem dX6_isLight_32 : decode cX6_isLight 32 = .ok (.aload_n 0, 1) := by decide +kernel
theorem dX6_isLight_33 : decode cX6_isLight 33 = .ok (.iload_n 1, 1) := by decide +kernel
theorem dX6_isLight_34 : decode cX6_isLight 34 = .ok (.invokevirtual 105, 3) := by decide +kernel
theorem dX6_isLight_37 : decode cX6_isLight 37 = .ok (.ifCond .eq 5, 3) := by decide +kernel
theorem dX6_isLight_40 : decode cX6_isLight 40 = .ok (.iconst 1, 1) := by decide +kernel
theorem dX6_isLight_41 : decode cX6_isLight 41 = .ok (.ireturn, 1) := by decide +kernel
theorem dX6_isLight_42 : decode cX6_isLight 42 = .ok (.iinc 1 1, 3) := by decide +kernel
theorem dX6_isLight_45 : decode cX6_isLight 45 = .ok (.goto (-28), 3) := by decide +kernel
theorem dX6_isLight_48 : decode cX6_isLight 48 = .ok (.iconst 0, 1) := by decide +kernel
theorem dX6_isLight_49 : decode cX6_isLight 49 = .ok (.ireturn, 1) := by decide +kernel
def F_X6_isLight  (Γ : HS) : HR :=
  (F_X6_here Γ).bind fun u_1 =>
  (F_X6_bears u_1.1 6 u_1.2).bind fun u_3 =>
  if u_3.1 = 0 then (
    some (1, u_3.2)
  ) else (
    loopF (fun (again_9 : (Int32 × HS) → HR) (s_8 : Int32 × HS) => (
      if 120 < s_8.1 then (
        some (0, s_8.2)
      ) else (
        (F_X6_bears s_8.1 3 s_8.2).bind fun u_15 =>
        bnd (fun  (σ_17 : HS) => (
          bnd (s_8.1 + 1) fun (x_21 : Int32) =>
          again_9 (x_21, σ_17)
        ) : HS → HR) fun j_18 =>
        if u_15.1 = 0 then (
          j_18  u_15.2
        ) else (
          (F_X6_sightOf s_8.1 u_15.2).bind fun u_26 =>
          if u_26.1 = 0 then (
            j_18  u_26.2
          ) else (
            some (1, u_26.2)
          )
        )
      )
    )) FU (1, u_3.2)
  )
set_option maxHeartbeats 4000000 in
set_option maxRecDepth 100000 in
theorem k_X6_isLight (l : Launch) (dC : Nat → ClassId) (dI : Nat → Nat → Nat) (cB cC cI cJ cZ cP : ClassId) (oA : Nat → Nat) (rA : Nat → Nat → Nat) (sz : Nat)   (Γ : HS) (res : Int32 × HS) (hF : F_X6_isLight  Γ = some res) : Met l yX6_isLight (g_ws yX6_isLight cX6_isLight 2 (some .boolean)) ({ frames := 5, cells := 0, slots := 0, locals := 127 }) (va_Pc [.ref (oA 9)] (g_B (dC, dI) [(cB, .byte), (cC, .char), (cI, .int), (cJ, .long), (cZ, .boolean), (cP, .object "StoryHouse$Play")] sz (b_p cB cC cI cJ cZ oA rA Γ) g_0)) (va_Qi (fun r (_ : Unit) => r = res.1) (g_Bo (dC, dI) (va_A (b_p cB cC cI cJ cZ oA rA Γ) sz) (fun (_ : Unit) => (b_p cB cC cI cJ cZ oA rA res.2))) (va_A (b_p cB cC cI cJ cZ oA rA Γ) sz)) 0 0 (va_A (b_p cB cC cI cJ cZ oA rA Γ) sz) := by
  refine Met.ofW (cc := cX6_isLight) (maxL := 2) (ret := (some .boolean)) (by decide) rfl ?_
  intro p e s m args below meth c s₁ B hml hv
  obtain ⟨rfl, hsz, hP, hK, hD0, hE, hX⟩ := hv
  have hx := B.exec
  have hb := B.bytes
  have hr := B.returns
  have hts0 := atoms_spec (ws := g_ws yX6_isLight cX6_isLight 2 (some .boolean)) B.pre
  have hts : ∀ w ∈ lw_good, w.before ([.ref (oA 9)] : List Value).toArray s = true := fun w z => hts0 w (List.mem_cons_of_mem _ z)
  have hown : s.vm.findClass RX6 = some m.cls := findClass_of_methodNamed B.named
  have hlocks := B.notSynchronized
  subst hsz
  have hD1 := hD0.self (sz := s.heap.size)
  generalize hAe : va_A (b_p cB cC cI cJ cZ oA rA Γ) s.heap.size = A at hD1 hE hX ⊢
  have hA : ∀ q : Nat, s.heap.size ≤ q → A q := fun q z => by rw [← hAe]; exact Or.inr z
  have hDD : ∀ Γ : HS, va_D A (b_p cB cC cI cJ cZ oA rA Γ) := fun Γ9 => va_D_fst (ws := (b_p cB cC cI cJ cZ oA rA Γ)) (ws' := (b_p cB cC cI cJ cZ oA rA Γ9)) rfl hD1
  have hN := hE.1
  have hS : va_S A s.heap s.heap [] := va_S.rf
  have hl := lv_entry ([.ref (oA 9)]) (n := 2) (Nat.le_of_ble_eq_true rfl)
  rw [lg_entry_eq]
  generalize (lg_sl ([.ref (oA 9)]) ++ List.replicate (2 - (lg_sl ([.ref (oA 9)])).length) Slot.unset).toArray = ls at hl ⊢
  have hl : lv_has ls 2 [(0, .ref (oA 9))] := hl
  unfold F_X6_isLight at hF
  refine lv_aload_n hx hb dX6_isLight_0 rfl (lv_at hl 0 rfl) ?_
  refine lv_aload_n hx hb dX6_isLight_1 rfl (lv_at hl 0 rfl) ?_
  obtain ⟨u_1, hu_1, hF_2⟩ := Option.bind_eq_some_iff.mp hF
  clear hF
  have hPc := bx_P (bs := [b_p cB cC cI cJ cZ oA rA Γ]) (bs' := [b_p cB cC cI cJ cZ oA rA Γ]) (ws' := (b_p cB cC cI cJ cZ oA rA Γ)) hP fl_1 fl_1 [0] rfl
  have hDc := bx_D (bs := [b_p cB cC cI cJ cZ oA rA Γ]) (bs' := [b_p cB cC cI cJ cZ oA rA Γ]) (ws' := (b_p cB cC cI cJ cZ oA rA Γ)) (hDD Γ) fl_1 fl_1 [0] (by decide +kernel) rfl
  have hFc := bx_F (bs := [b_p cB cC cI cJ cZ oA rA Γ]) (bs' := [b_p cB cC cI cJ cZ oA rA Γ]) (wc := (b_p cB cC cI cJ cZ oA rA Γ)) (hDD Γ) hS hA fl_1 fl_1 [0] rfl
  refine g_ofi (wc := (b_p cB cC cI cJ cZ oA rA Γ)) (wr := ([] : va_W)) hP (hDD Γ) hS hFc (bx_ix [b_p cB cC cI cJ cZ oA rA Γ] [0]) (bx_ix [b_p cB cC cI cJ cZ oA rA Γ] []) (bx_C (bs := [b_p cB cC cI cJ cZ oA rA Γ]) (bs' := [b_p cB cC cI cJ cZ oA rA Γ]) (is := [0]) fl_1 fl_1 rfl) (bx_C (bs := [b_p cB cC cI cJ cZ oA rA Γ]) (bs' := []) (is := []) fl_1 fl_0 rfl) (bx_n (by decide +kernel)) (bx_d (by decide +kernel)) (va_runV (As := []) (rest := [.ref (oA 9)]) ⟨hx, hb, hml, hown, hts⟩ (k_X6_here l dC dI cB cC cI cJ cZ cP oA rA s.heap.size  Γ _ hu_1) (cwV 0 hts (g_gV wq_982 wq_983 wq_984 wq_10 wq_985) rfl rfl rfl (by decide +kernel) ⟨Nat.le_of_ble_eq_true rfl, Nat.le_of_ble_eq_true rfl⟩) (g_preV g_bl0 hK hPc hDc hS hE hFc g_to0 (q0 := 0) (ci := 6) rfl rfl) rfl rfl hl.1 rfl (lv_room (Nat.le_of_ble_eq_true rfl)) dX6_isLight_2 ⟨Nat.le_of_ble_eq_true rfl, Nat.le_of_ble_eq_true rfl⟩) (fun r9 u9 H locs hw9 hP' hD' hS => ?_)
  clear hPc hDc hFc
  subst hw9
  have hP : va_P (dC, dI) vwCl (b_p cB cC cI cJ cZ oA rA u_1.2) H := hP'
  clear hP' hD'
  refine lv_bipush (v := 6) hx hb dX6_isLight_5 (by decide +kernel) ?_
  obtain ⟨u_3, hu_3, hF_4⟩ := Option.bind_eq_some_iff.mp hF_2
  clear hF_2
  have hPc := bx_P (bs := [b_p cB cC cI cJ cZ oA rA u_1.2]) (bs' := [b_p cB cC cI cJ cZ oA rA u_1.2]) (ws' := (b_p cB cC cI cJ cZ oA rA u_1.2)) hP fl_1 fl_1 [0] rfl
  have hDc := bx_D (bs := [b_p cB cC cI cJ cZ oA rA u_1.2]) (bs' := [b_p cB cC cI cJ cZ oA rA u_1.2]) (ws' := (b_p cB cC cI cJ cZ oA rA u_1.2)) (hDD u_1.2) fl_1 fl_1 [0] (by decide +kernel) rfl
  have hFc := bx_F (bs := [b_p cB cC cI cJ cZ oA rA u_1.2]) (bs' := [b_p cB cC cI cJ cZ oA rA u_1.2]) (wc := (b_p cB cC cI cJ cZ oA rA u_1.2)) (hDD u_1.2) hS hA fl_1 fl_1 [0] rfl
  refine g_ofi (wc := (b_p cB cC cI cJ cZ oA rA u_1.2)) (wr := ([] : va_W)) hP (hDD u_1.2) hS hFc (bx_ix [b_p cB cC cI cJ cZ oA rA u_1.2] [0]) (bx_ix [b_p cB cC cI cJ cZ oA rA u_1.2] []) (bx_C (bs := [b_p cB cC cI cJ cZ oA rA u_1.2]) (bs' := [b_p cB cC cI cJ cZ oA rA u_1.2]) (is := [0]) fl_1 fl_1 rfl) (bx_C (bs := [b_p cB cC cI cJ cZ oA rA u_1.2]) (bs' := []) (is := []) fl_1 fl_0 rfl) (bx_n (by decide +kernel)) (bx_d (by decide +kernel)) (va_runV (As := [.int u_1.1, .int 6]) (rest := []) ⟨hx, hb, hml, hown, hts⟩ (k_X6_bears l dC dI cB cC cI cJ cZ cP oA rA H.size  u_1.1 6 u_1.2 _ hu_3) (cwV 2 hts (g_gV wq_986 wq_987 wq_988 wq_10 wq_989) rfl rfl rfl (by decide +kernel) ⟨Nat.le_of_ble_eq_true rfl, Nat.le_of_ble_eq_true rfl⟩) (g_preV g_bl0 hK hPc hDc hS hE hFc g_to0 (q0 := 0) (ci := 6) rfl rfl) rfl rfl hl.1 rfl (lv_room (Nat.le_of_ble_eq_true rfl)) dX6_isLight_7 ⟨Nat.le_of_ble_eq_true rfl, Nat.le_of_ble_eq_true rfl⟩) (fun r9 u9 H locs hw9 hP' hD' hS => ?_)
  clear hPc hDc hFc
  subst hw9
  have hP : va_P (dC, dI) vwCl (b_p cB cC cI cJ cZ oA rA u_3.2) H := hP'
  clear hP' hD'
  refine lv_if_ne (tgt := 15) hx hb dX6_isLight_10 (by decide) (fun c_5 => ?_) (fun c_5 => ?_)
  · have hF_7 := ineg c_5 hF_4
    clear hF_4
    refine lv_iconst (v := 1) hx hb dX6_isLight_15 (by decide +kernel) ?_
    refine lv_istore_n (lv' := [(1, .int 1), (0, .ref (oA 9))]) hx hb dX6_isLight_16 rfl hl (by decide) rfl (fun ls hl => ?_)
    refine loopF_ind (P := fun (s_8 : Int32 × HS) => ∀ (H : Heap) (locs : List Loc), va_P (dC, dI) vwCl (b_p cB cC cI cJ cZ oA rA s_8.2) H → va_S A s.heap H locs → ∀ ls : Array Slot, lv_has ls 2 [(0, .ref (oA 9)), (1, .int s_8.1)] → W p l e (headSpec (g_ws yX6_isLight cX6_isLight 2 (some .boolean)) { frames := 5, cells := 0, slots := 0, locals := 127 }).room s m ([.ref (oA 9)] : List Value).toArray below meth c H locs 0 0 (MQ below (va_Qi (fun r (_ : Unit) => r = res.1) (g_Bo (dC, dI) A (fun (_ : Unit) => (b_p cB cC cI cJ cZ oA rA res.2))) A) ([.ref (oA 9)] : List Value).toArray s 0 0 A) (F0 m 17 ls [])) ?_ _ _ hF_7 _ _ hP hS ls (lv_sub hl [1, 0] rfl)
    intro again_9 s_8 ih_10 hF_11
    intro H locs hP hS ls hl
    refine lv_iload_n hx hb dX6_isLight_17 rfl (lv_at hl 1 rfl) ?_
    refine lv_bipush (v := 120) hx hb dX6_isLight_18 (by decide +kernel) ?_
    refine lv_icmp_gt (tgt := 48) hx hb dX6_isLight_20 (by decide) (fun c_12 => ?_) (fun c_12 => ?_)
    · have hF_13 := ipos c_12 hF_11
      clear hF_11
      refine lv_iconst (v := 0) hx hb dX6_isLight_48 (by decide +kernel) ?_
      have h9 := Option.some.inj hF_13
      subst h9
      exact W.zret (v := 0) hx hb hr (by decide +kernel) (fun t ht hW => ⟨⟨0, (), rfl, rfl, m_end ht hP, hDD _⟩, hS.F ht⟩) hS.2.2 dX6_isLight_49
    · have hF_14 := ineg c_12 hF_11
      clear hF_11
      refine lv_aload_n hx hb dX6_isLight_23 rfl (lv_at hl 0 rfl) ?_
      refine lv_iload_n hx hb dX6_isLight_24 rfl (lv_at hl 1 rfl) ?_
      refine lv_iconst (v := 3) hx hb dX6_isLight_25 (by decide +kernel) ?_
      obtain ⟨u_15, hu_15, hF_16⟩ := Option.bind_eq_some_iff.mp hF_14
      clear hF_14
      have hPc := bx_P (bs := [b_p cB cC cI cJ cZ oA rA s_8.2]) (bs' := [b_p cB cC cI cJ cZ oA rA s_8.2]) (ws' := (b_p cB cC cI cJ cZ oA rA s_8.2)) hP fl_1 fl_1 [0] rfl
      have hDc := bx_D (bs := [b_p cB cC cI cJ cZ oA rA s_8.2]) (bs' := [b_p cB cC cI cJ cZ oA rA s_8.2]) (ws' := (b_p cB cC cI cJ cZ oA rA s_8.2)) (hDD s_8.2) fl_1 fl_1 [0] (by decide +kernel) rfl
      have hFc := bx_F (bs := [b_p cB cC cI cJ cZ oA rA s_8.2]) (bs' := [b_p cB cC cI cJ cZ oA rA s_8.2]) (wc := (b_p cB cC cI cJ cZ oA rA s_8.2)) (hDD s_8.2) hS hA fl_1 fl_1 [0] rfl
      refine g_ofi (wc := (b_p cB cC cI cJ cZ oA rA s_8.2)) (wr := ([] : va_W)) hP (hDD s_8.2) hS hFc (bx_ix [b_p cB cC cI cJ cZ oA rA s_8.2] [0]) (bx_ix [b_p cB cC cI cJ cZ oA rA s_8.2] []) (bx_C (bs := [b_p cB cC cI cJ cZ oA rA s_8.2]) (bs' := [b_p cB cC cI cJ cZ oA rA s_8.2]) (is := [0]) fl_1 fl_1 rfl) (bx_C (bs := [b_p cB cC cI cJ cZ oA rA s_8.2]) (bs' := []) (is := []) fl_1 fl_0 rfl) (bx_n (by decide +kernel)) (bx_d (by decide +kernel)) (va_runV (As := [.int s_8.1, .int 3]) (rest := []) ⟨hx, hb, hml, hown, hts⟩ (k_X6_bears l dC dI cB cC cI cJ cZ cP oA rA H.size  s_8.1 3 s_8.2 _ hu_15) (cwV 2 hts (g_gV wq_986 wq_987 wq_988 wq_10 wq_989) rfl rfl rfl (by decide +kernel) ⟨Nat.le_of_ble_eq_true rfl, Nat.le_of_ble_eq_true rfl⟩) (g_preV g_bl0 hK hPc hDc hS hE hFc g_to0 (q0 := 0) (ci := 6) rfl rfl) rfl rfl hl.1 rfl (lv_room (Nat.le_of_ble_eq_true rfl)) dX6_isLight_26 ⟨Nat.le_of_ble_eq_true rfl, Nat.le_of_ble_eq_true rfl⟩) (fun r9 u9 H locs hw9 hP' hD' hS => ?_)
      clear hPc hDc hFc
      subst hw9
      have hP : va_P (dC, dI) vwCl (b_p cB cC cI cJ cZ oA rA u_15.2) H := hP'
      clear hP' hD'
      obtain ⟨j_18, ej_18, hF_19⟩ := bnd_e hF_16
      clear hF_16
      have Jj_18 : ∀  (σ_17 : HS), j_18  σ_17 = some res → ∀ (H : Heap) (locs : List Loc), va_P (dC, dI) vwCl (b_p cB cC cI cJ cZ oA rA σ_17) H → va_S A s.heap H locs → ∀ ls : Array Slot, lv_has ls 2 [(0, .ref (oA 9)), (1, .int s_8.1)] → W p l e (headSpec (g_ws yX6_isLight cX6_isLight 2 (some .boolean)) { frames := 5, cells := 0, slots := 0, locals := 127 }).room s m ([.ref (oA 9)] : List Value).toArray below meth c H locs 0 0 (MQ below (va_Qi (fun r (_ : Unit) => r = res.1) (g_Bo (dC, dI) A (fun (_ : Unit) => (b_p cB cC cI cJ cZ oA rA res.2))) A) ([.ref (oA 9)] : List Value).toArray s 0 0 A) (F0 m 42 ls []) := by
        intro  σ_17 hF0 H locs hP hS ls hl
        subst ej_18
        have hF_20 := hF0
        clear hF0
        obtain ⟨x_21, ex_21, hF_22⟩ := bnd_e hF_20
        clear hF_20
        refine lv_iinc (v := x_21) (lv' := [(1, .int x_21), (0, .ref (oA 9))]) hx hb dX6_isLight_42 hl (k := 1) rfl (by rw [ex_21]; rfl) (by decide) rfl (fun ls hl => ?_)
        refine lv_goto (tgt := 17) hx hb dX6_isLight_45 (by decide) ?_
        exact ih_10 (x_21, σ_17) hF_22 _ _ hP hS ls (lv_sub hl [1, 0] rfl)
      refine lv_if_eq (tgt := 42) hx hb dX6_isLight_29 (by decide) (fun c_23 => ?_) (fun c_23 => ?_)
      · have hF_24 := ipos c_23 hF_19
        clear hF_19
        exact Jj_18  u_15.2 hF_24 _ _ hP hS ls (lv_sub hl [0, 1] rfl)
      · have hF_25 := ineg c_23 hF_19
        clear hF_19
        refine lv_aload_n hx hb dX6_isLight_32 rfl (lv_at hl 0 rfl) ?_
        refine lv_iload_n hx hb dX6_isLight_33 rfl (lv_at hl 1 rfl) ?_
        obtain ⟨u_26, hu_26, hF_27⟩ := Option.bind_eq_some_iff.mp hF_25
        clear hF_25
        have hPc := bx_P (bs := [b_p cB cC cI cJ cZ oA rA u_15.2]) (bs' := [b_p cB cC cI cJ cZ oA rA u_15.2]) (ws' := (b_p cB cC cI cJ cZ oA rA u_15.2)) hP fl_1 fl_1 [0] rfl
        have hDc := bx_D (bs := [b_p cB cC cI cJ cZ oA rA u_15.2]) (bs' := [b_p cB cC cI cJ cZ oA rA u_15.2]) (ws' := (b_p cB cC cI cJ cZ oA rA u_15.2)) (hDD u_15.2) fl_1 fl_1 [0] (by decide +kernel) rfl
        have hFc := bx_F (bs := [b_p cB cC cI cJ cZ oA rA u_15.2]) (bs' := [b_p cB cC cI cJ cZ oA rA u_15.2]) (wc := (b_p cB cC cI cJ cZ oA rA u_15.2)) (hDD u_15.2) hS hA fl_1 fl_1 [0] rfl
        refine g_ofi (wc := (b_p cB cC cI cJ cZ oA rA u_15.2)) (wr := ([] : va_W)) hP (hDD u_15.2) hS hFc (bx_ix [b_p cB cC cI cJ cZ oA rA u_15.2] [0]) (bx_ix [b_p cB cC cI cJ cZ oA rA u_15.2] []) (bx_C (bs := [b_p cB cC cI cJ cZ oA rA u_15.2]) (bs' := [b_p cB cC cI cJ cZ oA rA u_15.2]) (is := [0]) fl_1 fl_1 rfl) (bx_C (bs := [b_p cB cC cI cJ cZ oA rA u_15.2]) (bs' := []) (is := []) fl_1 fl_0 rfl) (bx_n (by decide +kernel)) (bx_d (by decide +kernel)) (va_runV (As := [.int s_8.1]) (rest := []) ⟨hx, hb, hml, hown, hts⟩ (k_X6_sightOf l dC dI cB cC cI cJ cZ cP oA rA H.size  s_8.1 u_15.2 _ hu_26) (cwV 1 hts (g_gV wq_990 wq_991 wq_992 wq_10 wq_993) rfl rfl rfl (by decide +kernel) ⟨Nat.le_of_ble_eq_true rfl, Nat.le_of_ble_eq_true rfl⟩) (g_preV g_bl0 hK hPc hDc hS hE hFc g_to0 (q0 := 0) (ci := 6) rfl rfl) rfl rfl hl.1 rfl (lv_room (Nat.le_of_ble_eq_true rfl)) dX6_isLight_34 ⟨Nat.le_of_ble_eq_true rfl, Nat.le_of_ble_eq_true rfl⟩) (fun r9 u9 H locs hw9 hP' hD' hS => ?_)
        clear hPc hDc hFc
        subst hw9
        have hP : va_P (dC, dI) vwCl (b_p cB cC cI cJ cZ oA rA u_26.2) H := hP'
        clear hP' hD'
        refine lv_if_eq (tgt := 42) hx hb dX6_isLight_37 (by decide) (fun c_28 => ?_) (fun c_28 => ?_)
        · have hF_29 := ipos c_28 hF_27
          clear hF_27
          exact Jj_18  u_26.2 hF_29 _ _ hP hS ls (lv_sub hl [0, 1] rfl)
        · have hF_30 := ineg c_28 hF_27
          clear hF_27
          refine lv_iconst (v := 1) hx hb dX6_isLight_40 (by decide +kernel) ?_
          have h9 := Option.some.inj hF_30
          subst h9
          exact W.zret (v := 1) hx hb hr (by decide +kernel) (fun t ht hW => ⟨⟨1, (), rfl, rfl, m_end ht hP, hDD _⟩, hS.F ht⟩) hS.2.2 dX6_isLight_41
  · have hF_6 := ipos c_5 hF_4
    clear hF_4
    refine lv_iconst (v := 1) hx hb dX6_isLight_13 (by decide +kernel) ?_
    have h9 := Option.some.inj hF_6
    subst h9
    exact W.zret (v := 1) hx hb hr (by decide +kernel) (fun t ht hW => ⟨⟨1, (), rfl, rfl, m_end ht hP, hDD _⟩, hS.F ht⟩) hS.2.2 dX6_isLight_14
theorem dX6_isInScope_0 : decode cX6_isInScope 0 = .ok (.aload_n 0, 1) := by decide +kernel
theorem dX6_isInScope_1 : decode cX6_isInScope 1 = .ok (.iload_n 1, 1) := by decide +kernel
theorem dX6_isInScope_2 : decode cX6_isInScope 2 = .ok (.invokevirtual 105, 3) := by decide +kernel
theorem dX6_isInScope_5 : decode cX6_isInScope 5 = .ok (.istore_n 3, 1) := by decide +kernel
theorem dX6_isInScope_6 : decode cX6_isInScope 6 = .ok (.iload_n 1, 1) := by decide +kernel
theorem dX6_isInScope_7 : decode cX6_isInScope 7 = .ok (.iconst 1, 1) := by decide +kernel
theorem dX6_isInScope_8 : decode cX6_isInScope 8 = .ok (.if_icmp .eq 16, 3) := by decide +kernel
theorem dX6_isInScope_11 : decode cX6_isInScope 11 = .ok (.iload_n 3, 1) := by decide +kernel
theorem dX6_isInScope_12 : decode cX6_isInScope 12 = .ok (.iconst 1, 1) := by decide +kernel
theorem dX6_isInScope_13 : decode cX6_isInScope 13 = .ok (.if_icmp .eq 11, 3) := by decide +kernel
theorem dX6_isInScope_16 : decode cX6_isInScope 16 = .ok (.iload_n 2, 1) := by decide +kernel
theorem dX6_isInScope_17 : decode cX6_isInScope 17 = .ok (.ifCond .eq 11, 3) := by decide +kernel
theorem dX6_isInScope_20 : decode cX6_isInScope 20 = .ok (.iload_n 3, 1) := by decide +kernel
theorem dX6_isInScope_21 : decode cX6_isInScope 21 = .ok (.ifCond .eq 7, 3) := by decide +kernel
theorem dX6_isInScope_24 : decode cX6_isInScope 24 = .ok (.iconst 1, 1) := by decide +kernel
theorem dX6_isInScope_25 : decode cX6_isInScope 25 = .ok (.goto 4, 3) := by decide +kernel
theorem dX6_isInScope_28 : decode cX6_isInScope 28 = .ok (.iconst 0, 1) := by decide +kernel
theorem dX6_isInScope_29 : decode cX6_isInScope 29 = .ok (.ireturn, 1) := by decide +kernel
def F_X6_isInScope (p0 : Int32) (p1 : Int32) (Γ : HS) : HR :=
  (F_X6_sightOf p0 Γ).bind fun u_1 =>
  if p0 = 1 then (
    some (1, u_1.2)
  ) else (
    if u_1.1 = 1 then (
      some (1, u_1.2)
    ) else (
      if p1 = 0 then (
        some (0, u_1.2)
      ) else (
        if u_1.1 = 0 then (
          some (0, u_1.2)
        ) else (
          some (1, u_1.2)
        )
      )
    )
  )
set_option maxHeartbeats 4000000 in
set_option maxRecDepth 100000 in
theorem k_X6_isInScope (l : Launch) (dC : Nat → ClassId) (dI : Nat → Nat → Nat) (cB cC cI cJ cZ cP : ClassId) (oA : Nat → Nat) (rA : Nat → Nat → Nat) (sz : Nat)  (p0 : Int32) (p1 : Int32) (Γ : HS) (res : Int32 × HS) (hF : F_X6_isInScope p0 p1 Γ = some res) : Met l yX6_isInScope (g_ws yX6_isInScope cX6_isInScope 4 (some .boolean)) ({ frames := 5, cells := 0, slots := 0, locals := 127 }) (va_Pc [.ref (oA 9), .int p0, .int p1] (g_B (dC, dI) [(cB, .byte), (cC, .char), (cI, .int), (cJ, .long), (cZ, .boolean), (cP, .object "StoryHouse$Play")] sz (b_p cB cC cI cJ cZ oA rA Γ) g_0)) (va_Qi (fun r (_ : Unit) => r = res.1) (g_Bo (dC, dI) (va_A (b_p cB cC cI cJ cZ oA rA Γ) sz) (fun (_ : Unit) => (b_p cB cC cI cJ cZ oA rA res.2))) (va_A (b_p cB cC cI cJ cZ oA rA Γ) sz)) 0 0 (va_A (b_p cB cC cI cJ cZ oA rA Γ) sz) := by
  refine Met.ofW (cc := cX6_isInScope) (maxL := 4) (ret := (some .boolean)) (by decide) rfl ?_
  intro p e s m args below meth c s₁ B hml hv
  obtain ⟨rfl, hsz, hP, hK, hD0, hE, hX⟩ := hv
  have hx := B.exec
  have hb := B.bytes
  have hr := B.returns
  have hts0 := atoms_spec (ws := g_ws yX6_isInScope cX6_isInScope 4 (some .boolean)) B.pre
  have hts : ∀ w ∈ lw_good, w.before ([.ref (oA 9), .int p0, .int p1] : List Value).toArray s = true := fun w z => hts0 w (List.mem_cons_of_mem _ z)
  have hown : s.vm.findClass RX6 = some m.cls := findClass_of_methodNamed B.named
  have hlocks := B.notSynchronized
  subst hsz
  have hD1 := hD0.self (sz := s.heap.size)
  generalize hAe : va_A (b_p cB cC cI cJ cZ oA rA Γ) s.heap.size = A at hD1 hE hX ⊢
  have hA : ∀ q : Nat, s.heap.size ≤ q → A q := fun q z => by rw [← hAe]; exact Or.inr z
  have hDD : ∀ Γ : HS, va_D A (b_p cB cC cI cJ cZ oA rA Γ) := fun Γ9 => va_D_fst (ws := (b_p cB cC cI cJ cZ oA rA Γ)) (ws' := (b_p cB cC cI cJ cZ oA rA Γ9)) rfl hD1
  have hN := hE.1
  have hS : va_S A s.heap s.heap [] := va_S.rf
  have hl := lv_entry ([.ref (oA 9), .int p0, .int p1]) (n := 4) (Nat.le_of_ble_eq_true rfl)
  rw [lg_entry_eq]
  generalize (lg_sl ([.ref (oA 9), .int p0, .int p1]) ++ List.replicate (4 - (lg_sl ([.ref (oA 9), .int p0, .int p1])).length) Slot.unset).toArray = ls at hl ⊢
  have hl : lv_has ls 4 [(0, .ref (oA 9)), (1, .int p0), (2, .int p1)] := hl
  unfold F_X6_isInScope at hF
  refine lv_aload_n hx hb dX6_isInScope_0 rfl (lv_at hl 0 rfl) ?_
  refine lv_iload_n hx hb dX6_isInScope_1 rfl (lv_at hl 1 rfl) ?_
  obtain ⟨u_1, hu_1, hF_2⟩ := Option.bind_eq_some_iff.mp hF
  clear hF
  have hPc := bx_P (bs := [b_p cB cC cI cJ cZ oA rA Γ]) (bs' := [b_p cB cC cI cJ cZ oA rA Γ]) (ws' := (b_p cB cC cI cJ cZ oA rA Γ)) hP fl_1 fl_1 [0] rfl
  have hDc := bx_D (bs := [b_p cB cC cI cJ cZ oA rA Γ]) (bs' := [b_p cB cC cI cJ cZ oA rA Γ]) (ws' := (b_p cB cC cI cJ cZ oA rA Γ)) (hDD Γ) fl_1 fl_1 [0] (by decide +kernel) rfl
  have hFc := bx_F (bs := [b_p cB cC cI cJ cZ oA rA Γ]) (bs' := [b_p cB cC cI cJ cZ oA rA Γ]) (wc := (b_p cB cC cI cJ cZ oA rA Γ)) (hDD Γ) hS hA fl_1 fl_1 [0] rfl
  refine g_ofi (wc := (b_p cB cC cI cJ cZ oA rA Γ)) (wr := ([] : va_W)) hP (hDD Γ) hS hFc (bx_ix [b_p cB cC cI cJ cZ oA rA Γ] [0]) (bx_ix [b_p cB cC cI cJ cZ oA rA Γ] []) (bx_C (bs := [b_p cB cC cI cJ cZ oA rA Γ]) (bs' := [b_p cB cC cI cJ cZ oA rA Γ]) (is := [0]) fl_1 fl_1 rfl) (bx_C (bs := [b_p cB cC cI cJ cZ oA rA Γ]) (bs' := []) (is := []) fl_1 fl_0 rfl) (bx_n (by decide +kernel)) (bx_d (by decide +kernel)) (va_runV (As := [.int p0]) (rest := []) ⟨hx, hb, hml, hown, hts⟩ (k_X6_sightOf l dC dI cB cC cI cJ cZ cP oA rA s.heap.size  p0 Γ _ hu_1) (cwV 1 hts (g_gV wq_990 wq_991 wq_992 wq_10 wq_993) rfl rfl rfl (by decide +kernel) ⟨Nat.le_of_ble_eq_true rfl, Nat.le_of_ble_eq_true rfl⟩) (g_preV g_bl0 hK hPc hDc hS hE hFc g_to0 (q0 := 0) (ci := 6) rfl rfl) rfl rfl hl.1 rfl (lv_room (Nat.le_of_ble_eq_true rfl)) dX6_isInScope_2 ⟨Nat.le_of_ble_eq_true rfl, Nat.le_of_ble_eq_true rfl⟩) (fun r9 u9 H locs hw9 hP' hD' hS => ?_)
  clear hPc hDc hFc
  subst hw9
  have hP : va_P (dC, dI) vwCl (b_p cB cC cI cJ cZ oA rA u_1.2) H := hP'
  clear hP' hD'
  refine lv_istore_n (lv' := [(3, .int u_1.1), (0, .ref (oA 9)), (1, .int p0), (2, .int p1)]) hx hb dX6_isInScope_5 rfl hl (by decide) rfl (fun ls hl => ?_)
  refine lv_iload_n hx hb dX6_isInScope_6 rfl (lv_at hl 2 rfl) ?_
  refine lv_iconst (v := 1) hx hb dX6_isInScope_7 (by decide +kernel) ?_
  refine lv_icmp_eq (tgt := 24) hx hb dX6_isInScope_8 (by decide) (fun c_3 => ?_) (fun c_3 => ?_)
  · have hF_4 := ipos c_3 hF_2
    clear hF_2
    refine lv_iconst (v := 1) hx hb dX6_isInScope_24 (by decide +kernel) ?_
    refine lv_goto (tgt := 29) hx hb dX6_isInScope_25 (by decide) ?_
    have h9 := Option.some.inj hF_4
    subst h9
    exact W.zret (v := 1) hx hb hr (by decide +kernel) (fun t ht hW => ⟨⟨1, (), rfl, rfl, m_end ht hP, hDD _⟩, hS.F ht⟩) hS.2.2 dX6_isInScope_29
  · have hF_5 := ineg c_3 hF_2
    clear hF_2
    refine lv_iload_n hx hb dX6_isInScope_11 rfl (lv_at hl 0 rfl) ?_
    refine lv_iconst (v := 1) hx hb dX6_isInScope_12 (by decide +kernel) ?_
    refine lv_icmp_eq (tgt := 24) hx hb dX6_isInScope_13 (by decide) (fun c_6 => ?_) (fun c_6 => ?_)
    · have hF_7 := ipos c_6 hF_5
      clear hF_5
      refine lv_iconst (v := 1) hx hb dX6_isInScope_24 (by decide +kernel) ?_
      refine lv_goto (tgt := 29) hx hb dX6_isInScope_25 (by decide) ?_
      have h9 := Option.some.inj hF_7
      subst h9
      exact W.zret (v := 1) hx hb hr (by decide +kernel) (fun t ht hW => ⟨⟨1, (), rfl, rfl, m_end ht hP, hDD _⟩, hS.F ht⟩) hS.2.2 dX6_isInScope_29
    · have hF_8 := ineg c_6 hF_5
      clear hF_5
      refine lv_iload_n hx hb dX6_isInScope_16 rfl (lv_at hl 3 rfl) ?_
      refine lv_if_eq (tgt := 28) hx hb dX6_isInScope_17 (by decide) (fun c_9 => ?_) (fun c_9 => ?_)
      · have hF_10 := ipos c_9 hF_8
        clear hF_8
        refine lv_iconst (v := 0) hx hb dX6_isInScope_28 (by decide +kernel) ?_
        have h9 := Option.some.inj hF_10
        subst h9
        exact W.zret (v := 0) hx hb hr (by decide +kernel) (fun t ht hW => ⟨⟨0, (), rfl, rfl, m_end ht hP, hDD _⟩, hS.F ht⟩) hS.2.2 dX6_isInScope_29
      · have hF_11 := ineg c_9 hF_8
        clear hF_8
        refine lv_iload_n hx hb dX6_isInScope_20 rfl (lv_at hl 0 rfl) ?_
        refine lv_if_eq (tgt := 28) hx hb dX6_isInScope_21 (by decide) (fun c_12 => ?_) (fun c_12 => ?_)
        · have hF_13 := ipos c_12 hF_11
          clear hF_11
          refine lv_iconst (v := 0) hx hb dX6_isInScope_28 (by decide +kernel) ?_
          have h9 := Option.some.inj hF_13
          subst h9
          exact W.zret (v := 0) hx hb hr (by decide +kernel) (fun t ht hW => ⟨⟨0, (), rfl, rfl, m_end ht hP, hDD _⟩, hS.F ht⟩) hS.2.2 dX6_isInScope_29
        · have hF_14 := ineg c_12 hF_11
          clear hF_11
          refine lv_iconst (v := 1) hx hb dX6_isInScope_24 (by decide +kernel) ?_
          refine lv_goto (tgt := 29) hx hb dX6_isInScope_25 (by decide) ?_
          have h9 := Option.some.inj hF_14
          subst h9
          exact W.zret (v := 1) hx hb hr (by decide +kernel) (fun t ht hW => ⟨⟨1, (), rfl, rfl, m_end ht hP, hDD _⟩, hS.F ht⟩) hS.2.2 dX6_isInScope_29
theorem dX6_endsAbove_0 : decode cX6_endsAbove 0 = .ok (.iload_n 1, 1) := by decide +kernel
theorem dX6_endsAbove_1 : decode cX6_endsAbove 1 = .ok (.istore_n 2, 1) := by decide +kernel
theorem dX6_endsAbove_2 : decode cX6_endsAbove 2 = .ok (.iconst 0, 1) := by decide +kernel
theorem dX6_endsAbove_3 : decode cX6_endsAbove 3 = .ok (.istore_n 3, 1) := by decide +kernel
theorem dX6_endsAbove_4 : decode cX6_endsAbove 4 = .ok (.iload_n 3, 1) := by decide +kernel
theorem dX6_endsAbove_5 : decode cX6_endsAbove 5 = .ok (.bipush 120, 2) := by decide +kernel
theorem dX6_endsAbove_7 : decode cX6_endsAbove 7 = .ok (.if_icmp .gt 22, 3) := by decide +kernel
theorem dX6_endsAbove_10 : decode cX6_endsAbove 10 = .ok (.iload_n 2, 1) := by decide +kernel
theorem dX6_endsAbove_11 : decode cX6_endsAbove 11 = .ok (.ifCond .eq 18, 3) := by decide +kernel
theorem dX6_endsAbove_14 : decode cX6_endsAbove 14 = .ok (.aload_n 0, 1) := by decide +kernel
theorem dX6_endsAbove_15 : decode cX6_endsAbove 15 = .ok (.getfield 9, 3) := by decide +kernel
theorem dX6_endsAbove_18 : decode cX6_endsAbove 18 = .ok (.iload_n 2, 1) := by decide +kernel
theorem dX6_endsAbove_19 : decode cX6_endsAbove 19 = .ok (.invokestatic 83, 3) := by decide +kernel
theorem dX6_endsAbove_22 : decode cX6_endsAbove 22 = .ok (.istore_n 2, 1) := by decide +kernel
theorem dX6_endsAbove_23 : decode cX6_endsAbove 23 = .ok (.iinc 3 1, 3) := by decide +kernel
theorem dX6_endsAbove_26 : decode cX6_endsAbove 26 = .ok (.goto (-22), 3) := by decide +kernel
theorem dX6_endsAbove_29 : decode cX6_endsAbove 29 = .ok (.iload_n 2, 1) := by decide +kernel
theorem dX6_endsAbove_30 : decode cX6_endsAbove 30 = .ok (.ifCond .ne 7, 3) := by decide +kernel
theorem dX6_endsAbove_33 : decode cX6_endsAbove 33 = .ok (.iconst 1, 1) := by decide +kernel
theorem dX6_endsAbove_34 : decode cX6_endsAbove 34 = .ok (.goto 4, 3) := by decide +kernel
theorem dX6_endsAbove_37 : decode cX6_endsAbove 37 = .ok (.iconst 0, 1) := by decide +kernel
theorem dX6_endsAbove_38 : decode cX6_endsAbove 38 = .ok (.ireturn, 1) := by decide +kernel
def F_X6_endsAbove (p0 : Int32) (Γ : HS) : HR :=
  loopF (fun (again_2 : (Int32 × Int32 × HS) → HR) (s_1 : Int32 × Int32 × HS) => (
    bnd (fun  (σ_5 : HS) => (
      if s_1.1 = 0 then (
        some (1, σ_5)
      ) else (
        some (0, σ_5)
      )
    ) : HS → HR) fun j_6 =>
    if 120 < s_1.2.1 then (
      j_6  s_1.2.2
    ) else (
      if s_1.1 = 0 then (
        j_6  s_1.2.2
      ) else (
        bnd ((g_at 121 ((s_1.2.2 9).2.1 0) s_1.1)) fun (x_18 : Int32) =>
        bnd (s_1.2.1 + 1) fun (x_20 : Int32) =>
        again_2 (x_18, x_20, s_1.2.2)
      )
    )
  )) FU (p0, 0, Γ)
set_option maxHeartbeats 4000000 in
set_option maxRecDepth 100000 in
theorem k_X6_endsAbove (l : Launch) (dC : Nat → ClassId) (dI : Nat → Nat → Nat) (cB cC cI cJ cZ cP : ClassId) (oA : Nat → Nat) (rA : Nat → Nat → Nat) (sz : Nat)  (p0 : Int32) (Γ : HS) (res : Int32 × HS) (hF : F_X6_endsAbove p0 Γ = some res) : Met l yX6_endsAbove (g_ws yX6_endsAbove cX6_endsAbove 4 (some .boolean)) ({ frames := 3, cells := 0, slots := 0, locals := 81 }) (va_Pc [.ref (oA 9), .int p0] (g_B (dC, dI) [(cB, .byte), (cC, .char), (cI, .int), (cJ, .long), (cZ, .boolean), (cP, .object "StoryHouse$Play")] sz (b_p cB cC cI cJ cZ oA rA Γ) g_0)) (va_Qi (fun r (_ : Unit) => r = res.1) (g_Bo (dC, dI) (va_A (b_p cB cC cI cJ cZ oA rA Γ) sz) (fun (_ : Unit) => (b_p cB cC cI cJ cZ oA rA res.2))) (va_A (b_p cB cC cI cJ cZ oA rA Γ) sz)) 0 0 (va_A (b_p cB cC cI cJ cZ oA rA Γ) sz) := by
  refine Met.ofW (cc := cX6_endsAbove) (maxL := 4) (ret := (some .boolean)) (by decide) rfl ?_
  intro p e s m args below meth c s₁ B hml hv
  obtain ⟨rfl, hsz, hP, hK, hD0, hE, hX⟩ := hv
  have hx := B.exec
  have hb := B.bytes
  have hr := B.returns
  have hts0 := atoms_spec (ws := g_ws yX6_endsAbove cX6_endsAbove 4 (some .boolean)) B.pre
  have hts : ∀ w ∈ lw_good, w.before ([.ref (oA 9), .int p0] : List Value).toArray s = true := fun w z => hts0 w (List.mem_cons_of_mem _ z)
  have hown : s.vm.findClass RX6 = some m.cls := findClass_of_methodNamed B.named
  have hlocks := B.notSynchronized
  subst hsz
  have hD1 := hD0.self (sz := s.heap.size)
  generalize hAe : va_A (b_p cB cC cI cJ cZ oA rA Γ) s.heap.size = A at hD1 hE hX ⊢
  have hA : ∀ q : Nat, s.heap.size ≤ q → A q := fun q z => by rw [← hAe]; exact Or.inr z
  have hDD : ∀ Γ : HS, va_D A (b_p cB cC cI cJ cZ oA rA Γ) := fun Γ9 => va_D_fst (ws := (b_p cB cC cI cJ cZ oA rA Γ)) (ws' := (b_p cB cC cI cJ cZ oA rA Γ9)) rfl hD1
  have hN := hE.1
  have hS : va_S A s.heap s.heap [] := va_S.rf
  have hl := lv_entry ([.ref (oA 9), .int p0]) (n := 4) (Nat.le_of_ble_eq_true rfl)
  rw [lg_entry_eq]
  generalize (lg_sl ([.ref (oA 9), .int p0]) ++ List.replicate (4 - (lg_sl ([.ref (oA 9), .int p0])).length) Slot.unset).toArray = ls at hl ⊢
  have hl : lv_has ls 4 [(0, .ref (oA 9)), (1, .int p0)] := hl
  unfold F_X6_endsAbove at hF
  refine lv_iload_n hx hb dX6_endsAbove_0 rfl (lv_at hl 1 rfl) ?_
  refine lv_istore_n (lv' := [(2, .int p0), (0, .ref (oA 9)), (1, .int p0)]) hx hb dX6_endsAbove_1 rfl hl (by decide) rfl (fun ls hl => ?_)
  refine lv_iconst (v := 0) hx hb dX6_endsAbove_2 (by decide +kernel) ?_
  refine lv_istore_n (lv' := [(3, .int 0), (2, .int p0), (0, .ref (oA 9)), (1, .int p0)]) hx hb dX6_endsAbove_3 rfl hl (by decide) rfl (fun ls hl => ?_)
  refine loopF_ind (P := fun (s_1 : Int32 × Int32 × HS) => ∀ (H : Heap) (locs : List Loc), va_P (dC, dI) vwCl (b_p cB cC cI cJ cZ oA rA s_1.2.2) H → va_S A s.heap H locs → ∀ ls : Array Slot, lv_has ls 4 [(0, .ref (oA 9)), (2, .int s_1.1), (3, .int s_1.2.1)] → W p l e (headSpec (g_ws yX6_endsAbove cX6_endsAbove 4 (some .boolean)) { frames := 3, cells := 0, slots := 0, locals := 81 }).room s m ([.ref (oA 9), .int p0] : List Value).toArray below meth c H locs 0 0 (MQ below (va_Qi (fun r (_ : Unit) => r = res.1) (g_Bo (dC, dI) A (fun (_ : Unit) => (b_p cB cC cI cJ cZ oA rA res.2))) A) ([.ref (oA 9), .int p0] : List Value).toArray s 0 0 A) (F0 m 4 ls [])) ?_ _ _ hF _ _ hP hS ls (lv_sub hl [2, 1, 0] rfl)
  intro again_2 s_1 ih_3 hF_4
  intro H locs hP hS ls hl
  refine lv_iload_n hx hb dX6_endsAbove_4 rfl (lv_at hl 2 rfl) ?_
  refine lv_bipush (v := 120) hx hb dX6_endsAbove_5 (by decide +kernel) ?_
  obtain ⟨j_6, ej_6, hF_7⟩ := bnd_e hF_4
  clear hF_4
  have Jj_6 : ∀  (σ_5 : HS), j_6  σ_5 = some res → ∀ (H : Heap) (locs : List Loc), va_P (dC, dI) vwCl (b_p cB cC cI cJ cZ oA rA σ_5) H → va_S A s.heap H locs → ∀ ls : Array Slot, lv_has ls 4 [(2, .int s_1.1)] → W p l e (headSpec (g_ws yX6_endsAbove cX6_endsAbove 4 (some .boolean)) { frames := 3, cells := 0, slots := 0, locals := 81 }).room s m ([.ref (oA 9), .int p0] : List Value).toArray below meth c H locs 0 0 (MQ below (va_Qi (fun r (_ : Unit) => r = res.1) (g_Bo (dC, dI) A (fun (_ : Unit) => (b_p cB cC cI cJ cZ oA rA res.2))) A) ([.ref (oA 9), .int p0] : List Value).toArray s 0 0 A) (F0 m 29 ls []) := by
    intro  σ_5 hF0 H locs hP hS ls hl
    subst ej_6
    have hF_8 := hF0
    clear hF0
    refine lv_iload_n hx hb dX6_endsAbove_29 rfl (lv_at hl 0 rfl) ?_
    refine lv_if_ne (tgt := 37) hx hb dX6_endsAbove_30 (by decide) (fun c_9 => ?_) (fun c_9 => ?_)
    · have hF_11 := ineg c_9 hF_8
      clear hF_8
      refine lv_iconst (v := 0) hx hb dX6_endsAbove_37 (by decide +kernel) ?_
      have h9 := Option.some.inj hF_11
      subst h9
      exact W.zret (v := 0) hx hb hr (by decide +kernel) (fun t ht hW => ⟨⟨0, (), rfl, rfl, m_end ht hP, hDD _⟩, hS.F ht⟩) hS.2.2 dX6_endsAbove_38
    · have hF_10 := ipos c_9 hF_8
      clear hF_8
      refine lv_iconst (v := 1) hx hb dX6_endsAbove_33 (by decide +kernel) ?_
      refine lv_goto (tgt := 38) hx hb dX6_endsAbove_34 (by decide) ?_
      have h9 := Option.some.inj hF_10
      subst h9
      exact W.zret (v := 1) hx hb hr (by decide +kernel) (fun t ht hW => ⟨⟨1, (), rfl, rfl, m_end ht hP, hDD _⟩, hS.F ht⟩) hS.2.2 dX6_endsAbove_38
  refine lv_icmp_gt (tgt := 29) hx hb dX6_endsAbove_7 (by decide) (fun c_12 => ?_) (fun c_12 => ?_)
  · have hF_13 := ipos c_12 hF_7
    clear hF_7
    exact Jj_6  s_1.2.2 hF_13 _ _ hP hS ls (lv_sub hl [1] rfl)
  · have hF_14 := ineg c_12 hF_7
    clear hF_7
    refine lv_iload_n hx hb dX6_endsAbove_10 rfl (lv_at hl 1 rfl) ?_
    refine lv_if_eq (tgt := 29) hx hb dX6_endsAbove_11 (by decide) (fun c_15 => ?_) (fun c_15 => ?_)
    · have hF_16 := ipos c_15 hF_14
      clear hF_14
      exact Jj_6  s_1.2.2 hF_16 _ _ hP hS ls (lv_sub hl [1] rfl)
    · have hF_17 := ineg c_15 hF_14
      clear hF_14
      refine lv_aload_n hx hb dX6_endsAbove_14 rfl (lv_at hl 0 rfl) ?_
      refine va_get (D := (dC, dI)) (ci := 6) (v := .ref (rA 9 0)) (C := RX6) (T := TX6) (N := 12) hx hb hts ii_X6 hown hK hP 0 rfl rfl 0 (by decide) (hts (.fieldLink RX6 9 "StoryHouse$Play" "parents" "[I") wq_217) (fun _ h9 => h9) rfl dX6_endsAbove_15 ?_
      refine lv_iload_n hx hb dX6_endsAbove_18 rfl (lv_at hl 1 rfl) ?_
      have hq9 : ((b_p cB cC cI cJ cZ oA rA s_1.2.2))[1]? = some (rA 9 0, .inl (cI, 121, .inl ((s_1.2.2 9).2.1 0))) := rfl
      have hPc := hP.sub (ws' := [(rA 9 0, .inl (cI, 121, .inl ((s_1.2.2 9).2.1 0)))]) [1] (pk_fm (er_C hq9))
      have hDc := (hDD s_1.2.2).sub (ws' := [(rA 9 0, .inl (cI, 121, .inl ((s_1.2.2 9).2.1 0)))]) [1] (by decide +kernel) (er_C hq9)
      have hFc := va_free (wc := [(rA 9 0, .inl (cI, 121, .inl ((s_1.2.2 9).2.1 0)))]) (hDD s_1.2.2) hS hA [1] (er_C hq9)
      refine g_ofi (wc := [(rA 9 0, .inl (cI, 121, .inl ((s_1.2.2 9).2.1 0)))]) (wr := (((b_p cB cC cI cJ cZ oA rA s_1.2.2)).eraseIdx 1)) hP (hDD s_1.2.2) hS hFc [1] ((List.range ((b_p cB cC cI cJ cZ oA rA s_1.2.2)).length).eraseIdx 1) (er_C hq9) er_R er_n er_d (va_runSN (As := [.ref (rA 9 0), .int s_1.1]) (rest := []) ⟨hx, hb, hml, hown, hts⟩ (c_X11_at l dC dI cB cC cI cJ cZ cP H.size (rA 9 0) s_1.1 121 ((s_1.2.2 9).2.1 0) (by decide)) ⟨va_cnB 2 hts (g_gA wq_407) rfl rfl rfl (nw_28 hN) (hts (.initialized RX11) wq_1) (by decide +kernel) ⟨Nat.le_of_ble_eq_true rfl, Nat.le_of_ble_eq_true rfl⟩, (hts (.static yX11_at) wq_406), trivial⟩ (g_preS g_bl0 hK hPc hDc hS hE hFc g_to0) rfl rfl hl.1 rfl (lv_room (Nat.le_of_ble_eq_true rfl)) dX6_endsAbove_19 ⟨Nat.le_of_ble_eq_true rfl, Nat.le_of_ble_eq_true rfl⟩) (fun r9 u9 H locs hw9 hP' hD' hS => ?_)
      clear hPc hDc hFc hD'
      have hP : va_P (dC, dI) vwCl (b_p cB cC cI cJ cZ oA rA s_1.2.2) H := er_I hP' hq9
      clear hP' hq9
      subst hw9
      obtain ⟨x_18, ex_18, hF_19⟩ := bnd_e hF_17
      clear hF_17
      refine m_top ex_18 ?_
      refine lv_istore_n (lv' := [(2, .int x_18), (0, .ref (oA 9)), (3, .int s_1.2.1)]) hx hb dX6_endsAbove_22 rfl hl (by decide) rfl (fun ls hl => ?_)
      obtain ⟨x_20, ex_20, hF_21⟩ := bnd_e hF_19
      clear hF_19
      refine lv_iinc (v := x_20) (lv' := [(3, .int x_20), (2, .int x_18), (0, .ref (oA 9))]) hx hb dX6_endsAbove_23 hl (k := 2) rfl (by rw [ex_20]; rfl) (by decide) rfl (fun ls hl => ?_)
      refine lv_goto (tgt := 4) hx hb dX6_endsAbove_26 (by decide) ?_
      exact ih_3 (x_18, x_20, s_1.2.2) hF_21 _ _ hP hS ls (lv_sub hl [2, 1, 0] rfl)
theorem dX6_isTree_0 : decode cX6_isTree 0 = .ok (.iconst 0, 1) := by decide +kernel
theorem dX6_isTree_1 : decode cX6_isTree 1 = .ok (.istore_n 2, 1) := by decide +kernel
theorem dX6_isTree_2 : decode cX6_isTree 2 = .ok (.iconst 0, 1) := by decide +kernel
theorem dX6_isTree_3 : decode cX6_isTree 3 = .ok (.istore_n 3, 1) := by decide +kernel
theorem dX6_isTree_4 : decode cX6_isTree 4 = .ok (.iconst 1, 1) := by decide +kernel
theorem dX6_isTree_5 : decode cX6_isTree 5 = .ok (.istore 4, 2) := by decide +kernel
theorem dX6_isTree_7 : decode cX6_isTree 7 = .ok (.iload 4, 2) := by decide +kernel
theorem dX6_isTree_9 : decode cX6_isTree 9 = .ok (.iload_n 1, 1) := by decide +kernel
theorem dX6_isTree_10 : decode cX6_isTree 10 = .ok (.if_icmp .gt 128, 3) := by decide +kernel
theorem dX6_isTree_13 : decode cX6_isTree 13 = .ok (.iload 4, 2) := by decide +kernel
theorem dX6_isTree_15 : decode cX6_isTree 15 = .ok (.bipush 120, 2) := by decide +kernel
theorem dX6_isTree_17 : decode cX6_isTree 17 = .ok (.if_icmp .gt 121, 3) := by decide +kernel
theorem dX6_isTree_20 : decode cX6_isTree 20 = .ok (.iload_n 2, 1) := by decide +kernel
theorem dX6_isTree_21 : decode cX6_isTree 21 = .ok (.aload_n 0, 1) := by decide +kernel
theorem dX6_isTree_22 : decode cX6_isTree 22 = .ok (.getfield 9, 3) := by decide +kernel
theorem dX6_isTree_25 : decode cX6_isTree 25 = .ok (.iload 4, 2) := by decide +kernel
theorem dX6_isTree_27 : decode cX6_isTree 27 = .ok (.invokestatic 83, 3) := by decide +kernel
theorem dX6_isTree_30 : decode cX6_isTree 30 = .ok (.ifCond .eq 7, 3) := by decide +kernel
theorem dX6_isTree_33 : decode cX6_isTree 33 = .ok (.iconst 1, 1) := by decide +kernel
theorem dX6_isTree_34 : decode cX6_isTree 34 = .ok (.goto 4, 3) := by decide +kernel
theorem dX6_isTree_37 : decode cX6_isTree 37 = .ok (.iconst 0, 1) := by decide +kernel
theorem dX6_isTree_38 : decode cX6_isTree 38 = .ok (.iadd, 1) := by decide +kernel
theorem dX6_isTree_39 : decode cX6_isTree 39 = .ok (.istore_n 2, 1) := by decide +kernel
theorem dX6_isTree_40 : decode cX6_isTree 40 = .ok (.aload_n 0, 1) := by decide +kernel
theorem dX6_isTree_41 : decode cX6_isTree 41 = .ok (.getfield 9, 3) := by decide +kernel
theorem dX6_isTree_44 : decode cX6_isTree 44 = .ok (.iload 4, 2) := by decide +kernel
theorem dX6_isTree_46 : decode cX6_isTree 46 = .ok (.invokestatic 83, 3) := by decide +kernel
theorem dX6_isTree_49 : decode cX6_isTree 49 = .ok (.iload_n 1, 1) := by decide +kernel
theorem dX6_isTree_50 : decode cX6_isTree 50 = .ok (.if_icmp .gt 12, 3) := by decide +kernel
theorem dX6_isTree_53 : decode cX6_isTree 53 = .ok (.aload_n 0, 1) := by decide +kernel
theorem dX6_isTree_54 : decode cX6_isTree 54 = .ok (.iload 4, 2) := by decide +kernel
theorem dX6_isTree_56 : decode cX6_isTree 56 = .ok (.invokevirtual 109, 3) := by decide +kernel
theorem dX6_isTree_59 : decode cX6_isTree 59 = .ok (.ifCond .ne 5, 3) := by decide +kernel
theorem dX6_isTree_62 : decode cX6_isTree 62 = .ok (.iconst 0, 1) := by decide +kernel
theorem dX6_isTree_63 : decode cX6_isTree 63 = .ok (.ireturn, 1) := by decide +kernel
theorem dX6_isTree_64 : decode cX6_isTree 64 = .ok (.aload_n 0, 1) := by decide +kernel
theorem dX6_isTree_65 : decode cX6_isTree 65 = .ok (.getfield 15, 3) := by decide +kernel
theorem dX6_isTree_68 : decode cX6_isTree 68 = .ok (.iload 4, 2) := by decide +kernel
theorem dX6_isTree_70 : decode cX6_isTree 70 = .ok (.invokestatic 83, 3) := by decide +kernel
theorem dX6_isTree_73 : decode cX6_isTree 73 = .ok (.istore 5, 2) := by decide +kernel
theorem dX6_isTree_75 : decode cX6_isTree 75 = .ok (.iconst 0, 1) := by decide +kernel
theorem dX6_isTree_76 : decode cX6_isTree 76 = .ok (.istore 6, 2) := by decide +kernel
theorem dX6_isTree_78 : decode cX6_isTree 78 = .ok (.iload 6, 2) := by decide +kernel
theorem dX6_isTree_80 : decode cX6_isTree 80 = .ok (.iload_n 1, 1) := by decide +kernel
theorem dX6_isTree_81 : decode cX6_isTree 81 = .ok (.if_icmp .ge 44, 3) := by decide +kernel
theorem dX6_isTree_84 : decode cX6_isTree 84 = .ok (.iload 5, 2) := by decide +kernel
theorem dX6_isTree_86 : decode cX6_isTree 86 = .ok (.ifCond .eq 39, 3) := by decide +kernel
theorem dX6_isTree_89 : decode cX6_isTree 89 = .ok (.aload_n 0, 1) := by decide +kernel
theorem dX6_isTree_90 : decode cX6_isTree 90 = .ok (.getfield 9, 3) := by decide +kernel
theorem dX6_isTree_93 : decode cX6_isTree 93 = .ok (.iload 5, 2) := by decide +kernel
theorem dX6_isTree_95 : decode cX6_isTree 95 = .ok (.invokestatic 83, 3) := by decide +kernel
theorem dX6_isTree_98 : decode cX6_isTree 98 = .ok (.iload 4, 2) := by decide +kernel
theorem dX6_isTree_100 : decode cX6_isTree 100 = .ok (.if_icmp .eq 5, 3) := by decide +kernel
theorem dX6_isTree_103 : decode cX6_isTree 103 = .ok (.iconst 0, 1) := by decide +kernel
theorem dX6_isTree_104 : decode cX6_isTree 104 = .ok (.ireturn, 1) := by decide +kernel
theorem dX6_isTree_105 : decode cX6_isTree 105 = .ok (.iinc 3 1, 3) := by decide +kernel
theorem dX6_isTree_108 : decode cX6_isTree 108 = .ok (.aload_n 0, 1) := by decide +kernel
theorem dX6_isTree_109 : decode cX6_isTree 109 = .ok (.getfield 18, 3) := by decide +kernel
theorem dX6_isTree_112 : decode cX6_isTree 112 = .ok (.iload 5, 2) := by decide +kernel
theorem dX6_isTree_114 : decode cX6_isTree 114 = .ok (.invokestatic 83, 3) := by decide +kernel
theorem dX6_isTree_117 : decode cX6_isTree 117 = .ok (.istore 5, 2) := by decide +kernel
theorem dX6_isTree_119 : decode cX6_isTree 119 = .ok (.iinc 6 1, 3) := by decide +kernel
theorem dX6_isTree_122 : decode cX6_isTree 122 = .ok (.goto (-44), 3) := by decide +kernel
theorem dX6_isTree_125 : decode cX6_isTree 125 = .ok (.iload 5, 2) := by decide +kernel
theorem dX6_isTree_127 : decode cX6_isTree 127 = .ok (.ifCond .eq 5, 3) := by decide +kernel
theorem dX6_isTree_130 : decode cX6_isTree 130 = .ok (.iconst 0, 1) := by decide +kernel
theorem dX6_isTree_131 : decode cX6_isTree 131 = .ok (.ireturn, 1) := by decide +kernel
theorem dX6_isTree_132 : decode cX6_isTree 132 = .ok (.iinc 4 1, 3) := by decide +kernel
theorem dX6_isTree_135 : decode cX6_isTree 135 = .ok (.goto (-128), 3) := by decide +kernel
theorem dX6_isTree_138 : decode cX6_isTree 138 = .ok (.iload_n 3, 1) := by decide +kernel
theorem dX6_isTree_139 : decode cX6_isTree 139 = .ok (.iload_n 2, 1) := by decide +kernel
theorem dX6_isTree_140 : decode cX6_isTree 140 = .ok (.if_icmp .ne 7, 3) := by decide +kernel
theorem dX6_isTree_143 : decode cX6_isTree 143 = .ok (.iconst 1, 1) := by decide +kernel
theorem dX6_isTree_144 : decode cX6_isTree 144 = .ok (.goto 4, 3) := by decide +kernel
theorem dX6_isTree_147 : decode cX6_isTree 147 = .ok (.iconst 0, 1) := by decide +kernel
theorem dX6_isTree_148 : decode cX6_isTree 148 = .ok (.ireturn, 1) := by decide +kernel
def F_X6_isTree (p0 : Int32) (Γ : HS) : HR :=
  loopF (fun (again_2 : (Int32 × Int32 × Int32 × HS) → HR) (s_1 : Int32 × Int32 × Int32 × HS) => (
    bnd (fun  (σ_5 : HS) => (
      if s_1.2.1 = s_1.1 then (
        some (1, σ_5)
      ) else (
        some (0, σ_5)
      )
    ) : HS → HR) fun j_6 =>
    if p0 < s_1.2.2.1 then (
      j_6  s_1.2.2.2
    ) else (
      if 120 < s_1.2.2.1 then (
        j_6  s_1.2.2.2
      ) else (
        bnd ((g_at 121 ((s_1.2.2.2 9).2.1 0) s_1.2.2.1)) fun (x_18 : Int32) =>
        bnd (fun (t_20 : Int32) (σ_21 : HS) => (
          bnd ((s_1.1 + t_20)) fun (x_25 : Int32) =>
          bnd ((g_at 121 ((σ_21 9).2.1 0) s_1.2.2.1)) fun (x_27 : Int32) =>
          if p0 < x_27 then (
            some (0, σ_21)
          ) else (
            (F_X6_endsAbove s_1.2.2.1 σ_21).bind fun u_32 =>
            if u_32.1 = 0 then (
              some (0, u_32.2)
            ) else (
              bnd ((g_at 121 ((u_32.2 9).2.1 1) s_1.2.2.1)) fun (x_37 : Int32) =>
              loopF (fun (again_40 : (Int32 × Int32 × Int32 × HS) → HR) (s_39 : Int32 × Int32 × Int32 × HS) => (
                bnd (fun  (σ_43 : HS) => (
                  if s_39.2.1 = 0 then (
                    bnd (s_1.2.2.1 + 1) fun (x_49 : Int32) =>
                    again_2 (x_25, s_39.1, x_49, σ_43)
                  ) else (
                    some (0, σ_43)
                  )
                ) : HS → HR) fun j_44 =>
                if p0 ≤ s_39.2.2.1 then (
                  j_44  s_39.2.2.2
                ) else (
                  if s_39.2.1 = 0 then (
                    j_44  s_39.2.2.2
                  ) else (
                    bnd ((g_at 121 ((s_39.2.2.2 9).2.1 0) s_39.2.1)) fun (x_58 : Int32) =>
                    if x_58 = s_1.2.2.1 then (
                      bnd (s_39.1 + 1) fun (x_62 : Int32) =>
                      bnd ((g_at 121 ((s_39.2.2.2 9).2.1 2) s_39.2.1)) fun (x_64 : Int32) =>
                      bnd (s_39.2.2.1 + 1) fun (x_66 : Int32) =>
                      again_40 (x_62, x_64, x_66, s_39.2.2.2)
                    ) else (
                      some (0, s_39.2.2.2)
                    )
                  )
                )
              )) FU (s_1.2.1, x_37, 0, u_32.2)
            )
          )
        ) : Int32 → HS → HR) fun j_22 =>
        if x_18 = 0 then (
          j_22 0 s_1.2.2.2
        ) else (
          j_22 1 s_1.2.2.2
        )
      )
    )
  )) FU (0, 0, 1, Γ)
set_option maxHeartbeats 4000000 in
set_option maxRecDepth 100000 in
theorem k_X6_isTree (l : Launch) (dC : Nat → ClassId) (dI : Nat → Nat → Nat) (cB cC cI cJ cZ cP : ClassId) (oA : Nat → Nat) (rA : Nat → Nat → Nat) (sz : Nat)  (p0 : Int32) (Γ : HS) (res : Int32 × HS) (hF : F_X6_isTree p0 Γ = some res) : Met l yX6_isTree (g_ws yX6_isTree cX6_isTree 7 (some .boolean)) ({ frames := 4, cells := 0, slots := 0, locals := 104 }) (va_Pc [.ref (oA 9), .int p0] (g_B (dC, dI) [(cB, .byte), (cC, .char), (cI, .int), (cJ, .long), (cZ, .boolean), (cP, .object "StoryHouse$Play")] sz (b_p cB cC cI cJ cZ oA rA Γ) g_0)) (va_Qi (fun r (_ : Unit) => r = res.1) (g_Bo (dC, dI) (va_A (b_p cB cC cI cJ cZ oA rA Γ) sz) (fun (_ : Unit) => (b_p cB cC cI cJ cZ oA rA res.2))) (va_A (b_p cB cC cI cJ cZ oA rA Γ) sz)) 0 0 (va_A (b_p cB cC cI cJ cZ oA rA Γ) sz) := by
  refine Met.ofW (cc := cX6_isTree) (maxL := 7) (ret := (some .boolean)) (by decide) rfl ?_
  intro p e s m args below meth c s₁ B hml hv
  obtain ⟨rfl, hsz, hP, hK, hD0, hE, hX⟩ := hv
  have hx := B.exec
  have hb := B.bytes
  have hr := B.returns
  have hts0 := atoms_spec (ws := g_ws yX6_isTree cX6_isTree 7 (some .boolean)) B.pre
  have hts : ∀ w ∈ lw_good, w.before ([.ref (oA 9), .int p0] : List Value).toArray s = true := fun w z => hts0 w (List.mem_cons_of_mem _ z)
  have hown : s.vm.findClass RX6 = some m.cls := findClass_of_methodNamed B.named
  have hlocks := B.notSynchronized
  subst hsz
  have hD1 := hD0.self (sz := s.heap.size)
  generalize hAe : va_A (b_p cB cC cI cJ cZ oA rA Γ) s.heap.size = A at hD1 hE hX ⊢
  have hA : ∀ q : Nat, s.heap.size ≤ q → A q := fun q z => by rw [← hAe]; exact Or.inr z
  have hDD : ∀ Γ : HS, va_D A (b_p cB cC cI cJ cZ oA rA Γ) := fun Γ9 => va_D_fst (ws := (b_p cB cC cI cJ cZ oA rA Γ)) (ws' := (b_p cB cC cI cJ cZ oA rA Γ9)) rfl hD1
  have hN := hE.1
  have hS : va_S A s.heap s.heap [] := va_S.rf
  have hl := lv_entry ([.ref (oA 9), .int p0]) (n := 7) (Nat.le_of_ble_eq_true rfl)
  rw [lg_entry_eq]
  generalize (lg_sl ([.ref (oA 9), .int p0]) ++ List.replicate (7 - (lg_sl ([.ref (oA 9), .int p0])).length) Slot.unset).toArray = ls at hl ⊢
  have hl : lv_has ls 7 [(0, .ref (oA 9)), (1, .int p0)] := hl
  unfold F_X6_isTree at hF
  refine lv_iconst (v := 0) hx hb dX6_isTree_0 (by decide +kernel) ?_
  refine lv_istore_n (lv' := [(2, .int 0), (0, .ref (oA 9)), (1, .int p0)]) hx hb dX6_isTree_1 rfl hl (by decide) rfl (fun ls hl => ?_)
  refine lv_iconst (v := 0) hx hb dX6_isTree_2 (by decide +kernel) ?_
  refine lv_istore_n (lv' := [(3, .int 0), (2, .int 0), (0, .ref (oA 9)), (1, .int p0)]) hx hb dX6_isTree_3 rfl hl (by decide) rfl (fun ls hl => ?_)
  refine lv_iconst (v := 1) hx hb dX6_isTree_4 (by decide +kernel) ?_
  refine lv_istore (lv' := [(4, .int 1), (3, .int 0), (2, .int 0), (0, .ref (oA 9)), (1, .int p0)]) hx hb dX6_isTree_5 hl (by decide) rfl (fun ls hl => ?_)
  refine loopF_ind (P := fun (s_1 : Int32 × Int32 × Int32 × HS) => ∀ (H : Heap) (locs : List Loc), va_P (dC, dI) vwCl (b_p cB cC cI cJ cZ oA rA s_1.2.2.2) H → va_S A s.heap H locs → ∀ ls : Array Slot, lv_has ls 7 [(0, .ref (oA 9)), (1, .int p0), (2, .int s_1.1), (3, .int s_1.2.1), (4, .int s_1.2.2.1)] → W p l e (headSpec (g_ws yX6_isTree cX6_isTree 7 (some .boolean)) { frames := 4, cells := 0, slots := 0, locals := 104 }).room s m ([.ref (oA 9), .int p0] : List Value).toArray below meth c H locs 0 0 (MQ below (va_Qi (fun r (_ : Unit) => r = res.1) (g_Bo (dC, dI) A (fun (_ : Unit) => (b_p cB cC cI cJ cZ oA rA res.2))) A) ([.ref (oA 9), .int p0] : List Value).toArray s 0 0 A) (F0 m 7 ls [])) ?_ _ _ hF _ _ hP hS ls (lv_sub hl [3, 4, 2, 1, 0] rfl)
  intro again_2 s_1 ih_3 hF_4
  intro H locs hP hS ls hl
  refine lv_iload hx hb dX6_isTree_7 (lv_at hl 4 rfl) ?_
  refine lv_iload_n hx hb dX6_isTree_9 rfl (lv_at hl 1 rfl) ?_
  obtain ⟨j_6, ej_6, hF_7⟩ := bnd_e hF_4
  clear hF_4
  have Jj_6 : ∀  (σ_5 : HS), j_6  σ_5 = some res → ∀ (H : Heap) (locs : List Loc), va_P (dC, dI) vwCl (b_p cB cC cI cJ cZ oA rA σ_5) H → va_S A s.heap H locs → ∀ ls : Array Slot, lv_has ls 7 [(2, .int s_1.1), (3, .int s_1.2.1)] → W p l e (headSpec (g_ws yX6_isTree cX6_isTree 7 (some .boolean)) { frames := 4, cells := 0, slots := 0, locals := 104 }).room s m ([.ref (oA 9), .int p0] : List Value).toArray below meth c H locs 0 0 (MQ below (va_Qi (fun r (_ : Unit) => r = res.1) (g_Bo (dC, dI) A (fun (_ : Unit) => (b_p cB cC cI cJ cZ oA rA res.2))) A) ([.ref (oA 9), .int p0] : List Value).toArray s 0 0 A) (F0 m 138 ls []) := by
    intro  σ_5 hF0 H locs hP hS ls hl
    subst ej_6
    have hF_8 := hF0
    clear hF0
    refine lv_iload_n hx hb dX6_isTree_138 rfl (lv_at hl 1 rfl) ?_
    refine lv_iload_n hx hb dX6_isTree_139 rfl (lv_at hl 0 rfl) ?_
    refine lv_icmp_ne (tgt := 147) hx hb dX6_isTree_140 (by decide) (fun c_9 => ?_) (fun c_9 => ?_)
    · have hF_11 := ineg c_9 hF_8
      clear hF_8
      refine lv_iconst (v := 0) hx hb dX6_isTree_147 (by decide +kernel) ?_
      have h9 := Option.some.inj hF_11
      subst h9
      exact W.zret (v := 0) hx hb hr (by decide +kernel) (fun t ht hW => ⟨⟨0, (), rfl, rfl, m_end ht hP, hDD _⟩, hS.F ht⟩) hS.2.2 dX6_isTree_148
    · have hF_10 := ipos c_9 hF_8
      clear hF_8
      refine lv_iconst (v := 1) hx hb dX6_isTree_143 (by decide +kernel) ?_
      refine lv_goto (tgt := 148) hx hb dX6_isTree_144 (by decide) ?_
      have h9 := Option.some.inj hF_10
      subst h9
      exact W.zret (v := 1) hx hb hr (by decide +kernel) (fun t ht hW => ⟨⟨1, (), rfl, rfl, m_end ht hP, hDD _⟩, hS.F ht⟩) hS.2.2 dX6_isTree_148
  refine lv_icmp_gt (tgt := 138) hx hb dX6_isTree_10 (by decide) (fun c_12 => ?_) (fun c_12 => ?_)
  · have hF_13 := ipos c_12 hF_7
    clear hF_7
    exact Jj_6  s_1.2.2.2 hF_13 _ _ hP hS ls (lv_sub hl [2, 3] rfl)
  · have hF_14 := ineg c_12 hF_7
    clear hF_7
    refine lv_iload hx hb dX6_isTree_13 (lv_at hl 4 rfl) ?_
    refine lv_bipush (v := 120) hx hb dX6_isTree_15 (by decide +kernel) ?_
    refine lv_icmp_gt (tgt := 138) hx hb dX6_isTree_17 (by decide) (fun c_15 => ?_) (fun c_15 => ?_)
    · have hF_16 := ipos c_15 hF_14
      clear hF_14
      exact Jj_6  s_1.2.2.2 hF_16 _ _ hP hS ls (lv_sub hl [2, 3] rfl)
    · have hF_17 := ineg c_15 hF_14
      clear hF_14
      refine lv_iload_n hx hb dX6_isTree_20 rfl (lv_at hl 2 rfl) ?_
      refine lv_aload_n hx hb dX6_isTree_21 rfl (lv_at hl 0 rfl) ?_
      refine va_get (D := (dC, dI)) (ci := 6) (v := .ref (rA 9 0)) (C := RX6) (T := TX6) (N := 12) hx hb hts ii_X6 hown hK hP 0 rfl rfl 0 (by decide) (hts (.fieldLink RX6 9 "StoryHouse$Play" "parents" "[I") wq_217) (fun _ h9 => h9) rfl dX6_isTree_22 ?_
      refine lv_iload hx hb dX6_isTree_25 (lv_at hl 4 rfl) ?_
      have hq9 : ((b_p cB cC cI cJ cZ oA rA s_1.2.2.2))[1]? = some (rA 9 0, .inl (cI, 121, .inl ((s_1.2.2.2 9).2.1 0))) := rfl
      have hPc := hP.sub (ws' := [(rA 9 0, .inl (cI, 121, .inl ((s_1.2.2.2 9).2.1 0)))]) [1] (pk_fm (er_C hq9))
      have hDc := (hDD s_1.2.2.2).sub (ws' := [(rA 9 0, .inl (cI, 121, .inl ((s_1.2.2.2 9).2.1 0)))]) [1] (by decide +kernel) (er_C hq9)
      have hFc := va_free (wc := [(rA 9 0, .inl (cI, 121, .inl ((s_1.2.2.2 9).2.1 0)))]) (hDD s_1.2.2.2) hS hA [1] (er_C hq9)
      refine g_ofi (wc := [(rA 9 0, .inl (cI, 121, .inl ((s_1.2.2.2 9).2.1 0)))]) (wr := (((b_p cB cC cI cJ cZ oA rA s_1.2.2.2)).eraseIdx 1)) hP (hDD s_1.2.2.2) hS hFc [1] ((List.range ((b_p cB cC cI cJ cZ oA rA s_1.2.2.2)).length).eraseIdx 1) (er_C hq9) er_R er_n er_d (va_runSN (As := [.ref (rA 9 0), .int s_1.2.2.1]) (rest := [.int s_1.1]) ⟨hx, hb, hml, hown, hts⟩ (c_X11_at l dC dI cB cC cI cJ cZ cP H.size (rA 9 0) s_1.2.2.1 121 ((s_1.2.2.2 9).2.1 0) (by decide)) ⟨va_cnB 2 hts (g_gA wq_407) rfl rfl rfl (nw_28 hN) (hts (.initialized RX11) wq_1) (by decide +kernel) ⟨Nat.le_of_ble_eq_true rfl, Nat.le_of_ble_eq_true rfl⟩, (hts (.static yX11_at) wq_406), trivial⟩ (g_preS g_bl0 hK hPc hDc hS hE hFc g_to0) rfl rfl hl.1 rfl (lv_room (Nat.le_of_ble_eq_true rfl)) dX6_isTree_27 ⟨Nat.le_of_ble_eq_true rfl, Nat.le_of_ble_eq_true rfl⟩) (fun r9 u9 H locs hw9 hP' hD' hS => ?_)
      clear hPc hDc hFc hD'
      have hP : va_P (dC, dI) vwCl (b_p cB cC cI cJ cZ oA rA s_1.2.2.2) H := er_I hP' hq9
      clear hP' hq9
      subst hw9
      obtain ⟨x_18, ex_18, hF_19⟩ := bnd_e hF_17
      clear hF_17
      refine m_top ex_18 ?_
      obtain ⟨j_22, ej_22, hF_23⟩ := bnd_e hF_19
      clear hF_19
      have Jj_22 : ∀ (t_20 : Int32) (σ_21 : HS), j_22 t_20 σ_21 = some res → ∀ (H : Heap) (locs : List Loc), va_P (dC, dI) vwCl (b_p cB cC cI cJ cZ oA rA σ_21) H → va_S A s.heap H locs → ∀ ls : Array Slot, lv_has ls 7 [(0, .ref (oA 9)), (1, .int p0), (3, .int s_1.2.1), (4, .int s_1.2.2.1)] → W p l e (headSpec (g_ws yX6_isTree cX6_isTree 7 (some .boolean)) { frames := 4, cells := 0, slots := 0, locals := 104 }).room s m ([.ref (oA 9), .int p0] : List Value).toArray below meth c H locs 0 0 (MQ below (va_Qi (fun r (_ : Unit) => r = res.1) (g_Bo (dC, dI) A (fun (_ : Unit) => (b_p cB cC cI cJ cZ oA rA res.2))) A) ([.ref (oA 9), .int p0] : List Value).toArray s 0 0 A) (F0 m 38 ls [.int t_20, .int s_1.1]) := by
        intro t_20 σ_21 hF0 H locs hP hS ls hl
        subst ej_22
        have hF_24 := hF0
        clear hF0
        refine lv_iadd hx hb dX6_isTree_38 ?_
        obtain ⟨x_25, ex_25, hF_26⟩ := bnd_e hF_24
        clear hF_24
        refine m_top ex_25 ?_
        refine lv_istore_n (lv' := [(2, .int x_25), (0, .ref (oA 9)), (1, .int p0), (3, .int s_1.2.1), (4, .int s_1.2.2.1)]) hx hb dX6_isTree_39 rfl hl (by decide) rfl (fun ls hl => ?_)
        refine lv_aload_n hx hb dX6_isTree_40 rfl (lv_at hl 1 rfl) ?_
        refine va_get (D := (dC, dI)) (ci := 6) (v := .ref (rA 9 0)) (C := RX6) (T := TX6) (N := 12) hx hb hts ii_X6 hown hK hP 0 rfl rfl 0 (by decide) (hts (.fieldLink RX6 9 "StoryHouse$Play" "parents" "[I") wq_217) (fun _ h9 => h9) rfl dX6_isTree_41 ?_
        refine lv_iload hx hb dX6_isTree_44 (lv_at hl 4 rfl) ?_
        have hq9 : ((b_p cB cC cI cJ cZ oA rA σ_21))[1]? = some (rA 9 0, .inl (cI, 121, .inl ((σ_21 9).2.1 0))) := rfl
        have hPc := hP.sub (ws' := [(rA 9 0, .inl (cI, 121, .inl ((σ_21 9).2.1 0)))]) [1] (pk_fm (er_C hq9))
        have hDc := (hDD σ_21).sub (ws' := [(rA 9 0, .inl (cI, 121, .inl ((σ_21 9).2.1 0)))]) [1] (by decide +kernel) (er_C hq9)
        have hFc := va_free (wc := [(rA 9 0, .inl (cI, 121, .inl ((σ_21 9).2.1 0)))]) (hDD σ_21) hS hA [1] (er_C hq9)
        refine g_ofi (wc := [(rA 9 0, .inl (cI, 121, .inl ((σ_21 9).2.1 0)))]) (wr := (((b_p cB cC cI cJ cZ oA rA σ_21)).eraseIdx 1)) hP (hDD σ_21) hS hFc [1] ((List.range ((b_p cB cC cI cJ cZ oA rA σ_21)).length).eraseIdx 1) (er_C hq9) er_R er_n er_d (va_runSN (As := [.ref (rA 9 0), .int s_1.2.2.1]) (rest := []) ⟨hx, hb, hml, hown, hts⟩ (c_X11_at l dC dI cB cC cI cJ cZ cP H.size (rA 9 0) s_1.2.2.1 121 ((σ_21 9).2.1 0) (by decide)) ⟨va_cnB 2 hts (g_gA wq_407) rfl rfl rfl (nw_28 hN) (hts (.initialized RX11) wq_1) (by decide +kernel) ⟨Nat.le_of_ble_eq_true rfl, Nat.le_of_ble_eq_true rfl⟩, (hts (.static yX11_at) wq_406), trivial⟩ (g_preS g_bl0 hK hPc hDc hS hE hFc g_to0) rfl rfl hl.1 rfl (lv_room (Nat.le_of_ble_eq_true rfl)) dX6_isTree_46 ⟨Nat.le_of_ble_eq_true rfl, Nat.le_of_ble_eq_true rfl⟩) (fun r9 u9 H locs hw9 hP' hD' hS => ?_)
        clear hPc hDc hFc hD'
        have hP : va_P (dC, dI) vwCl (b_p cB cC cI cJ cZ oA rA σ_21) H := er_I hP' hq9
        clear hP' hq9
        subst hw9
        obtain ⟨x_27, ex_27, hF_28⟩ := bnd_e hF_26
        clear hF_26
        refine m_top ex_27 ?_
        refine lv_iload_n hx hb dX6_isTree_49 rfl (lv_at hl 2 rfl) ?_
        refine lv_icmp_gt (tgt := 62) hx hb dX6_isTree_50 (by decide) (fun c_29 => ?_) (fun c_29 => ?_)
        · have hF_30 := ipos c_29 hF_28
          clear hF_28
          refine lv_iconst (v := 0) hx hb dX6_isTree_62 (by decide +kernel) ?_
          have h9 := Option.some.inj hF_30
          subst h9
          exact W.zret (v := 0) hx hb hr (by decide +kernel) (fun t ht hW => ⟨⟨0, (), rfl, rfl, m_end ht hP, hDD _⟩, hS.F ht⟩) hS.2.2 dX6_isTree_63
        · have hF_31 := ineg c_29 hF_28
          clear hF_28
          refine lv_aload_n hx hb dX6_isTree_53 rfl (lv_at hl 1 rfl) ?_
          refine lv_iload hx hb dX6_isTree_54 (lv_at hl 4 rfl) ?_
          obtain ⟨u_32, hu_32, hF_33⟩ := Option.bind_eq_some_iff.mp hF_31
          clear hF_31
          have hPc := bx_P (bs := [b_p cB cC cI cJ cZ oA rA σ_21]) (bs' := [b_p cB cC cI cJ cZ oA rA σ_21]) (ws' := (b_p cB cC cI cJ cZ oA rA σ_21)) hP fl_1 fl_1 [0] rfl
          have hDc := bx_D (bs := [b_p cB cC cI cJ cZ oA rA σ_21]) (bs' := [b_p cB cC cI cJ cZ oA rA σ_21]) (ws' := (b_p cB cC cI cJ cZ oA rA σ_21)) (hDD σ_21) fl_1 fl_1 [0] (by decide +kernel) rfl
          have hFc := bx_F (bs := [b_p cB cC cI cJ cZ oA rA σ_21]) (bs' := [b_p cB cC cI cJ cZ oA rA σ_21]) (wc := (b_p cB cC cI cJ cZ oA rA σ_21)) (hDD σ_21) hS hA fl_1 fl_1 [0] rfl
          refine g_ofi (wc := (b_p cB cC cI cJ cZ oA rA σ_21)) (wr := ([] : va_W)) hP (hDD σ_21) hS hFc (bx_ix [b_p cB cC cI cJ cZ oA rA σ_21] [0]) (bx_ix [b_p cB cC cI cJ cZ oA rA σ_21] []) (bx_C (bs := [b_p cB cC cI cJ cZ oA rA σ_21]) (bs' := [b_p cB cC cI cJ cZ oA rA σ_21]) (is := [0]) fl_1 fl_1 rfl) (bx_C (bs := [b_p cB cC cI cJ cZ oA rA σ_21]) (bs' := []) (is := []) fl_1 fl_0 rfl) (bx_n (by decide +kernel)) (bx_d (by decide +kernel)) (va_runV (As := [.int s_1.2.2.1]) (rest := []) ⟨hx, hb, hml, hown, hts⟩ (k_X6_endsAbove l dC dI cB cC cI cJ cZ cP oA rA H.size  s_1.2.2.1 σ_21 _ hu_32) (cwV 1 hts (g_gV wq_909 wq_910 wq_2068 wq_10 wq_911) rfl rfl rfl (by decide +kernel) ⟨Nat.le_of_ble_eq_true rfl, Nat.le_of_ble_eq_true rfl⟩) (g_preV g_bl0 hK hPc hDc hS hE hFc g_to0 (q0 := 0) (ci := 6) rfl rfl) rfl rfl hl.1 rfl (lv_room (Nat.le_of_ble_eq_true rfl)) dX6_isTree_56 ⟨Nat.le_of_ble_eq_true rfl, Nat.le_of_ble_eq_true rfl⟩) (fun r9 u9 H locs hw9 hP' hD' hS => ?_)
          clear hPc hDc hFc
          subst hw9
          have hP : va_P (dC, dI) vwCl (b_p cB cC cI cJ cZ oA rA u_32.2) H := hP'
          clear hP' hD'
          refine lv_if_ne (tgt := 64) hx hb dX6_isTree_59 (by decide) (fun c_34 => ?_) (fun c_34 => ?_)
          · have hF_36 := ineg c_34 hF_33
            clear hF_33
            refine lv_aload_n hx hb dX6_isTree_64 rfl (lv_at hl 1 rfl) ?_
            refine va_get (D := (dC, dI)) (ci := 6) (v := .ref (rA 9 1)) (C := RX6) (T := TX6) (N := 12) hx hb hts ii_X6 hown hK hP 0 rfl rfl 1 (by decide) (hts (.fieldLink RX6 15 "StoryHouse$Play" "firsts" "[I") wq_221) (fun _ h9 => h9) rfl dX6_isTree_65 ?_
            refine lv_iload hx hb dX6_isTree_68 (lv_at hl 4 rfl) ?_
            have hq9 : ((b_p cB cC cI cJ cZ oA rA u_32.2))[2]? = some (rA 9 1, .inl (cI, 121, .inl ((u_32.2 9).2.1 1))) := rfl
            have hPc := hP.sub (ws' := [(rA 9 1, .inl (cI, 121, .inl ((u_32.2 9).2.1 1)))]) [2] (pk_fm (er_C hq9))
            have hDc := (hDD u_32.2).sub (ws' := [(rA 9 1, .inl (cI, 121, .inl ((u_32.2 9).2.1 1)))]) [2] (by decide +kernel) (er_C hq9)
            have hFc := va_free (wc := [(rA 9 1, .inl (cI, 121, .inl ((u_32.2 9).2.1 1)))]) (hDD u_32.2) hS hA [2] (er_C hq9)
            refine g_ofi (wc := [(rA 9 1, .inl (cI, 121, .inl ((u_32.2 9).2.1 1)))]) (wr := (((b_p cB cC cI cJ cZ oA rA u_32.2)).eraseIdx 2)) hP (hDD u_32.2) hS hFc [2] ((List.range ((b_p cB cC cI cJ cZ oA rA u_32.2)).length).eraseIdx 2) (er_C hq9) er_R er_n er_d (va_runSN (As := [.ref (rA 9 1), .int s_1.2.2.1]) (rest := []) ⟨hx, hb, hml, hown, hts⟩ (c_X11_at l dC dI cB cC cI cJ cZ cP H.size (rA 9 1) s_1.2.2.1 121 ((u_32.2 9).2.1 1) (by decide)) ⟨va_cnB 2 hts (g_gA wq_407) rfl rfl rfl (nw_28 hN) (hts (.initialized RX11) wq_1) (by decide +kernel) ⟨Nat.le_of_ble_eq_true rfl, Nat.le_of_ble_eq_true rfl⟩, (hts (.static yX11_at) wq_406), trivial⟩ (g_preS g_bl0 hK hPc hDc hS hE hFc g_to0) rfl rfl hl.1 rfl (lv_room (Nat.le_of_ble_eq_true rfl)) dX6_isTree_70 ⟨Nat.le_of_ble_eq_true rfl, Nat.le_of_ble_eq_true rfl⟩) (fun r9 u9 H locs hw9 hP' hD' hS => ?_)
            clear hPc hDc hFc hD'
            have hP : va_P (dC, dI) vwCl (b_p cB cC cI cJ cZ oA rA u_32.2) H := er_I hP' hq9
            clear hP' hq9
            subst hw9
            obtain ⟨x_37, ex_37, hF_38⟩ := bnd_e hF_36
            clear hF_36
            refine m_top ex_37 ?_
            refine lv_istore (lv' := [(5, .int x_37), (2, .int x_25), (0, .ref (oA 9)), (1, .int p0), (3, .int s_1.2.1), (4, .int s_1.2.2.1)]) hx hb dX6_isTree_73 hl (by decide) rfl (fun ls hl => ?_)
            refine lv_iconst (v := 0) hx hb dX6_isTree_75 (by decide +kernel) ?_
            refine lv_istore (lv' := [(6, .int 0), (5, .int x_37), (2, .int x_25), (0, .ref (oA 9)), (1, .int p0), (3, .int s_1.2.1), (4, .int s_1.2.2.1)]) hx hb dX6_isTree_76 hl (by decide) rfl (fun ls hl => ?_)
            refine loopF_ind (P := fun (s_39 : Int32 × Int32 × Int32 × HS) => ∀ (H : Heap) (locs : List Loc), va_P (dC, dI) vwCl (b_p cB cC cI cJ cZ oA rA s_39.2.2.2) H → va_S A s.heap H locs → ∀ ls : Array Slot, lv_has ls 7 [(0, .ref (oA 9)), (1, .int p0), (2, .int x_25), (3, .int s_39.1), (4, .int s_1.2.2.1), (5, .int s_39.2.1), (6, .int s_39.2.2.1)] → W p l e (headSpec (g_ws yX6_isTree cX6_isTree 7 (some .boolean)) { frames := 4, cells := 0, slots := 0, locals := 104 }).room s m ([.ref (oA 9), .int p0] : List Value).toArray below meth c H locs 0 0 (MQ below (va_Qi (fun r (_ : Unit) => r = res.1) (g_Bo (dC, dI) A (fun (_ : Unit) => (b_p cB cC cI cJ cZ oA rA res.2))) A) ([.ref (oA 9), .int p0] : List Value).toArray s 0 0 A) (F0 m 78 ls [])) ?_ _ _ hF_38 _ _ hP hS ls (lv_sub hl [3, 4, 2, 5, 6, 1, 0] rfl)
            intro again_40 s_39 ih_41 hF_42
            intro H locs hP hS ls hl
            refine lv_iload hx hb dX6_isTree_78 (lv_at hl 6 rfl) ?_
            refine lv_iload_n hx hb dX6_isTree_80 rfl (lv_at hl 1 rfl) ?_
            obtain ⟨j_44, ej_44, hF_45⟩ := bnd_e hF_42
            clear hF_42
            have Jj_44 : ∀  (σ_43 : HS), j_44  σ_43 = some res → ∀ (H : Heap) (locs : List Loc), va_P (dC, dI) vwCl (b_p cB cC cI cJ cZ oA rA σ_43) H → va_S A s.heap H locs → ∀ ls : Array Slot, lv_has ls 7 [(0, .ref (oA 9)), (1, .int p0), (2, .int x_25), (3, .int s_39.1), (4, .int s_1.2.2.1), (5, .int s_39.2.1)] → W p l e (headSpec (g_ws yX6_isTree cX6_isTree 7 (some .boolean)) { frames := 4, cells := 0, slots := 0, locals := 104 }).room s m ([.ref (oA 9), .int p0] : List Value).toArray below meth c H locs 0 0 (MQ below (va_Qi (fun r (_ : Unit) => r = res.1) (g_Bo (dC, dI) A (fun (_ : Unit) => (b_p cB cC cI cJ cZ oA rA res.2))) A) ([.ref (oA 9), .int p0] : List Value).toArray s 0 0 A) (F0 m 125 ls []) := by
              intro  σ_43 hF0 H locs hP hS ls hl
              subst ej_44
              have hF_46 := hF0
              clear hF0
              refine lv_iload hx hb dX6_isTree_125 (lv_at hl 5 rfl) ?_
              refine lv_if_eq (tgt := 132) hx hb dX6_isTree_127 (by decide) (fun c_47 => ?_) (fun c_47 => ?_)
              · have hF_48 := ipos c_47 hF_46
                clear hF_46
                obtain ⟨x_49, ex_49, hF_50⟩ := bnd_e hF_48
                clear hF_48
                refine lv_iinc (v := x_49) (lv' := [(4, .int x_49), (0, .ref (oA 9)), (1, .int p0), (2, .int x_25), (3, .int s_39.1), (5, .int s_39.2.1)]) hx hb dX6_isTree_132 hl (k := 4) rfl (by rw [ex_49]; rfl) (by decide) rfl (fun ls hl => ?_)
                refine lv_goto (tgt := 7) hx hb dX6_isTree_135 (by decide) ?_
                exact ih_3 (x_25, s_39.1, x_49, σ_43) hF_50 _ _ hP hS ls (lv_sub hl [1, 2, 3, 4, 0] rfl)
              · have hF_51 := ineg c_47 hF_46
                clear hF_46
                refine lv_iconst (v := 0) hx hb dX6_isTree_130 (by decide +kernel) ?_
                have h9 := Option.some.inj hF_51
                subst h9
                exact W.zret (v := 0) hx hb hr (by decide +kernel) (fun t ht hW => ⟨⟨0, (), rfl, rfl, m_end ht hP, hDD _⟩, hS.F ht⟩) hS.2.2 dX6_isTree_131
            refine lv_icmp_ge (tgt := 125) hx hb dX6_isTree_81 (by decide) (fun c_52 => ?_) (fun c_52 => ?_)
            · have hF_53 := ipos c_52 hF_45
              clear hF_45
              exact Jj_44  s_39.2.2.2 hF_53 _ _ hP hS ls (lv_sub hl [0, 1, 2, 3, 4, 5] rfl)
            · have hF_54 := ineg c_52 hF_45
              clear hF_45
              refine lv_iload hx hb dX6_isTree_84 (lv_at hl 5 rfl) ?_
              refine lv_if_eq (tgt := 125) hx hb dX6_isTree_86 (by decide) (fun c_55 => ?_) (fun c_55 => ?_)
              · have hF_56 := ipos c_55 hF_54
                clear hF_54
                exact Jj_44  s_39.2.2.2 hF_56 _ _ hP hS ls (lv_sub hl [0, 1, 2, 3, 4, 5] rfl)
              · have hF_57 := ineg c_55 hF_54
                clear hF_54
                refine lv_aload_n hx hb dX6_isTree_89 rfl (lv_at hl 0 rfl) ?_
                refine va_get (D := (dC, dI)) (ci := 6) (v := .ref (rA 9 0)) (C := RX6) (T := TX6) (N := 12) hx hb hts ii_X6 hown hK hP 0 rfl rfl 0 (by decide) (hts (.fieldLink RX6 9 "StoryHouse$Play" "parents" "[I") wq_217) (fun _ h9 => h9) rfl dX6_isTree_90 ?_
                refine lv_iload hx hb dX6_isTree_93 (lv_at hl 5 rfl) ?_
                have hq9 : ((b_p cB cC cI cJ cZ oA rA s_39.2.2.2))[1]? = some (rA 9 0, .inl (cI, 121, .inl ((s_39.2.2.2 9).2.1 0))) := rfl
                have hPc := hP.sub (ws' := [(rA 9 0, .inl (cI, 121, .inl ((s_39.2.2.2 9).2.1 0)))]) [1] (pk_fm (er_C hq9))
                have hDc := (hDD s_39.2.2.2).sub (ws' := [(rA 9 0, .inl (cI, 121, .inl ((s_39.2.2.2 9).2.1 0)))]) [1] (by decide +kernel) (er_C hq9)
                have hFc := va_free (wc := [(rA 9 0, .inl (cI, 121, .inl ((s_39.2.2.2 9).2.1 0)))]) (hDD s_39.2.2.2) hS hA [1] (er_C hq9)
                refine g_ofi (wc := [(rA 9 0, .inl (cI, 121, .inl ((s_39.2.2.2 9).2.1 0)))]) (wr := (((b_p cB cC cI cJ cZ oA rA s_39.2.2.2)).eraseIdx 1)) hP (hDD s_39.2.2.2) hS hFc [1] ((List.range ((b_p cB cC cI cJ cZ oA rA s_39.2.2.2)).length).eraseIdx 1) (er_C hq9) er_R er_n er_d (va_runSN (As := [.ref (rA 9 0), .int s_39.2.1]) (rest := []) ⟨hx, hb, hml, hown, hts⟩ (c_X11_at l dC dI cB cC cI cJ cZ cP H.size (rA 9 0) s_39.2.1 121 ((s_39.2.2.2 9).2.1 0) (by decide)) ⟨va_cnB 2 hts (g_gA wq_407) rfl rfl rfl (nw_28 hN) (hts (.initialized RX11) wq_1) (by decide +kernel) ⟨Nat.le_of_ble_eq_true rfl, Nat.le_of_ble_eq_true rfl⟩, (hts (.static yX11_at) wq_406), trivial⟩ (g_preS g_bl0 hK hPc hDc hS hE hFc g_to0) rfl rfl hl.1 rfl (lv_room (Nat.le_of_ble_eq_true rfl)) dX6_isTree_95 ⟨Nat.le_of_ble_eq_true rfl, Nat.le_of_ble_eq_true rfl⟩) (fun r9 u9 H locs hw9 hP' hD' hS => ?_)
                clear hPc hDc hFc hD'
                have hP : va_P (dC, dI) vwCl (b_p cB cC cI cJ cZ oA rA s_39.2.2.2) H := er_I hP' hq9
                clear hP' hq9
                subst hw9
                obtain ⟨x_58, ex_58, hF_59⟩ := bnd_e hF_57
                clear hF_57
                refine m_top ex_58 ?_
                refine lv_iload hx hb dX6_isTree_98 (lv_at hl 4 rfl) ?_
                refine lv_icmp_eq (tgt := 105) hx hb dX6_isTree_100 (by decide) (fun c_60 => ?_) (fun c_60 => ?_)
                · have hF_61 := ipos c_60 hF_59
                  clear hF_59
                  obtain ⟨x_62, ex_62, hF_63⟩ := bnd_e hF_61
                  clear hF_61
                  refine lv_iinc (v := x_62) (lv' := [(3, .int x_62), (0, .ref (oA 9)), (1, .int p0), (2, .int x_25), (4, .int s_1.2.2.1), (5, .int s_39.2.1), (6, .int s_39.2.2.1)]) hx hb dX6_isTree_105 hl (k := 3) rfl (by rw [ex_62]; rfl) (by decide) rfl (fun ls hl => ?_)
                  refine lv_aload_n hx hb dX6_isTree_108 rfl (lv_at hl 1 rfl) ?_
                  refine va_get (D := (dC, dI)) (ci := 6) (v := .ref (rA 9 2)) (C := RX6) (T := TX6) (N := 12) hx hb hts ii_X6 hown hK hP 0 rfl rfl 2 (by decide) (hts (.fieldLink RX6 18 "StoryHouse$Play" "nexts" "[I") wq_225) (fun _ h9 => h9) rfl dX6_isTree_109 ?_
                  refine lv_iload hx hb dX6_isTree_112 (lv_at hl 5 rfl) ?_
                  have hq9 : ((b_p cB cC cI cJ cZ oA rA s_39.2.2.2))[3]? = some (rA 9 2, .inl (cI, 121, .inl ((s_39.2.2.2 9).2.1 2))) := rfl
                  have hPc := hP.sub (ws' := [(rA 9 2, .inl (cI, 121, .inl ((s_39.2.2.2 9).2.1 2)))]) [3] (pk_fm (er_C hq9))
                  have hDc := (hDD s_39.2.2.2).sub (ws' := [(rA 9 2, .inl (cI, 121, .inl ((s_39.2.2.2 9).2.1 2)))]) [3] (by decide +kernel) (er_C hq9)
                  have hFc := va_free (wc := [(rA 9 2, .inl (cI, 121, .inl ((s_39.2.2.2 9).2.1 2)))]) (hDD s_39.2.2.2) hS hA [3] (er_C hq9)
                  refine g_ofi (wc := [(rA 9 2, .inl (cI, 121, .inl ((s_39.2.2.2 9).2.1 2)))]) (wr := (((b_p cB cC cI cJ cZ oA rA s_39.2.2.2)).eraseIdx 3)) hP (hDD s_39.2.2.2) hS hFc [3] ((List.range ((b_p cB cC cI cJ cZ oA rA s_39.2.2.2)).length).eraseIdx 3) (er_C hq9) er_R er_n er_d (va_runSN (As := [.ref (rA 9 2), .int s_39.2.1]) (rest := []) ⟨hx, hb, hml, hown, hts⟩ (c_X11_at l dC dI cB cC cI cJ cZ cP H.size (rA 9 2) s_39.2.1 121 ((s_39.2.2.2 9).2.1 2) (by decide)) ⟨va_cnB 2 hts (g_gA wq_407) rfl rfl rfl (nw_28 hN) (hts (.initialized RX11) wq_1) (by decide +kernel) ⟨Nat.le_of_ble_eq_true rfl, Nat.le_of_ble_eq_true rfl⟩, (hts (.static yX11_at) wq_406), trivial⟩ (g_preS g_bl0 hK hPc hDc hS hE hFc g_to0) rfl rfl hl.1 rfl (lv_room (Nat.le_of_ble_eq_true rfl)) dX6_isTree_114 ⟨Nat.le_of_ble_eq_true rfl, Nat.le_of_ble_eq_true rfl⟩) (fun r9 u9 H locs hw9 hP' hD' hS => ?_)
                  clear hPc hDc hFc hD'
                  have hP : va_P (dC, dI) vwCl (b_p cB cC cI cJ cZ oA rA s_39.2.2.2) H := er_I hP' hq9
                  clear hP' hq9
                  subst hw9
                  obtain ⟨x_64, ex_64, hF_65⟩ := bnd_e hF_63
                  clear hF_63
                  refine m_top ex_64 ?_
                  refine lv_istore (lv' := [(5, .int x_64), (3, .int x_62), (0, .ref (oA 9)), (1, .int p0), (2, .int x_25), (4, .int s_1.2.2.1), (6, .int s_39.2.2.1)]) hx hb dX6_isTree_117 hl (by decide) rfl (fun ls hl => ?_)
                  obtain ⟨x_66, ex_66, hF_67⟩ := bnd_e hF_65
                  clear hF_65
                  refine lv_iinc (v := x_66) (lv' := [(6, .int x_66), (5, .int x_64), (3, .int x_62), (0, .ref (oA 9)), (1, .int p0), (2, .int x_25), (4, .int s_1.2.2.1)]) hx hb dX6_isTree_119 hl (k := 6) rfl (by rw [ex_66]; rfl) (by decide) rfl (fun ls hl => ?_)
                  refine lv_goto (tgt := 78) hx hb dX6_isTree_122 (by decide) ?_
                  exact ih_41 (x_62, x_64, x_66, s_39.2.2.2) hF_67 _ _ hP hS ls (lv_sub hl [3, 4, 5, 2, 6, 1, 0] rfl)
                · have hF_68 := ineg c_60 hF_59
                  clear hF_59
                  refine lv_iconst (v := 0) hx hb dX6_isTree_103 (by decide +kernel) ?_
                  have h9 := Option.some.inj hF_68
                  subst h9
                  exact W.zret (v := 0) hx hb hr (by decide +kernel) (fun t ht hW => ⟨⟨0, (), rfl, rfl, m_end ht hP, hDD _⟩, hS.F ht⟩) hS.2.2 dX6_isTree_104
          · have hF_35 := ipos c_34 hF_33
            clear hF_33
            refine lv_iconst (v := 0) hx hb dX6_isTree_62 (by decide +kernel) ?_
            have h9 := Option.some.inj hF_35
            subst h9
            exact W.zret (v := 0) hx hb hr (by decide +kernel) (fun t ht hW => ⟨⟨0, (), rfl, rfl, m_end ht hP, hDD _⟩, hS.F ht⟩) hS.2.2 dX6_isTree_63
      refine lv_if_eq (tgt := 37) hx hb dX6_isTree_30 (by decide) (fun c_69 => ?_) (fun c_69 => ?_)
      · have hF_70 := ipos c_69 hF_23
        clear hF_23
        refine lv_iconst (v := 0) hx hb dX6_isTree_37 (by decide +kernel) ?_
        exact Jj_22 0 s_1.2.2.2 hF_70 _ _ hP hS ls (lv_sub hl [0, 1, 3, 4] rfl)
      · have hF_71 := ineg c_69 hF_23
        clear hF_23
        refine lv_iconst (v := 1) hx hb dX6_isTree_33 (by decide +kernel) ?_
        refine lv_goto (tgt := 38) hx hb dX6_isTree_34 (by decide) ?_
        exact Jj_22 1 s_1.2.2.2 hF_71 _ _ hP hS ls (lv_sub hl [0, 1, 3, 4] rfl)
theorem dX7_learnOwned_0 : decode cX7_learnOwned 0 = .ok (.iconst 0, 1) := by decide +kernel
theorem dX7_learnOwned_1 : decode cX7_learnOwned 1 = .ok (.istore_n 3, 1) := by decide +kernel
theorem dX7_learnOwned_2 : decode cX7_learnOwned 2 = .ok (.iconst 0, 1) := by decide +kernel
theorem dX7_learnOwned_3 : decode cX7_learnOwned 3 = .ok (.istore 4, 2) := by decide +kernel
theorem dX7_learnOwned_5 : decode cX7_learnOwned 5 = .ok (.iload 4, 2) := by decide +kernel
theorem dX7_learnOwned_7 : decode cX7_learnOwned 7 = .ok (.aload_n 2, 1) := by decide +kernel
theorem dX7_learnOwned_8 : decode cX7_learnOwned 8 = .ok (.invokevirtual 145, 3) := by decide +kernel
theorem dX7_learnOwned_11 : decode cX7_learnOwned 11 = .ok (.if_icmp .ge 43, 3) := by decide +kernel
theorem dX7_learnOwned_14 : decode cX7_learnOwned 14 = .ok (.iload_n 3, 1) := by decide +kernel
theorem dX7_learnOwned_15 : decode cX7_learnOwned 15 = .ok (.aload_n 2, 1) := by decide +kernel
theorem dX7_learnOwned_16 : decode cX7_learnOwned 16 = .ok (.invokevirtual 145, 3) := by decide +kernel
theorem dX7_learnOwned_19 : decode cX7_learnOwned 19 = .ok (.if_icmp .ge 35, 3) := by decide +kernel
theorem dX7_learnOwned_22 : decode cX7_learnOwned 22 = .ok (.aload_n 2, 1) := by decide +kernel
theorem dX7_learnOwned_23 : decode cX7_learnOwned 23 = .ok (.iload_n 3, 1) := by decide +kernel
theorem dX7_learnOwned_24 : decode cX7_learnOwned 24 = .ok (.invokestatic 151, 3) := by decide +kernel
theorem dX7_learnOwned_27 : decode cX7_learnOwned 27 = .ok (.istore 5, 2) := by decide +kernel
theorem dX7_learnOwned_29 : decode cX7_learnOwned 29 = .ok (.aload_n 0, 1) := by decide +kernel
theorem dX7_learnOwned_30 : decode cX7_learnOwned 30 = .ok (.iload_n 1, 1) := by decide +kernel
theorem dX7_learnOwned_31 : decode cX7_learnOwned 31 = .ok (.aload_n 2, 1) := by decide +kernel
theorem dX7_learnOwned_32 : decode cX7_learnOwned 32 = .ok (.iload_n 3, 1) := by decide +kernel
theorem dX7_learnOwned_33 : decode cX7_learnOwned 33 = .ok (.iload 5, 2) := by decide +kernel
theorem dX7_learnOwned_35 : decode cX7_learnOwned 35 = .ok (.bipush 9, 2) := by decide +kernel
theorem dX7_learnOwned_37 : decode cX7_learnOwned 37 = .ok (.invokestatic 101, 3) := by decide +kernel
theorem dX7_learnOwned_40 : decode cX7_learnOwned 40 = .ok (.invokevirtual 105, 3) := by decide +kernel
theorem dX7_learnOwned_43 : decode cX7_learnOwned 43 = .ok (.iload 5, 2) := by decide +kernel
theorem dX7_learnOwned_45 : decode cX7_learnOwned 45 = .ok (.iconst 1, 1) := by decide +kernel
theorem dX7_learnOwned_46 : decode cX7_learnOwned 46 = .ok (.iadd, 1) := by decide +kernel
theorem dX7_learnOwned_47 : decode cX7_learnOwned 47 = .ok (.istore_n 3, 1) := by decide +kernel
theorem dX7_learnOwned_48 : decode cX7_learnOwned 48 = .ok (.iinc 4 1, 3) := by decide +kernel
theorem dX7_learnOwned_51 : decode cX7_learnOwned 51 = .ok (.goto (-46), 3) := by decide +kernel
theorem dX7_learnOwned_54 : decode cX7_learnOwned 54 = .ok (.return_, 1) := by decide +kernel
def F_X7_learnOwned (p0 : Int32) (b1 : List Int32) (Γ : HS) : HR :=
  loopF (fun (again_2 : (Int32 × Int32 × HS) → HR) (s_1 : Int32 × Int32 × HS) => (
    bnd ((Int32.ofNat (b1).length)) fun (x_5 : Int32) =>
    if x_5 ≤ s_1.2.1 then (
      some (0, s_1.2.2)
    ) else (
      bnd ((Int32.ofNat (b1).length)) fun (x_10 : Int32) =>
      if x_10 ≤ s_1.1 then (
        some (0, s_1.2.2)
      ) else (
        (F_X11_wordEnd b1 s_1.1 s_1.2.2).bind fun u_15 =>
        (F_X11_packed b1 s_1.1 u_15.1 9 s_1.2.2).bind fun u_17 =>
        (F_X7_addWord p0 u_17.1 s_1.2.2).bind fun u_19 =>
        bnd ((u_15.1 + 1)) fun (x_21 : Int32) =>
        bnd (s_1.2.1 + 1) fun (x_23 : Int32) =>
        again_2 (x_21, x_23, u_19.2)
      )
    )
  )) FU (0, 0, Γ)
set_option maxHeartbeats 4000000 in
set_option maxRecDepth 100000 in
theorem k_X7_learnOwned (l : Launch) (dC : Nat → ClassId) (dI : Nat → Nat → Nat) (cB cC cI cJ cZ cP : ClassId) (oA : Nat → Nat) (rA : Nat → Nat → Nat) (sz : Nat) (q1 vq1 : Nat) (p0 : Int32) (b1 : List Int32) (Γ : HS) (res : Int32 × HS) (hF : F_X7_learnOwned p0 b1 Γ = some res) : Met l yX7_learnOwned (g_ws yX7_learnOwned cX7_learnOwned 6 none) ({ frames := 6, cells := 0, slots := 0, locals := 153 }) (va_Pc [.ref (oA 4), .int p0, .ref q1] (g_B (dC, dI) [(cB, .byte), (cC, .char), (cI, .int), (cJ, .long), (cZ, .boolean), (cP, .object "StoryHouse$Play")] sz (b_s cB cC cI cJ cZ oA rA Γ ++ b_c cB cC cI cJ cZ oA rA Γ ++ b_t cB cC cI cJ cZ oA rA Γ ++ b_d cB cC cI cJ cZ oA rA Γ) (fun U : State => g_S q1 vq1 b1 (va_A (b_s cB cC cI cJ cZ oA rA Γ ++ b_c cB cC cI cJ cZ oA rA Γ ++ b_t cB cC cI cJ cZ oA rA Γ ++ b_d cB cC cI cJ cZ oA rA Γ) sz) U U.heap))) (va_Qv (fun (_ : Unit) => True) (g_Bo (dC, dI) (va_A (b_s cB cC cI cJ cZ oA rA Γ ++ b_c cB cC cI cJ cZ oA rA Γ ++ b_t cB cC cI cJ cZ oA rA Γ ++ b_d cB cC cI cJ cZ oA rA Γ) sz) (fun (_ : Unit) => (b_s cB cC cI cJ cZ oA rA res.2 ++ b_c cB cC cI cJ cZ oA rA res.2 ++ b_t cB cC cI cJ cZ oA rA res.2 ++ b_d cB cC cI cJ cZ oA rA res.2))) (va_A (b_s cB cC cI cJ cZ oA rA Γ ++ b_c cB cC cI cJ cZ oA rA Γ ++ b_t cB cC cI cJ cZ oA rA Γ ++ b_d cB cC cI cJ cZ oA rA Γ) sz)) 0 0 (va_A (b_s cB cC cI cJ cZ oA rA Γ ++ b_c cB cC cI cJ cZ oA rA Γ ++ b_t cB cC cI cJ cZ oA rA Γ ++ b_d cB cC cI cJ cZ oA rA Γ) sz) := by
  refine Met.ofW (cc := cX7_learnOwned) (maxL := 6) (ret := none) (by decide) rfl ?_
  intro p e s m args below meth c s₁ B hml hv
  obtain ⟨rfl, hsz, hP, hK, hD0, hE, hX⟩ := hv
  have hx := B.exec
  have hb := B.bytes
  have hr := B.returns
  have hts0 := atoms_spec (ws := g_ws yX7_learnOwned cX7_learnOwned 6 none) B.pre
  have hts : ∀ w ∈ lw_good, w.before ([.ref (oA 4), .int p0, .ref q1] : List Value).toArray s = true := fun w z => hts0 w (List.mem_cons_of_mem _ z)
  have hown : s.vm.findClass RX7 = some m.cls := findClass_of_methodNamed B.named
  have hlocks := B.notSynchronized
  subst hsz
  have hD1 := hD0.self (sz := s.heap.size)
  generalize hAe : va_A (b_s cB cC cI cJ cZ oA rA Γ ++ b_c cB cC cI cJ cZ oA rA Γ ++ b_t cB cC cI cJ cZ oA rA Γ ++ b_d cB cC cI cJ cZ oA rA Γ) s.heap.size = A at hD1 hE hX ⊢
  have hA : ∀ q : Nat, s.heap.size ≤ q → A q := fun q z => by rw [← hAe]; exact Or.inr z
  have hDD : ∀ Γ : HS, va_D A (b_s cB cC cI cJ cZ oA rA Γ ++ b_c cB cC cI cJ cZ oA rA Γ ++ b_t cB cC cI cJ cZ oA rA Γ ++ b_d cB cC cI cJ cZ oA rA Γ) := fun Γ9 => va_D_fst (ws := (b_s cB cC cI cJ cZ oA rA Γ ++ b_c cB cC cI cJ cZ oA rA Γ ++ b_t cB cC cI cJ cZ oA rA Γ ++ b_d cB cC cI cJ cZ oA rA Γ)) (ws' := (b_s cB cC cI cJ cZ oA rA Γ9 ++ b_c cB cC cI cJ cZ oA rA Γ9 ++ b_t cB cC cI cJ cZ oA rA Γ9 ++ b_d cB cC cI cJ cZ oA rA Γ9)) rfl hD1
  have hN := hE.1
  have hStr_q1 := hX
  have hS : va_S A s.heap s.heap [] := va_S.rf
  have hl := lv_entry ([.ref (oA 4), .int p0, .ref q1]) (n := 6) (Nat.le_of_ble_eq_true rfl)
  rw [lg_entry_eq]
  generalize (lg_sl ([.ref (oA 4), .int p0, .ref q1]) ++ List.replicate (6 - (lg_sl ([.ref (oA 4), .int p0, .ref q1])).length) Slot.unset).toArray = ls at hl ⊢
  have hl : lv_has ls 6 [(0, .ref (oA 4)), (1, .int p0), (2, .ref q1)] := hl
  unfold F_X7_learnOwned at hF
  refine lv_iconst (v := 0) hx hb dX7_learnOwned_0 (by decide +kernel) ?_
  refine lv_istore_n (lv' := [(3, .int 0), (0, .ref (oA 4)), (1, .int p0), (2, .ref q1)]) hx hb dX7_learnOwned_1 rfl hl (by decide) rfl (fun ls hl => ?_)
  refine lv_iconst (v := 0) hx hb dX7_learnOwned_2 (by decide +kernel) ?_
  refine lv_istore (lv' := [(4, .int 0), (3, .int 0), (0, .ref (oA 4)), (1, .int p0), (2, .ref q1)]) hx hb dX7_learnOwned_3 hl (by decide) rfl (fun ls hl => ?_)
  refine loopF_ind (P := fun (s_1 : Int32 × Int32 × HS) => ∀ (H : Heap) (locs : List Loc), va_P (dC, dI) vwCl (b_s cB cC cI cJ cZ oA rA s_1.2.2 ++ b_c cB cC cI cJ cZ oA rA s_1.2.2 ++ b_t cB cC cI cJ cZ oA rA s_1.2.2 ++ b_d cB cC cI cJ cZ oA rA s_1.2.2) H → va_S A s.heap H locs → ∀ ls : Array Slot, lv_has ls 6 [(0, .ref (oA 4)), (1, .int p0), (2, .ref q1), (3, .int s_1.1), (4, .int s_1.2.1)] → W p l e (headSpec (g_ws yX7_learnOwned cX7_learnOwned 6 none) { frames := 6, cells := 0, slots := 0, locals := 153 }).room s m ([.ref (oA 4), .int p0, .ref q1] : List Value).toArray below meth c H locs 0 0 (MQ below (va_Qv (fun (_ : Unit) => True) (g_Bo (dC, dI) A (fun (_ : Unit) => (b_s cB cC cI cJ cZ oA rA res.2 ++ b_c cB cC cI cJ cZ oA rA res.2 ++ b_t cB cC cI cJ cZ oA rA res.2 ++ b_d cB cC cI cJ cZ oA rA res.2))) A) ([.ref (oA 4), .int p0, .ref q1] : List Value).toArray s 0 0 A) (F0 m 5 ls [])) ?_ _ _ hF _ _ hP hS ls (lv_sub hl [2, 3, 4, 1, 0] rfl)
  intro again_2 s_1 ih_3 hF_4
  intro H locs hP hS ls hl
  refine lv_iload hx hb dX7_learnOwned_5 (lv_at hl 4 rfl) ?_
  refine lv_aload_n hx hb dX7_learnOwned_7 rfl (lv_at hl 2 rfl) ?_
  refine c_cs (v := Int32.ofNat (b1).length) hA hP hS (va_runV (As := []) (rest := [.int s_1.2.1]) ⟨hx, hb, hml, hown, hts⟩ (c_J0_length_8abf5 l dC dI cB cC cI cJ cZ cP H.size q1  _ b1 ) (cwV 0 hts (g_gV wq_519 wq_346 wq_347 wq_22 wq_348) rfl rfl rfl (by decide +kernel) ⟨Nat.le_of_ble_eq_true rfl, Nat.le_of_ble_eq_true rfl⟩) (g_preVs g_blS hK (wc := []) (A := A) (fun k q z => by simp at z) ⟨fun i j p q z => by simp at z, fun k q z => by simp at z⟩ hS hE (c_nil hA hS) (g_toS hStr_q1 hS (c_nil hA hS)) (va_Orecv hStr_q1.1 hS)) rfl rfl hl.1 rfl (lv_room (Nat.le_of_ble_eq_true rfl)) dX7_learnOwned_8 ⟨Nat.le_of_ble_eq_true rfl, Nat.le_of_ble_eq_true rfl⟩) (fun H locs hP hS => ?_)
  obtain ⟨x_5, ex_5, hF_6⟩ := bnd_e hF_4
  clear hF_4
  refine m_top ex_5 ?_
  refine lv_icmp_ge (tgt := 54) hx hb dX7_learnOwned_11 (by decide) (fun c_7 => ?_) (fun c_7 => ?_)
  · have hF_8 := ipos c_7 hF_6
    clear hF_6
    have h9 := Option.some.inj hF_8
    subst h9
    exact W.vret hx hb hr (fun t ht hW => ⟨⟨(), rfl, trivial, m_end ht hP, hDD _⟩, hS.F ht⟩) hS.2.2 dX7_learnOwned_54
  · have hF_9 := ineg c_7 hF_6
    clear hF_6
    refine lv_iload_n hx hb dX7_learnOwned_14 rfl (lv_at hl 3 rfl) ?_
    refine lv_aload_n hx hb dX7_learnOwned_15 rfl (lv_at hl 2 rfl) ?_
    refine c_cs (v := Int32.ofNat (b1).length) hA hP hS (va_runV (As := []) (rest := [.int s_1.1]) ⟨hx, hb, hml, hown, hts⟩ (c_J0_length_8abf5 l dC dI cB cC cI cJ cZ cP H.size q1  _ b1 ) (cwV 0 hts (g_gV wq_519 wq_346 wq_347 wq_22 wq_348) rfl rfl rfl (by decide +kernel) ⟨Nat.le_of_ble_eq_true rfl, Nat.le_of_ble_eq_true rfl⟩) (g_preVs g_blS hK (wc := []) (A := A) (fun k q z => by simp at z) ⟨fun i j p q z => by simp at z, fun k q z => by simp at z⟩ hS hE (c_nil hA hS) (g_toS hStr_q1 hS (c_nil hA hS)) (va_Orecv hStr_q1.1 hS)) rfl rfl hl.1 rfl (lv_room (Nat.le_of_ble_eq_true rfl)) dX7_learnOwned_16 ⟨Nat.le_of_ble_eq_true rfl, Nat.le_of_ble_eq_true rfl⟩) (fun H locs hP hS => ?_)
    obtain ⟨x_10, ex_10, hF_11⟩ := bnd_e hF_9
    clear hF_9
    refine m_top ex_10 ?_
    refine lv_icmp_ge (tgt := 54) hx hb dX7_learnOwned_19 (by decide) (fun c_12 => ?_) (fun c_12 => ?_)
    · have hF_13 := ipos c_12 hF_11
      clear hF_11
      have h9 := Option.some.inj hF_13
      subst h9
      exact W.vret hx hb hr (fun t ht hW => ⟨⟨(), rfl, trivial, m_end ht hP, hDD _⟩, hS.F ht⟩) hS.2.2 dX7_learnOwned_54
    · have hF_14 := ineg c_12 hF_11
      clear hF_11
      refine lv_aload_n hx hb dX7_learnOwned_22 rfl (lv_at hl 2 rfl) ?_
      refine lv_iload_n hx hb dX7_learnOwned_23 rfl (lv_at hl 3 rfl) ?_
      obtain ⟨u_15, hu_15, hF_16⟩ := Option.bind_eq_some_iff.mp hF_14
      clear hF_14
      have hPc : va_P (dC, dI) vwCl [] H := fun k q z => by simp at z
      have hDc : va_D A [] := ⟨fun i j p q z => by simp at z, fun k q z => by simp at z⟩
      have hFc := c_nil hA hS
      refine c_cs (v := u_15.1) hA hP hS (va_runSN (As := [.ref q1, .int s_1.1]) (rest := []) ⟨hx, hb, hml, hown, hts⟩ (k_X11_wordEnd l dC dI cB cC cI cJ cZ cP oA rA H.size q1 _ b1 s_1.1 s_1.2.2 _ hu_15) ⟨va_cnB 2 hts (g_gA wq_355) rfl rfl rfl (nw_14 hN) (hts (.initialized RX11) wq_1) (by decide +kernel) ⟨Nat.le_of_ble_eq_true rfl, Nat.le_of_ble_eq_true rfl⟩, (hts (.static yX11_wordEnd) wq_354), trivial⟩ (g_preS g_blS hK hPc hDc hS hE hFc (g_toS hStr_q1 hS hFc)) rfl rfl hl.1 rfl (lv_room (Nat.le_of_ble_eq_true rfl)) dX7_learnOwned_24 ⟨Nat.le_of_ble_eq_true rfl, Nat.le_of_ble_eq_true rfl⟩) (fun H locs hP hS => ?_)
      clear hPc hDc hFc
      refine lv_istore (lv' := [(5, .int u_15.1), (0, .ref (oA 4)), (1, .int p0), (2, .ref q1), (3, .int s_1.1), (4, .int s_1.2.1)]) hx hb dX7_learnOwned_27 hl (by decide) rfl (fun ls hl => ?_)
      refine lv_aload_n hx hb dX7_learnOwned_29 rfl (lv_at hl 1 rfl) ?_
      refine lv_iload_n hx hb dX7_learnOwned_30 rfl (lv_at hl 2 rfl) ?_
      refine lv_aload_n hx hb dX7_learnOwned_31 rfl (lv_at hl 3 rfl) ?_
      refine lv_iload_n hx hb dX7_learnOwned_32 rfl (lv_at hl 4 rfl) ?_
      refine lv_iload hx hb dX7_learnOwned_33 (lv_at hl 0 rfl) ?_
      refine lv_bipush (v := 9) hx hb dX7_learnOwned_35 (by decide +kernel) ?_
      obtain ⟨u_17, hu_17, hF_18⟩ := Option.bind_eq_some_iff.mp hF_16
      clear hF_16
      have hPc : va_P (dC, dI) vwCl [] H := fun k q z => by simp at z
      have hDc : va_D A [] := ⟨fun i j p q z => by simp at z, fun k q z => by simp at z⟩
      have hFc := c_nil hA hS
      refine c_csl (v := u_17.1) hA hP hS (va_runSN (As := [.ref q1, .int s_1.1, .int u_15.1, .int 9]) (rest := [.int p0, .ref (oA 4)]) ⟨hx, hb, hml, hown, hts⟩ (k_X11_packed l dC dI cB cC cI cJ cZ cP oA rA H.size q1 _ b1 s_1.1 u_15.1 9 s_1.2.2 _ hu_17) ⟨va_cnB 4 hts (g_gA wq_393) rfl rfl rfl (nw_15 hN) (hts (.initialized RX11) wq_1) (by decide +kernel) ⟨Nat.le_of_ble_eq_true rfl, Nat.le_of_ble_eq_true rfl⟩, (hts (.static yX11_packed) wq_392), trivial⟩ (g_preS g_blS hK hPc hDc hS hE hFc (g_toS hStr_q1 hS hFc)) rfl rfl hl.1 rfl (lv_room (Nat.le_of_ble_eq_true rfl)) dX7_learnOwned_37 ⟨Nat.le_of_ble_eq_true rfl, Nat.le_of_ble_eq_true rfl⟩) (fun H locs hP hS => ?_)
      clear hPc hDc hFc
      obtain ⟨u_19, hu_19, hF_20⟩ := Option.bind_eq_some_iff.mp hF_18
      clear hF_18
      have hPc := bx_P (bs := [b_s cB cC cI cJ cZ oA rA s_1.2.2, b_c cB cC cI cJ cZ oA rA s_1.2.2, b_t cB cC cI cJ cZ oA rA s_1.2.2, b_d cB cC cI cJ cZ oA rA s_1.2.2]) (bs' := [b_s cB cC cI cJ cZ oA rA s_1.2.2, b_c cB cC cI cJ cZ oA rA s_1.2.2, b_t cB cC cI cJ cZ oA rA s_1.2.2, b_d cB cC cI cJ cZ oA rA s_1.2.2]) (ws' := (b_s cB cC cI cJ cZ oA rA s_1.2.2 ++ b_c cB cC cI cJ cZ oA rA s_1.2.2 ++ b_t cB cC cI cJ cZ oA rA s_1.2.2 ++ b_d cB cC cI cJ cZ oA rA s_1.2.2)) hP fl_4 fl_4 [0, 1, 2, 3] rfl
      have hDc := bx_D (bs := [b_s cB cC cI cJ cZ oA rA s_1.2.2, b_c cB cC cI cJ cZ oA rA s_1.2.2, b_t cB cC cI cJ cZ oA rA s_1.2.2, b_d cB cC cI cJ cZ oA rA s_1.2.2]) (bs' := [b_s cB cC cI cJ cZ oA rA s_1.2.2, b_c cB cC cI cJ cZ oA rA s_1.2.2, b_t cB cC cI cJ cZ oA rA s_1.2.2, b_d cB cC cI cJ cZ oA rA s_1.2.2]) (ws' := (b_s cB cC cI cJ cZ oA rA s_1.2.2 ++ b_c cB cC cI cJ cZ oA rA s_1.2.2 ++ b_t cB cC cI cJ cZ oA rA s_1.2.2 ++ b_d cB cC cI cJ cZ oA rA s_1.2.2)) (hDD s_1.2.2) fl_4 fl_4 [0, 1, 2, 3] (by decide +kernel) rfl
      have hFc := bx_F (bs := [b_s cB cC cI cJ cZ oA rA s_1.2.2, b_c cB cC cI cJ cZ oA rA s_1.2.2, b_t cB cC cI cJ cZ oA rA s_1.2.2, b_d cB cC cI cJ cZ oA rA s_1.2.2]) (bs' := [b_s cB cC cI cJ cZ oA rA s_1.2.2, b_c cB cC cI cJ cZ oA rA s_1.2.2, b_t cB cC cI cJ cZ oA rA s_1.2.2, b_d cB cC cI cJ cZ oA rA s_1.2.2]) (wc := (b_s cB cC cI cJ cZ oA rA s_1.2.2 ++ b_c cB cC cI cJ cZ oA rA s_1.2.2 ++ b_t cB cC cI cJ cZ oA rA s_1.2.2 ++ b_d cB cC cI cJ cZ oA rA s_1.2.2)) (hDD s_1.2.2) hS hA fl_4 fl_4 [0, 1, 2, 3] rfl
      refine g_ofv (wc := (b_s cB cC cI cJ cZ oA rA s_1.2.2 ++ b_c cB cC cI cJ cZ oA rA s_1.2.2 ++ b_t cB cC cI cJ cZ oA rA s_1.2.2 ++ b_d cB cC cI cJ cZ oA rA s_1.2.2)) (wr := ([] : va_W)) hP (hDD s_1.2.2) hS hFc (bx_ix [b_s cB cC cI cJ cZ oA rA s_1.2.2, b_c cB cC cI cJ cZ oA rA s_1.2.2, b_t cB cC cI cJ cZ oA rA s_1.2.2, b_d cB cC cI cJ cZ oA rA s_1.2.2] [0, 1, 2, 3]) (bx_ix [b_s cB cC cI cJ cZ oA rA s_1.2.2, b_c cB cC cI cJ cZ oA rA s_1.2.2, b_t cB cC cI cJ cZ oA rA s_1.2.2, b_d cB cC cI cJ cZ oA rA s_1.2.2] []) (bx_C (bs := [b_s cB cC cI cJ cZ oA rA s_1.2.2, b_c cB cC cI cJ cZ oA rA s_1.2.2, b_t cB cC cI cJ cZ oA rA s_1.2.2, b_d cB cC cI cJ cZ oA rA s_1.2.2]) (bs' := [b_s cB cC cI cJ cZ oA rA s_1.2.2, b_c cB cC cI cJ cZ oA rA s_1.2.2, b_t cB cC cI cJ cZ oA rA s_1.2.2, b_d cB cC cI cJ cZ oA rA s_1.2.2]) (is := [0, 1, 2, 3]) fl_4 fl_4 rfl) (bx_C (bs := [b_s cB cC cI cJ cZ oA rA s_1.2.2, b_c cB cC cI cJ cZ oA rA s_1.2.2, b_t cB cC cI cJ cZ oA rA s_1.2.2, b_d cB cC cI cJ cZ oA rA s_1.2.2]) (bs' := []) (is := []) fl_4 fl_0 rfl) (bx_n (by decide +kernel)) (bx_d (by decide +kernel)) (va_runV (As := [.int p0, .long u_17.1]) (rest := []) ⟨hx, hb, hml, hown, hts⟩ (k_X7_addWord l dC dI cB cC cI cJ cZ cP oA rA H.size  p0 u_17.1 s_1.2.2 _ hu_19) (cwV 2 hts (g_gV wq_520 wq_521 wq_522 wq_5 wq_523) rfl rfl rfl (by decide +kernel) ⟨Nat.le_of_ble_eq_true rfl, Nat.le_of_ble_eq_true rfl⟩) (g_preV g_bl0 hK hPc hDc hS hE hFc g_to0 (q0 := 0) (ci := 7) rfl rfl) rfl rfl hl.1 rfl (lv_room (Nat.le_of_ble_eq_true rfl)) dX7_learnOwned_40 ⟨Nat.le_of_ble_eq_true rfl, Nat.le_of_ble_eq_true rfl⟩) (fun u9 H locs hw9 hP' hD' hS => ?_)
      clear hPc hDc hFc
      have hP : va_P (dC, dI) vwCl (b_s cB cC cI cJ cZ oA rA u_19.2 ++ b_c cB cC cI cJ cZ oA rA u_19.2 ++ b_t cB cC cI cJ cZ oA rA u_19.2 ++ b_d cB cC cI cJ cZ oA rA u_19.2) H := hP'
      clear hP' hD'
      refine lv_iload hx hb dX7_learnOwned_43 (lv_at hl 0 rfl) ?_
      refine lv_iconst (v := 1) hx hb dX7_learnOwned_45 (by decide +kernel) ?_
      refine lv_iadd hx hb dX7_learnOwned_46 ?_
      obtain ⟨x_21, ex_21, hF_22⟩ := bnd_e hF_20
      clear hF_20
      refine m_top ex_21 ?_
      refine lv_istore_n (lv' := [(3, .int x_21), (5, .int u_15.1), (0, .ref (oA 4)), (1, .int p0), (2, .ref q1), (4, .int s_1.2.1)]) hx hb dX7_learnOwned_47 rfl hl (by decide) rfl (fun ls hl => ?_)
      obtain ⟨x_23, ex_23, hF_24⟩ := bnd_e hF_22
      clear hF_22
      refine lv_iinc (v := x_23) (lv' := [(4, .int x_23), (3, .int x_21), (5, .int u_15.1), (0, .ref (oA 4)), (1, .int p0), (2, .ref q1)]) hx hb dX7_learnOwned_48 hl (k := 5) rfl (by rw [ex_23]; rfl) (by decide) rfl (fun ls hl => ?_)
      refine lv_goto (tgt := 5) hx hb dX7_learnOwned_51 (by decide) ?_
      exact ih_3 (x_21, x_23, u_19.2) hF_24 _ _ hP hS ls (lv_sub hl [3, 4, 5, 1, 0] rfl)
theorem dX7_addVerb_0 : decode cX7_addVerb 0 = .ok (.aload_n 0, 1) := by decide +kernel
theorem dX7_addVerb_1 : decode cX7_addVerb 1 = .ok (.getfield 34, 3) := by decide +kernel
theorem dX7_addVerb_4 : decode cX7_addVerb 4 = .ok (.iload_n 1, 1) := by decide +kernel
theorem dX7_addVerb_5 : decode cX7_addVerb 5 = .ok (.iload_n 2, 1) := by decide +kernel
theorem dX7_addVerb_6 : decode cX7_addVerb 6 = .ok (.invokestatic 141, 3) := by decide +kernel
theorem dX7_addVerb_9 : decode cX7_addVerb 9 = .ok (.aload_n 0, 1) := by decide +kernel
theorem dX7_addVerb_10 : decode cX7_addVerb 10 = .ok (.bipush 120, 2) := by decide +kernel
theorem dX7_addVerb_12 : decode cX7_addVerb 12 = .ok (.iload_n 1, 1) := by decide +kernel
theorem dX7_addVerb_13 : decode cX7_addVerb 13 = .ok (.iadd, 1) := by decide +kernel
theorem dX7_addVerb_14 : decode cX7_addVerb 14 = .ok (.aload_n 3, 1) := by decide +kernel
theorem dX7_addVerb_15 : decode cX7_addVerb 15 = .ok (.invokevirtual 95, 3) := by decide +kernel
theorem dX7_addVerb_18 : decode cX7_addVerb 18 = .ok (.return_, 1) := by decide +kernel
def F_X7_addVerb (p0 : Int32) (p1 : Int32) (b2 : List Int32) (Γ : HS) : HR :=
  bnd (cA' Γ 4 7 (g_put 61 ((Γ 4).2.1 7) p0 p1)) fun σ_1 =>
  (F_X7_learnOwned (120 + p0) b2 σ_1).bind fun u_3 =>
  some (0, u_3.2)
set_option maxHeartbeats 4000000 in
set_option maxRecDepth 100000 in
theorem k_X7_addVerb (l : Launch) (dC : Nat → ClassId) (dI : Nat → Nat → Nat) (cB cC cI cJ cZ cP : ClassId) (oA : Nat → Nat) (rA : Nat → Nat → Nat) (sz : Nat) (q2 vq2 : Nat) (p0 : Int32) (p1 : Int32) (b2 : List Int32) (Γ : HS) (res : Int32 × HS) (hF : F_X7_addVerb p0 p1 b2 Γ = some res) : Met l yX7_addVerb (g_ws yX7_addVerb cX7_addVerb 4 none) ({ frames := 7, cells := 0, slots := 0, locals := 178 }) (va_Pc [.ref (oA 4), .int p0, .int p1, .ref q2] (g_B (dC, dI) [(cB, .byte), (cC, .char), (cI, .int), (cJ, .long), (cZ, .boolean), (cP, .object "StoryHouse$Play")] sz (b_s cB cC cI cJ cZ oA rA Γ ++ b_c cB cC cI cJ cZ oA rA Γ ++ b_t cB cC cI cJ cZ oA rA Γ ++ b_d cB cC cI cJ cZ oA rA Γ) (fun U : State => g_S q2 vq2 b2 (va_A (b_s cB cC cI cJ cZ oA rA Γ ++ b_c cB cC cI cJ cZ oA rA Γ ++ b_t cB cC cI cJ cZ oA rA Γ ++ b_d cB cC cI cJ cZ oA rA Γ) sz) U U.heap))) (va_Qv (fun (_ : Unit) => True) (g_Bo (dC, dI) (va_A (b_s cB cC cI cJ cZ oA rA Γ ++ b_c cB cC cI cJ cZ oA rA Γ ++ b_t cB cC cI cJ cZ oA rA Γ ++ b_d cB cC cI cJ cZ oA rA Γ) sz) (fun (_ : Unit) => (b_s cB cC cI cJ cZ oA rA res.2 ++ b_c cB cC cI cJ cZ oA rA res.2 ++ b_t cB cC cI cJ cZ oA rA res.2 ++ b_d cB cC cI cJ cZ oA rA res.2))) (va_A (b_s cB cC cI cJ cZ oA rA Γ ++ b_c cB cC cI cJ cZ oA rA Γ ++ b_t cB cC cI cJ cZ oA rA Γ ++ b_d cB cC cI cJ cZ oA rA Γ) sz)) 0 0 (va_A (b_s cB cC cI cJ cZ oA rA Γ ++ b_c cB cC cI cJ cZ oA rA Γ ++ b_t cB cC cI cJ cZ oA rA Γ ++ b_d cB cC cI cJ cZ oA rA Γ) sz) := by
  refine Met.ofW (cc := cX7_addVerb) (maxL := 4) (ret := none) (by decide) rfl ?_
  intro p e s m args below meth c s₁ B hml hv
  obtain ⟨rfl, hsz, hP, hK, hD0, hE, hX⟩ := hv
  have hx := B.exec
  have hb := B.bytes
  have hr := B.returns
  have hts0 := atoms_spec (ws := g_ws yX7_addVerb cX7_addVerb 4 none) B.pre
  have hts : ∀ w ∈ lw_good, w.before ([.ref (oA 4), .int p0, .int p1, .ref q2] : List Value).toArray s = true := fun w z => hts0 w (List.mem_cons_of_mem _ z)
  have hown : s.vm.findClass RX7 = some m.cls := findClass_of_methodNamed B.named
  have hlocks := B.notSynchronized
  subst hsz
  have hD1 := hD0.self (sz := s.heap.size)
  generalize hAe : va_A (b_s cB cC cI cJ cZ oA rA Γ ++ b_c cB cC cI cJ cZ oA rA Γ ++ b_t cB cC cI cJ cZ oA rA Γ ++ b_d cB cC cI cJ cZ oA rA Γ) s.heap.size = A at hD1 hE hX ⊢
  have hA : ∀ q : Nat, s.heap.size ≤ q → A q := fun q z => by rw [← hAe]; exact Or.inr z
  have hDD : ∀ Γ : HS, va_D A (b_s cB cC cI cJ cZ oA rA Γ ++ b_c cB cC cI cJ cZ oA rA Γ ++ b_t cB cC cI cJ cZ oA rA Γ ++ b_d cB cC cI cJ cZ oA rA Γ) := fun Γ9 => va_D_fst (ws := (b_s cB cC cI cJ cZ oA rA Γ ++ b_c cB cC cI cJ cZ oA rA Γ ++ b_t cB cC cI cJ cZ oA rA Γ ++ b_d cB cC cI cJ cZ oA rA Γ)) (ws' := (b_s cB cC cI cJ cZ oA rA Γ9 ++ b_c cB cC cI cJ cZ oA rA Γ9 ++ b_t cB cC cI cJ cZ oA rA Γ9 ++ b_d cB cC cI cJ cZ oA rA Γ9)) rfl hD1
  have hN := hE.1
  have hStr_q2 := hX
  have hS : va_S A s.heap s.heap [] := va_S.rf
  have hl := lv_entry ([.ref (oA 4), .int p0, .int p1, .ref q2]) (n := 4) (Nat.le_of_ble_eq_true rfl)
  rw [lg_entry_eq]
  generalize (lg_sl ([.ref (oA 4), .int p0, .int p1, .ref q2]) ++ List.replicate (4 - (lg_sl ([.ref (oA 4), .int p0, .int p1, .ref q2])).length) Slot.unset).toArray = ls at hl ⊢
  have hl : lv_has ls 4 [(0, .ref (oA 4)), (1, .int p0), (2, .int p1), (3, .ref q2)] := hl
  unfold F_X7_addVerb at hF
  refine lv_aload_n hx hb dX7_addVerb_0 rfl (lv_at hl 0 rfl) ?_
  refine va_get (D := (dC, dI)) (ci := 7) (v := .ref (rA 4 7)) (C := RX7) (T := TX7) (N := 19) hx hb hts ii_X7 hown hK hP 0 rfl rfl 7 (by decide) (hts (.fieldLink RX7 34 "StoryHouse$Story" "forms" "[I") wq_170) (fun _ h9 => h9) rfl dX7_addVerb_1 ?_
  refine lv_iload_n hx hb dX7_addVerb_4 rfl (lv_at hl 1 rfl) ?_
  refine lv_iload_n hx hb dX7_addVerb_5 rfl (lv_at hl 2 rfl) ?_
  have hq9 : ((b_s cB cC cI cJ cZ oA rA Γ ++ b_c cB cC cI cJ cZ oA rA Γ ++ b_t cB cC cI cJ cZ oA rA Γ ++ b_d cB cC cI cJ cZ oA rA Γ))[8]? = some (rA 4 7, .inl (cI, 61, .inl ((Γ 4).2.1 7))) := rfl
  have hPc := hP.sub (ws' := [(rA 4 7, .inl (cI, 61, .inl ((Γ 4).2.1 7)))]) [8] (pk_fm (er_C hq9))
  have hDc := (hDD Γ).sub (ws' := [(rA 4 7, .inl (cI, 61, .inl ((Γ 4).2.1 7)))]) [8] (by decide +kernel) (er_C hq9)
  have hFc := va_free (wc := [(rA 4 7, .inl (cI, 61, .inl ((Γ 4).2.1 7)))]) (hDD Γ) hS hA [8] (er_C hq9)
  refine g_ofv (wc := [(rA 4 7, .inl (cI, 61, .inl ((Γ 4).2.1 7)))]) (wr := (((b_s cB cC cI cJ cZ oA rA Γ ++ b_c cB cC cI cJ cZ oA rA Γ ++ b_t cB cC cI cJ cZ oA rA Γ ++ b_d cB cC cI cJ cZ oA rA Γ)).eraseIdx 8)) hP (hDD Γ) hS hFc [8] ((List.range ((b_s cB cC cI cJ cZ oA rA Γ ++ b_c cB cC cI cJ cZ oA rA Γ ++ b_t cB cC cI cJ cZ oA rA Γ ++ b_d cB cC cI cJ cZ oA rA Γ)).length).eraseIdx 8) (er_C hq9) er_R er_n er_d (va_runSN (As := [.ref (rA 4 7), .int p0, .int p1]) (rest := []) ⟨hx, hb, hml, hown, hts⟩ (c_X11_put l dC dI cB cC cI cJ cZ cP s.heap.size (rA 4 7) p0 p1 61 ((Γ 4).2.1 7) (by decide)) ⟨va_cnB 3 hts (g_gA wq_412) rfl rfl rfl (nw_18 hN) (hts (.initialized RX11) wq_1) (by decide +kernel) ⟨Nat.le_of_ble_eq_true rfl, Nat.le_of_ble_eq_true rfl⟩, (hts (.static yX11_put) wq_411), trivial⟩ (g_preS g_bl0 hK hPc hDc hS hE hFc g_to0) rfl rfl hl.1 rfl (lv_room (Nat.le_of_ble_eq_true rfl)) dX7_addVerb_6 ⟨Nat.le_of_ble_eq_true rfl, Nat.le_of_ble_eq_true rfl⟩) (fun g9 H locs hw9 hP' hD' hS => ?_)
  clear hPc hDc hFc hD'
  obtain ⟨σ_1, eσ_1, hF_2⟩ := bnd_e hF
  clear hF
  subst hw9
  have hP : va_P (dC, dI) vwCl (b_s cB cC cI cJ cZ oA rA σ_1 ++ b_c cB cC cI cJ cZ oA rA σ_1 ++ b_t cB cC cI cJ cZ oA rA σ_1 ++ b_d cB cC cI cJ cZ oA rA σ_1) H := by rw [eσ_1]; exact cs_sctd_s_7 ▸ er_P hP' (er_lt hq9)
  clear hP' hq9
  refine lv_aload_n hx hb dX7_addVerb_9 rfl (lv_at hl 0 rfl) ?_
  refine lv_bipush (v := 120) hx hb dX7_addVerb_10 (by decide +kernel) ?_
  refine lv_iload_n hx hb dX7_addVerb_12 rfl (lv_at hl 1 rfl) ?_
  refine lv_iadd hx hb dX7_addVerb_13 ?_
  refine lv_aload_n hx hb dX7_addVerb_14 rfl (lv_at hl 3 rfl) ?_
  obtain ⟨u_3, hu_3, hF_4⟩ := Option.bind_eq_some_iff.mp hF_2
  clear hF_2
  have hPc := bx_P (bs := [b_s cB cC cI cJ cZ oA rA σ_1, b_c cB cC cI cJ cZ oA rA σ_1, b_t cB cC cI cJ cZ oA rA σ_1, b_d cB cC cI cJ cZ oA rA σ_1]) (bs' := [b_s cB cC cI cJ cZ oA rA σ_1, b_c cB cC cI cJ cZ oA rA σ_1, b_t cB cC cI cJ cZ oA rA σ_1, b_d cB cC cI cJ cZ oA rA σ_1]) (ws' := (b_s cB cC cI cJ cZ oA rA σ_1 ++ b_c cB cC cI cJ cZ oA rA σ_1 ++ b_t cB cC cI cJ cZ oA rA σ_1 ++ b_d cB cC cI cJ cZ oA rA σ_1)) hP fl_4 fl_4 [0, 1, 2, 3] rfl
  have hDc := bx_D (bs := [b_s cB cC cI cJ cZ oA rA σ_1, b_c cB cC cI cJ cZ oA rA σ_1, b_t cB cC cI cJ cZ oA rA σ_1, b_d cB cC cI cJ cZ oA rA σ_1]) (bs' := [b_s cB cC cI cJ cZ oA rA σ_1, b_c cB cC cI cJ cZ oA rA σ_1, b_t cB cC cI cJ cZ oA rA σ_1, b_d cB cC cI cJ cZ oA rA σ_1]) (ws' := (b_s cB cC cI cJ cZ oA rA σ_1 ++ b_c cB cC cI cJ cZ oA rA σ_1 ++ b_t cB cC cI cJ cZ oA rA σ_1 ++ b_d cB cC cI cJ cZ oA rA σ_1)) (hDD σ_1) fl_4 fl_4 [0, 1, 2, 3] (by decide +kernel) rfl
  have hFc := bx_F (bs := [b_s cB cC cI cJ cZ oA rA σ_1, b_c cB cC cI cJ cZ oA rA σ_1, b_t cB cC cI cJ cZ oA rA σ_1, b_d cB cC cI cJ cZ oA rA σ_1]) (bs' := [b_s cB cC cI cJ cZ oA rA σ_1, b_c cB cC cI cJ cZ oA rA σ_1, b_t cB cC cI cJ cZ oA rA σ_1, b_d cB cC cI cJ cZ oA rA σ_1]) (wc := (b_s cB cC cI cJ cZ oA rA σ_1 ++ b_c cB cC cI cJ cZ oA rA σ_1 ++ b_t cB cC cI cJ cZ oA rA σ_1 ++ b_d cB cC cI cJ cZ oA rA σ_1)) (hDD σ_1) hS hA fl_4 fl_4 [0, 1, 2, 3] rfl
  refine g_ofv (wc := (b_s cB cC cI cJ cZ oA rA σ_1 ++ b_c cB cC cI cJ cZ oA rA σ_1 ++ b_t cB cC cI cJ cZ oA rA σ_1 ++ b_d cB cC cI cJ cZ oA rA σ_1)) (wr := ([] : va_W)) hP (hDD σ_1) hS hFc (bx_ix [b_s cB cC cI cJ cZ oA rA σ_1, b_c cB cC cI cJ cZ oA rA σ_1, b_t cB cC cI cJ cZ oA rA σ_1, b_d cB cC cI cJ cZ oA rA σ_1] [0, 1, 2, 3]) (bx_ix [b_s cB cC cI cJ cZ oA rA σ_1, b_c cB cC cI cJ cZ oA rA σ_1, b_t cB cC cI cJ cZ oA rA σ_1, b_d cB cC cI cJ cZ oA rA σ_1] []) (bx_C (bs := [b_s cB cC cI cJ cZ oA rA σ_1, b_c cB cC cI cJ cZ oA rA σ_1, b_t cB cC cI cJ cZ oA rA σ_1, b_d cB cC cI cJ cZ oA rA σ_1]) (bs' := [b_s cB cC cI cJ cZ oA rA σ_1, b_c cB cC cI cJ cZ oA rA σ_1, b_t cB cC cI cJ cZ oA rA σ_1, b_d cB cC cI cJ cZ oA rA σ_1]) (is := [0, 1, 2, 3]) fl_4 fl_4 rfl) (bx_C (bs := [b_s cB cC cI cJ cZ oA rA σ_1, b_c cB cC cI cJ cZ oA rA σ_1, b_t cB cC cI cJ cZ oA rA σ_1, b_d cB cC cI cJ cZ oA rA σ_1]) (bs' := []) (is := []) fl_4 fl_0 rfl) (bx_n (by decide +kernel)) (bx_d (by decide +kernel)) (va_runV (As := [.int (120 + p0), .ref q2]) (rest := []) ⟨hx, hb, hml, hown, hts⟩ (k_X7_learnOwned l dC dI cB cC cI cJ cZ cP oA rA H.size q2 _ (120 + p0) b2 σ_1 _ hu_3) (cwV 2 hts (g_gV wq_516 wq_517 wq_1990 wq_5 wq_518) rfl rfl rfl (by decide +kernel) ⟨Nat.le_of_ble_eq_true rfl, Nat.le_of_ble_eq_true rfl⟩) (g_preV g_blS hK hPc hDc hS hE hFc (g_toS hStr_q2 hS hFc) (q0 := 0) (ci := 7) rfl rfl) rfl rfl hl.1 rfl (lv_room (Nat.le_of_ble_eq_true rfl)) dX7_addVerb_15 ⟨Nat.le_of_ble_eq_true rfl, Nat.le_of_ble_eq_true rfl⟩) (fun u9 H locs hw9 hP' hD' hS => ?_)
  clear hPc hDc hFc
  have hP : va_P (dC, dI) vwCl (b_s cB cC cI cJ cZ oA rA u_3.2 ++ b_c cB cC cI cJ cZ oA rA u_3.2 ++ b_t cB cC cI cJ cZ oA rA u_3.2 ++ b_d cB cC cI cJ cZ oA rA u_3.2) H := hP'
  clear hP' hD'
  have h9 := Option.some.inj hF_4
  subst h9
  exact W.vret hx hb hr (fun t ht hW => ⟨⟨(), rfl, trivial, m_end ht hP, hDD _⟩, hS.F ht⟩) hS.2.2 dX7_addVerb_18
theorem dX9_wipe_0 : decode cX9_wipe 0 = .ok (.aload_n 0, 1) := by decide +kernel
theorem dX9_wipe_1 : decode cX9_wipe 1 = .ok (.iconst 0, 1) := by decide +kernel
theorem dX9_wipe_2 : decode cX9_wipe 2 = .ok (.putfield 29, 3) := by decide +kernel
theorem dX9_wipe_5 : decode cX9_wipe 5 = .ok (.aload_n 0, 1) := by decide +kernel
theorem dX9_wipe_6 : decode cX9_wipe 6 = .ok (.iconst 0, 1) := by decide +kernel
theorem dX9_wipe_7 : decode cX9_wipe 7 = .ok (.putfield 33, 3) := by decide +kernel
theorem dX9_wipe_10 : decode cX9_wipe 10 = .ok (.return_, 1) := by decide +kernel
def F_X9_wipe  (Γ : HS) : HR :=
  bnd (cI' Γ 6 1 0) fun σ_1 =>
  bnd (cI' σ_1 6 6 0) fun σ_3 =>
  some (0, σ_3)
set_option maxHeartbeats 4000000 in
set_option maxRecDepth 100000 in
theorem k_X9_wipe (l : Launch) (dC : Nat → ClassId) (dI : Nat → Nat → Nat) (cB cC cI cJ cZ cP : ClassId) (oA : Nat → Nat) (rA : Nat → Nat → Nat) (sz : Nat)   (Γ : HS) (res : Int32 × HS) (hF : F_X9_wipe  Γ = some res) : Met l yX9_wipe (g_ws yX9_wipe cX9_wipe 1 none) ({ frames := 1, cells := 0, slots := 0, locals := 40 }) (va_Pc [.ref (oA 6)] (g_B (dC, dI) [(cB, .byte), (cC, .char), (cI, .int), (cJ, .long), (cZ, .boolean), (cP, .object "StoryHouse$Play")] sz (b_t cB cC cI cJ cZ oA rA Γ) g_0)) (va_Qv (fun (_ : Unit) => True) (g_Bo (dC, dI) (va_A (b_t cB cC cI cJ cZ oA rA Γ) sz) (fun (_ : Unit) => (b_t cB cC cI cJ cZ oA rA res.2))) (va_A (b_t cB cC cI cJ cZ oA rA Γ) sz)) 0 0 (va_A (b_t cB cC cI cJ cZ oA rA Γ) sz) := by
  refine Met.ofW (cc := cX9_wipe) (maxL := 1) (ret := none) (by decide) rfl ?_
  intro p e s m args below meth c s₁ B hml hv
  obtain ⟨rfl, hsz, hP, hK, hD0, hE, hX⟩ := hv
  have hx := B.exec
  have hb := B.bytes
  have hr := B.returns
  have hts0 := atoms_spec (ws := g_ws yX9_wipe cX9_wipe 1 none) B.pre
  have hts : ∀ w ∈ lw_good, w.before ([.ref (oA 6)] : List Value).toArray s = true := fun w z => hts0 w (List.mem_cons_of_mem _ z)
  have hown : s.vm.findClass RX9 = some m.cls := findClass_of_methodNamed B.named
  have hlocks := B.notSynchronized
  subst hsz
  have hD1 := hD0.self (sz := s.heap.size)
  generalize hAe : va_A (b_t cB cC cI cJ cZ oA rA Γ) s.heap.size = A at hD1 hE hX ⊢
  have hA : ∀ q : Nat, s.heap.size ≤ q → A q := fun q z => by rw [← hAe]; exact Or.inr z
  have hDD : ∀ Γ : HS, va_D A (b_t cB cC cI cJ cZ oA rA Γ) := fun Γ9 => va_D_fst (ws := (b_t cB cC cI cJ cZ oA rA Γ)) (ws' := (b_t cB cC cI cJ cZ oA rA Γ9)) rfl hD1
  have hN := hE.1
  have hS : va_S A s.heap s.heap [] := va_S.rf
  have hl := lv_entry ([.ref (oA 6)]) (n := 1) (Nat.le_of_ble_eq_true rfl)
  rw [lg_entry_eq]
  generalize (lg_sl ([.ref (oA 6)]) ++ List.replicate (1 - (lg_sl ([.ref (oA 6)])).length) Slot.unset).toArray = ls at hl ⊢
  have hl : lv_has ls 1 [(0, .ref (oA 6))] := hl
  unfold F_X9_wipe at hF
  refine lv_aload_n hx hb dX9_wipe_0 rfl (lv_at hl 0 rfl) ?_
  refine lv_iconst (v := 0) hx hb dX9_wipe_1 (by decide +kernel) ?_
  obtain ⟨σ_1, eσ_1, hF_2⟩ := bnd_e hF
  clear hF
  refine va_put (D := (dC, dI)) (ci := 9) (v := .int 0) (ty := .int) (C := RX9) (T := TX9) (N := 9) hx hb hts ii_X9 tyX9 tyX9_ok nmX9 hown hK hP (hDD _) hS 0 rfl rfl 1 (by decide) (hts (.fieldLink RX9 29 "StoryHouse$Texts" "unitCount" "I") wq_135) (fun _ h9 => h9) rfl (by decide +kernel) rfl rfl (Nat.le_of_ble_eq_true rfl) dX9_wipe_2 (fun H locs hP' _ hS => ?_)
  have hP : va_P (dC, dI) vwCl (b_t cB cC cI cJ cZ oA rA σ_1) H := by rw [eσ_1]; exact cs_t_t_1 ▸ hP'
  clear hP'
  refine lv_aload_n hx hb dX9_wipe_5 rfl (lv_at hl 0 rfl) ?_
  refine lv_iconst (v := 0) hx hb dX9_wipe_6 (by decide +kernel) ?_
  obtain ⟨σ_3, eσ_3, hF_4⟩ := bnd_e hF_2
  clear hF_2
  refine va_put (D := (dC, dI)) (ci := 9) (v := .int 0) (ty := .int) (C := RX9) (T := TX9) (N := 9) hx hb hts ii_X9 tyX9 tyX9_ok nmX9 hown hK hP (hDD _) hS 0 rfl rfl 6 (by decide) (hts (.fieldLink RX9 33 "StoryHouse$Texts" "count" "I") wq_140) (fun _ h9 => h9) rfl (by decide +kernel) rfl rfl (Nat.le_of_ble_eq_true rfl) dX9_wipe_7 (fun H locs hP' _ hS => ?_)
  have hP : va_P (dC, dI) vwCl (b_t cB cC cI cJ cZ oA rA σ_3) H := by rw [eσ_3]; exact cs_t_t_6 ▸ hP'
  clear hP'
  have h9 := Option.some.inj hF_4
  subst h9
  exact W.vret hx hb hr (fun t ht hW => ⟨⟨(), rfl, trivial, m_end ht hP, hDD _⟩, hS.F ht⟩) hS.2.2 dX9_wipe_10
