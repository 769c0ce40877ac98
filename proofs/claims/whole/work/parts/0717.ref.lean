/-! methods of the reference: what each does is its function -/
theorem dX12_size_0 : decode cX12_size 0 = .ok (.aload_n 0, 1) := by decide +kernel
theorem dX12_size_1 : decode cX12_size 1 = .ok (.iconst 0, 1) := by decide +kernel
theorem dX12_size_2 : decode cX12_size 2 = .ok (.putfield 240, 3) := by decide +kernel
theorem dX12_size_5 : decode cX12_size 5 = .ok (.aload_n 0, 1) := by decide +kernel
theorem dX12_size_6 : decode cX12_size 6 = .ok (.getfield 668, 3) := by decide +kernel
theorem dX12_size_9 : decode cX12_size 9 = .ok (.ireturn, 1) := by decide +kernel
def F_X12_size  (σ : MS) : MR :=
  bnd (mI σ 0 0) fun σ_1 =>
  some ((σ_1.1 103), σ_1)
set_option maxHeartbeats 4000000 in
set_option maxRecDepth 100000 in
theorem m_X12_size (l : Launch) (dC : Nat → ClassId) (dI : Nat → Nat → Nat) (cB cC cI cJ cZ cP : ClassId) (h qK qS : Nat) (ad : Nat → Nat) (hDD : mDis cB cI cZ h qK qS ad) (sz : Nat)   (σ : MS) (res : Int32 × MS) (hF : F_X12_size  σ = some res) : Met l yX12_size (g_ws yX12_size cX12_size 1 (some .int)) ({ frames := 1, cells := 0, slots := 0, locals := 40 }) (va_Pc [.ref h] (m_B (dC, dI) [(cB, .byte), (cC, .char), (cI, .int), (cJ, .long), (cZ, .boolean), (cP, .object "StoryHouse$Play")] sz h ad qK qS (mW cB cI cZ h qK qS ad σ) g_0)) (va_Qi (fun r (_ : Unit) => r = res.1) (fun _ t => va_P (dC, dI) vwCl (mW cB cI cZ h qK qS ad res.2) t.heap) (mCells h ad sz)) 0 0 (mCells h ad sz) := by
  refine Met.ofW (cc := cX12_size) (maxL := 1) (ret := (some .int)) (by decide) rfl ?_
  intro p e s m args below meth c s₁ B hml hv
  obtain ⟨rfl, hsz, hP, hK, hE, hKS, hX⟩ := hv
  have hx := B.exec
  have hb := B.bytes
  have hr := B.returns
  have hts0 := atoms_spec (ws := g_ws yX12_size cX12_size 1 (some .int)) B.pre
  have hts : ∀ w ∈ lw_good, w.before ([.ref h] : List Value).toArray s = true := fun w z => hts0 w (List.mem_cons_of_mem _ z)
  have hown : s.vm.findClass RX12 = some m.cls := findClass_of_methodNamed B.named
  have hlocks := B.notSynchronized
  have hS : va_S (mCells h ad sz) s.heap s.heap [] := va_S.rf
  have hl := lv_entry ([.ref h]) (n := 1) (Nat.le_of_ble_eq_true rfl)
  rw [lg_entry_eq]
  generalize (lg_sl ([.ref h]) ++ List.replicate (1 - (lg_sl ([.ref h])).length) Slot.unset).toArray = ls at hl ⊢
  have hl : lv_has ls 1 [(0, .ref h)] := hl
  unfold F_X12_size at hF
  refine lv_aload_n hx hb dX12_size_0 rfl (lv_at hl 0 rfl) ?_
  refine lv_iconst (v := 0) hx hb dX12_size_1 (by decide +kernel) ?_
  obtain ⟨σ_1, eσ_1, hF_2⟩ := bnd_e hF
  clear hF
  refine m_put (σ' := σ_1) (v := .int 0) (ty := .int) hx hb hts hown hK hP (hDD _ _) hS (by rw [eσ_1]; exact mwI_0) (k := 0) (by decide) (hts (.fieldLink RX12 240 "StoryHouseModel" "thrown" "I") wq_1356) (fun _ h9 => h9) rfl (by decide +kernel) rfl rfl dX12_size_2 (fun H locs hP hS => ?_)
  refine lv_aload_n hx hb dX12_size_5 rfl (lv_at hl 0 rfl) ?_
  refine va_get (D := (dC, dI)) (ci := 12) (v := .int (σ_1.1 103)) (C := RX12) (T := TX12) (N := 123) hx hb hts ii_X12 hown hK hP 0 rfl rfl 103 (by decide) (hts (.fieldLink RX12 668 "StoryHouseModel" "said" "I") wq_1459) (fun _ h9 => h9) rfl dX12_size_6 ?_
  have h9 := Option.some.inj hF_2
  subst h9
  exact W.iret (v := (σ_1.1 103)) hx hb hr (fun t ht hW => ⟨⟨(σ_1.1 103), (), rfl, rfl, m_end ht hP⟩, hS.F ht⟩) hS.2.2 dX12_size_9
theorem dX12_out_0 : decode cX12_out 0 = .ok (.aload_n 0, 1) := by decide +kernel
theorem dX12_out_1 : decode cX12_out 1 = .ok (.iload_n 1, 1) := by decide +kernel
theorem dX12_out_2 : decode cX12_out 2 = .ok (.ifCond .lt 15, 3) := by decide +kernel
theorem dX12_out_5 : decode cX12_out 5 = .ok (.iload_n 1, 1) := by decide +kernel
theorem dX12_out_6 : decode cX12_out 6 = .ok (.aload_n 0, 1) := by decide +kernel
theorem dX12_out_7 : decode cX12_out 7 = .ok (.getfield 668, 3) := by decide +kernel
theorem dX12_out_10 : decode cX12_out 10 = .ok (.if_icmp .ge 7, 3) := by decide +kernel
theorem dX12_out_13 : decode cX12_out 13 = .ok (.iconst 0, 1) := by decide +kernel
theorem dX12_out_14 : decode cX12_out 14 = .ok (.goto 4, 3) := by decide +kernel
theorem dX12_out_17 : decode cX12_out 17 = .ok (.iconst 1, 1) := by decide +kernel
theorem dX12_out_18 : decode cX12_out 18 = .ok (.invokevirtual 562, 3) := by decide +kernel
theorem dX12_out_21 : decode cX12_out 21 = .ok (.ifCond .eq 7, 3) := by decide +kernel
theorem dX12_out_24 : decode cX12_out 24 = .ok (.iconst 0, 1) := by decide +kernel
theorem dX12_out_25 : decode cX12_out 25 = .ok (.goto 13, 3) := by decide +kernel
theorem dX12_out_28 : decode cX12_out 28 = .ok (.aload_n 0, 1) := by decide +kernel
theorem dX12_out_29 : decode cX12_out 29 = .ok (.getfield 212, 3) := by decide +kernel
theorem dX12_out_32 : decode cX12_out 32 = .ok (.iload_n 1, 1) := by decide +kernel
theorem dX12_out_33 : decode cX12_out 33 = .ok (.baload, 1) := by decide +kernel
theorem dX12_out_34 : decode cX12_out 34 = .ok (.sipush 255, 3) := by decide +kernel
theorem dX12_out_37 : decode cX12_out 37 = .ok (.iand, 1) := by decide +kernel
theorem dX12_out_38 : decode cX12_out 38 = .ok (.ireturn, 1) := by decide +kernel
def F_X12_out (p0 : Int32) (σ : MS) : MR :=
  bnd (fun (t_1 : Int32) (σ_2 : MS) => (
    (F_X12_refuses t_1 σ_2).bind fun u_6 =>
    if u_6.1 = 0 then (
      if p0 < 0 ∨ 3000 ≤ p0.toNatClampNeg then none else
      some (((u_6.2.2 102 p0.toNatClampNeg) &&& 255), u_6.2)
    ) else (
      some (0, u_6.2)
    )
  ) : Int32 → MS → MR) fun j_3 =>
  bnd (fun  (σ_13 : MS) => (
    j_3 1 σ_13
  ) : MS → MR) fun j_14 =>
  if p0 < 0 then (
    j_14  σ
  ) else (
    if (σ.1 103) ≤ p0 then (
      j_14  σ
    ) else (
      j_3 0 σ
    )
  )
set_option maxHeartbeats 4000000 in
set_option maxRecDepth 100000 in
theorem m_X12_out (l : Launch) (dC : Nat → ClassId) (dI : Nat → Nat → Nat) (cB cC cI cJ cZ cP : ClassId) (h qK qS : Nat) (ad : Nat → Nat) (hDD : mDis cB cI cZ h qK qS ad) (sz : Nat)  (p0 : Int32) (σ : MS) (res : Int32 × MS) (hF : F_X12_out p0 σ = some res) : Met l yX12_out (g_ws yX12_out cX12_out 2 (some .int)) ({ frames := 2, cells := 0, slots := 0, locals := 61 }) (va_Pc [.ref h, .int p0] (m_B (dC, dI) [(cB, .byte), (cC, .char), (cI, .int), (cJ, .long), (cZ, .boolean), (cP, .object "StoryHouse$Play")] sz h ad qK qS (mW cB cI cZ h qK qS ad σ) g_0)) (va_Qi (fun r (_ : Unit) => r = res.1) (fun _ t => va_P (dC, dI) vwCl (mW cB cI cZ h qK qS ad res.2) t.heap) (mCells h ad sz)) 0 0 (mCells h ad sz) := by
  refine Met.ofW (cc := cX12_out) (maxL := 2) (ret := (some .int)) (by decide) rfl ?_
  intro p e s m args below meth c s₁ B hml hv
  obtain ⟨rfl, hsz, hP, hK, hE, hKS, hX⟩ := hv
  have hx := B.exec
  have hb := B.bytes
  have hr := B.returns
  have hts0 := atoms_spec (ws := g_ws yX12_out cX12_out 2 (some .int)) B.pre
  have hts : ∀ w ∈ lw_good, w.before ([.ref h, .int p0] : List Value).toArray s = true := fun w z => hts0 w (List.mem_cons_of_mem _ z)
  have hown : s.vm.findClass RX12 = some m.cls := findClass_of_methodNamed B.named
  have hlocks := B.notSynchronized
  have hS : va_S (mCells h ad sz) s.heap s.heap [] := va_S.rf
  have hl := lv_entry ([.ref h, .int p0]) (n := 2) (Nat.le_of_ble_eq_true rfl)
  rw [lg_entry_eq]
  generalize (lg_sl ([.ref h, .int p0]) ++ List.replicate (2 - (lg_sl ([.ref h, .int p0])).length) Slot.unset).toArray = ls at hl ⊢
  have hl : lv_has ls 2 [(0, .ref h), (1, .int p0)] := hl
  unfold F_X12_out at hF
  refine lv_aload_n hx hb dX12_out_0 rfl (lv_at hl 0 rfl) ?_
  refine lv_iload_n hx hb dX12_out_1 rfl (lv_at hl 1 rfl) ?_
  obtain ⟨j_3, ej_3, hF_4⟩ := bnd_e hF
  clear hF
  have Jj_3 : ∀ (t_1 : Int32) (σ_2 : MS), j_3 t_1 σ_2 = some res → ∀ (H : Heap) (locs : List Loc), va_P (dC, dI) vwCl (mW cB cI cZ h qK qS ad σ_2) H → va_S (mCells h ad sz) s.heap H locs → ∀ ls : Array Slot, lv_has ls 2 [(0, .ref h), (1, .int p0)] → W p l e (headSpec (g_ws yX12_out cX12_out 2 (some .int)) { frames := 2, cells := 0, slots := 0, locals := 61 }).room s m ([.ref h, .int p0] : List Value).toArray below meth c H locs 0 0 (MQ below (va_Qi (fun r (_ : Unit) => r = res.1) (fun _ t => va_P (dC, dI) vwCl (mW cB cI cZ h qK qS ad res.2) t.heap) (mCells h ad sz)) ([.ref h, .int p0] : List Value).toArray s 0 0 (mCells h ad sz)) (F0 m 18 ls [.int t_1, .ref h]) := by
    intro t_1 σ_2 hF0 H locs hP hS ls hl
    subst ej_3
    have hF_5 := hF0
    clear hF0
    obtain ⟨u_6, hu_6, hF_7⟩ := Option.bind_eq_some_iff.mp hF_5
    clear hF_5
    refine m_ci hsz hS (va_runV (As := [.int t_1]) (rest := []) ⟨hx, hb, hml, hown, hts⟩ (m_X12_refuses l dC dI cB cC cI cJ cZ cP h qK qS ad hDD H.size  t_1 σ_2 _ hu_6) (cwV 1 hts (g_gV wq_1487 wq_1488 wq_2113 wq_13 wq_1489) rfl rfl rfl (by decide +kernel) ⟨Nat.le_of_ble_eq_true rfl, Nat.le_of_ble_eq_true rfl⟩) (m_preV g_bl0 hsz hK hP hS hE hKS g_to0) rfl rfl hl.1 rfl (lv_room (Nat.le_of_ble_eq_true rfl)) dX12_out_18 ⟨Nat.le_of_ble_eq_true rfl, Nat.le_of_ble_eq_true rfl⟩) (fun H locs hP hS => ?_)
    refine lv_if_eq (tgt := 28) hx hb dX12_out_21 (by decide) (fun c_8 => ?_) (fun c_8 => ?_)
    · have hF_9 := ipos c_8 hF_7
      clear hF_7
      refine lv_aload_n hx hb dX12_out_28 rfl (lv_at hl 0 rfl) ?_
      refine va_get (D := (dC, dI)) (ci := 12) (v := .ref (ad 102)) (C := RX12) (T := TX12) (N := 123) hx hb hts ii_X12 hown hK hP 0 rfl rfl 102 (by decide) (hts (.fieldLink RX12 212 "StoryHouseModel" "out" "[B") wq_1458) (fun _ h9 => h9) rfl dX12_out_29 ?_
      refine lv_iload_n hx hb dX12_out_32 rfl (lv_at hl 1 rfl) ?_
      obtain ⟨g_10, hF_11⟩ := nif_e hF_9
      clear hF_9
      refine va_bald (f := u_6.2.2 102) hx hb hK hP 61 0 rfl rfl g_10 dX12_out_33 ?_
      refine lv_sipush (v := 255) hx hb dX12_out_34 (by decide +kernel) ?_
      refine lv_iand hx hb dX12_out_37 ?_
      have h9 := Option.some.inj hF_11
      subst h9
      exact W.iret (v := ((u_6.2.2 102 p0.toNatClampNeg) &&& 255)) hx hb hr (fun t ht hW => ⟨⟨((u_6.2.2 102 p0.toNatClampNeg) &&& 255), (), rfl, rfl, m_end ht hP⟩, hS.F ht⟩) hS.2.2 dX12_out_38
    · have hF_12 := ineg c_8 hF_7
      clear hF_7
      refine lv_iconst (v := 0) hx hb dX12_out_24 (by decide +kernel) ?_
      refine lv_goto (tgt := 38) hx hb dX12_out_25 (by decide) ?_
      have h9 := Option.some.inj hF_12
      subst h9
      exact W.iret (v := 0) hx hb hr (fun t ht hW => ⟨⟨0, (), rfl, rfl, m_end ht hP⟩, hS.F ht⟩) hS.2.2 dX12_out_38
  obtain ⟨j_14, ej_14, hF_15⟩ := bnd_e hF_4
  clear hF_4
  have Jj_14 : ∀  (σ_13 : MS), j_14  σ_13 = some res → ∀ (H : Heap) (locs : List Loc), va_P (dC, dI) vwCl (mW cB cI cZ h qK qS ad σ_13) H → va_S (mCells h ad sz) s.heap H locs → ∀ ls : Array Slot, lv_has ls 2 [(0, .ref h), (1, .int p0)] → W p l e (headSpec (g_ws yX12_out cX12_out 2 (some .int)) { frames := 2, cells := 0, slots := 0, locals := 61 }).room s m ([.ref h, .int p0] : List Value).toArray below meth c H locs 0 0 (MQ below (va_Qi (fun r (_ : Unit) => r = res.1) (fun _ t => va_P (dC, dI) vwCl (mW cB cI cZ h qK qS ad res.2) t.heap) (mCells h ad sz)) ([.ref h, .int p0] : List Value).toArray s 0 0 (mCells h ad sz)) (F0 m 17 ls [.ref h]) := by
    intro  σ_13 hF0 H locs hP hS ls hl
    subst ej_14
    have hF_16 := hF0
    clear hF0
    refine lv_iconst (v := 1) hx hb dX12_out_17 (by decide +kernel) ?_
    exact Jj_3 1 σ_13 hF_16 _ _ hP hS ls (lv_sub hl [0, 1] rfl)
  refine lv_if_lt (tgt := 17) hx hb dX12_out_2 (by decide) (fun c_17 => ?_) (fun c_17 => ?_)
  · have hF_18 := ipos c_17 hF_15
    clear hF_15
    exact Jj_14  σ hF_18 _ _ hP hS ls (lv_sub hl [0, 1] rfl)
  · have hF_19 := ineg c_17 hF_15
    clear hF_15
    refine lv_iload_n hx hb dX12_out_5 rfl (lv_at hl 1 rfl) ?_
    refine lv_aload_n hx hb dX12_out_6 rfl (lv_at hl 0 rfl) ?_
    refine va_get (D := (dC, dI)) (ci := 12) (v := .int (σ.1 103)) (C := RX12) (T := TX12) (N := 123) hx hb hts ii_X12 hown hK hP 0 rfl rfl 103 (by decide) (hts (.fieldLink RX12 668 "StoryHouseModel" "said" "I") wq_1459) (fun _ h9 => h9) rfl dX12_out_7 ?_
    refine lv_icmp_ge (tgt := 17) hx hb dX12_out_10 (by decide) (fun c_20 => ?_) (fun c_20 => ?_)
    · have hF_21 := ipos c_20 hF_19
      clear hF_19
      exact Jj_14  σ hF_21 _ _ hP hS ls (lv_sub hl [0, 1] rfl)
    · have hF_22 := ineg c_20 hF_19
      clear hF_19
      refine lv_iconst (v := 0) hx hb dX12_out_13 (by decide +kernel) ?_
      refine lv_goto (tgt := 18) hx hb dX12_out_14 (by decide) ?_
      exact Jj_3 0 σ hF_22 _ _ hP hS ls (lv_sub hl [0, 1] rfl)
theorem dX12_save_0 : decode cX12_save 0 = .ok (.aload_n 0, 1) := by decide +kernel
theorem dX12_save_1 : decode cX12_save 1 = .ok (.iload_n 1, 1) := by decide +kernel
theorem dX12_save_2 : decode cX12_save 2 = .ok (.ifCond .lt 8, 3) := by decide +kernel
theorem dX12_save_5 : decode cX12_save 5 = .ok (.iload_n 1, 1) := by decide +kernel
theorem dX12_save_6 : decode cX12_save 6 = .ok (.iconst 3, 1) := by decide +kernel
theorem dX12_save_7 : decode cX12_save 7 = .ok (.if_icmp .le 7, 3) := by decide +kernel
theorem dX12_save_10 : decode cX12_save 10 = .ok (.iconst 1, 1) := by decide +kernel
theorem dX12_save_11 : decode cX12_save 11 = .ok (.goto 15, 3) := by decide +kernel
theorem dX12_save_14 : decode cX12_save 14 = .ok (.aload_n 0, 1) := by decide +kernel
theorem dX12_save_15 : decode cX12_save 15 = .ok (.getfield 600, 3) := by decide +kernel
theorem dX12_save_18 : decode cX12_save 18 = .ok (.ifCond .eq 7, 3) := by decide +kernel
theorem dX12_save_21 : decode cX12_save 21 = .ok (.iconst 0, 1) := by decide +kernel
theorem dX12_save_22 : decode cX12_save 22 = .ok (.goto 4, 3) := by decide +kernel
theorem dX12_save_25 : decode cX12_save 25 = .ok (.iconst 2, 1) := by decide +kernel
theorem dX12_save_26 : decode cX12_save 26 = .ok (.invokevirtual 562, 3) := by decide +kernel
theorem dX12_save_29 : decode cX12_save 29 = .ok (.ifCond .eq 4, 3) := by decide +kernel
theorem dX12_save_32 : decode cX12_save 32 = .ok (.return_, 1) := by decide +kernel
theorem dX12_save_33 : decode cX12_save 33 = .ok (.aload_n 0, 1) := by decide +kernel
theorem dX12_save_34 : decode cX12_save 34 = .ok (.iload_n 1, 1) := by decide +kernel
theorem dX12_save_35 : decode cX12_save 35 = .ok (.invokevirtual 908, 3) := by decide +kernel
theorem dX12_save_38 : decode cX12_save 38 = .ok (.aload_n 0, 1) := by decide +kernel
theorem dX12_save_39 : decode cX12_save 39 = .ok (.getfield 209, 3) := by decide +kernel
theorem dX12_save_42 : decode cX12_save 42 = .ok (.iload_n 1, 1) := by decide +kernel
theorem dX12_save_43 : decode cX12_save 43 = .ok (.iconst 1, 1) := by decide +kernel
theorem dX12_save_44 : decode cX12_save 44 = .ok (.bastore, 1) := by decide +kernel
theorem dX12_save_45 : decode cX12_save 45 = .ok (.return_, 1) := by decide +kernel
def F_X12_save (p0 : Int32) (σ : MS) : MR :=
  bnd (fun (t_1 : Int32) (σ_2 : MS) => (
    (F_X12_refuses t_1 σ_2).bind fun u_6 =>
    if u_6.1 = 0 then (
      (F_X12_keep p0 u_6.2).bind fun u_10 =>
      if p0 < 0 ∨ 4 ≤ p0.toNatClampNeg then none else
      bnd (mA u_10.2 100 (upd (u_10.2.2 100) p0.toNatClampNeg (vp_nar .boolean 1))) fun σ_14 =>
      some (0, σ_14)
    ) else (
      some (0, u_6.2)
    )
  ) : Int32 → MS → MR) fun j_3 =>
  bnd (fun  (σ_17 : MS) => (
    j_3 1 σ_17
  ) : MS → MR) fun j_18 =>
  if p0 < 0 then (
    j_18  σ
  ) else (
    if p0 ≤ 3 then (
      if (σ.1 86) = 0 then (
        j_3 2 σ
      ) else (
        j_3 0 σ
      )
    ) else (
      j_18  σ
    )
  )
set_option maxHeartbeats 4000000 in
set_option maxRecDepth 100000 in
theorem m_X12_save (l : Launch) (dC : Nat → ClassId) (dI : Nat → Nat → Nat) (cB cC cI cJ cZ cP : ClassId) (h qK qS : Nat) (ad : Nat → Nat) (hDD : mDis cB cI cZ h qK qS ad) (sz : Nat)  (p0 : Int32) (σ : MS) (res : Int32 × MS) (hF : F_X12_save p0 σ = some res) : Met l yX12_save (g_ws yX12_save cX12_save 2 none) ({ frames := 2, cells := 0, slots := 0, locals := 65 }) (va_Pc [.ref h, .int p0] (m_B (dC, dI) [(cB, .byte), (cC, .char), (cI, .int), (cJ, .long), (cZ, .boolean), (cP, .object "StoryHouse$Play")] sz h ad qK qS (mW cB cI cZ h qK qS ad σ) g_0)) (va_Qv (fun (_ : Unit) => True) (fun _ t => va_P (dC, dI) vwCl (mW cB cI cZ h qK qS ad res.2) t.heap) (mCells h ad sz)) 0 0 (mCells h ad sz) := by
  refine Met.ofW (cc := cX12_save) (maxL := 2) (ret := none) (by decide) rfl ?_
  intro p e s m args below meth c s₁ B hml hv
  obtain ⟨rfl, hsz, hP, hK, hE, hKS, hX⟩ := hv
  have hx := B.exec
  have hb := B.bytes
  have hr := B.returns
  have hts0 := atoms_spec (ws := g_ws yX12_save cX12_save 2 none) B.pre
  have hts : ∀ w ∈ lw_good, w.before ([.ref h, .int p0] : List Value).toArray s = true := fun w z => hts0 w (List.mem_cons_of_mem _ z)
  have hown : s.vm.findClass RX12 = some m.cls := findClass_of_methodNamed B.named
  have hlocks := B.notSynchronized
  have hS : va_S (mCells h ad sz) s.heap s.heap [] := va_S.rf
  have hl := lv_entry ([.ref h, .int p0]) (n := 2) (Nat.le_of_ble_eq_true rfl)
  rw [lg_entry_eq]
  generalize (lg_sl ([.ref h, .int p0]) ++ List.replicate (2 - (lg_sl ([.ref h, .int p0])).length) Slot.unset).toArray = ls at hl ⊢
  have hl : lv_has ls 2 [(0, .ref h), (1, .int p0)] := hl
  unfold F_X12_save at hF
  refine lv_aload_n hx hb dX12_save_0 rfl (lv_at hl 0 rfl) ?_
  refine lv_iload_n hx hb dX12_save_1 rfl (lv_at hl 1 rfl) ?_
  obtain ⟨j_3, ej_3, hF_4⟩ := bnd_e hF
  clear hF
  have Jj_3 : ∀ (t_1 : Int32) (σ_2 : MS), j_3 t_1 σ_2 = some res → ∀ (H : Heap) (locs : List Loc), va_P (dC, dI) vwCl (mW cB cI cZ h qK qS ad σ_2) H → va_S (mCells h ad sz) s.heap H locs → ∀ ls : Array Slot, lv_has ls 2 [(0, .ref h), (1, .int p0)] → W p l e (headSpec (g_ws yX12_save cX12_save 2 none) { frames := 2, cells := 0, slots := 0, locals := 65 }).room s m ([.ref h, .int p0] : List Value).toArray below meth c H locs 0 0 (MQ below (va_Qv (fun (_ : Unit) => True) (fun _ t => va_P (dC, dI) vwCl (mW cB cI cZ h qK qS ad res.2) t.heap) (mCells h ad sz)) ([.ref h, .int p0] : List Value).toArray s 0 0 (mCells h ad sz)) (F0 m 26 ls [.int t_1, .ref h]) := by
    intro t_1 σ_2 hF0 H locs hP hS ls hl
    subst ej_3
    have hF_5 := hF0
    clear hF0
    obtain ⟨u_6, hu_6, hF_7⟩ := Option.bind_eq_some_iff.mp hF_5
    clear hF_5
    refine m_ci hsz hS (va_runV (As := [.int t_1]) (rest := []) ⟨hx, hb, hml, hown, hts⟩ (m_X12_refuses l dC dI cB cC cI cJ cZ cP h qK qS ad hDD H.size  t_1 σ_2 _ hu_6) (cwV 1 hts (g_gV wq_1487 wq_1488 wq_2113 wq_13 wq_1489) rfl rfl rfl (by decide +kernel) ⟨Nat.le_of_ble_eq_true rfl, Nat.le_of_ble_eq_true rfl⟩) (m_preV g_bl0 hsz hK hP hS hE hKS g_to0) rfl rfl hl.1 rfl (lv_room (Nat.le_of_ble_eq_true rfl)) dX12_save_26 ⟨Nat.le_of_ble_eq_true rfl, Nat.le_of_ble_eq_true rfl⟩) (fun H locs hP hS => ?_)
    refine lv_if_eq (tgt := 33) hx hb dX12_save_29 (by decide) (fun c_8 => ?_) (fun c_8 => ?_)
    · have hF_9 := ipos c_8 hF_7
      clear hF_7
      refine lv_aload_n hx hb dX12_save_33 rfl (lv_at hl 0 rfl) ?_
      refine lv_iload_n hx hb dX12_save_34 rfl (lv_at hl 1 rfl) ?_
      obtain ⟨u_10, hu_10, hF_11⟩ := Option.bind_eq_some_iff.mp hF_9
      clear hF_9
      refine m_cv hsz hS (va_runV (As := [.int p0]) (rest := []) ⟨hx, hb, hml, hown, hts⟩ (m_X12_keep l dC dI cB cC cI cJ cZ cP h qK qS ad hDD H.size  p0 u_6.2 _ hu_10) (cwV 1 hts (g_gV wq_1804 wq_1805 wq_2209 wq_13 wq_1806) rfl rfl rfl (by decide +kernel) ⟨Nat.le_of_ble_eq_true rfl, Nat.le_of_ble_eq_true rfl⟩) (m_preV g_bl0 hsz hK hP hS hE hKS g_to0) rfl rfl hl.1 rfl (lv_room (Nat.le_of_ble_eq_true rfl)) dX12_save_35 ⟨Nat.le_of_ble_eq_true rfl, Nat.le_of_ble_eq_true rfl⟩) (fun H locs hP hS => ?_)
      refine lv_aload_n hx hb dX12_save_38 rfl (lv_at hl 0 rfl) ?_
      refine va_get (D := (dC, dI)) (ci := 12) (v := .ref (ad 100)) (C := RX12) (T := TX12) (N := 123) hx hb hts ii_X12 hown hK hP 0 rfl rfl 100 (by decide) (hts (.fieldLink RX12 209 "StoryHouseModel" "saved" "[Z") wq_1456) (fun _ h9 => h9) rfl dX12_save_39 ?_
      refine lv_iload_n hx hb dX12_save_42 rfl (lv_at hl 1 rfl) ?_
      refine lv_iconst (v := 1) hx hb dX12_save_43 (by decide +kernel) ?_
      obtain ⟨g_12, hF_13⟩ := nif_e hF_11
      clear hF_11
      obtain ⟨σ_14, eσ_14, hF_15⟩ := bnd_e hF_13
      clear hF_13
      refine m_zast (σ' := σ_14) hx hb hK hP (hDD _ _) hS (q0 := 60) (t0 := 4) (f := u_10.2.2 100) rfl rfl (by rw [eσ_14]; exact mwA_100) g_12 dX12_save_44 (fun H locs hP hS => ?_)
      have h9 := Option.some.inj hF_15
      subst h9
      exact W.vret hx hb hr (fun t ht hW => ⟨⟨(), rfl, trivial, m_end ht hP⟩, hS.F ht⟩) hS.2.2 dX12_save_45
    · have hF_16 := ineg c_8 hF_7
      clear hF_7
      have h9 := Option.some.inj hF_16
      subst h9
      exact W.vret hx hb hr (fun t ht hW => ⟨⟨(), rfl, trivial, m_end ht hP⟩, hS.F ht⟩) hS.2.2 dX12_save_32
  obtain ⟨j_18, ej_18, hF_19⟩ := bnd_e hF_4
  clear hF_4
  have Jj_18 : ∀  (σ_17 : MS), j_18  σ_17 = some res → ∀ (H : Heap) (locs : List Loc), va_P (dC, dI) vwCl (mW cB cI cZ h qK qS ad σ_17) H → va_S (mCells h ad sz) s.heap H locs → ∀ ls : Array Slot, lv_has ls 2 [(0, .ref h), (1, .int p0)] → W p l e (headSpec (g_ws yX12_save cX12_save 2 none) { frames := 2, cells := 0, slots := 0, locals := 65 }).room s m ([.ref h, .int p0] : List Value).toArray below meth c H locs 0 0 (MQ below (va_Qv (fun (_ : Unit) => True) (fun _ t => va_P (dC, dI) vwCl (mW cB cI cZ h qK qS ad res.2) t.heap) (mCells h ad sz)) ([.ref h, .int p0] : List Value).toArray s 0 0 (mCells h ad sz)) (F0 m 10 ls [.ref h]) := by
    intro  σ_17 hF0 H locs hP hS ls hl
    subst ej_18
    have hF_20 := hF0
    clear hF0
    refine lv_iconst (v := 1) hx hb dX12_save_10 (by decide +kernel) ?_
    refine lv_goto (tgt := 26) hx hb dX12_save_11 (by decide) ?_
    exact Jj_3 1 σ_17 hF_20 _ _ hP hS ls (lv_sub hl [0, 1] rfl)
  refine lv_if_lt (tgt := 10) hx hb dX12_save_2 (by decide) (fun c_21 => ?_) (fun c_21 => ?_)
  · have hF_22 := ipos c_21 hF_19
    clear hF_19
    exact Jj_18  σ hF_22 _ _ hP hS ls (lv_sub hl [0, 1] rfl)
  · have hF_23 := ineg c_21 hF_19
    clear hF_19
    refine lv_iload_n hx hb dX12_save_5 rfl (lv_at hl 1 rfl) ?_
    refine lv_iconst (v := 3) hx hb dX12_save_6 (by decide +kernel) ?_
    refine lv_icmp_le (tgt := 14) hx hb dX12_save_7 (by decide) (fun c_24 => ?_) (fun c_24 => ?_)
    · have hF_25 := ipos c_24 hF_23
      clear hF_23
      refine lv_aload_n hx hb dX12_save_14 rfl (lv_at hl 0 rfl) ?_
      refine va_get (D := (dC, dI)) (ci := 12) (v := .int (σ.1 86)) (C := RX12) (T := TX12) (N := 123) hx hb hts ii_X12 hown hK hP 0 rfl rfl 86 (by decide) (hts (.fieldLink RX12 600 "StoryHouseModel" "playing" "Z") wq_1442) (fun _ h9 => h9) rfl dX12_save_15 ?_
      refine lv_if_eq (tgt := 25) hx hb dX12_save_18 (by decide) (fun c_26 => ?_) (fun c_26 => ?_)
      · have hF_27 := ipos c_26 hF_25
        clear hF_25
        refine lv_iconst (v := 2) hx hb dX12_save_25 (by decide +kernel) ?_
        exact Jj_3 2 σ hF_27 _ _ hP hS ls (lv_sub hl [0, 1] rfl)
      · have hF_28 := ineg c_26 hF_25
        clear hF_25
        refine lv_iconst (v := 0) hx hb dX12_save_21 (by decide +kernel) ?_
        refine lv_goto (tgt := 26) hx hb dX12_save_22 (by decide) ?_
        exact Jj_3 0 σ hF_28 _ _ hP hS ls (lv_sub hl [0, 1] rfl)
    · have hF_29 := ineg c_24 hF_23
      clear hF_23
      exact Jj_18  σ hF_29 _ _ hP hS ls (lv_sub hl [0, 1] rfl)
theorem dX12_restore_0 : decode cX12_restore 0 = .ok (.aload_n 0, 1) := by decide +kernel
theorem dX12_restore_1 : decode cX12_restore 1 = .ok (.iload_n 1, 1) := by decide +kernel
theorem dX12_restore_2 : decode cX12_restore 2 = .ok (.ifCond .lt 8, 3) := by decide +kernel
theorem dX12_restore_5 : decode cX12_restore 5 = .ok (.iload_n 1, 1) := by decide +kernel
theorem dX12_restore_6 : decode cX12_restore 6 = .ok (.iconst 3, 1) := by decide +kernel
theorem dX12_restore_7 : decode cX12_restore 7 = .ok (.if_icmp .le 7, 3) := by decide +kernel
theorem dX12_restore_10 : decode cX12_restore 10 = .ok (.iconst 1, 1) := by decide +kernel
theorem dX12_restore_11 : decode cX12_restore 11 = .ok (.goto 17, 3) := by decide +kernel
theorem dX12_restore_14 : decode cX12_restore 14 = .ok (.aload_n 0, 1) := by decide +kernel
theorem dX12_restore_15 : decode cX12_restore 15 = .ok (.getfield 209, 3) := by decide +kernel
theorem dX12_restore_18 : decode cX12_restore 18 = .ok (.iload_n 1, 1) := by decide +kernel
theorem dX12_restore_19 : decode cX12_restore 19 = .ok (.baload, 1) := by decide +kernel
theorem dX12_restore_20 : decode cX12_restore 20 = .ok (.ifCond .eq 7, 3) := by decide +kernel
theorem dX12_restore_23 : decode cX12_restore 23 = .ok (.iconst 0, 1) := by decide +kernel
theorem dX12_restore_24 : decode cX12_restore 24 = .ok (.goto 4, 3) := by decide +kernel
theorem dX12_restore_27 : decode cX12_restore 27 = .ok (.iconst 2, 1) := by decide +kernel
theorem dX12_restore_28 : decode cX12_restore 28 = .ok (.invokevirtual 562, 3) := by decide +kernel
theorem dX12_restore_31 : decode cX12_restore 31 = .ok (.ifCond .eq 4, 3) := by decide +kernel
theorem dX12_restore_34 : decode cX12_restore 34 = .ok (.return_, 1) := by decide +kernel
theorem dX12_restore_35 : decode cX12_restore 35 = .ok (.aload_n 0, 1) := by decide +kernel
theorem dX12_restore_36 : decode cX12_restore 36 = .ok (.iconst 1, 1) := by decide +kernel
theorem dX12_restore_37 : decode cX12_restore 37 = .ok (.putfield 600, 3) := by decide +kernel
theorem dX12_restore_40 : decode cX12_restore 40 = .ok (.aload_n 0, 1) := by decide +kernel
theorem dX12_restore_41 : decode cX12_restore 41 = .ok (.iconst 0, 1) := by decide +kernel
theorem dX12_restore_42 : decode cX12_restore 42 = .ok (.putfield 668, 3) := by decide +kernel
theorem dX12_restore_45 : decode cX12_restore 45 = .ok (.aload_n 0, 1) := by decide +kernel
theorem dX12_restore_46 : decode cX12_restore 46 = .ok (.iconst 0, 1) := by decide +kernel
theorem dX12_restore_47 : decode cX12_restore 47 = .ok (.putfield 786, 3) := by decide +kernel
theorem dX12_restore_50 : decode cX12_restore 50 = .ok (.aload_n 0, 1) := by decide +kernel
theorem dX12_restore_51 : decode cX12_restore 51 = .ok (.iload_n 1, 1) := by decide +kernel
theorem dX12_restore_52 : decode cX12_restore 52 = .ok (.invokevirtual 926, 3) := by decide +kernel
theorem dX12_restore_55 : decode cX12_restore 55 = .ok (.return_, 1) := by decide +kernel
def F_X12_restore (p0 : Int32) (σ : MS) : MR :=
  bnd (fun (t_1 : Int32) (σ_2 : MS) => (
    (F_X12_refuses t_1 σ_2).bind fun u_6 =>
    if u_6.1 = 0 then (
      bnd (mI u_6.2 86 1) fun σ_10 =>
      bnd (mI σ_10 103 0) fun σ_12 =>
      bnd (mI σ_12 101 0) fun σ_14 =>
      (F_X12_take p0 σ_14).bind fun u_16 =>
      some (0, u_16.2)
    ) else (
      some (0, u_6.2)
    )
  ) : Int32 → MS → MR) fun j_3 =>
  bnd (fun  (σ_19 : MS) => (
    j_3 1 σ_19
  ) : MS → MR) fun j_20 =>
  if p0 < 0 then (
    j_20  σ
  ) else (
    if p0 ≤ 3 then (
      if p0 < 0 ∨ 4 ≤ p0.toNatClampNeg then none else
      if (σ.2 100 p0.toNatClampNeg) = 0 then (
        j_3 2 σ
      ) else (
        j_3 0 σ
      )
    ) else (
      j_20  σ
    )
  )
set_option maxHeartbeats 4000000 in
set_option maxRecDepth 100000 in
theorem m_X12_restore (l : Launch) (dC : Nat → ClassId) (dI : Nat → Nat → Nat) (cB cC cI cJ cZ cP : ClassId) (h qK qS : Nat) (ad : Nat → Nat) (hDD : mDis cB cI cZ h qK qS ad) (sz : Nat)  (p0 : Int32) (σ : MS) (res : Int32 × MS) (hF : F_X12_restore p0 σ = some res) : Met l yX12_restore (g_ws yX12_restore cX12_restore 2 none) ({ frames := 2, cells := 0, slots := 0, locals := 65 }) (va_Pc [.ref h, .int p0] (m_B (dC, dI) [(cB, .byte), (cC, .char), (cI, .int), (cJ, .long), (cZ, .boolean), (cP, .object "StoryHouse$Play")] sz h ad qK qS (mW cB cI cZ h qK qS ad σ) g_0)) (va_Qv (fun (_ : Unit) => True) (fun _ t => va_P (dC, dI) vwCl (mW cB cI cZ h qK qS ad res.2) t.heap) (mCells h ad sz)) 0 0 (mCells h ad sz) := by
  refine Met.ofW (cc := cX12_restore) (maxL := 2) (ret := none) (by decide) rfl ?_
  intro p e s m args below meth c s₁ B hml hv
  obtain ⟨rfl, hsz, hP, hK, hE, hKS, hX⟩ := hv
  have hx := B.exec
  have hb := B.bytes
  have hr := B.returns
  have hts0 := atoms_spec (ws := g_ws yX12_restore cX12_restore 2 none) B.pre
  have hts : ∀ w ∈ lw_good, w.before ([.ref h, .int p0] : List Value).toArray s = true := fun w z => hts0 w (List.mem_cons_of_mem _ z)
  have hown : s.vm.findClass RX12 = some m.cls := findClass_of_methodNamed B.named
  have hlocks := B.notSynchronized
  have hS : va_S (mCells h ad sz) s.heap s.heap [] := va_S.rf
  have hl := lv_entry ([.ref h, .int p0]) (n := 2) (Nat.le_of_ble_eq_true rfl)
  rw [lg_entry_eq]
  generalize (lg_sl ([.ref h, .int p0]) ++ List.replicate (2 - (lg_sl ([.ref h, .int p0])).length) Slot.unset).toArray = ls at hl ⊢
  have hl : lv_has ls 2 [(0, .ref h), (1, .int p0)] := hl
  unfold F_X12_restore at hF
  refine lv_aload_n hx hb dX12_restore_0 rfl (lv_at hl 0 rfl) ?_
  refine lv_iload_n hx hb dX12_restore_1 rfl (lv_at hl 1 rfl) ?_
  obtain ⟨j_3, ej_3, hF_4⟩ := bnd_e hF
  clear hF
  have Jj_3 : ∀ (t_1 : Int32) (σ_2 : MS), j_3 t_1 σ_2 = some res → ∀ (H : Heap) (locs : List Loc), va_P (dC, dI) vwCl (mW cB cI cZ h qK qS ad σ_2) H → va_S (mCells h ad sz) s.heap H locs → ∀ ls : Array Slot, lv_has ls 2 [(0, .ref h), (1, .int p0)] → W p l e (headSpec (g_ws yX12_restore cX12_restore 2 none) { frames := 2, cells := 0, slots := 0, locals := 65 }).room s m ([.ref h, .int p0] : List Value).toArray below meth c H locs 0 0 (MQ below (va_Qv (fun (_ : Unit) => True) (fun _ t => va_P (dC, dI) vwCl (mW cB cI cZ h qK qS ad res.2) t.heap) (mCells h ad sz)) ([.ref h, .int p0] : List Value).toArray s 0 0 (mCells h ad sz)) (F0 m 28 ls [.int t_1, .ref h]) := by
    intro t_1 σ_2 hF0 H locs hP hS ls hl
    subst ej_3
    have hF_5 := hF0
    clear hF0
    obtain ⟨u_6, hu_6, hF_7⟩ := Option.bind_eq_some_iff.mp hF_5
    clear hF_5
    refine m_ci hsz hS (va_runV (As := [.int t_1]) (rest := []) ⟨hx, hb, hml, hown, hts⟩ (m_X12_refuses l dC dI cB cC cI cJ cZ cP h qK qS ad hDD H.size  t_1 σ_2 _ hu_6) (cwV 1 hts (g_gV wq_1487 wq_1488 wq_2113 wq_13 wq_1489) rfl rfl rfl (by decide +kernel) ⟨Nat.le_of_ble_eq_true rfl, Nat.le_of_ble_eq_true rfl⟩) (m_preV g_bl0 hsz hK hP hS hE hKS g_to0) rfl rfl hl.1 rfl (lv_room (Nat.le_of_ble_eq_true rfl)) dX12_restore_28 ⟨Nat.le_of_ble_eq_true rfl, Nat.le_of_ble_eq_true rfl⟩) (fun H locs hP hS => ?_)
    refine lv_if_eq (tgt := 35) hx hb dX12_restore_31 (by decide) (fun c_8 => ?_) (fun c_8 => ?_)
    · have hF_9 := ipos c_8 hF_7
      clear hF_7
      refine lv_aload_n hx hb dX12_restore_35 rfl (lv_at hl 0 rfl) ?_
      refine lv_iconst (v := 1) hx hb dX12_restore_36 (by decide +kernel) ?_
      obtain ⟨σ_10, eσ_10, hF_11⟩ := bnd_e hF_9
      clear hF_9
      refine m_put (σ' := σ_10) (v := .int 1) (ty := .boolean) hx hb hts hown hK hP (hDD _ _) hS (by rw [eσ_10]; exact mwI_86) (k := 86) (by decide) (hts (.fieldLink RX12 600 "StoryHouseModel" "playing" "Z") wq_1442) (fun _ h9 => h9) rfl (by decide +kernel) (by decide +kernel) (by decide +kernel) dX12_restore_37 (fun H locs hP hS => ?_)
      refine lv_aload_n hx hb dX12_restore_40 rfl (lv_at hl 0 rfl) ?_
      refine lv_iconst (v := 0) hx hb dX12_restore_41 (by decide +kernel) ?_
      obtain ⟨σ_12, eσ_12, hF_13⟩ := bnd_e hF_11
      clear hF_11
      refine m_put (σ' := σ_12) (v := .int 0) (ty := .int) hx hb hts hown hK hP (hDD _ _) hS (by rw [eσ_12]; exact mwI_103) (k := 103) (by decide) (hts (.fieldLink RX12 668 "StoryHouseModel" "said" "I") wq_1459) (fun _ h9 => h9) rfl (by decide +kernel) rfl rfl dX12_restore_42 (fun H locs hP hS => ?_)
      refine lv_aload_n hx hb dX12_restore_45 rfl (lv_at hl 0 rfl) ?_
      refine lv_iconst (v := 0) hx hb dX12_restore_46 (by decide +kernel) ?_
      obtain ⟨σ_14, eσ_14, hF_15⟩ := bnd_e hF_13
      clear hF_13
      refine m_put (σ' := σ_14) (v := .int 0) (ty := .int) hx hb hts hown hK hP (hDD _ _) hS (by rw [eσ_14]; exact mwI_101) (k := 101) (by decide) (hts (.fieldLink RX12 786 "StoryHouseModel" "undos" "I") wq_1457) (fun _ h9 => h9) rfl (by decide +kernel) rfl rfl dX12_restore_47 (fun H locs hP hS => ?_)
      refine lv_aload_n hx hb dX12_restore_50 rfl (lv_at hl 0 rfl) ?_
      refine lv_iload_n hx hb dX12_restore_51 rfl (lv_at hl 1 rfl) ?_
      obtain ⟨u_16, hu_16, hF_17⟩ := Option.bind_eq_some_iff.mp hF_15
      clear hF_15
      refine m_cv hsz hS (va_runV (As := [.int p0]) (rest := []) ⟨hx, hb, hml, hown, hts⟩ (m_X12_take l dC dI cB cC cI cJ cZ cP h qK qS ad hDD H.size  p0 σ_14 _ hu_16) (cwV 1 hts (g_gV wq_1889 wq_1890 wq_2237 wq_13 wq_1891) rfl rfl rfl (by decide +kernel) ⟨Nat.le_of_ble_eq_true rfl, Nat.le_of_ble_eq_true rfl⟩) (m_preV g_bl0 hsz hK hP hS hE hKS g_to0) rfl rfl hl.1 rfl (lv_room (Nat.le_of_ble_eq_true rfl)) dX12_restore_52 ⟨Nat.le_of_ble_eq_true rfl, Nat.le_of_ble_eq_true rfl⟩) (fun H locs hP hS => ?_)
      have h9 := Option.some.inj hF_17
      subst h9
      exact W.vret hx hb hr (fun t ht hW => ⟨⟨(), rfl, trivial, m_end ht hP⟩, hS.F ht⟩) hS.2.2 dX12_restore_55
    · have hF_18 := ineg c_8 hF_7
      clear hF_7
      have h9 := Option.some.inj hF_18
      subst h9
      exact W.vret hx hb hr (fun t ht hW => ⟨⟨(), rfl, trivial, m_end ht hP⟩, hS.F ht⟩) hS.2.2 dX12_restore_34
  obtain ⟨j_20, ej_20, hF_21⟩ := bnd_e hF_4
  clear hF_4
  have Jj_20 : ∀  (σ_19 : MS), j_20  σ_19 = some res → ∀ (H : Heap) (locs : List Loc), va_P (dC, dI) vwCl (mW cB cI cZ h qK qS ad σ_19) H → va_S (mCells h ad sz) s.heap H locs → ∀ ls : Array Slot, lv_has ls 2 [(0, .ref h), (1, .int p0)] → W p l e (headSpec (g_ws yX12_restore cX12_restore 2 none) { frames := 2, cells := 0, slots := 0, locals := 65 }).room s m ([.ref h, .int p0] : List Value).toArray below meth c H locs 0 0 (MQ below (va_Qv (fun (_ : Unit) => True) (fun _ t => va_P (dC, dI) vwCl (mW cB cI cZ h qK qS ad res.2) t.heap) (mCells h ad sz)) ([.ref h, .int p0] : List Value).toArray s 0 0 (mCells h ad sz)) (F0 m 10 ls [.ref h]) := by
    intro  σ_19 hF0 H locs hP hS ls hl
    subst ej_20
    have hF_22 := hF0
    clear hF0
    refine lv_iconst (v := 1) hx hb dX12_restore_10 (by decide +kernel) ?_
    refine lv_goto (tgt := 28) hx hb dX12_restore_11 (by decide) ?_
    exact Jj_3 1 σ_19 hF_22 _ _ hP hS ls (lv_sub hl [0, 1] rfl)
  refine lv_if_lt (tgt := 10) hx hb dX12_restore_2 (by decide) (fun c_23 => ?_) (fun c_23 => ?_)
  · have hF_24 := ipos c_23 hF_21
    clear hF_21
    exact Jj_20  σ hF_24 _ _ hP hS ls (lv_sub hl [0, 1] rfl)
  · have hF_25 := ineg c_23 hF_21
    clear hF_21
    refine lv_iload_n hx hb dX12_restore_5 rfl (lv_at hl 1 rfl) ?_
    refine lv_iconst (v := 3) hx hb dX12_restore_6 (by decide +kernel) ?_
    refine lv_icmp_le (tgt := 14) hx hb dX12_restore_7 (by decide) (fun c_26 => ?_) (fun c_26 => ?_)
    · have hF_27 := ipos c_26 hF_25
      clear hF_25
      refine lv_aload_n hx hb dX12_restore_14 rfl (lv_at hl 0 rfl) ?_
      refine va_get (D := (dC, dI)) (ci := 12) (v := .ref (ad 100)) (C := RX12) (T := TX12) (N := 123) hx hb hts ii_X12 hown hK hP 0 rfl rfl 100 (by decide) (hts (.fieldLink RX12 209 "StoryHouseModel" "saved" "[Z") wq_1456) (fun _ h9 => h9) rfl dX12_restore_15 ?_
      refine lv_iload_n hx hb dX12_restore_18 rfl (lv_at hl 1 rfl) ?_
      obtain ⟨g_28, hF_29⟩ := nif_e hF_27
      clear hF_27
      refine va_zald (f := σ.2 100) hx hb hK hP 60 4 rfl rfl g_28 dX12_restore_19 ?_
      refine lv_if_eq (tgt := 27) hx hb dX12_restore_20 (by decide) (fun c_30 => ?_) (fun c_30 => ?_)
      · have hF_31 := ipos c_30 hF_29
        clear hF_29
        refine lv_iconst (v := 2) hx hb dX12_restore_27 (by decide +kernel) ?_
        exact Jj_3 2 σ hF_31 _ _ hP hS ls (lv_sub hl [0, 1] rfl)
      · have hF_32 := ineg c_30 hF_29
        clear hF_29
        refine lv_iconst (v := 0) hx hb dX12_restore_23 (by decide +kernel) ?_
        refine lv_goto (tgt := 28) hx hb dX12_restore_24 (by decide) ?_
        exact Jj_3 0 σ hF_32 _ _ hP hS ls (lv_sub hl [0, 1] rfl)
    · have hF_33 := ineg c_26 hF_25
      clear hF_25
      exact Jj_20  σ hF_33 _ _ hP hS ls (lv_sub hl [0, 1] rfl)
theorem dX12_undo_0 : decode cX12_undo 0 = .ok (.aload_n 0, 1) := by decide +kernel
theorem dX12_undo_1 : decode cX12_undo 1 = .ok (.aload_n 0, 1) := by decide +kernel
theorem dX12_undo_2 : decode cX12_undo 2 = .ok (.getfield 600, 3) := by decide +kernel
theorem dX12_undo_5 : decode cX12_undo 5 = .ok (.ifCond .eq 7, 3) := by decide +kernel
theorem dX12_undo_8 : decode cX12_undo 8 = .ok (.iconst 0, 1) := by decide +kernel
theorem dX12_undo_9 : decode cX12_undo 9 = .ok (.goto 4, 3) := by decide +kernel
theorem dX12_undo_12 : decode cX12_undo 12 = .ok (.iconst 1, 1) := by decide +kernel
theorem dX12_undo_13 : decode cX12_undo 13 = .ok (.invokevirtual 562, 3) := by decide +kernel
theorem dX12_undo_16 : decode cX12_undo 16 = .ok (.ifCond .eq 5, 3) := by decide +kernel
theorem dX12_undo_19 : decode cX12_undo 19 = .ok (.iconst 0, 1) := by decide +kernel
theorem dX12_undo_20 : decode cX12_undo 20 = .ok (.ireturn, 1) := by decide +kernel
theorem dX12_undo_21 : decode cX12_undo 21 = .ok (.aload_n 0, 1) := by decide +kernel
theorem dX12_undo_22 : decode cX12_undo 22 = .ok (.iconst 0, 1) := by decide +kernel
theorem dX12_undo_23 : decode cX12_undo 23 = .ok (.putfield 668, 3) := by decide +kernel
theorem dX12_undo_26 : decode cX12_undo 26 = .ok (.aload_n 0, 1) := by decide +kernel
theorem dX12_undo_27 : decode cX12_undo 27 = .ok (.getfield 786, 3) := by decide +kernel
theorem dX12_undo_30 : decode cX12_undo 30 = .ok (.ifCond .ne 5, 3) := by decide +kernel
theorem dX12_undo_33 : decode cX12_undo 33 = .ok (.iconst 0, 1) := by decide +kernel
theorem dX12_undo_34 : decode cX12_undo 34 = .ok (.ireturn, 1) := by decide +kernel
theorem dX12_undo_35 : decode cX12_undo 35 = .ok (.aload_n 0, 1) := by decide +kernel
theorem dX12_undo_36 : decode cX12_undo 36 = .ok (.iconst 4, 1) := by decide +kernel
theorem dX12_undo_37 : decode cX12_undo 37 = .ok (.invokevirtual 926, 3) := by decide +kernel
theorem dX12_undo_40 : decode cX12_undo 40 = .ok (.aload_n 0, 1) := by decide +kernel
theorem dX12_undo_41 : decode cX12_undo 41 = .ok (.dup, 1) := by decide +kernel
theorem dX12_undo_42 : decode cX12_undo 42 = .ok (.getfield 786, 3) := by decide +kernel
theorem dX12_undo_45 : decode cX12_undo 45 = .ok (.iconst 1, 1) := by decide +kernel
theorem dX12_undo_46 : decode cX12_undo 46 = .ok (.isub, 1) := by decide +kernel
theorem dX12_undo_47 : decode cX12_undo 47 = .ok (.putfield 786, 3) := by decide +kernel
theorem dX12_undo_50 : decode cX12_undo 50 = .ok (.iconst 4, 1) := by decide +kernel
theorem dX12_undo_51 : decode cX12_undo 51 = .ok (.istore_n 1, 1) := by decide +kernel
theorem dX12_undo_52 : decode cX12_undo 52 = .ok (.iload_n 1, 1) := by decide +kernel
theorem dX12_undo_53 : decode cX12_undo 53 = .ok (.bipush 8, 2) := by decide +kernel
theorem dX12_undo_55 : decode cX12_undo 55 = .ok (.if_icmp .ge 50, 3) := by decide +kernel
theorem dX12_undo_58 : decode cX12_undo 58 = .ok (.iconst 0, 1) := by decide +kernel
theorem dX12_undo_59 : decode cX12_undo 59 = .ok (.istore_n 2, 1) := by decide +kernel
theorem dX12_undo_60 : decode cX12_undo 60 = .ok (.iload_n 2, 1) := by decide +kernel
theorem dX12_undo_61 : decode cX12_undo 61 = .ok (.sipush 2600, 3) := by decide +kernel
theorem dX12_undo_64 : decode cX12_undo 64 = .ok (.if_icmp .ge 35, 3) := by decide +kernel
theorem dX12_undo_67 : decode cX12_undo 67 = .ok (.aload_n 0, 1) := by decide +kernel
theorem dX12_undo_68 : decode cX12_undo 68 = .ok (.getfield 206, 3) := by decide +kernel
theorem dX12_undo_71 : decode cX12_undo 71 = .ok (.sipush 2600, 3) := by decide +kernel
theorem dX12_undo_74 : decode cX12_undo 74 = .ok (.iload_n 1, 1) := by decide +kernel
theorem dX12_undo_75 : decode cX12_undo 75 = .ok (.imul, 1) := by decide +kernel
theorem dX12_undo_76 : decode cX12_undo 76 = .ok (.iload_n 2, 1) := by decide +kernel
theorem dX12_undo_77 : decode cX12_undo 77 = .ok (.iadd, 1) := by decide +kernel
theorem dX12_undo_78 : decode cX12_undo 78 = .ok (.aload_n 0, 1) := by decide +kernel
theorem dX12_undo_79 : decode cX12_undo 79 = .ok (.getfield 206, 3) := by decide +kernel
theorem dX12_undo_82 : decode cX12_undo 82 = .ok (.sipush 2600, 3) := by decide +kernel
theorem dX12_undo_85 : decode cX12_undo 85 = .ok (.iload_n 1, 1) := by decide +kernel
theorem dX12_undo_86 : decode cX12_undo 86 = .ok (.iconst 1, 1) := by decide +kernel
theorem dX12_undo_87 : decode cX12_undo 87 = .ok (.iadd, 1) := by decide +kernel
theorem dX12_undo_88 : decode cX12_undo 88 = .ok (.imul, 1) := by decide +kernel
theorem dX12_undo_89 : decode cX12_undo 89 = .ok (.iload_n 2, 1) := by decide +kernel
theorem dX12_undo_90 : decode cX12_undo 90 = .ok (.iadd, 1) := by decide +kernel
theorem dX12_undo_91 : decode cX12_undo 91 = .ok (.iaload, 1) := by decide +kernel
theorem dX12_undo_92 : decode cX12_undo 92 = .ok (.iastore, 1) := by decide +kernel
theorem dX12_undo_93 : decode cX12_undo 93 = .ok (.iinc 2 1, 3) := by decide +kernel
theorem dX12_undo_96 : decode cX12_undo 96 = .ok (.goto (-36), 3) := by decide +kernel
theorem dX12_undo_99 : decode cX12_undo 99 = .ok (.iinc 1 1, 3) := by decide +kernel
theorem dX12_undo_102 : decode cX12_undo 102 = .ok (.goto (-50), 3) := by decide +kernel
theorem dX12_undo_105 : decode cX12_undo 105 = .ok (.iconst 1, 1) := by decide +kernel
theorem dX12_undo_106 : decode cX12_undo 106 = .ok (.ireturn, 1) := by decide +kernel
def F_X12_undo  (σ : MS) : MR :=
  bnd (fun (t_1 : Int32) (σ_2 : MS) => (
    (F_X12_refuses t_1 σ_2).bind fun u_6 =>
    if u_6.1 = 0 then (
      bnd (mI u_6.2 103 0) fun σ_10 =>
      if (σ_10.1 101) = 0 then (
        some (0, σ_10)
      ) else (
        (F_X12_take 4 σ_10).bind fun u_15 =>
        bnd (mI u_15.2 101 ((u_15.2.1 101) - 1)) fun σ_17 =>
        loopF (fun (again_20 : (Int32 × MS) → MR) (s_19 : Int32 × MS) => (
          if 8 ≤ s_19.1 then (
            some (1, s_19.2)
          ) else (
            loopF (fun (again_27 : (Int32 × MS) → MR) (s_26 : Int32 × MS) => (
              if 2600 ≤ s_26.1 then (
                bnd (s_19.1 + 1) fun (x_32 : Int32) =>
                again_20 (x_32, s_26.2)
              ) else (
                bnd (((2600 * (s_19.1 + 1)) + s_26.1)) fun (x_35 : Int32) =>
                if x_35 < 0 ∨ 26000 ≤ x_35.toNatClampNeg then none else
                bnd ((s_26.2.2 99 x_35.toNatClampNeg)) fun (x_39 : Int32) =>
                if ((2600 * s_19.1) + s_26.1) < 0 ∨ 26000 ≤ ((2600 * s_19.1) + s_26.1).toNatClampNeg then none else
                bnd (mA s_26.2 99 (upd (s_26.2.2 99) ((2600 * s_19.1) + s_26.1).toNatClampNeg x_39)) fun σ_43 =>
                bnd (s_26.1 + 1) fun (x_45 : Int32) =>
                again_27 (x_45, σ_43)
              )
            )) FU (0, s_19.2)
          )
        )) FU (4, σ_17)
      )
    ) else (
      some (0, u_6.2)
    )
  ) : Int32 → MS → MR) fun j_3 =>
  if (σ.1 86) = 0 then (
    j_3 1 σ
  ) else (
    j_3 0 σ
  )
set_option maxHeartbeats 4000000 in
set_option maxRecDepth 100000 in
theorem m_X12_undo (l : Launch) (dC : Nat → ClassId) (dI : Nat → Nat → Nat) (cB cC cI cJ cZ cP : ClassId) (h qK qS : Nat) (ad : Nat → Nat) (hDD : mDis cB cI cZ h qK qS ad) (sz : Nat)   (σ : MS) (res : Int32 × MS) (hF : F_X12_undo  σ = some res) : Met l yX12_undo (g_ws yX12_undo cX12_undo 3 (some .boolean)) ({ frames := 2, cells := 0, slots := 0, locals := 65 }) (va_Pc [.ref h] (m_B (dC, dI) [(cB, .byte), (cC, .char), (cI, .int), (cJ, .long), (cZ, .boolean), (cP, .object "StoryHouse$Play")] sz h ad qK qS (mW cB cI cZ h qK qS ad σ) g_0)) (va_Qi (fun r (_ : Unit) => r = res.1) (fun _ t => va_P (dC, dI) vwCl (mW cB cI cZ h qK qS ad res.2) t.heap) (mCells h ad sz)) 0 0 (mCells h ad sz) := by
  refine Met.ofW (cc := cX12_undo) (maxL := 3) (ret := (some .boolean)) (by decide) rfl ?_
  intro p e s m args below meth c s₁ B hml hv
  obtain ⟨rfl, hsz, hP, hK, hE, hKS, hX⟩ := hv
  have hx := B.exec
  have hb := B.bytes
  have hr := B.returns
  have hts0 := atoms_spec (ws := g_ws yX12_undo cX12_undo 3 (some .boolean)) B.pre
  have hts : ∀ w ∈ lw_good, w.before ([.ref h] : List Value).toArray s = true := fun w z => hts0 w (List.mem_cons_of_mem _ z)
  have hown : s.vm.findClass RX12 = some m.cls := findClass_of_methodNamed B.named
  have hlocks := B.notSynchronized
  have hS : va_S (mCells h ad sz) s.heap s.heap [] := va_S.rf
  have hl := lv_entry ([.ref h]) (n := 3) (Nat.le_of_ble_eq_true rfl)
  rw [lg_entry_eq]
  generalize (lg_sl ([.ref h]) ++ List.replicate (3 - (lg_sl ([.ref h])).length) Slot.unset).toArray = ls at hl ⊢
  have hl : lv_has ls 3 [(0, .ref h)] := hl
  unfold F_X12_undo at hF
  refine lv_aload_n hx hb dX12_undo_0 rfl (lv_at hl 0 rfl) ?_
  refine lv_aload_n hx hb dX12_undo_1 rfl (lv_at hl 0 rfl) ?_
  refine va_get (D := (dC, dI)) (ci := 12) (v := .int (σ.1 86)) (C := RX12) (T := TX12) (N := 123) hx hb hts ii_X12 hown hK hP 0 rfl rfl 86 (by decide) (hts (.fieldLink RX12 600 "StoryHouseModel" "playing" "Z") wq_1442) (fun _ h9 => h9) rfl dX12_undo_2 ?_
  obtain ⟨j_3, ej_3, hF_4⟩ := bnd_e hF
  clear hF
  have Jj_3 : ∀ (t_1 : Int32) (σ_2 : MS), j_3 t_1 σ_2 = some res → ∀ (H : Heap) (locs : List Loc), va_P (dC, dI) vwCl (mW cB cI cZ h qK qS ad σ_2) H → va_S (mCells h ad sz) s.heap H locs → ∀ ls : Array Slot, lv_has ls 3 [(0, .ref h)] → W p l e (headSpec (g_ws yX12_undo cX12_undo 3 (some .boolean)) { frames := 2, cells := 0, slots := 0, locals := 65 }).room s m ([.ref h] : List Value).toArray below meth c H locs 0 0 (MQ below (va_Qi (fun r (_ : Unit) => r = res.1) (fun _ t => va_P (dC, dI) vwCl (mW cB cI cZ h qK qS ad res.2) t.heap) (mCells h ad sz)) ([.ref h] : List Value).toArray s 0 0 (mCells h ad sz)) (F0 m 13 ls [.int t_1, .ref h]) := by
    intro t_1 σ_2 hF0 H locs hP hS ls hl
    subst ej_3
    have hF_5 := hF0
    clear hF0
    obtain ⟨u_6, hu_6, hF_7⟩ := Option.bind_eq_some_iff.mp hF_5
    clear hF_5
    refine m_ci hsz hS (va_runV (As := [.int t_1]) (rest := []) ⟨hx, hb, hml, hown, hts⟩ (m_X12_refuses l dC dI cB cC cI cJ cZ cP h qK qS ad hDD H.size  t_1 σ_2 _ hu_6) (cwV 1 hts (g_gV wq_1487 wq_1488 wq_2113 wq_13 wq_1489) rfl rfl rfl (by decide +kernel) ⟨Nat.le_of_ble_eq_true rfl, Nat.le_of_ble_eq_true rfl⟩) (m_preV g_bl0 hsz hK hP hS hE hKS g_to0) rfl rfl hl.1 rfl (lv_room (Nat.le_of_ble_eq_true rfl)) dX12_undo_13 ⟨Nat.le_of_ble_eq_true rfl, Nat.le_of_ble_eq_true rfl⟩) (fun H locs hP hS => ?_)
    refine lv_if_eq (tgt := 21) hx hb dX12_undo_16 (by decide) (fun c_8 => ?_) (fun c_8 => ?_)
    · have hF_9 := ipos c_8 hF_7
      clear hF_7
      refine lv_aload_n hx hb dX12_undo_21 rfl (lv_at hl 0 rfl) ?_
      refine lv_iconst (v := 0) hx hb dX12_undo_22 (by decide +kernel) ?_
      obtain ⟨σ_10, eσ_10, hF_11⟩ := bnd_e hF_9
      clear hF_9
      refine m_put (σ' := σ_10) (v := .int 0) (ty := .int) hx hb hts hown hK hP (hDD _ _) hS (by rw [eσ_10]; exact mwI_103) (k := 103) (by decide) (hts (.fieldLink RX12 668 "StoryHouseModel" "said" "I") wq_1459) (fun _ h9 => h9) rfl (by decide +kernel) rfl rfl dX12_undo_23 (fun H locs hP hS => ?_)
      refine lv_aload_n hx hb dX12_undo_26 rfl (lv_at hl 0 rfl) ?_
      refine va_get (D := (dC, dI)) (ci := 12) (v := .int (σ_10.1 101)) (C := RX12) (T := TX12) (N := 123) hx hb hts ii_X12 hown hK hP 0 rfl rfl 101 (by decide) (hts (.fieldLink RX12 786 "StoryHouseModel" "undos" "I") wq_1457) (fun _ h9 => h9) rfl dX12_undo_27 ?_
      refine lv_if_ne (tgt := 35) hx hb dX12_undo_30 (by decide) (fun c_12 => ?_) (fun c_12 => ?_)
      · have hF_14 := ineg c_12 hF_11
        clear hF_11
        refine lv_aload_n hx hb dX12_undo_35 rfl (lv_at hl 0 rfl) ?_
        refine lv_iconst (v := 4) hx hb dX12_undo_36 (by decide +kernel) ?_
        obtain ⟨u_15, hu_15, hF_16⟩ := Option.bind_eq_some_iff.mp hF_14
        clear hF_14
        refine m_cv hsz hS (va_runV (As := [.int 4]) (rest := []) ⟨hx, hb, hml, hown, hts⟩ (m_X12_take l dC dI cB cC cI cJ cZ cP h qK qS ad hDD H.size  4 σ_10 _ hu_15) (cwV 1 hts (g_gV wq_1889 wq_1890 wq_2237 wq_13 wq_1891) rfl rfl rfl (by decide +kernel) ⟨Nat.le_of_ble_eq_true rfl, Nat.le_of_ble_eq_true rfl⟩) (m_preV g_bl0 hsz hK hP hS hE hKS g_to0) rfl rfl hl.1 rfl (lv_room (Nat.le_of_ble_eq_true rfl)) dX12_undo_37 ⟨Nat.le_of_ble_eq_true rfl, Nat.le_of_ble_eq_true rfl⟩) (fun H locs hP hS => ?_)
        refine lv_aload_n hx hb dX12_undo_40 rfl (lv_at hl 0 rfl) ?_
        refine lv_dup hx hb dX12_undo_41 rfl ?_
        refine va_get (D := (dC, dI)) (ci := 12) (v := .int (u_15.2.1 101)) (C := RX12) (T := TX12) (N := 123) hx hb hts ii_X12 hown hK hP 0 rfl rfl 101 (by decide) (hts (.fieldLink RX12 786 "StoryHouseModel" "undos" "I") wq_1457) (fun _ h9 => h9) rfl dX12_undo_42 ?_
        refine lv_iconst (v := 1) hx hb dX12_undo_45 (by decide +kernel) ?_
        refine lv_isub hx hb dX12_undo_46 ?_
        obtain ⟨σ_17, eσ_17, hF_18⟩ := bnd_e hF_16
        clear hF_16
        refine m_put (σ' := σ_17) (v := .int ((u_15.2.1 101) - 1)) (ty := .int) hx hb hts hown hK hP (hDD _ _) hS (by rw [eσ_17]; exact mwI_101) (k := 101) (by decide) (hts (.fieldLink RX12 786 "StoryHouseModel" "undos" "I") wq_1457) (fun _ h9 => h9) rfl (by decide +kernel) rfl rfl dX12_undo_47 (fun H locs hP hS => ?_)
        refine lv_iconst (v := 4) hx hb dX12_undo_50 (by decide +kernel) ?_
        refine lv_istore_n (lv' := [(1, .int 4), (0, .ref h)]) hx hb dX12_undo_51 rfl hl (by decide) rfl (fun ls hl => ?_)
        refine loopF_ind (P := fun (s_19 : Int32 × MS) => ∀ (H : Heap) (locs : List Loc), va_P (dC, dI) vwCl (mW cB cI cZ h qK qS ad s_19.2) H → va_S (mCells h ad sz) s.heap H locs → ∀ ls : Array Slot, lv_has ls 3 [(0, .ref h), (1, .int s_19.1)] → W p l e (headSpec (g_ws yX12_undo cX12_undo 3 (some .boolean)) { frames := 2, cells := 0, slots := 0, locals := 65 }).room s m ([.ref h] : List Value).toArray below meth c H locs 0 0 (MQ below (va_Qi (fun r (_ : Unit) => r = res.1) (fun _ t => va_P (dC, dI) vwCl (mW cB cI cZ h qK qS ad res.2) t.heap) (mCells h ad sz)) ([.ref h] : List Value).toArray s 0 0 (mCells h ad sz)) (F0 m 52 ls [])) ?_ _ _ hF_18 _ _ hP hS ls (lv_sub hl [1, 0] rfl)
        intro again_20 s_19 ih_21 hF_22
        intro H locs hP hS ls hl
        refine lv_iload_n hx hb dX12_undo_52 rfl (lv_at hl 1 rfl) ?_
        refine lv_bipush (v := 8) hx hb dX12_undo_53 (by decide +kernel) ?_
        refine lv_icmp_ge (tgt := 105) hx hb dX12_undo_55 (by decide) (fun c_23 => ?_) (fun c_23 => ?_)
        · have hF_24 := ipos c_23 hF_22
          clear hF_22
          refine lv_iconst (v := 1) hx hb dX12_undo_105 (by decide +kernel) ?_
          have h9 := Option.some.inj hF_24
          subst h9
          exact W.zret (v := 1) hx hb hr (by decide +kernel) (fun t ht hW => ⟨⟨1, (), rfl, rfl, m_end ht hP⟩, hS.F ht⟩) hS.2.2 dX12_undo_106
        · have hF_25 := ineg c_23 hF_22
          clear hF_22
          refine lv_iconst (v := 0) hx hb dX12_undo_58 (by decide +kernel) ?_
          refine lv_istore_n (lv' := [(2, .int 0), (0, .ref h), (1, .int s_19.1)]) hx hb dX12_undo_59 rfl hl (by decide) rfl (fun ls hl => ?_)
          refine loopF_ind (P := fun (s_26 : Int32 × MS) => ∀ (H : Heap) (locs : List Loc), va_P (dC, dI) vwCl (mW cB cI cZ h qK qS ad s_26.2) H → va_S (mCells h ad sz) s.heap H locs → ∀ ls : Array Slot, lv_has ls 3 [(0, .ref h), (1, .int s_19.1), (2, .int s_26.1)] → W p l e (headSpec (g_ws yX12_undo cX12_undo 3 (some .boolean)) { frames := 2, cells := 0, slots := 0, locals := 65 }).room s m ([.ref h] : List Value).toArray below meth c H locs 0 0 (MQ below (va_Qi (fun r (_ : Unit) => r = res.1) (fun _ t => va_P (dC, dI) vwCl (mW cB cI cZ h qK qS ad res.2) t.heap) (mCells h ad sz)) ([.ref h] : List Value).toArray s 0 0 (mCells h ad sz)) (F0 m 60 ls [])) ?_ _ _ hF_25 _ _ hP hS ls (lv_sub hl [1, 2, 0] rfl)
          intro again_27 s_26 ih_28 hF_29
          intro H locs hP hS ls hl
          refine lv_iload_n hx hb dX12_undo_60 rfl (lv_at hl 2 rfl) ?_
          refine lv_sipush (v := 2600) hx hb dX12_undo_61 (by decide +kernel) ?_
          refine lv_icmp_ge (tgt := 99) hx hb dX12_undo_64 (by decide) (fun c_30 => ?_) (fun c_30 => ?_)
          · have hF_31 := ipos c_30 hF_29
            clear hF_29
            obtain ⟨x_32, ex_32, hF_33⟩ := bnd_e hF_31
            clear hF_31
            refine lv_iinc (v := x_32) (lv' := [(1, .int x_32), (0, .ref h), (2, .int s_26.1)]) hx hb dX12_undo_99 hl (k := 1) rfl (by rw [ex_32]; rfl) (by decide) rfl (fun ls hl => ?_)
            refine lv_goto (tgt := 52) hx hb dX12_undo_102 (by decide) ?_
            exact ih_21 (x_32, s_26.2) hF_33 _ _ hP hS ls (lv_sub hl [1, 0] rfl)
          · have hF_34 := ineg c_30 hF_29
            clear hF_29
            refine lv_aload_n hx hb dX12_undo_67 rfl (lv_at hl 0 rfl) ?_
            refine va_get (D := (dC, dI)) (ci := 12) (v := .ref (ad 99)) (C := RX12) (T := TX12) (N := 123) hx hb hts ii_X12 hown hK hP 0 rfl rfl 99 (by decide) (hts (.fieldLink RX12 206 "StoryHouseModel" "plays" "[I") wq_1455) (fun _ h9 => h9) rfl dX12_undo_68 ?_
            refine lv_sipush (v := 2600) hx hb dX12_undo_71 (by decide +kernel) ?_
            refine lv_iload_n hx hb dX12_undo_74 rfl (lv_at hl 1 rfl) ?_
            refine lv_imul hx hb dX12_undo_75 ?_
            refine lv_iload_n hx hb dX12_undo_76 rfl (lv_at hl 2 rfl) ?_
            refine lv_iadd hx hb dX12_undo_77 ?_
            refine lv_aload_n hx hb dX12_undo_78 rfl (lv_at hl 0 rfl) ?_
            refine va_get (D := (dC, dI)) (ci := 12) (v := .ref (ad 99)) (C := RX12) (T := TX12) (N := 123) hx hb hts ii_X12 hown hK hP 0 rfl rfl 99 (by decide) (hts (.fieldLink RX12 206 "StoryHouseModel" "plays" "[I") wq_1455) (fun _ h9 => h9) rfl dX12_undo_79 ?_
            refine lv_sipush (v := 2600) hx hb dX12_undo_82 (by decide +kernel) ?_
            refine lv_iload_n hx hb dX12_undo_85 rfl (lv_at hl 1 rfl) ?_
            refine lv_iconst (v := 1) hx hb dX12_undo_86 (by decide +kernel) ?_
            refine lv_iadd hx hb dX12_undo_87 ?_
            refine lv_imul hx hb dX12_undo_88 ?_
            refine lv_iload_n hx hb dX12_undo_89 rfl (lv_at hl 2 rfl) ?_
            refine lv_iadd hx hb dX12_undo_90 ?_
            obtain ⟨x_35, ex_35, hF_36⟩ := bnd_e hF_34
            clear hF_34
            refine m_top ex_35 ?_
            obtain ⟨g_37, hF_38⟩ := nif_e hF_36
            clear hF_36
            refine va_iald (f := s_26.2.2 99) hx hb hK hP 59 2 rfl rfl g_37 dX12_undo_91 ?_
            obtain ⟨x_39, ex_39, hF_40⟩ := bnd_e hF_38
            clear hF_38
            refine m_top ex_39 ?_
            obtain ⟨g_41, hF_42⟩ := nif_e hF_40
            clear hF_40
            obtain ⟨σ_43, eσ_43, hF_44⟩ := bnd_e hF_42
            clear hF_42
            refine m_iast (σ' := σ_43) hx hb hK hP (hDD _ _) hS (q0 := 59) (t0 := 2) (f := s_26.2.2 99) rfl rfl (by rw [eσ_43]; exact mwA_99) g_41 dX12_undo_92 (fun H locs hP hS => ?_)
            obtain ⟨x_45, ex_45, hF_46⟩ := bnd_e hF_44
            clear hF_44
            refine lv_iinc (v := x_45) (lv' := [(2, .int x_45), (0, .ref h), (1, .int s_19.1)]) hx hb dX12_undo_93 hl (k := 2) rfl (by rw [ex_45]; rfl) (by decide) rfl (fun ls hl => ?_)
            refine lv_goto (tgt := 60) hx hb dX12_undo_96 (by decide) ?_
            exact ih_28 (x_45, σ_43) hF_46 _ _ hP hS ls (lv_sub hl [1, 2, 0] rfl)
      · have hF_13 := ipos c_12 hF_11
        clear hF_11
        refine lv_iconst (v := 0) hx hb dX12_undo_33 (by decide +kernel) ?_
        have h9 := Option.some.inj hF_13
        subst h9
        exact W.zret (v := 0) hx hb hr (by decide +kernel) (fun t ht hW => ⟨⟨0, (), rfl, rfl, m_end ht hP⟩, hS.F ht⟩) hS.2.2 dX12_undo_34
    · have hF_47 := ineg c_8 hF_7
      clear hF_7
      refine lv_iconst (v := 0) hx hb dX12_undo_19 (by decide +kernel) ?_
      have h9 := Option.some.inj hF_47
      subst h9
      exact W.zret (v := 0) hx hb hr (by decide +kernel) (fun t ht hW => ⟨⟨0, (), rfl, rfl, m_end ht hP⟩, hS.F ht⟩) hS.2.2 dX12_undo_20
  refine lv_if_eq (tgt := 12) hx hb dX12_undo_5 (by decide) (fun c_48 => ?_) (fun c_48 => ?_)
  · have hF_49 := ipos c_48 hF_4
    clear hF_4
    refine lv_iconst (v := 1) hx hb dX12_undo_12 (by decide +kernel) ?_
    exact Jj_3 1 σ hF_49 _ _ hP hS ls (lv_sub hl [0] rfl)
  · have hF_50 := ineg c_48 hF_4
    clear hF_4
    refine lv_iconst (v := 0) hx hb dX12_undo_8 (by decide +kernel) ?_
    refine lv_goto (tgt := 13) hx hb dX12_undo_9 (by decide) ?_
    exact Jj_3 0 σ hF_50 _ _ hP hS ls (lv_sub hl [0] rfl)
theorem dX12_noObject_0 : decode cX12_noObject 0 = .ok (.aload_n 0, 1) := by decide +kernel
theorem dX12_noObject_1 : decode cX12_noObject 1 = .ok (.aload_n 0, 1) := by decide +kernel
theorem dX12_noObject_2 : decode cX12_noObject 2 = .ok (.getfield 597, 3) := by decide +kernel
theorem dX12_noObject_5 : decode cX12_noObject 5 = .ok (.ifCond .eq 16, 3) := by decide +kernel
theorem dX12_noObject_8 : decode cX12_noObject 8 = .ok (.iload_n 1, 1) := by decide +kernel
theorem dX12_noObject_9 : decode cX12_noObject 9 = .ok (.iconst 1, 1) := by decide +kernel
theorem dX12_noObject_10 : decode cX12_noObject 10 = .ok (.if_icmp .lt 11, 3) := by decide +kernel
theorem dX12_noObject_13 : decode cX12_noObject 13 = .ok (.iload_n 1, 1) := by decide +kernel
theorem dX12_noObject_14 : decode cX12_noObject 14 = .ok (.aload_n 0, 1) := by decide +kernel
theorem dX12_noObject_15 : decode cX12_noObject 15 = .ok (.getfield 587, 3) := by decide +kernel
theorem dX12_noObject_18 : decode cX12_noObject 18 = .ok (.if_icmp .le 7, 3) := by decide +kernel
theorem dX12_noObject_21 : decode cX12_noObject 21 = .ok (.iconst 1, 1) := by decide +kernel
theorem dX12_noObject_22 : decode cX12_noObject 22 = .ok (.goto 15, 3) := by decide +kernel
theorem dX12_noObject_25 : decode cX12_noObject 25 = .ok (.aload_n 0, 1) := by decide +kernel
theorem dX12_noObject_26 : decode cX12_noObject 26 = .ok (.getfield 600, 3) := by decide +kernel
theorem dX12_noObject_29 : decode cX12_noObject 29 = .ok (.ifCond .eq 7, 3) := by decide +kernel
theorem dX12_noObject_32 : decode cX12_noObject 32 = .ok (.iconst 0, 1) := by decide +kernel
theorem dX12_noObject_33 : decode cX12_noObject 33 = .ok (.goto 4, 3) := by decide +kernel
theorem dX12_noObject_36 : decode cX12_noObject 36 = .ok (.iconst 2, 1) := by decide +kernel
theorem dX12_noObject_37 : decode cX12_noObject 37 = .ok (.invokevirtual 562, 3) := by decide +kernel
theorem dX12_noObject_40 : decode cX12_noObject 40 = .ok (.ireturn, 1) := by decide +kernel
def F_X12_noObject (p0 : Int32) (σ : MS) : MR :=
  bnd (fun (t_1 : Int32) (σ_2 : MS) => (
    (F_X12_refuses t_1 σ_2).bind fun u_6 =>
    if ¬ (u_6.1 = 0 ∨ u_6.1 = 1) then none else
    some (u_6.1, u_6.2)
  ) : Int32 → MS → MR) fun j_3 =>
  bnd (fun  (σ_10 : MS) => (
    j_3 1 σ_10
  ) : MS → MR) fun j_11 =>
  if (σ.1 44) = 0 then (
    j_11  σ
  ) else (
    if p0 < 1 then (
      j_11  σ
    ) else (
      if p0 ≤ (σ.1 78) then (
        if (σ.1 86) = 0 then (
          j_3 2 σ
        ) else (
          j_3 0 σ
        )
      ) else (
        j_11  σ
      )
    )
  )
set_option maxHeartbeats 4000000 in
set_option maxRecDepth 100000 in
theorem m_X12_noObject (l : Launch) (dC : Nat → ClassId) (dI : Nat → Nat → Nat) (cB cC cI cJ cZ cP : ClassId) (h qK qS : Nat) (ad : Nat → Nat) (hDD : mDis cB cI cZ h qK qS ad) (sz : Nat)  (p0 : Int32) (σ : MS) (res : Int32 × MS) (hF : F_X12_noObject p0 σ = some res) : Met l yX12_noObject (g_ws yX12_noObject cX12_noObject 2 (some .boolean)) ({ frames := 2, cells := 0, slots := 0, locals := 61 }) (va_Pc [.ref h, .int p0] (m_B (dC, dI) [(cB, .byte), (cC, .char), (cI, .int), (cJ, .long), (cZ, .boolean), (cP, .object "StoryHouse$Play")] sz h ad qK qS (mW cB cI cZ h qK qS ad σ) g_0)) (va_Qi (fun r (_ : Unit) => r = res.1) (fun _ t => va_P (dC, dI) vwCl (mW cB cI cZ h qK qS ad res.2) t.heap) (mCells h ad sz)) 0 0 (mCells h ad sz) := by
  refine Met.ofW (cc := cX12_noObject) (maxL := 2) (ret := (some .boolean)) (by decide) rfl ?_
  intro p e s m args below meth c s₁ B hml hv
  obtain ⟨rfl, hsz, hP, hK, hE, hKS, hX⟩ := hv
  have hx := B.exec
  have hb := B.bytes
  have hr := B.returns
  have hts0 := atoms_spec (ws := g_ws yX12_noObject cX12_noObject 2 (some .boolean)) B.pre
  have hts : ∀ w ∈ lw_good, w.before ([.ref h, .int p0] : List Value).toArray s = true := fun w z => hts0 w (List.mem_cons_of_mem _ z)
  have hown : s.vm.findClass RX12 = some m.cls := findClass_of_methodNamed B.named
  have hlocks := B.notSynchronized
  have hS : va_S (mCells h ad sz) s.heap s.heap [] := va_S.rf
  have hl := lv_entry ([.ref h, .int p0]) (n := 2) (Nat.le_of_ble_eq_true rfl)
  rw [lg_entry_eq]
  generalize (lg_sl ([.ref h, .int p0]) ++ List.replicate (2 - (lg_sl ([.ref h, .int p0])).length) Slot.unset).toArray = ls at hl ⊢
  have hl : lv_has ls 2 [(0, .ref h), (1, .int p0)] := hl
  unfold F_X12_noObject at hF
  refine lv_aload_n hx hb dX12_noObject_0 rfl (lv_at hl 0 rfl) ?_
  refine lv_aload_n hx hb dX12_noObject_1 rfl (lv_at hl 0 rfl) ?_
  refine va_get (D := (dC, dI)) (ci := 12) (v := .int (σ.1 44)) (C := RX12) (T := TX12) (N := 123) hx hb hts ii_X12 hown hK hP 0 rfl rfl 44 (by decide) (hts (.fieldLink RX12 597 "StoryHouseModel" "built" "Z") wq_1400) (fun _ h9 => h9) rfl dX12_noObject_2 ?_
  obtain ⟨j_3, ej_3, hF_4⟩ := bnd_e hF
  clear hF
  have Jj_3 : ∀ (t_1 : Int32) (σ_2 : MS), j_3 t_1 σ_2 = some res → ∀ (H : Heap) (locs : List Loc), va_P (dC, dI) vwCl (mW cB cI cZ h qK qS ad σ_2) H → va_S (mCells h ad sz) s.heap H locs → ∀ ls : Array Slot, lv_has ls 2 [] → W p l e (headSpec (g_ws yX12_noObject cX12_noObject 2 (some .boolean)) { frames := 2, cells := 0, slots := 0, locals := 61 }).room s m ([.ref h, .int p0] : List Value).toArray below meth c H locs 0 0 (MQ below (va_Qi (fun r (_ : Unit) => r = res.1) (fun _ t => va_P (dC, dI) vwCl (mW cB cI cZ h qK qS ad res.2) t.heap) (mCells h ad sz)) ([.ref h, .int p0] : List Value).toArray s 0 0 (mCells h ad sz)) (F0 m 37 ls [.int t_1, .ref h]) := by
    intro t_1 σ_2 hF0 H locs hP hS ls hl
    subst ej_3
    have hF_5 := hF0
    clear hF0
    obtain ⟨u_6, hu_6, hF_7⟩ := Option.bind_eq_some_iff.mp hF_5
    clear hF_5
    refine m_ci hsz hS (va_runV (As := [.int t_1]) (rest := []) ⟨hx, hb, hml, hown, hts⟩ (m_X12_refuses l dC dI cB cC cI cJ cZ cP h qK qS ad hDD H.size  t_1 σ_2 _ hu_6) (cwV 1 hts (g_gV wq_1487 wq_1488 wq_2113 wq_13 wq_1489) rfl rfl rfl (by decide +kernel) ⟨Nat.le_of_ble_eq_true rfl, Nat.le_of_ble_eq_true rfl⟩) (m_preV g_bl0 hsz hK hP hS hE hKS g_to0) rfl rfl hl.1 rfl (lv_room (Nat.le_of_ble_eq_true rfl)) dX12_noObject_37 ⟨Nat.le_of_ble_eq_true rfl, Nat.le_of_ble_eq_true rfl⟩) (fun H locs hP hS => ?_)
    obtain ⟨g_9, hF_8⟩ := nif_e hF_7
    clear hF_7
    have h9 := Option.some.inj hF_8
    subst h9
    exact W.zret (v := u_6.1) hx hb hr (m_bool (Classical.not_not.mp g_9)).1 (fun t ht hW => ⟨⟨u_6.1, (), rfl, rfl, m_end ht hP⟩, hS.F ht⟩) hS.2.2 dX12_noObject_40
  obtain ⟨j_11, ej_11, hF_12⟩ := bnd_e hF_4
  clear hF_4
  have Jj_11 : ∀  (σ_10 : MS), j_11  σ_10 = some res → ∀ (H : Heap) (locs : List Loc), va_P (dC, dI) vwCl (mW cB cI cZ h qK qS ad σ_10) H → va_S (mCells h ad sz) s.heap H locs → ∀ ls : Array Slot, lv_has ls 2 [] → W p l e (headSpec (g_ws yX12_noObject cX12_noObject 2 (some .boolean)) { frames := 2, cells := 0, slots := 0, locals := 61 }).room s m ([.ref h, .int p0] : List Value).toArray below meth c H locs 0 0 (MQ below (va_Qi (fun r (_ : Unit) => r = res.1) (fun _ t => va_P (dC, dI) vwCl (mW cB cI cZ h qK qS ad res.2) t.heap) (mCells h ad sz)) ([.ref h, .int p0] : List Value).toArray s 0 0 (mCells h ad sz)) (F0 m 21 ls [.ref h]) := by
    intro  σ_10 hF0 H locs hP hS ls hl
    subst ej_11
    have hF_13 := hF0
    clear hF0
    refine lv_iconst (v := 1) hx hb dX12_noObject_21 (by decide +kernel) ?_
    refine lv_goto (tgt := 37) hx hb dX12_noObject_22 (by decide) ?_
    exact Jj_3 1 σ_10 hF_13 _ _ hP hS ls (lv_sub hl [] rfl)
  refine lv_if_eq (tgt := 21) hx hb dX12_noObject_5 (by decide) (fun c_14 => ?_) (fun c_14 => ?_)
  · have hF_15 := ipos c_14 hF_12
    clear hF_12
    exact Jj_11  σ hF_15 _ _ hP hS ls (lv_sub hl [] rfl)
  · have hF_16 := ineg c_14 hF_12
    clear hF_12
    refine lv_iload_n hx hb dX12_noObject_8 rfl (lv_at hl 1 rfl) ?_
    refine lv_iconst (v := 1) hx hb dX12_noObject_9 (by decide +kernel) ?_
    refine lv_icmp_lt (tgt := 21) hx hb dX12_noObject_10 (by decide) (fun c_17 => ?_) (fun c_17 => ?_)
    · have hF_18 := ipos c_17 hF_16
      clear hF_16
      exact Jj_11  σ hF_18 _ _ hP hS ls (lv_sub hl [] rfl)
    · have hF_19 := ineg c_17 hF_16
      clear hF_16
      refine lv_iload_n hx hb dX12_noObject_13 rfl (lv_at hl 1 rfl) ?_
      refine lv_aload_n hx hb dX12_noObject_14 rfl (lv_at hl 0 rfl) ?_
      refine va_get (D := (dC, dI)) (ci := 12) (v := .int (σ.1 78)) (C := RX12) (T := TX12) (N := 123) hx hb hts ii_X12 hown hK hP 0 rfl rfl 78 (by decide) (hts (.fieldLink RX12 587 "StoryHouseModel" "nObjects" "I") wq_1434) (fun _ h9 => h9) rfl dX12_noObject_15 ?_
      refine lv_icmp_le (tgt := 25) hx hb dX12_noObject_18 (by decide) (fun c_20 => ?_) (fun c_20 => ?_)
      · have hF_21 := ipos c_20 hF_19
        clear hF_19
        refine lv_aload_n hx hb dX12_noObject_25 rfl (lv_at hl 0 rfl) ?_
        refine va_get (D := (dC, dI)) (ci := 12) (v := .int (σ.1 86)) (C := RX12) (T := TX12) (N := 123) hx hb hts ii_X12 hown hK hP 0 rfl rfl 86 (by decide) (hts (.fieldLink RX12 600 "StoryHouseModel" "playing" "Z") wq_1442) (fun _ h9 => h9) rfl dX12_noObject_26 ?_
        refine lv_if_eq (tgt := 36) hx hb dX12_noObject_29 (by decide) (fun c_22 => ?_) (fun c_22 => ?_)
        · have hF_23 := ipos c_22 hF_21
          clear hF_21
          refine lv_iconst (v := 2) hx hb dX12_noObject_36 (by decide +kernel) ?_
          exact Jj_3 2 σ hF_23 _ _ hP hS ls (lv_sub hl [] rfl)
        · have hF_24 := ineg c_22 hF_21
          clear hF_21
          refine lv_iconst (v := 0) hx hb dX12_noObject_32 (by decide +kernel) ?_
          refine lv_goto (tgt := 37) hx hb dX12_noObject_33 (by decide) ?_
          exact Jj_3 0 σ hF_24 _ _ hP hS ls (lv_sub hl [] rfl)
      · have hF_25 := ineg c_20 hF_19
        clear hF_19
        exact Jj_11  σ hF_25 _ _ hP hS ls (lv_sub hl [] rfl)
theorem dX12_holder_0 : decode cX12_holder 0 = .ok (.aload_n 0, 1) := by decide +kernel
theorem dX12_holder_1 : decode cX12_holder 1 = .ok (.iload_n 1, 1) := by decide +kernel
theorem dX12_holder_2 : decode cX12_holder 2 = .ok (.invokevirtual 996, 3) := by decide +kernel
theorem dX12_holder_5 : decode cX12_holder 5 = .ok (.ifCond .eq 7, 3) := by decide +kernel
theorem dX12_holder_8 : decode cX12_holder 8 = .ok (.iconst 0, 1) := by decide +kernel
theorem dX12_holder_9 : decode cX12_holder 9 = .ok (.goto 9, 3) := by decide +kernel
theorem dX12_holder_12 : decode cX12_holder 12 = .ok (.aload_n 0, 1) := by decide +kernel
theorem dX12_holder_13 : decode cX12_holder 13 = .ok (.getfield 182, 3) := by decide +kernel
theorem dX12_holder_16 : decode cX12_holder 16 = .ok (.iload_n 1, 1) := by decide +kernel
theorem dX12_holder_17 : decode cX12_holder 17 = .ok (.iaload, 1) := by decide +kernel
theorem dX12_holder_18 : decode cX12_holder 18 = .ok (.ireturn, 1) := by decide +kernel
def F_X12_holder (p0 : Int32) (σ : MS) : MR :=
  (F_X12_noObject p0 σ).bind fun u_1 =>
  if u_1.1 = 0 then (
    if p0 < 0 ∨ 121 ≤ p0.toNatClampNeg then none else
    some ((u_1.2.2 87 p0.toNatClampNeg), u_1.2)
  ) else (
    some (0, u_1.2)
  )
set_option maxHeartbeats 4000000 in
set_option maxRecDepth 100000 in
theorem m_X12_holder (l : Launch) (dC : Nat → ClassId) (dI : Nat → Nat → Nat) (cB cC cI cJ cZ cP : ClassId) (h qK qS : Nat) (ad : Nat → Nat) (hDD : mDis cB cI cZ h qK qS ad) (sz : Nat)  (p0 : Int32) (σ : MS) (res : Int32 × MS) (hF : F_X12_holder p0 σ = some res) : Met l yX12_holder (g_ws yX12_holder cX12_holder 2 (some .int)) ({ frames := 3, cells := 0, slots := 0, locals := 82 }) (va_Pc [.ref h, .int p0] (m_B (dC, dI) [(cB, .byte), (cC, .char), (cI, .int), (cJ, .long), (cZ, .boolean), (cP, .object "StoryHouse$Play")] sz h ad qK qS (mW cB cI cZ h qK qS ad σ) g_0)) (va_Qi (fun r (_ : Unit) => r = res.1) (fun _ t => va_P (dC, dI) vwCl (mW cB cI cZ h qK qS ad res.2) t.heap) (mCells h ad sz)) 0 0 (mCells h ad sz) := by
  refine Met.ofW (cc := cX12_holder) (maxL := 2) (ret := (some .int)) (by decide) rfl ?_
  intro p e s m args below meth c s₁ B hml hv
  obtain ⟨rfl, hsz, hP, hK, hE, hKS, hX⟩ := hv
  have hx := B.exec
  have hb := B.bytes
  have hr := B.returns
  have hts0 := atoms_spec (ws := g_ws yX12_holder cX12_holder 2 (some .int)) B.pre
  have hts : ∀ w ∈ lw_good, w.before ([.ref h, .int p0] : List Value).toArray s = true := fun w z => hts0 w (List.mem_cons_of_mem _ z)
  have hown : s.vm.findClass RX12 = some m.cls := findClass_of_methodNamed B.named
  have hlocks := B.notSynchronized
  have hS : va_S (mCells h ad sz) s.heap s.heap [] := va_S.rf
  have hl := lv_entry ([.ref h, .int p0]) (n := 2) (Nat.le_of_ble_eq_true rfl)
  rw [lg_entry_eq]
  generalize (lg_sl ([.ref h, .int p0]) ++ List.replicate (2 - (lg_sl ([.ref h, .int p0])).length) Slot.unset).toArray = ls at hl ⊢
  have hl : lv_has ls 2 [(0, .ref h), (1, .int p0)] := hl
  unfold F_X12_holder at hF
  refine lv_aload_n hx hb dX12_holder_0 rfl (lv_at hl 0 rfl) ?_
  refine lv_iload_n hx hb dX12_holder_1 rfl (lv_at hl 1 rfl) ?_
  obtain ⟨u_1, hu_1, hF_2⟩ := Option.bind_eq_some_iff.mp hF
  clear hF
  refine m_ci hsz hS (va_runV (As := [.int p0]) (rest := []) ⟨hx, hb, hml, hown, hts⟩ (m_X12_noObject l dC dI cB cC cI cJ cZ cP h qK qS ad hDD s.heap.size  p0 σ _ hu_1) (cwV 1 hts (g_gV wq_1949 wq_1950 wq_2249 wq_13 wq_1951) rfl rfl rfl (by decide +kernel) ⟨Nat.le_of_ble_eq_true rfl, Nat.le_of_ble_eq_true rfl⟩) (m_preV g_bl0 hsz hK hP hS hE hKS g_to0) rfl rfl hl.1 rfl (lv_room (Nat.le_of_ble_eq_true rfl)) dX12_holder_2 ⟨Nat.le_of_ble_eq_true rfl, Nat.le_of_ble_eq_true rfl⟩) (fun H locs hP hS => ?_)
  refine lv_if_eq (tgt := 12) hx hb dX12_holder_5 (by decide) (fun c_3 => ?_) (fun c_3 => ?_)
  · have hF_4 := ipos c_3 hF_2
    clear hF_2
    refine lv_aload_n hx hb dX12_holder_12 rfl (lv_at hl 0 rfl) ?_
    refine va_get (D := (dC, dI)) (ci := 12) (v := .ref (ad 87)) (C := RX12) (T := TX12) (N := 123) hx hb hts ii_X12 hown hK hP 0 rfl rfl 87 (by decide) (hts (.fieldLink RX12 182 "StoryHouseModel" "holder" "[I") wq_1443) (fun _ h9 => h9) rfl dX12_holder_13 ?_
    refine lv_iload_n hx hb dX12_holder_16 rfl (lv_at hl 1 rfl) ?_
    obtain ⟨g_5, hF_6⟩ := nif_e hF_4
    clear hF_4
    refine va_iald (f := u_1.2.2 87) hx hb hK hP 52 2 rfl rfl g_5 dX12_holder_17 ?_
    have h9 := Option.some.inj hF_6
    subst h9
    exact W.iret (v := (u_1.2.2 87 p0.toNatClampNeg)) hx hb hr (fun t ht hW => ⟨⟨(u_1.2.2 87 p0.toNatClampNeg), (), rfl, rfl, m_end ht hP⟩, hS.F ht⟩) hS.2.2 dX12_holder_18
  · have hF_7 := ineg c_3 hF_2
    clear hF_2
    refine lv_iconst (v := 0) hx hb dX12_holder_8 (by decide +kernel) ?_
    refine lv_goto (tgt := 18) hx hb dX12_holder_9 (by decide) ?_
    have h9 := Option.some.inj hF_7
    subst h9
    exact W.iret (v := 0) hx hb hr (fun t ht hW => ⟨⟨0, (), rfl, rfl, m_end ht hP⟩, hS.F ht⟩) hS.2.2 dX12_holder_18
theorem dX12_first_0 : decode cX12_first 0 = .ok (.aload_n 0, 1) := by decide +kernel
theorem dX12_first_1 : decode cX12_first 1 = .ok (.iload_n 1, 1) := by decide +kernel
theorem dX12_first_2 : decode cX12_first 2 = .ok (.invokevirtual 996, 3) := by decide +kernel
theorem dX12_first_5 : decode cX12_first 5 = .ok (.ifCond .eq 7, 3) := by decide +kernel
theorem dX12_first_8 : decode cX12_first 8 = .ok (.iconst 0, 1) := by decide +kernel
theorem dX12_first_9 : decode cX12_first 9 = .ok (.goto 22, 3) := by decide +kernel
theorem dX12_first_12 : decode cX12_first 12 = .ok (.iload_n 2, 1) := by decide +kernel
theorem dX12_first_13 : decode cX12_first 13 = .ok (.ifCond .eq 12, 3) := by decide +kernel
theorem dX12_first_16 : decode cX12_first 16 = .ok (.aload_n 0, 1) := by decide +kernel
theorem dX12_first_17 : decode cX12_first 17 = .ok (.getfield 188, 3) := by decide +kernel
theorem dX12_first_20 : decode cX12_first 20 = .ok (.iload_n 1, 1) := by decide +kernel
theorem dX12_first_21 : decode cX12_first 21 = .ok (.iaload, 1) := by decide +kernel
theorem dX12_first_22 : decode cX12_first 22 = .ok (.goto 9, 3) := by decide +kernel
theorem dX12_first_25 : decode cX12_first 25 = .ok (.aload_n 0, 1) := by decide +kernel
theorem dX12_first_26 : decode cX12_first 26 = .ok (.getfield 185, 3) := by decide +kernel
theorem dX12_first_29 : decode cX12_first 29 = .ok (.iload_n 1, 1) := by decide +kernel
theorem dX12_first_30 : decode cX12_first 30 = .ok (.iaload, 1) := by decide +kernel
theorem dX12_first_31 : decode cX12_first 31 = .ok (.ireturn, 1) := by decide +kernel
def F_X12_first (p0 : Int32) (p1 : Int32) (σ : MS) : MR :=
  (F_X12_noObject p0 σ).bind fun u_1 =>
  if u_1.1 = 0 then (
    if p1 = 0 then (
      if p0 < 0 ∨ 121 ≤ p0.toNatClampNeg then none else
      some ((u_1.2.2 88 p0.toNatClampNeg), u_1.2)
    ) else (
      if p0 < 0 ∨ 121 ≤ p0.toNatClampNeg then none else
      some ((u_1.2.2 89 p0.toNatClampNeg), u_1.2)
    )
  ) else (
    some (0, u_1.2)
  )
set_option maxHeartbeats 4000000 in
set_option maxRecDepth 100000 in
theorem m_X12_first (l : Launch) (dC : Nat → ClassId) (dI : Nat → Nat → Nat) (cB cC cI cJ cZ cP : ClassId) (h qK qS : Nat) (ad : Nat → Nat) (hDD : mDis cB cI cZ h qK qS ad) (sz : Nat)  (p0 : Int32) (p1 : Int32) (σ : MS) (res : Int32 × MS) (hF : F_X12_first p0 p1 σ = some res) : Met l yX12_first (g_ws yX12_first cX12_first 3 (some .int)) ({ frames := 3, cells := 0, slots := 0, locals := 82 }) (va_Pc [.ref h, .int p0, .int p1] (m_B (dC, dI) [(cB, .byte), (cC, .char), (cI, .int), (cJ, .long), (cZ, .boolean), (cP, .object "StoryHouse$Play")] sz h ad qK qS (mW cB cI cZ h qK qS ad σ) g_0)) (va_Qi (fun r (_ : Unit) => r = res.1) (fun _ t => va_P (dC, dI) vwCl (mW cB cI cZ h qK qS ad res.2) t.heap) (mCells h ad sz)) 0 0 (mCells h ad sz) := by
  refine Met.ofW (cc := cX12_first) (maxL := 3) (ret := (some .int)) (by decide) rfl ?_
  intro p e s m args below meth c s₁ B hml hv
  obtain ⟨rfl, hsz, hP, hK, hE, hKS, hX⟩ := hv
  have hx := B.exec
  have hb := B.bytes
  have hr := B.returns
  have hts0 := atoms_spec (ws := g_ws yX12_first cX12_first 3 (some .int)) B.pre
  have hts : ∀ w ∈ lw_good, w.before ([.ref h, .int p0, .int p1] : List Value).toArray s = true := fun w z => hts0 w (List.mem_cons_of_mem _ z)
  have hown : s.vm.findClass RX12 = some m.cls := findClass_of_methodNamed B.named
  have hlocks := B.notSynchronized
  have hS : va_S (mCells h ad sz) s.heap s.heap [] := va_S.rf
  have hl := lv_entry ([.ref h, .int p0, .int p1]) (n := 3) (Nat.le_of_ble_eq_true rfl)
  rw [lg_entry_eq]
  generalize (lg_sl ([.ref h, .int p0, .int p1]) ++ List.replicate (3 - (lg_sl ([.ref h, .int p0, .int p1])).length) Slot.unset).toArray = ls at hl ⊢
  have hl : lv_has ls 3 [(0, .ref h), (1, .int p0), (2, .int p1)] := hl
  unfold F_X12_first at hF
  refine lv_aload_n hx hb dX12_first_0 rfl (lv_at hl 0 rfl) ?_
  refine lv_iload_n hx hb dX12_first_1 rfl (lv_at hl 1 rfl) ?_
  obtain ⟨u_1, hu_1, hF_2⟩ := Option.bind_eq_some_iff.mp hF
  clear hF
  refine m_ci hsz hS (va_runV (As := [.int p0]) (rest := []) ⟨hx, hb, hml, hown, hts⟩ (m_X12_noObject l dC dI cB cC cI cJ cZ cP h qK qS ad hDD s.heap.size  p0 σ _ hu_1) (cwV 1 hts (g_gV wq_1949 wq_1950 wq_2249 wq_13 wq_1951) rfl rfl rfl (by decide +kernel) ⟨Nat.le_of_ble_eq_true rfl, Nat.le_of_ble_eq_true rfl⟩) (m_preV g_bl0 hsz hK hP hS hE hKS g_to0) rfl rfl hl.1 rfl (lv_room (Nat.le_of_ble_eq_true rfl)) dX12_first_2 ⟨Nat.le_of_ble_eq_true rfl, Nat.le_of_ble_eq_true rfl⟩) (fun H locs hP hS => ?_)
  refine lv_if_eq (tgt := 12) hx hb dX12_first_5 (by decide) (fun c_3 => ?_) (fun c_3 => ?_)
  · have hF_4 := ipos c_3 hF_2
    clear hF_2
    refine lv_iload_n hx hb dX12_first_12 rfl (lv_at hl 2 rfl) ?_
    refine lv_if_eq (tgt := 25) hx hb dX12_first_13 (by decide) (fun c_5 => ?_) (fun c_5 => ?_)
    · have hF_6 := ipos c_5 hF_4
      clear hF_4
      refine lv_aload_n hx hb dX12_first_25 rfl (lv_at hl 0 rfl) ?_
      refine va_get (D := (dC, dI)) (ci := 12) (v := .ref (ad 88)) (C := RX12) (T := TX12) (N := 123) hx hb hts ii_X12 hown hK hP 0 rfl rfl 88 (by decide) (hts (.fieldLink RX12 185 "StoryHouseModel" "first" "[I") wq_1444) (fun _ h9 => h9) rfl dX12_first_26 ?_
      refine lv_iload_n hx hb dX12_first_29 rfl (lv_at hl 1 rfl) ?_
      obtain ⟨g_7, hF_8⟩ := nif_e hF_6
      clear hF_6
      refine va_iald (f := u_1.2.2 88) hx hb hK hP 53 2 rfl rfl g_7 dX12_first_30 ?_
      have h9 := Option.some.inj hF_8
      subst h9
      exact W.iret (v := (u_1.2.2 88 p0.toNatClampNeg)) hx hb hr (fun t ht hW => ⟨⟨(u_1.2.2 88 p0.toNatClampNeg), (), rfl, rfl, m_end ht hP⟩, hS.F ht⟩) hS.2.2 dX12_first_31
    · have hF_9 := ineg c_5 hF_4
      clear hF_4
      refine lv_aload_n hx hb dX12_first_16 rfl (lv_at hl 0 rfl) ?_
      refine va_get (D := (dC, dI)) (ci := 12) (v := .ref (ad 89)) (C := RX12) (T := TX12) (N := 123) hx hb hts ii_X12 hown hK hP 0 rfl rfl 89 (by decide) (hts (.fieldLink RX12 188 "StoryHouseModel" "next" "[I") wq_1445) (fun _ h9 => h9) rfl dX12_first_17 ?_
      refine lv_iload_n hx hb dX12_first_20 rfl (lv_at hl 1 rfl) ?_
      obtain ⟨g_10, hF_11⟩ := nif_e hF_9
      clear hF_9
      refine va_iald (f := u_1.2.2 89) hx hb hK hP 54 2 rfl rfl g_10 dX12_first_21 ?_
      refine lv_goto (tgt := 31) hx hb dX12_first_22 (by decide) ?_
      have h9 := Option.some.inj hF_11
      subst h9
      exact W.iret (v := (u_1.2.2 89 p0.toNatClampNeg)) hx hb hr (fun t ht hW => ⟨⟨(u_1.2.2 89 p0.toNatClampNeg), (), rfl, rfl, m_end ht hP⟩, hS.F ht⟩) hS.2.2 dX12_first_31
  · have hF_12 := ineg c_3 hF_2
    clear hF_2
    refine lv_iconst (v := 0) hx hb dX12_first_8 (by decide +kernel) ?_
    refine lv_goto (tgt := 31) hx hb dX12_first_9 (by decide) ?_
    have h9 := Option.some.inj hF_12
    subst h9
    exact W.iret (v := 0) hx hb hr (fun t ht hW => ⟨⟨0, (), rfl, rfl, m_end ht hP⟩, hS.F ht⟩) hS.2.2 dX12_first_31
theorem dX12_has__0 : decode cX12_has_ 0 = .ok (.aload_n 0, 1) := by decide +kernel
theorem dX12_has__1 : decode cX12_has_ 1 = .ok (.aload_n 0, 1) := by decide +kernel
theorem dX12_has__2 : decode cX12_has_ 2 = .ok (.getfield 597, 3) := by decide +kernel
theorem dX12_has__5 : decode cX12_has_ 5 = .ok (.ifCond .eq 16, 3) := by decide +kernel
theorem dX12_has__8 : decode cX12_has_ 8 = .ok (.iload_n 1, 1) := by decide +kernel
theorem dX12_has__9 : decode cX12_has_ 9 = .ok (.iconst 1, 1) := by decide +kernel
theorem dX12_has__10 : decode cX12_has_ 10 = .ok (.if_icmp .lt 11, 3) := by decide +kernel
theorem dX12_has__13 : decode cX12_has_ 13 = .ok (.iload_n 1, 1) := by decide +kernel
theorem dX12_has__14 : decode cX12_has_ 14 = .ok (.aload_n 0, 1) := by decide +kernel
theorem dX12_has__15 : decode cX12_has_ 15 = .ok (.getfield 587, 3) := by decide +kernel
theorem dX12_has__18 : decode cX12_has_ 18 = .ok (.if_icmp .le 7, 3) := by decide +kernel
theorem dX12_has__21 : decode cX12_has_ 21 = .ok (.iconst 1, 1) := by decide +kernel
theorem dX12_has__22 : decode cX12_has_ 22 = .ok (.goto 29, 3) := by decide +kernel
theorem dX12_has__25 : decode cX12_has_ 25 = .ok (.iload_n 2, 1) := by decide +kernel
theorem dX12_has__26 : decode cX12_has_ 26 = .ok (.ifCond .lt 9, 3) := by decide +kernel
theorem dX12_has__29 : decode cX12_has_ 29 = .ok (.iload_n 2, 1) := by decide +kernel
theorem dX12_has__30 : decode cX12_has_ 30 = .ok (.bipush 6, 2) := by decide +kernel
theorem dX12_has__32 : decode cX12_has_ 32 = .ok (.if_icmp .le 7, 3) := by decide +kernel
theorem dX12_has__35 : decode cX12_has_ 35 = .ok (.iconst 2, 1) := by decide +kernel
theorem dX12_has__36 : decode cX12_has_ 36 = .ok (.goto 15, 3) := by decide +kernel
theorem dX12_has__39 : decode cX12_has_ 39 = .ok (.aload_n 0, 1) := by decide +kernel
theorem dX12_has__40 : decode cX12_has_ 40 = .ok (.getfield 600, 3) := by decide +kernel
theorem dX12_has__43 : decode cX12_has_ 43 = .ok (.ifCond .eq 7, 3) := by decide +kernel
theorem dX12_has__46 : decode cX12_has_ 46 = .ok (.iconst 0, 1) := by decide +kernel
theorem dX12_has__47 : decode cX12_has_ 47 = .ok (.goto 4, 3) := by decide +kernel
theorem dX12_has__50 : decode cX12_has_ 50 = .ok (.iconst 3, 1) := by decide +kernel
theorem dX12_has__51 : decode cX12_has_ 51 = .ok (.invokevirtual 562, 3) := by decide +kernel
theorem dX12_has__54 : decode cX12_has_ 54 = .ok (.ifCond .ne 21, 3) := by decide +kernel
theorem dX12_has__57 : decode cX12_has_ 57 = .ok (.aload_n 0, 1) := by decide +kernel
theorem dX12_has__58 : decode cX12_has_ 58 = .ok (.getfield 191, 3) := by decide +kernel
theorem dX12_has__61 : decode cX12_has_ 61 = .ok (.bipush 7, 2) := by decide +kernel
theorem dX12_has__63 : decode cX12_has_ 63 = .ok (.iload_n 1, 1) := by decide +kernel
theorem dX12_has__64 : decode cX12_has_ 64 = .ok (.imul, 1) := by decide +kernel
theorem dX12_has__65 : decode cX12_has_ 65 = .ok (.iload_n 2, 1) := by decide +kernel
theorem dX12_has__66 : decode cX12_has_ 66 = .ok (.iadd, 1) := by decide +kernel
theorem dX12_has__67 : decode cX12_has_ 67 = .ok (.baload, 1) := by decide +kernel
theorem dX12_has__68 : decode cX12_has_ 68 = .ok (.ifCond .eq 7, 3) := by decide +kernel
theorem dX12_has__71 : decode cX12_has_ 71 = .ok (.iconst 1, 1) := by decide +kernel
theorem dX12_has__72 : decode cX12_has_ 72 = .ok (.goto 4, 3) := by decide +kernel
theorem dX12_has__75 : decode cX12_has_ 75 = .ok (.iconst 0, 1) := by decide +kernel
theorem dX12_has__76 : decode cX12_has_ 76 = .ok (.ireturn, 1) := by decide +kernel
def F_X12_has_ (p0 : Int32) (p1 : Int32) (σ : MS) : MR :=
  bnd (fun (t_1 : Int32) (σ_2 : MS) => (
    (F_X12_refuses t_1 σ_2).bind fun u_6 =>
    if u_6.1 = 0 then (
      bnd (((7 * p0) + p1)) fun (x_10 : Int32) =>
      if x_10 < 0 ∨ 847 ≤ x_10.toNatClampNeg then none else
      if (u_6.2.2 90 x_10.toNatClampNeg) = 0 then (
        some (0, u_6.2)
      ) else (
        some (1, u_6.2)
      )
    ) else (
      some (0, u_6.2)
    )
  ) : Int32 → MS → MR) fun j_3 =>
  bnd (fun  (σ_18 : MS) => (
    j_3 1 σ_18
  ) : MS → MR) fun j_19 =>
  if (σ.1 44) = 0 then (
    j_19  σ
  ) else (
    if p0 < 1 then (
      j_19  σ
    ) else (
      if p0 ≤ (σ.1 78) then (
        bnd (fun  (σ_30 : MS) => (
          j_3 2 σ_30
        ) : MS → MR) fun j_31 =>
        if p1 < 0 then (
          j_31  σ
        ) else (
          if p1 ≤ 6 then (
            if (σ.1 86) = 0 then (
              j_3 3 σ
            ) else (
              j_3 0 σ
            )
          ) else (
            j_31  σ
          )
        )
      ) else (
        j_19  σ
      )
    )
  )
set_option maxHeartbeats 4000000 in
set_option maxRecDepth 100000 in
theorem m_X12_has_ (l : Launch) (dC : Nat → ClassId) (dI : Nat → Nat → Nat) (cB cC cI cJ cZ cP : ClassId) (h qK qS : Nat) (ad : Nat → Nat) (hDD : mDis cB cI cZ h qK qS ad) (sz : Nat)  (p0 : Int32) (p1 : Int32) (σ : MS) (res : Int32 × MS) (hF : F_X12_has_ p0 p1 σ = some res) : Met l yX12_has_ (g_ws yX12_has_ cX12_has_ 3 (some .boolean)) ({ frames := 2, cells := 0, slots := 0, locals := 61 }) (va_Pc [.ref h, .int p0, .int p1] (m_B (dC, dI) [(cB, .byte), (cC, .char), (cI, .int), (cJ, .long), (cZ, .boolean), (cP, .object "StoryHouse$Play")] sz h ad qK qS (mW cB cI cZ h qK qS ad σ) g_0)) (va_Qi (fun r (_ : Unit) => r = res.1) (fun _ t => va_P (dC, dI) vwCl (mW cB cI cZ h qK qS ad res.2) t.heap) (mCells h ad sz)) 0 0 (mCells h ad sz) := by
  refine Met.ofW (cc := cX12_has_) (maxL := 3) (ret := (some .boolean)) (by decide) rfl ?_
  intro p e s m args below meth c s₁ B hml hv
  obtain ⟨rfl, hsz, hP, hK, hE, hKS, hX⟩ := hv
  have hx := B.exec
  have hb := B.bytes
  have hr := B.returns
  have hts0 := atoms_spec (ws := g_ws yX12_has_ cX12_has_ 3 (some .boolean)) B.pre
  have hts : ∀ w ∈ lw_good, w.before ([.ref h, .int p0, .int p1] : List Value).toArray s = true := fun w z => hts0 w (List.mem_cons_of_mem _ z)
  have hown : s.vm.findClass RX12 = some m.cls := findClass_of_methodNamed B.named
  have hlocks := B.notSynchronized
  have hS : va_S (mCells h ad sz) s.heap s.heap [] := va_S.rf
  have hl := lv_entry ([.ref h, .int p0, .int p1]) (n := 3) (Nat.le_of_ble_eq_true rfl)
  rw [lg_entry_eq]
  generalize (lg_sl ([.ref h, .int p0, .int p1]) ++ List.replicate (3 - (lg_sl ([.ref h, .int p0, .int p1])).length) Slot.unset).toArray = ls at hl ⊢
  have hl : lv_has ls 3 [(0, .ref h), (1, .int p0), (2, .int p1)] := hl
  unfold F_X12_has_ at hF
  refine lv_aload_n hx hb dX12_has__0 rfl (lv_at hl 0 rfl) ?_
  refine lv_aload_n hx hb dX12_has__1 rfl (lv_at hl 0 rfl) ?_
  refine va_get (D := (dC, dI)) (ci := 12) (v := .int (σ.1 44)) (C := RX12) (T := TX12) (N := 123) hx hb hts ii_X12 hown hK hP 0 rfl rfl 44 (by decide) (hts (.fieldLink RX12 597 "StoryHouseModel" "built" "Z") wq_1400) (fun _ h9 => h9) rfl dX12_has__2 ?_
  obtain ⟨j_3, ej_3, hF_4⟩ := bnd_e hF
  clear hF
  have Jj_3 : ∀ (t_1 : Int32) (σ_2 : MS), j_3 t_1 σ_2 = some res → ∀ (H : Heap) (locs : List Loc), va_P (dC, dI) vwCl (mW cB cI cZ h qK qS ad σ_2) H → va_S (mCells h ad sz) s.heap H locs → ∀ ls : Array Slot, lv_has ls 3 [(0, .ref h), (1, .int p0), (2, .int p1)] → W p l e (headSpec (g_ws yX12_has_ cX12_has_ 3 (some .boolean)) { frames := 2, cells := 0, slots := 0, locals := 61 }).room s m ([.ref h, .int p0, .int p1] : List Value).toArray below meth c H locs 0 0 (MQ below (va_Qi (fun r (_ : Unit) => r = res.1) (fun _ t => va_P (dC, dI) vwCl (mW cB cI cZ h qK qS ad res.2) t.heap) (mCells h ad sz)) ([.ref h, .int p0, .int p1] : List Value).toArray s 0 0 (mCells h ad sz)) (F0 m 51 ls [.int t_1, .ref h]) := by
    intro t_1 σ_2 hF0 H locs hP hS ls hl
    subst ej_3
    have hF_5 := hF0
    clear hF0
    obtain ⟨u_6, hu_6, hF_7⟩ := Option.bind_eq_some_iff.mp hF_5
    clear hF_5
    refine m_ci hsz hS (va_runV (As := [.int t_1]) (rest := []) ⟨hx, hb, hml, hown, hts⟩ (m_X12_refuses l dC dI cB cC cI cJ cZ cP h qK qS ad hDD H.size  t_1 σ_2 _ hu_6) (cwV 1 hts (g_gV wq_1487 wq_1488 wq_2113 wq_13 wq_1489) rfl rfl rfl (by decide +kernel) ⟨Nat.le_of_ble_eq_true rfl, Nat.le_of_ble_eq_true rfl⟩) (m_preV g_bl0 hsz hK hP hS hE hKS g_to0) rfl rfl hl.1 rfl (lv_room (Nat.le_of_ble_eq_true rfl)) dX12_has__51 ⟨Nat.le_of_ble_eq_true rfl, Nat.le_of_ble_eq_true rfl⟩) (fun H locs hP hS => ?_)
    refine lv_if_ne (tgt := 75) hx hb dX12_has__54 (by decide) (fun c_8 => ?_) (fun c_8 => ?_)
    · have hF_17 := ineg c_8 hF_7
      clear hF_7
      refine lv_iconst (v := 0) hx hb dX12_has__75 (by decide +kernel) ?_
      have h9 := Option.some.inj hF_17
      subst h9
      exact W.zret (v := 0) hx hb hr (by decide +kernel) (fun t ht hW => ⟨⟨0, (), rfl, rfl, m_end ht hP⟩, hS.F ht⟩) hS.2.2 dX12_has__76
    · have hF_9 := ipos c_8 hF_7
      clear hF_7
      refine lv_aload_n hx hb dX12_has__57 rfl (lv_at hl 0 rfl) ?_
      refine va_get (D := (dC, dI)) (ci := 12) (v := .ref (ad 90)) (C := RX12) (T := TX12) (N := 123) hx hb hts ii_X12 hown hK hP 0 rfl rfl 90 (by decide) (hts (.fieldLink RX12 191 "StoryHouseModel" "has" "[Z") wq_1446) (fun _ h9 => h9) rfl dX12_has__58 ?_
      refine lv_bipush (v := 7) hx hb dX12_has__61 (by decide +kernel) ?_
      refine lv_iload_n hx hb dX12_has__63 rfl (lv_at hl 1 rfl) ?_
      refine lv_imul hx hb dX12_has__64 ?_
      refine lv_iload_n hx hb dX12_has__65 rfl (lv_at hl 2 rfl) ?_
      refine lv_iadd hx hb dX12_has__66 ?_
      obtain ⟨x_10, ex_10, hF_11⟩ := bnd_e hF_9
      clear hF_9
      refine m_top ex_10 ?_
      obtain ⟨g_12, hF_13⟩ := nif_e hF_11
      clear hF_11
      refine va_zald (f := u_6.2.2 90) hx hb hK hP 55 4 rfl rfl g_12 dX12_has__67 ?_
      refine lv_if_eq (tgt := 75) hx hb dX12_has__68 (by decide) (fun c_14 => ?_) (fun c_14 => ?_)
      · have hF_15 := ipos c_14 hF_13
        clear hF_13
        refine lv_iconst (v := 0) hx hb dX12_has__75 (by decide +kernel) ?_
        have h9 := Option.some.inj hF_15
        subst h9
        exact W.zret (v := 0) hx hb hr (by decide +kernel) (fun t ht hW => ⟨⟨0, (), rfl, rfl, m_end ht hP⟩, hS.F ht⟩) hS.2.2 dX12_has__76
      · have hF_16 := ineg c_14 hF_13
        clear hF_13
        refine lv_iconst (v := 1) hx hb dX12_has__71 (by decide +kernel) ?_
        refine lv_goto (tgt := 76) hx hb dX12_has__72 (by decide) ?_
        have h9 := Option.some.inj hF_16
        subst h9
        exact W.zret (v := 1) hx hb hr (by decide +kernel) (fun t ht hW => ⟨⟨1, (), rfl, rfl, m_end ht hP⟩, hS.F ht⟩) hS.2.2 dX12_has__76
  obtain ⟨j_19, ej_19, hF_20⟩ := bnd_e hF_4
  clear hF_4
  have Jj_19 : ∀  (σ_18 : MS), j_19  σ_18 = some res → ∀ (H : Heap) (locs : List Loc), va_P (dC, dI) vwCl (mW cB cI cZ h qK qS ad σ_18) H → va_S (mCells h ad sz) s.heap H locs → ∀ ls : Array Slot, lv_has ls 3 [(0, .ref h), (1, .int p0), (2, .int p1)] → W p l e (headSpec (g_ws yX12_has_ cX12_has_ 3 (some .boolean)) { frames := 2, cells := 0, slots := 0, locals := 61 }).room s m ([.ref h, .int p0, .int p1] : List Value).toArray below meth c H locs 0 0 (MQ below (va_Qi (fun r (_ : Unit) => r = res.1) (fun _ t => va_P (dC, dI) vwCl (mW cB cI cZ h qK qS ad res.2) t.heap) (mCells h ad sz)) ([.ref h, .int p0, .int p1] : List Value).toArray s 0 0 (mCells h ad sz)) (F0 m 21 ls [.ref h]) := by
    intro  σ_18 hF0 H locs hP hS ls hl
    subst ej_19
    have hF_21 := hF0
    clear hF0
    refine lv_iconst (v := 1) hx hb dX12_has__21 (by decide +kernel) ?_
    refine lv_goto (tgt := 51) hx hb dX12_has__22 (by decide) ?_
    exact Jj_3 1 σ_18 hF_21 _ _ hP hS ls (lv_sub hl [0, 1, 2] rfl)
  refine lv_if_eq (tgt := 21) hx hb dX12_has__5 (by decide) (fun c_22 => ?_) (fun c_22 => ?_)
  · have hF_23 := ipos c_22 hF_20
    clear hF_20
    exact Jj_19  σ hF_23 _ _ hP hS ls (lv_sub hl [0, 1, 2] rfl)
  · have hF_24 := ineg c_22 hF_20
    clear hF_20
    refine lv_iload_n hx hb dX12_has__8 rfl (lv_at hl 1 rfl) ?_
    refine lv_iconst (v := 1) hx hb dX12_has__9 (by decide +kernel) ?_
    refine lv_icmp_lt (tgt := 21) hx hb dX12_has__10 (by decide) (fun c_25 => ?_) (fun c_25 => ?_)
    · have hF_26 := ipos c_25 hF_24
      clear hF_24
      exact Jj_19  σ hF_26 _ _ hP hS ls (lv_sub hl [0, 1, 2] rfl)
    · have hF_27 := ineg c_25 hF_24
      clear hF_24
      refine lv_iload_n hx hb dX12_has__13 rfl (lv_at hl 1 rfl) ?_
      refine lv_aload_n hx hb dX12_has__14 rfl (lv_at hl 0 rfl) ?_
      refine va_get (D := (dC, dI)) (ci := 12) (v := .int (σ.1 78)) (C := RX12) (T := TX12) (N := 123) hx hb hts ii_X12 hown hK hP 0 rfl rfl 78 (by decide) (hts (.fieldLink RX12 587 "StoryHouseModel" "nObjects" "I") wq_1434) (fun _ h9 => h9) rfl dX12_has__15 ?_
      refine lv_icmp_le (tgt := 25) hx hb dX12_has__18 (by decide) (fun c_28 => ?_) (fun c_28 => ?_)
      · have hF_29 := ipos c_28 hF_27
        clear hF_27
        refine lv_iload_n hx hb dX12_has__25 rfl (lv_at hl 2 rfl) ?_
        obtain ⟨j_31, ej_31, hF_32⟩ := bnd_e hF_29
        clear hF_29
        have Jj_31 : ∀  (σ_30 : MS), j_31  σ_30 = some res → ∀ (H : Heap) (locs : List Loc), va_P (dC, dI) vwCl (mW cB cI cZ h qK qS ad σ_30) H → va_S (mCells h ad sz) s.heap H locs → ∀ ls : Array Slot, lv_has ls 3 [(0, .ref h), (1, .int p0), (2, .int p1)] → W p l e (headSpec (g_ws yX12_has_ cX12_has_ 3 (some .boolean)) { frames := 2, cells := 0, slots := 0, locals := 61 }).room s m ([.ref h, .int p0, .int p1] : List Value).toArray below meth c H locs 0 0 (MQ below (va_Qi (fun r (_ : Unit) => r = res.1) (fun _ t => va_P (dC, dI) vwCl (mW cB cI cZ h qK qS ad res.2) t.heap) (mCells h ad sz)) ([.ref h, .int p0, .int p1] : List Value).toArray s 0 0 (mCells h ad sz)) (F0 m 35 ls [.ref h]) := by
          intro  σ_30 hF0 H locs hP hS ls hl
          subst ej_31
          have hF_33 := hF0
          clear hF0
          refine lv_iconst (v := 2) hx hb dX12_has__35 (by decide +kernel) ?_
          refine lv_goto (tgt := 51) hx hb dX12_has__36 (by decide) ?_
          exact Jj_3 2 σ_30 hF_33 _ _ hP hS ls (lv_sub hl [0, 1, 2] rfl)
        refine lv_if_lt (tgt := 35) hx hb dX12_has__26 (by decide) (fun c_34 => ?_) (fun c_34 => ?_)
        · have hF_35 := ipos c_34 hF_32
          clear hF_32
          exact Jj_31  σ hF_35 _ _ hP hS ls (lv_sub hl [0, 1, 2] rfl)
        · have hF_36 := ineg c_34 hF_32
          clear hF_32
          refine lv_iload_n hx hb dX12_has__29 rfl (lv_at hl 2 rfl) ?_
          refine lv_bipush (v := 6) hx hb dX12_has__30 (by decide +kernel) ?_
          refine lv_icmp_le (tgt := 39) hx hb dX12_has__32 (by decide) (fun c_37 => ?_) (fun c_37 => ?_)
          · have hF_38 := ipos c_37 hF_36
            clear hF_36
            refine lv_aload_n hx hb dX12_has__39 rfl (lv_at hl 0 rfl) ?_
            refine va_get (D := (dC, dI)) (ci := 12) (v := .int (σ.1 86)) (C := RX12) (T := TX12) (N := 123) hx hb hts ii_X12 hown hK hP 0 rfl rfl 86 (by decide) (hts (.fieldLink RX12 600 "StoryHouseModel" "playing" "Z") wq_1442) (fun _ h9 => h9) rfl dX12_has__40 ?_
            refine lv_if_eq (tgt := 50) hx hb dX12_has__43 (by decide) (fun c_39 => ?_) (fun c_39 => ?_)
            · have hF_40 := ipos c_39 hF_38
              clear hF_38
              refine lv_iconst (v := 3) hx hb dX12_has__50 (by decide +kernel) ?_
              exact Jj_3 3 σ hF_40 _ _ hP hS ls (lv_sub hl [0, 1, 2] rfl)
            · have hF_41 := ineg c_39 hF_38
              clear hF_38
              refine lv_iconst (v := 0) hx hb dX12_has__46 (by decide +kernel) ?_
              refine lv_goto (tgt := 51) hx hb dX12_has__47 (by decide) ?_
              exact Jj_3 0 σ hF_41 _ _ hP hS ls (lv_sub hl [0, 1, 2] rfl)
          · have hF_42 := ineg c_37 hF_36
            clear hF_36
            exact Jj_31  σ hF_42 _ _ hP hS ls (lv_sub hl [0, 1, 2] rfl)
      · have hF_43 := ineg c_28 hF_27
        clear hF_27
        exact Jj_19  σ hF_43 _ _ hP hS ls (lv_sub hl [0, 1, 2] rfl)
theorem dX12_value_0 : decode cX12_value 0 = .ok (.aload_n 0, 1) := by decide +kernel
theorem dX12_value_1 : decode cX12_value 1 = .ok (.aload_n 0, 1) := by decide +kernel
theorem dX12_value_2 : decode cX12_value 2 = .ok (.getfield 597, 3) := by decide +kernel
theorem dX12_value_5 : decode cX12_value 5 = .ok (.ifCond .eq 15, 3) := by decide +kernel
theorem dX12_value_8 : decode cX12_value 8 = .ok (.iload_n 1, 1) := by decide +kernel
theorem dX12_value_9 : decode cX12_value 9 = .ok (.ifCond .lt 11, 3) := by decide +kernel
theorem dX12_value_12 : decode cX12_value 12 = .ok (.iload_n 1, 1) := by decide +kernel
theorem dX12_value_13 : decode cX12_value 13 = .ok (.aload_n 0, 1) := by decide +kernel
theorem dX12_value_14 : decode cX12_value 14 = .ok (.getfield 606, 3) := by decide +kernel
theorem dX12_value_17 : decode cX12_value 17 = .ok (.if_icmp .lt 7, 3) := by decide +kernel
theorem dX12_value_20 : decode cX12_value 20 = .ok (.iconst 1, 1) := by decide +kernel
theorem dX12_value_21 : decode cX12_value 21 = .ok (.goto 15, 3) := by decide +kernel
theorem dX12_value_24 : decode cX12_value 24 = .ok (.aload_n 0, 1) := by decide +kernel
theorem dX12_value_25 : decode cX12_value 25 = .ok (.getfield 600, 3) := by decide +kernel
theorem dX12_value_28 : decode cX12_value 28 = .ok (.ifCond .eq 7, 3) := by decide +kernel
theorem dX12_value_31 : decode cX12_value 31 = .ok (.iconst 0, 1) := by decide +kernel
theorem dX12_value_32 : decode cX12_value 32 = .ok (.goto 4, 3) := by decide +kernel
theorem dX12_value_35 : decode cX12_value 35 = .ok (.iconst 2, 1) := by decide +kernel
theorem dX12_value_36 : decode cX12_value 36 = .ok (.invokevirtual 562, 3) := by decide +kernel
theorem dX12_value_39 : decode cX12_value 39 = .ok (.ifCond .eq 7, 3) := by decide +kernel
theorem dX12_value_42 : decode cX12_value 42 = .ok (.iconst 0, 1) := by decide +kernel
theorem dX12_value_43 : decode cX12_value 43 = .ok (.goto 9, 3) := by decide +kernel
theorem dX12_value_46 : decode cX12_value 46 = .ok (.aload_n 0, 1) := by decide +kernel
theorem dX12_value_47 : decode cX12_value 47 = .ok (.getfield 194, 3) := by decide +kernel
theorem dX12_value_50 : decode cX12_value 50 = .ok (.iload_n 1, 1) := by decide +kernel
theorem dX12_value_51 : decode cX12_value 51 = .ok (.iaload, 1) := by decide +kernel
theorem dX12_value_52 : decode cX12_value 52 = .ok (.ireturn, 1) := by decide +kernel
def F_X12_value (p0 : Int32) (σ : MS) : MR :=
  bnd (fun (t_1 : Int32) (σ_2 : MS) => (
    (F_X12_refuses t_1 σ_2).bind fun u_6 =>
    if u_6.1 = 0 then (
      if p0 < 0 ∨ 100 ≤ p0.toNatClampNeg then none else
      some ((u_6.2.2 91 p0.toNatClampNeg), u_6.2)
    ) else (
      some (0, u_6.2)
    )
  ) : Int32 → MS → MR) fun j_3 =>
  bnd (fun  (σ_13 : MS) => (
    j_3 1 σ_13
  ) : MS → MR) fun j_14 =>
  if (σ.1 44) = 0 then (
    j_14  σ
  ) else (
    if p0 < 0 then (
      j_14  σ
    ) else (
      if p0 < (σ.1 80) then (
        if (σ.1 86) = 0 then (
          j_3 2 σ
        ) else (
          j_3 0 σ
        )
      ) else (
        j_14  σ
      )
    )
  )
set_option maxHeartbeats 4000000 in
set_option maxRecDepth 100000 in
theorem m_X12_value (l : Launch) (dC : Nat → ClassId) (dI : Nat → Nat → Nat) (cB cC cI cJ cZ cP : ClassId) (h qK qS : Nat) (ad : Nat → Nat) (hDD : mDis cB cI cZ h qK qS ad) (sz : Nat)  (p0 : Int32) (σ : MS) (res : Int32 × MS) (hF : F_X12_value p0 σ = some res) : Met l yX12_value (g_ws yX12_value cX12_value 2 (some .int)) ({ frames := 2, cells := 0, slots := 0, locals := 61 }) (va_Pc [.ref h, .int p0] (m_B (dC, dI) [(cB, .byte), (cC, .char), (cI, .int), (cJ, .long), (cZ, .boolean), (cP, .object "StoryHouse$Play")] sz h ad qK qS (mW cB cI cZ h qK qS ad σ) g_0)) (va_Qi (fun r (_ : Unit) => r = res.1) (fun _ t => va_P (dC, dI) vwCl (mW cB cI cZ h qK qS ad res.2) t.heap) (mCells h ad sz)) 0 0 (mCells h ad sz) := by
  refine Met.ofW (cc := cX12_value) (maxL := 2) (ret := (some .int)) (by decide) rfl ?_
  intro p e s m args below meth c s₁ B hml hv
  obtain ⟨rfl, hsz, hP, hK, hE, hKS, hX⟩ := hv
  have hx := B.exec
  have hb := B.bytes
  have hr := B.returns
  have hts0 := atoms_spec (ws := g_ws yX12_value cX12_value 2 (some .int)) B.pre
  have hts : ∀ w ∈ lw_good, w.before ([.ref h, .int p0] : List Value).toArray s = true := fun w z => hts0 w (List.mem_cons_of_mem _ z)
  have hown : s.vm.findClass RX12 = some m.cls := findClass_of_methodNamed B.named
  have hlocks := B.notSynchronized
  have hS : va_S (mCells h ad sz) s.heap s.heap [] := va_S.rf
  have hl := lv_entry ([.ref h, .int p0]) (n := 2) (Nat.le_of_ble_eq_true rfl)
  rw [lg_entry_eq]
  generalize (lg_sl ([.ref h, .int p0]) ++ List.replicate (2 - (lg_sl ([.ref h, .int p0])).length) Slot.unset).toArray = ls at hl ⊢
  have hl : lv_has ls 2 [(0, .ref h), (1, .int p0)] := hl
  unfold F_X12_value at hF
  refine lv_aload_n hx hb dX12_value_0 rfl (lv_at hl 0 rfl) ?_
  refine lv_aload_n hx hb dX12_value_1 rfl (lv_at hl 0 rfl) ?_
  refine va_get (D := (dC, dI)) (ci := 12) (v := .int (σ.1 44)) (C := RX12) (T := TX12) (N := 123) hx hb hts ii_X12 hown hK hP 0 rfl rfl 44 (by decide) (hts (.fieldLink RX12 597 "StoryHouseModel" "built" "Z") wq_1400) (fun _ h9 => h9) rfl dX12_value_2 ?_
  obtain ⟨j_3, ej_3, hF_4⟩ := bnd_e hF
  clear hF
  have Jj_3 : ∀ (t_1 : Int32) (σ_2 : MS), j_3 t_1 σ_2 = some res → ∀ (H : Heap) (locs : List Loc), va_P (dC, dI) vwCl (mW cB cI cZ h qK qS ad σ_2) H → va_S (mCells h ad sz) s.heap H locs → ∀ ls : Array Slot, lv_has ls 2 [(0, .ref h), (1, .int p0)] → W p l e (headSpec (g_ws yX12_value cX12_value 2 (some .int)) { frames := 2, cells := 0, slots := 0, locals := 61 }).room s m ([.ref h, .int p0] : List Value).toArray below meth c H locs 0 0 (MQ below (va_Qi (fun r (_ : Unit) => r = res.1) (fun _ t => va_P (dC, dI) vwCl (mW cB cI cZ h qK qS ad res.2) t.heap) (mCells h ad sz)) ([.ref h, .int p0] : List Value).toArray s 0 0 (mCells h ad sz)) (F0 m 36 ls [.int t_1, .ref h]) := by
    intro t_1 σ_2 hF0 H locs hP hS ls hl
    subst ej_3
    have hF_5 := hF0
    clear hF0
    obtain ⟨u_6, hu_6, hF_7⟩ := Option.bind_eq_some_iff.mp hF_5
    clear hF_5
    refine m_ci hsz hS (va_runV (As := [.int t_1]) (rest := []) ⟨hx, hb, hml, hown, hts⟩ (m_X12_refuses l dC dI cB cC cI cJ cZ cP h qK qS ad hDD H.size  t_1 σ_2 _ hu_6) (cwV 1 hts (g_gV wq_1487 wq_1488 wq_2113 wq_13 wq_1489) rfl rfl rfl (by decide +kernel) ⟨Nat.le_of_ble_eq_true rfl, Nat.le_of_ble_eq_true rfl⟩) (m_preV g_bl0 hsz hK hP hS hE hKS g_to0) rfl rfl hl.1 rfl (lv_room (Nat.le_of_ble_eq_true rfl)) dX12_value_36 ⟨Nat.le_of_ble_eq_true rfl, Nat.le_of_ble_eq_true rfl⟩) (fun H locs hP hS => ?_)
    refine lv_if_eq (tgt := 46) hx hb dX12_value_39 (by decide) (fun c_8 => ?_) (fun c_8 => ?_)
    · have hF_9 := ipos c_8 hF_7
      clear hF_7
      refine lv_aload_n hx hb dX12_value_46 rfl (lv_at hl 0 rfl) ?_
      refine va_get (D := (dC, dI)) (ci := 12) (v := .ref (ad 91)) (C := RX12) (T := TX12) (N := 123) hx hb hts ii_X12 hown hK hP 0 rfl rfl 91 (by decide) (hts (.fieldLink RX12 194 "StoryHouseModel" "values" "[I") wq_1447) (fun _ h9 => h9) rfl dX12_value_47 ?_
      refine lv_iload_n hx hb dX12_value_50 rfl (lv_at hl 1 rfl) ?_
      obtain ⟨g_10, hF_11⟩ := nif_e hF_9
      clear hF_9
      refine va_iald (f := u_6.2.2 91) hx hb hK hP 56 2 rfl rfl g_10 dX12_value_51 ?_
      have h9 := Option.some.inj hF_11
      subst h9
      exact W.iret (v := (u_6.2.2 91 p0.toNatClampNeg)) hx hb hr (fun t ht hW => ⟨⟨(u_6.2.2 91 p0.toNatClampNeg), (), rfl, rfl, m_end ht hP⟩, hS.F ht⟩) hS.2.2 dX12_value_52
    · have hF_12 := ineg c_8 hF_7
      clear hF_7
      refine lv_iconst (v := 0) hx hb dX12_value_42 (by decide +kernel) ?_
      refine lv_goto (tgt := 52) hx hb dX12_value_43 (by decide) ?_
      have h9 := Option.some.inj hF_12
      subst h9
      exact W.iret (v := 0) hx hb hr (fun t ht hW => ⟨⟨0, (), rfl, rfl, m_end ht hP⟩, hS.F ht⟩) hS.2.2 dX12_value_52
  obtain ⟨j_14, ej_14, hF_15⟩ := bnd_e hF_4
  clear hF_4
  have Jj_14 : ∀  (σ_13 : MS), j_14  σ_13 = some res → ∀ (H : Heap) (locs : List Loc), va_P (dC, dI) vwCl (mW cB cI cZ h qK qS ad σ_13) H → va_S (mCells h ad sz) s.heap H locs → ∀ ls : Array Slot, lv_has ls 2 [(0, .ref h), (1, .int p0)] → W p l e (headSpec (g_ws yX12_value cX12_value 2 (some .int)) { frames := 2, cells := 0, slots := 0, locals := 61 }).room s m ([.ref h, .int p0] : List Value).toArray below meth c H locs 0 0 (MQ below (va_Qi (fun r (_ : Unit) => r = res.1) (fun _ t => va_P (dC, dI) vwCl (mW cB cI cZ h qK qS ad res.2) t.heap) (mCells h ad sz)) ([.ref h, .int p0] : List Value).toArray s 0 0 (mCells h ad sz)) (F0 m 20 ls [.ref h]) := by
    intro  σ_13 hF0 H locs hP hS ls hl
    subst ej_14
    have hF_16 := hF0
    clear hF0
    refine lv_iconst (v := 1) hx hb dX12_value_20 (by decide +kernel) ?_
    refine lv_goto (tgt := 36) hx hb dX12_value_21 (by decide) ?_
    exact Jj_3 1 σ_13 hF_16 _ _ hP hS ls (lv_sub hl [0, 1] rfl)
  refine lv_if_eq (tgt := 20) hx hb dX12_value_5 (by decide) (fun c_17 => ?_) (fun c_17 => ?_)
  · have hF_18 := ipos c_17 hF_15
    clear hF_15
    exact Jj_14  σ hF_18 _ _ hP hS ls (lv_sub hl [0, 1] rfl)
  · have hF_19 := ineg c_17 hF_15
    clear hF_15
    refine lv_iload_n hx hb dX12_value_8 rfl (lv_at hl 1 rfl) ?_
    refine lv_if_lt (tgt := 20) hx hb dX12_value_9 (by decide) (fun c_20 => ?_) (fun c_20 => ?_)
    · have hF_21 := ipos c_20 hF_19
      clear hF_19
      exact Jj_14  σ hF_21 _ _ hP hS ls (lv_sub hl [0, 1] rfl)
    · have hF_22 := ineg c_20 hF_19
      clear hF_19
      refine lv_iload_n hx hb dX12_value_12 rfl (lv_at hl 1 rfl) ?_
      refine lv_aload_n hx hb dX12_value_13 rfl (lv_at hl 0 rfl) ?_
      refine va_get (D := (dC, dI)) (ci := 12) (v := .int (σ.1 80)) (C := RX12) (T := TX12) (N := 123) hx hb hts ii_X12 hown hK hP 0 rfl rfl 80 (by decide) (hts (.fieldLink RX12 606 "StoryHouseModel" "nVars" "I") wq_1436) (fun _ h9 => h9) rfl dX12_value_14 ?_
      refine lv_icmp_lt (tgt := 24) hx hb dX12_value_17 (by decide) (fun c_23 => ?_) (fun c_23 => ?_)
      · have hF_24 := ipos c_23 hF_22
        clear hF_22
        refine lv_aload_n hx hb dX12_value_24 rfl (lv_at hl 0 rfl) ?_
        refine va_get (D := (dC, dI)) (ci := 12) (v := .int (σ.1 86)) (C := RX12) (T := TX12) (N := 123) hx hb hts ii_X12 hown hK hP 0 rfl rfl 86 (by decide) (hts (.fieldLink RX12 600 "StoryHouseModel" "playing" "Z") wq_1442) (fun _ h9 => h9) rfl dX12_value_25 ?_
        refine lv_if_eq (tgt := 35) hx hb dX12_value_28 (by decide) (fun c_25 => ?_) (fun c_25 => ?_)
        · have hF_26 := ipos c_25 hF_24
          clear hF_24
          refine lv_iconst (v := 2) hx hb dX12_value_35 (by decide +kernel) ?_
          exact Jj_3 2 σ hF_26 _ _ hP hS ls (lv_sub hl [0, 1] rfl)
        · have hF_27 := ineg c_25 hF_24
          clear hF_24
          refine lv_iconst (v := 0) hx hb dX12_value_31 (by decide +kernel) ?_
          refine lv_goto (tgt := 36) hx hb dX12_value_32 (by decide) ?_
          exact Jj_3 0 σ hF_27 _ _ hP hS ls (lv_sub hl [0, 1] rfl)
      · have hF_28 := ineg c_23 hF_22
        clear hF_22
        exact Jj_14  σ hF_28 _ _ hP hS ls (lv_sub hl [0, 1] rfl)
theorem dX12_cell_0 : decode cX12_cell 0 = .ok (.aload_n 0, 1) := by decide +kernel
theorem dX12_cell_1 : decode cX12_cell 1 = .ok (.aload_n 0, 1) := by decide +kernel
theorem dX12_cell_2 : decode cX12_cell 2 = .ok (.getfield 597, 3) := by decide +kernel
theorem dX12_cell_5 : decode cX12_cell 5 = .ok (.ifCond .eq 38, 3) := by decide +kernel
theorem dX12_cell_8 : decode cX12_cell 8 = .ok (.iload_n 1, 1) := by decide +kernel
theorem dX12_cell_9 : decode cX12_cell 9 = .ok (.ifCond .lt 34, 3) := by decide +kernel
theorem dX12_cell_12 : decode cX12_cell 12 = .ok (.iload_n 1, 1) := by decide +kernel
theorem dX12_cell_13 : decode cX12_cell 13 = .ok (.aload_n 0, 1) := by decide +kernel
theorem dX12_cell_14 : decode cX12_cell 14 = .ok (.getfield 609, 3) := by decide +kernel
theorem dX12_cell_17 : decode cX12_cell 17 = .ok (.if_icmp .ge 26, 3) := by decide +kernel
theorem dX12_cell_20 : decode cX12_cell 20 = .ok (.iload_n 2, 1) := by decide +kernel
theorem dX12_cell_21 : decode cX12_cell 21 = .ok (.ifCond .lt 22, 3) := by decide +kernel
theorem dX12_cell_24 : decode cX12_cell 24 = .ok (.iload_n 2, 1) := by decide +kernel
theorem dX12_cell_25 : decode cX12_cell 25 = .ok (.aload_n 0, 1) := by decide +kernel
theorem dX12_cell_26 : decode cX12_cell 26 = .ok (.getfield 176, 3) := by decide +kernel
theorem dX12_cell_29 : decode cX12_cell 29 = .ok (.iload_n 1, 1) := by decide +kernel
theorem dX12_cell_30 : decode cX12_cell 30 = .ok (.iconst 1, 1) := by decide +kernel
theorem dX12_cell_31 : decode cX12_cell 31 = .ok (.iadd, 1) := by decide +kernel
theorem dX12_cell_32 : decode cX12_cell 32 = .ok (.iaload, 1) := by decide +kernel
theorem dX12_cell_33 : decode cX12_cell 33 = .ok (.aload_n 0, 1) := by decide +kernel
theorem dX12_cell_34 : decode cX12_cell 34 = .ok (.getfield 176, 3) := by decide +kernel
theorem dX12_cell_37 : decode cX12_cell 37 = .ok (.iload_n 1, 1) := by decide +kernel
theorem dX12_cell_38 : decode cX12_cell 38 = .ok (.iaload, 1) := by decide +kernel
theorem dX12_cell_39 : decode cX12_cell 39 = .ok (.isub, 1) := by decide +kernel
theorem dX12_cell_40 : decode cX12_cell 40 = .ok (.if_icmp .lt 7, 3) := by decide +kernel
theorem dX12_cell_43 : decode cX12_cell 43 = .ok (.iconst 1, 1) := by decide +kernel
theorem dX12_cell_44 : decode cX12_cell 44 = .ok (.goto 15, 3) := by decide +kernel
theorem dX12_cell_47 : decode cX12_cell 47 = .ok (.aload_n 0, 1) := by decide +kernel
theorem dX12_cell_48 : decode cX12_cell 48 = .ok (.getfield 600, 3) := by decide +kernel
theorem dX12_cell_51 : decode cX12_cell 51 = .ok (.ifCond .eq 7, 3) := by decide +kernel
theorem dX12_cell_54 : decode cX12_cell 54 = .ok (.iconst 0, 1) := by decide +kernel
theorem dX12_cell_55 : decode cX12_cell 55 = .ok (.goto 4, 3) := by decide +kernel
theorem dX12_cell_58 : decode cX12_cell 58 = .ok (.iconst 2, 1) := by decide +kernel
theorem dX12_cell_59 : decode cX12_cell 59 = .ok (.invokevirtual 562, 3) := by decide +kernel
theorem dX12_cell_62 : decode cX12_cell 62 = .ok (.ifCond .eq 7, 3) := by decide +kernel
theorem dX12_cell_65 : decode cX12_cell 65 = .ok (.iconst 0, 1) := by decide +kernel
theorem dX12_cell_66 : decode cX12_cell 66 = .ok (.goto 16, 3) := by decide +kernel
theorem dX12_cell_69 : decode cX12_cell 69 = .ok (.aload_n 0, 1) := by decide +kernel
theorem dX12_cell_70 : decode cX12_cell 70 = .ok (.getfield 197, 3) := by decide +kernel
theorem dX12_cell_73 : decode cX12_cell 73 = .ok (.aload_n 0, 1) := by decide +kernel
theorem dX12_cell_74 : decode cX12_cell 74 = .ok (.getfield 176, 3) := by decide +kernel
theorem dX12_cell_77 : decode cX12_cell 77 = .ok (.iload_n 1, 1) := by decide +kernel
theorem dX12_cell_78 : decode cX12_cell 78 = .ok (.iaload, 1) := by decide +kernel
theorem dX12_cell_79 : decode cX12_cell 79 = .ok (.iload_n 2, 1) := by decide +kernel
theorem dX12_cell_80 : decode cX12_cell 80 = .ok (.iadd, 1) := by decide +kernel
theorem dX12_cell_81 : decode cX12_cell 81 = .ok (.iaload, 1) := by decide +kernel
theorem dX12_cell_82 : decode cX12_cell 82 = .ok (.ireturn, 1) := by decide +kernel
def F_X12_cell (p0 : Int32) (p1 : Int32) (σ : MS) : MR :=
  bnd (fun (t_1 : Int32) (σ_2 : MS) => (
    (F_X12_refuses t_1 σ_2).bind fun u_6 =>
    if u_6.1 = 0 then (
      if p0 < 0 ∨ 21 ≤ p0.toNatClampNeg then none else
      bnd (((u_6.2.2 77 p0.toNatClampNeg) + p1)) fun (x_12 : Int32) =>
      if x_12 < 0 ∨ 1000 ≤ x_12.toNatClampNeg then none else
      some ((u_6.2.2 92 x_12.toNatClampNeg), u_6.2)
    ) else (
      some (0, u_6.2)
    )
  ) : Int32 → MS → MR) fun j_3 =>
  bnd (fun  (σ_17 : MS) => (
    j_3 1 σ_17
  ) : MS → MR) fun j_18 =>
  if (σ.1 44) = 0 then (
    j_18  σ
  ) else (
    if p0 < 0 then (
      j_18  σ
    ) else (
      if (σ.1 81) ≤ p0 then (
        j_18  σ
      ) else (
        if p1 < 0 then (
          j_18  σ
        ) else (
          bnd ((p0 + 1)) fun (x_33 : Int32) =>
          if x_33 < 0 ∨ 21 ≤ x_33.toNatClampNeg then none else
          if p0 < 0 ∨ 21 ≤ p0.toNatClampNeg then none else
          bnd (((σ.2 77 x_33.toNatClampNeg) - (σ.2 77 p0.toNatClampNeg))) fun (x_39 : Int32) =>
          if p1 < x_39 then (
            if (σ.1 86) = 0 then (
              j_3 2 σ
            ) else (
              j_3 0 σ
            )
          ) else (
            j_18  σ
          )
        )
      )
    )
  )
set_option maxHeartbeats 4000000 in
set_option maxRecDepth 100000 in
theorem m_X12_cell (l : Launch) (dC : Nat → ClassId) (dI : Nat → Nat → Nat) (cB cC cI cJ cZ cP : ClassId) (h qK qS : Nat) (ad : Nat → Nat) (hDD : mDis cB cI cZ h qK qS ad) (sz : Nat)  (p0 : Int32) (p1 : Int32) (σ : MS) (res : Int32 × MS) (hF : F_X12_cell p0 p1 σ = some res) : Met l yX12_cell (g_ws yX12_cell cX12_cell 3 (some .int)) ({ frames := 2, cells := 0, slots := 0, locals := 61 }) (va_Pc [.ref h, .int p0, .int p1] (m_B (dC, dI) [(cB, .byte), (cC, .char), (cI, .int), (cJ, .long), (cZ, .boolean), (cP, .object "StoryHouse$Play")] sz h ad qK qS (mW cB cI cZ h qK qS ad σ) g_0)) (va_Qi (fun r (_ : Unit) => r = res.1) (fun _ t => va_P (dC, dI) vwCl (mW cB cI cZ h qK qS ad res.2) t.heap) (mCells h ad sz)) 0 0 (mCells h ad sz) := by
  refine Met.ofW (cc := cX12_cell) (maxL := 3) (ret := (some .int)) (by decide) rfl ?_
  intro p e s m args below meth c s₁ B hml hv
  obtain ⟨rfl, hsz, hP, hK, hE, hKS, hX⟩ := hv
  have hx := B.exec
  have hb := B.bytes
  have hr := B.returns
  have hts0 := atoms_spec (ws := g_ws yX12_cell cX12_cell 3 (some .int)) B.pre
  have hts : ∀ w ∈ lw_good, w.before ([.ref h, .int p0, .int p1] : List Value).toArray s = true := fun w z => hts0 w (List.mem_cons_of_mem _ z)
  have hown : s.vm.findClass RX12 = some m.cls := findClass_of_methodNamed B.named
  have hlocks := B.notSynchronized
  have hS : va_S (mCells h ad sz) s.heap s.heap [] := va_S.rf
  have hl := lv_entry ([.ref h, .int p0, .int p1]) (n := 3) (Nat.le_of_ble_eq_true rfl)
  rw [lg_entry_eq]
  generalize (lg_sl ([.ref h, .int p0, .int p1]) ++ List.replicate (3 - (lg_sl ([.ref h, .int p0, .int p1])).length) Slot.unset).toArray = ls at hl ⊢
  have hl : lv_has ls 3 [(0, .ref h), (1, .int p0), (2, .int p1)] := hl
  unfold F_X12_cell at hF
  refine lv_aload_n hx hb dX12_cell_0 rfl (lv_at hl 0 rfl) ?_
  refine lv_aload_n hx hb dX12_cell_1 rfl (lv_at hl 0 rfl) ?_
  refine va_get (D := (dC, dI)) (ci := 12) (v := .int (σ.1 44)) (C := RX12) (T := TX12) (N := 123) hx hb hts ii_X12 hown hK hP 0 rfl rfl 44 (by decide) (hts (.fieldLink RX12 597 "StoryHouseModel" "built" "Z") wq_1400) (fun _ h9 => h9) rfl dX12_cell_2 ?_
  obtain ⟨j_3, ej_3, hF_4⟩ := bnd_e hF
  clear hF
  have Jj_3 : ∀ (t_1 : Int32) (σ_2 : MS), j_3 t_1 σ_2 = some res → ∀ (H : Heap) (locs : List Loc), va_P (dC, dI) vwCl (mW cB cI cZ h qK qS ad σ_2) H → va_S (mCells h ad sz) s.heap H locs → ∀ ls : Array Slot, lv_has ls 3 [(0, .ref h), (1, .int p0), (2, .int p1)] → W p l e (headSpec (g_ws yX12_cell cX12_cell 3 (some .int)) { frames := 2, cells := 0, slots := 0, locals := 61 }).room s m ([.ref h, .int p0, .int p1] : List Value).toArray below meth c H locs 0 0 (MQ below (va_Qi (fun r (_ : Unit) => r = res.1) (fun _ t => va_P (dC, dI) vwCl (mW cB cI cZ h qK qS ad res.2) t.heap) (mCells h ad sz)) ([.ref h, .int p0, .int p1] : List Value).toArray s 0 0 (mCells h ad sz)) (F0 m 59 ls [.int t_1, .ref h]) := by
    intro t_1 σ_2 hF0 H locs hP hS ls hl
    subst ej_3
    have hF_5 := hF0
    clear hF0
    obtain ⟨u_6, hu_6, hF_7⟩ := Option.bind_eq_some_iff.mp hF_5
    clear hF_5
    refine m_ci hsz hS (va_runV (As := [.int t_1]) (rest := []) ⟨hx, hb, hml, hown, hts⟩ (m_X12_refuses l dC dI cB cC cI cJ cZ cP h qK qS ad hDD H.size  t_1 σ_2 _ hu_6) (cwV 1 hts (g_gV wq_1487 wq_1488 wq_2113 wq_13 wq_1489) rfl rfl rfl (by decide +kernel) ⟨Nat.le_of_ble_eq_true rfl, Nat.le_of_ble_eq_true rfl⟩) (m_preV g_bl0 hsz hK hP hS hE hKS g_to0) rfl rfl hl.1 rfl (lv_room (Nat.le_of_ble_eq_true rfl)) dX12_cell_59 ⟨Nat.le_of_ble_eq_true rfl, Nat.le_of_ble_eq_true rfl⟩) (fun H locs hP hS => ?_)
    refine lv_if_eq (tgt := 69) hx hb dX12_cell_62 (by decide) (fun c_8 => ?_) (fun c_8 => ?_)
    · have hF_9 := ipos c_8 hF_7
      clear hF_7
      refine lv_aload_n hx hb dX12_cell_69 rfl (lv_at hl 0 rfl) ?_
      refine va_get (D := (dC, dI)) (ci := 12) (v := .ref (ad 92)) (C := RX12) (T := TX12) (N := 123) hx hb hts ii_X12 hown hK hP 0 rfl rfl 92 (by decide) (hts (.fieldLink RX12 197 "StoryHouseModel" "room" "[I") wq_1448) (fun _ h9 => h9) rfl dX12_cell_70 ?_
      refine lv_aload_n hx hb dX12_cell_73 rfl (lv_at hl 0 rfl) ?_
      refine va_get (D := (dC, dI)) (ci := 12) (v := .ref (ad 77)) (C := RX12) (T := TX12) (N := 123) hx hb hts ii_X12 hown hK hP 0 rfl rfl 77 (by decide) (hts (.fieldLink RX12 176 "StoryHouseModel" "arrayAt" "[I") wq_1433) (fun _ h9 => h9) rfl dX12_cell_74 ?_
      refine lv_iload_n hx hb dX12_cell_77 rfl (lv_at hl 1 rfl) ?_
      obtain ⟨g_10, hF_11⟩ := nif_e hF_9
      clear hF_9
      refine va_iald (f := u_6.2.2 77) hx hb hK hP 50 2 rfl rfl g_10 dX12_cell_78 ?_
      refine lv_iload_n hx hb dX12_cell_79 rfl (lv_at hl 2 rfl) ?_
      refine lv_iadd hx hb dX12_cell_80 ?_
      obtain ⟨x_12, ex_12, hF_13⟩ := bnd_e hF_11
      clear hF_11
      refine m_top ex_12 ?_
      obtain ⟨g_14, hF_15⟩ := nif_e hF_13
      clear hF_13
      refine va_iald (f := u_6.2.2 92) hx hb hK hP 57 2 rfl rfl g_14 dX12_cell_81 ?_
      have h9 := Option.some.inj hF_15
      subst h9
      exact W.iret (v := (u_6.2.2 92 x_12.toNatClampNeg)) hx hb hr (fun t ht hW => ⟨⟨(u_6.2.2 92 x_12.toNatClampNeg), (), rfl, rfl, m_end ht hP⟩, hS.F ht⟩) hS.2.2 dX12_cell_82
    · have hF_16 := ineg c_8 hF_7
      clear hF_7
      refine lv_iconst (v := 0) hx hb dX12_cell_65 (by decide +kernel) ?_
      refine lv_goto (tgt := 82) hx hb dX12_cell_66 (by decide) ?_
      have h9 := Option.some.inj hF_16
      subst h9
      exact W.iret (v := 0) hx hb hr (fun t ht hW => ⟨⟨0, (), rfl, rfl, m_end ht hP⟩, hS.F ht⟩) hS.2.2 dX12_cell_82
  obtain ⟨j_18, ej_18, hF_19⟩ := bnd_e hF_4
  clear hF_4
  have Jj_18 : ∀  (σ_17 : MS), j_18  σ_17 = some res → ∀ (H : Heap) (locs : List Loc), va_P (dC, dI) vwCl (mW cB cI cZ h qK qS ad σ_17) H → va_S (mCells h ad sz) s.heap H locs → ∀ ls : Array Slot, lv_has ls 3 [(0, .ref h), (1, .int p0), (2, .int p1)] → W p l e (headSpec (g_ws yX12_cell cX12_cell 3 (some .int)) { frames := 2, cells := 0, slots := 0, locals := 61 }).room s m ([.ref h, .int p0, .int p1] : List Value).toArray below meth c H locs 0 0 (MQ below (va_Qi (fun r (_ : Unit) => r = res.1) (fun _ t => va_P (dC, dI) vwCl (mW cB cI cZ h qK qS ad res.2) t.heap) (mCells h ad sz)) ([.ref h, .int p0, .int p1] : List Value).toArray s 0 0 (mCells h ad sz)) (F0 m 43 ls [.ref h]) := by
    intro  σ_17 hF0 H locs hP hS ls hl
    subst ej_18
    have hF_20 := hF0
    clear hF0
    refine lv_iconst (v := 1) hx hb dX12_cell_43 (by decide +kernel) ?_
    refine lv_goto (tgt := 59) hx hb dX12_cell_44 (by decide) ?_
    exact Jj_3 1 σ_17 hF_20 _ _ hP hS ls (lv_sub hl [0, 1, 2] rfl)
  refine lv_if_eq (tgt := 43) hx hb dX12_cell_5 (by decide) (fun c_21 => ?_) (fun c_21 => ?_)
  · have hF_22 := ipos c_21 hF_19
    clear hF_19
    exact Jj_18  σ hF_22 _ _ hP hS ls (lv_sub hl [0, 1, 2] rfl)
  · have hF_23 := ineg c_21 hF_19
    clear hF_19
    refine lv_iload_n hx hb dX12_cell_8 rfl (lv_at hl 1 rfl) ?_
    refine lv_if_lt (tgt := 43) hx hb dX12_cell_9 (by decide) (fun c_24 => ?_) (fun c_24 => ?_)
    · have hF_25 := ipos c_24 hF_23
      clear hF_23
      exact Jj_18  σ hF_25 _ _ hP hS ls (lv_sub hl [0, 1, 2] rfl)
    · have hF_26 := ineg c_24 hF_23
      clear hF_23
      refine lv_iload_n hx hb dX12_cell_12 rfl (lv_at hl 1 rfl) ?_
      refine lv_aload_n hx hb dX12_cell_13 rfl (lv_at hl 0 rfl) ?_
      refine va_get (D := (dC, dI)) (ci := 12) (v := .int (σ.1 81)) (C := RX12) (T := TX12) (N := 123) hx hb hts ii_X12 hown hK hP 0 rfl rfl 81 (by decide) (hts (.fieldLink RX12 609 "StoryHouseModel" "nArrays" "I") wq_1437) (fun _ h9 => h9) rfl dX12_cell_14 ?_
      refine lv_icmp_ge (tgt := 43) hx hb dX12_cell_17 (by decide) (fun c_27 => ?_) (fun c_27 => ?_)
      · have hF_28 := ipos c_27 hF_26
        clear hF_26
        exact Jj_18  σ hF_28 _ _ hP hS ls (lv_sub hl [0, 1, 2] rfl)
      · have hF_29 := ineg c_27 hF_26
        clear hF_26
        refine lv_iload_n hx hb dX12_cell_20 rfl (lv_at hl 2 rfl) ?_
        refine lv_if_lt (tgt := 43) hx hb dX12_cell_21 (by decide) (fun c_30 => ?_) (fun c_30 => ?_)
        · have hF_31 := ipos c_30 hF_29
          clear hF_29
          exact Jj_18  σ hF_31 _ _ hP hS ls (lv_sub hl [0, 1, 2] rfl)
        · have hF_32 := ineg c_30 hF_29
          clear hF_29
          refine lv_iload_n hx hb dX12_cell_24 rfl (lv_at hl 2 rfl) ?_
          refine lv_aload_n hx hb dX12_cell_25 rfl (lv_at hl 0 rfl) ?_
          refine va_get (D := (dC, dI)) (ci := 12) (v := .ref (ad 77)) (C := RX12) (T := TX12) (N := 123) hx hb hts ii_X12 hown hK hP 0 rfl rfl 77 (by decide) (hts (.fieldLink RX12 176 "StoryHouseModel" "arrayAt" "[I") wq_1433) (fun _ h9 => h9) rfl dX12_cell_26 ?_
          refine lv_iload_n hx hb dX12_cell_29 rfl (lv_at hl 1 rfl) ?_
          refine lv_iconst (v := 1) hx hb dX12_cell_30 (by decide +kernel) ?_
          refine lv_iadd hx hb dX12_cell_31 ?_
          obtain ⟨x_33, ex_33, hF_34⟩ := bnd_e hF_32
          clear hF_32
          refine m_top ex_33 ?_
          obtain ⟨g_35, hF_36⟩ := nif_e hF_34
          clear hF_34
          refine va_iald (f := σ.2 77) hx hb hK hP 50 2 rfl rfl g_35 dX12_cell_32 ?_
          refine lv_aload_n hx hb dX12_cell_33 rfl (lv_at hl 0 rfl) ?_
          refine va_get (D := (dC, dI)) (ci := 12) (v := .ref (ad 77)) (C := RX12) (T := TX12) (N := 123) hx hb hts ii_X12 hown hK hP 0 rfl rfl 77 (by decide) (hts (.fieldLink RX12 176 "StoryHouseModel" "arrayAt" "[I") wq_1433) (fun _ h9 => h9) rfl dX12_cell_34 ?_
          refine lv_iload_n hx hb dX12_cell_37 rfl (lv_at hl 1 rfl) ?_
          obtain ⟨g_37, hF_38⟩ := nif_e hF_36
          clear hF_36
          refine va_iald (f := σ.2 77) hx hb hK hP 50 2 rfl rfl g_37 dX12_cell_38 ?_
          refine lv_isub hx hb dX12_cell_39 ?_
          obtain ⟨x_39, ex_39, hF_40⟩ := bnd_e hF_38
          clear hF_38
          refine m_top ex_39 ?_
          refine lv_icmp_lt (tgt := 47) hx hb dX12_cell_40 (by decide) (fun c_41 => ?_) (fun c_41 => ?_)
          · have hF_42 := ipos c_41 hF_40
            clear hF_40
            refine lv_aload_n hx hb dX12_cell_47 rfl (lv_at hl 0 rfl) ?_
            refine va_get (D := (dC, dI)) (ci := 12) (v := .int (σ.1 86)) (C := RX12) (T := TX12) (N := 123) hx hb hts ii_X12 hown hK hP 0 rfl rfl 86 (by decide) (hts (.fieldLink RX12 600 "StoryHouseModel" "playing" "Z") wq_1442) (fun _ h9 => h9) rfl dX12_cell_48 ?_
            refine lv_if_eq (tgt := 58) hx hb dX12_cell_51 (by decide) (fun c_43 => ?_) (fun c_43 => ?_)
            · have hF_44 := ipos c_43 hF_42
              clear hF_42
              refine lv_iconst (v := 2) hx hb dX12_cell_58 (by decide +kernel) ?_
              exact Jj_3 2 σ hF_44 _ _ hP hS ls (lv_sub hl [0, 1, 2] rfl)
            · have hF_45 := ineg c_43 hF_42
              clear hF_42
              refine lv_iconst (v := 0) hx hb dX12_cell_54 (by decide +kernel) ?_
              refine lv_goto (tgt := 59) hx hb dX12_cell_55 (by decide) ?_
              exact Jj_3 0 σ hF_45 _ _ hP hS ls (lv_sub hl [0, 1, 2] rfl)
          · have hF_46 := ineg c_41 hF_40
            clear hF_40
            exact Jj_18  σ hF_46 _ _ hP hS ls (lv_sub hl [0, 1, 2] rfl)
theorem dX12_told_0 : decode cX12_told 0 = .ok (.aload_n 0, 1) := by decide +kernel
theorem dX12_told_1 : decode cX12_told 1 = .ok (.iload_n 1, 1) := by decide +kernel
theorem dX12_told_2 : decode cX12_told 2 = .ok (.ifCond .lt 9, 3) := by decide +kernel
theorem dX12_told_5 : decode cX12_told 5 = .ok (.iload_n 1, 1) := by decide +kernel
theorem dX12_told_6 : decode cX12_told 6 = .ok (.bipush 11, 2) := by decide +kernel
theorem dX12_told_8 : decode cX12_told 8 = .ok (.if_icmp .le 7, 3) := by decide +kernel
theorem dX12_told_11 : decode cX12_told 11 = .ok (.iconst 1, 1) := by decide +kernel
theorem dX12_told_12 : decode cX12_told 12 = .ok (.goto 4, 3) := by decide +kernel
theorem dX12_told_15 : decode cX12_told 15 = .ok (.iconst 0, 1) := by decide +kernel
theorem dX12_told_16 : decode cX12_told 16 = .ok (.invokevirtual 562, 3) := by decide +kernel
theorem dX12_told_19 : decode cX12_told 19 = .ok (.ifCond .ne 23, 3) := by decide +kernel
theorem dX12_told_22 : decode cX12_told 22 = .ok (.aload_n 0, 1) := by decide +kernel
theorem dX12_told_23 : decode cX12_told 23 = .ok (.getfield 597, 3) := by decide +kernel
theorem dX12_told_26 : decode cX12_told 26 = .ok (.ifCond .eq 16, 3) := by decide +kernel
theorem dX12_told_29 : decode cX12_told 29 = .ok (.iload_n 1, 1) := by decide +kernel
theorem dX12_told_30 : decode cX12_told 30 = .ok (.bipush 6, 2) := by decide +kernel
theorem dX12_told_32 : decode cX12_told 32 = .ok (.if_icmp .le 12, 3) := by decide +kernel
theorem dX12_told_35 : decode cX12_told 35 = .ok (.aload_n 0, 1) := by decide +kernel
theorem dX12_told_36 : decode cX12_told 36 = .ok (.getfield 600, 3) := by decide +kernel
theorem dX12_told_39 : decode cX12_told 39 = .ok (.ifCond .ne 5, 3) := by decide +kernel
theorem dX12_told_42 : decode cX12_told 42 = .ok (.iconst 0, 1) := by decide +kernel
theorem dX12_told_43 : decode cX12_told 43 = .ok (.ireturn, 1) := by decide +kernel
theorem dX12_told_44 : decode cX12_told 44 = .ok (.iload_n 1, 1) := by decide +kernel
theorem dX12_told_45 : decode cX12_told 45 = .ok (.tableswitch 114 0 10 #[59, 64, 69, 74, 79, 84, 89, 94, 99, 104, 109], 59) := by decide +kernel
theorem dX12_told_104 : decode cX12_told 104 = .ok (.aload_n 0, 1) := by decide +kernel
theorem dX12_told_105 : decode cX12_told 105 = .ok (.getfield 587, 3) := by decide +kernel
theorem dX12_told_108 : decode cX12_told 108 = .ok (.ireturn, 1) := by decide +kernel
theorem dX12_told_109 : decode cX12_told 109 = .ok (.aload_n 0, 1) := by decide +kernel
theorem dX12_told_110 : decode cX12_told 110 = .ok (.getfield 603, 3) := by decide +kernel
theorem dX12_told_113 : decode cX12_told 113 = .ok (.ireturn, 1) := by decide +kernel
theorem dX12_told_114 : decode cX12_told 114 = .ok (.aload_n 0, 1) := by decide +kernel
theorem dX12_told_115 : decode cX12_told 115 = .ok (.getfield 606, 3) := by decide +kernel
theorem dX12_told_118 : decode cX12_told 118 = .ok (.ireturn, 1) := by decide +kernel
theorem dX12_told_119 : decode cX12_told 119 = .ok (.aload_n 0, 1) := by decide +kernel
theorem dX12_told_120 : decode cX12_told 120 = .ok (.getfield 609, 3) := by decide +kernel
theorem dX12_told_123 : decode cX12_told 123 = .ok (.ireturn, 1) := by decide +kernel
theorem dX12_told_124 : decode cX12_told 124 = .ok (.aload_n 0, 1) := by decide +kernel
theorem dX12_told_125 : decode cX12_told 125 = .ok (.getfield 612, 3) := by decide +kernel
theorem dX12_told_128 : decode cX12_told 128 = .ok (.ireturn, 1) := by decide +kernel
theorem dX12_told_129 : decode cX12_told 129 = .ok (.aload_n 0, 1) := by decide +kernel
theorem dX12_told_130 : decode cX12_told 130 = .ok (.getfield 615, 3) := by decide +kernel
theorem dX12_told_133 : decode cX12_told 133 = .ok (.ireturn, 1) := by decide +kernel
theorem dX12_told_134 : decode cX12_told 134 = .ok (.aload_n 0, 1) := by decide +kernel
theorem dX12_told_135 : decode cX12_told 135 = .ok (.getfield 618, 3) := by decide +kernel
theorem dX12_told_138 : decode cX12_told 138 = .ok (.ireturn, 1) := by decide +kernel
theorem dX12_told_139 : decode cX12_told 139 = .ok (.aload_n 0, 1) := by decide +kernel
theorem dX12_told_140 : decode cX12_told 140 = .ok (.getfield 660, 3) := by decide +kernel
theorem dX12_told_143 : decode cX12_told 143 = .ok (.ireturn, 1) := by decide +kernel
theorem dX12_told_144 : decode cX12_told 144 = .ok (.aload_n 0, 1) := by decide +kernel
theorem dX12_told_145 : decode cX12_told 145 = .ok (.getfield 663, 3) := by decide +kernel
theorem dX12_told_148 : decode cX12_told 148 = .ok (.ireturn, 1) := by decide +kernel
theorem dX12_told_149 : decode cX12_told 149 = .ok (.aload_n 0, 1) := by decide +kernel
theorem dX12_told_150 : decode cX12_told 150 = .ok (.getfield 665, 3) := by decide +kernel
theorem dX12_told_153 : decode cX12_told 153 = .ok (.ireturn, 1) := by decide +kernel
theorem dX12_told_154 : decode cX12_told 154 = .ok (.aload_n 0, 1) := by decide +kernel
theorem dX12_told_155 : decode cX12_told 155 = .ok (.getfield 786, 3) := by decide +kernel
theorem dX12_told_158 : decode cX12_told 158 = .ok (.ireturn, 1) := by decide +kernel
theorem dX12_told_159 : decode cX12_told 159 = .ok (.aload_n 0, 1) := by decide +kernel
theorem dX12_told_160 : decode cX12_told 160 = .ok (.getfield 657, 3) := by decide +kernel
theorem dX12_told_163 : decode cX12_told 163 = .ok (.ireturn, 1) := by decide +kernel
def F_X12_told (p0 : Int32) (σ : MS) : MR :=
  bnd (fun (t_1 : Int32) (σ_2 : MS) => (
    (F_X12_refuses t_1 σ_2).bind fun u_6 =>
    if u_6.1 = 0 then (
      if (u_6.2.1 44) = 0 then (
        some (0, u_6.2)
      ) else (
        bnd (fun  (σ_13 : MS) => (
          if p0 = 0 then (
            some ((σ_13.1 78), σ_13)
          ) else
          if p0 = 1 then (
            some ((σ_13.1 79), σ_13)
          ) else
          if p0 = 2 then (
            some ((σ_13.1 80), σ_13)
          ) else
          if p0 = 3 then (
            some ((σ_13.1 81), σ_13)
          ) else
          if p0 = 4 then (
            some ((σ_13.1 82), σ_13)
          ) else
          if p0 = 5 then (
            some ((σ_13.1 83), σ_13)
          ) else
          if p0 = 6 then (
            some ((σ_13.1 84), σ_13)
          ) else
          if p0 = 7 then (
            some ((σ_13.1 94), σ_13)
          ) else
          if p0 = 8 then (
            some ((σ_13.1 95), σ_13)
          ) else
          if p0 = 9 then (
            some ((σ_13.1 96), σ_13)
          ) else
          if p0 = 10 then (
            some ((σ_13.1 101), σ_13)
          ) else
          (
            some ((σ_13.1 93), σ_13)
          )
        ) : MS → MR) fun j_14 =>
        if p0 ≤ 6 then (
          j_14  u_6.2
        ) else (
          if (u_6.2.1 86) = 0 then (
            some (0, u_6.2)
          ) else (
            j_14  u_6.2
          )
        )
      )
    ) else (
      some (0, u_6.2)
    )
  ) : Int32 → MS → MR) fun j_3 =>
  bnd (fun  (σ_57 : MS) => (
    j_3 1 σ_57
  ) : MS → MR) fun j_58 =>
  if p0 < 0 then (
    j_58  σ
  ) else (
    if p0 ≤ 11 then (
      j_3 0 σ
    ) else (
      j_58  σ
    )
  )
set_option maxHeartbeats 4000000 in
set_option maxRecDepth 100000 in
theorem m_X12_told (l : Launch) (dC : Nat → ClassId) (dI : Nat → Nat → Nat) (cB cC cI cJ cZ cP : ClassId) (h qK qS : Nat) (ad : Nat → Nat) (hDD : mDis cB cI cZ h qK qS ad) (sz : Nat)  (p0 : Int32) (σ : MS) (res : Int32 × MS) (hF : F_X12_told p0 σ = some res) : Met l yX12_told (g_ws yX12_told cX12_told 2 (some .int)) ({ frames := 2, cells := 0, slots := 0, locals := 61 }) (va_Pc [.ref h, .int p0] (m_B (dC, dI) [(cB, .byte), (cC, .char), (cI, .int), (cJ, .long), (cZ, .boolean), (cP, .object "StoryHouse$Play")] sz h ad qK qS (mW cB cI cZ h qK qS ad σ) g_0)) (va_Qi (fun r (_ : Unit) => r = res.1) (fun _ t => va_P (dC, dI) vwCl (mW cB cI cZ h qK qS ad res.2) t.heap) (mCells h ad sz)) 0 0 (mCells h ad sz) := by
  refine Met.ofW (cc := cX12_told) (maxL := 2) (ret := (some .int)) (by decide) rfl ?_
  intro p e s m args below meth c s₁ B hml hv
  obtain ⟨rfl, hsz, hP, hK, hE, hKS, hX⟩ := hv
  have hx := B.exec
  have hb := B.bytes
  have hr := B.returns
  have hts0 := atoms_spec (ws := g_ws yX12_told cX12_told 2 (some .int)) B.pre
  have hts : ∀ w ∈ lw_good, w.before ([.ref h, .int p0] : List Value).toArray s = true := fun w z => hts0 w (List.mem_cons_of_mem _ z)
  have hown : s.vm.findClass RX12 = some m.cls := findClass_of_methodNamed B.named
  have hlocks := B.notSynchronized
  have hS : va_S (mCells h ad sz) s.heap s.heap [] := va_S.rf
  have hl := lv_entry ([.ref h, .int p0]) (n := 2) (Nat.le_of_ble_eq_true rfl)
  rw [lg_entry_eq]
  generalize (lg_sl ([.ref h, .int p0]) ++ List.replicate (2 - (lg_sl ([.ref h, .int p0])).length) Slot.unset).toArray = ls at hl ⊢
  have hl : lv_has ls 2 [(0, .ref h), (1, .int p0)] := hl
  unfold F_X12_told at hF
  refine lv_aload_n hx hb dX12_told_0 rfl (lv_at hl 0 rfl) ?_
  refine lv_iload_n hx hb dX12_told_1 rfl (lv_at hl 1 rfl) ?_
  obtain ⟨j_3, ej_3, hF_4⟩ := bnd_e hF
  clear hF
  have Jj_3 : ∀ (t_1 : Int32) (σ_2 : MS), j_3 t_1 σ_2 = some res → ∀ (H : Heap) (locs : List Loc), va_P (dC, dI) vwCl (mW cB cI cZ h qK qS ad σ_2) H → va_S (mCells h ad sz) s.heap H locs → ∀ ls : Array Slot, lv_has ls 2 [(0, .ref h), (1, .int p0)] → W p l e (headSpec (g_ws yX12_told cX12_told 2 (some .int)) { frames := 2, cells := 0, slots := 0, locals := 61 }).room s m ([.ref h, .int p0] : List Value).toArray below meth c H locs 0 0 (MQ below (va_Qi (fun r (_ : Unit) => r = res.1) (fun _ t => va_P (dC, dI) vwCl (mW cB cI cZ h qK qS ad res.2) t.heap) (mCells h ad sz)) ([.ref h, .int p0] : List Value).toArray s 0 0 (mCells h ad sz)) (F0 m 16 ls [.int t_1, .ref h]) := by
    intro t_1 σ_2 hF0 H locs hP hS ls hl
    subst ej_3
    have hF_5 := hF0
    clear hF0
    obtain ⟨u_6, hu_6, hF_7⟩ := Option.bind_eq_some_iff.mp hF_5
    clear hF_5
    refine m_ci hsz hS (va_runV (As := [.int t_1]) (rest := []) ⟨hx, hb, hml, hown, hts⟩ (m_X12_refuses l dC dI cB cC cI cJ cZ cP h qK qS ad hDD H.size  t_1 σ_2 _ hu_6) (cwV 1 hts (g_gV wq_1487 wq_1488 wq_2113 wq_13 wq_1489) rfl rfl rfl (by decide +kernel) ⟨Nat.le_of_ble_eq_true rfl, Nat.le_of_ble_eq_true rfl⟩) (m_preV g_bl0 hsz hK hP hS hE hKS g_to0) rfl rfl hl.1 rfl (lv_room (Nat.le_of_ble_eq_true rfl)) dX12_told_16 ⟨Nat.le_of_ble_eq_true rfl, Nat.le_of_ble_eq_true rfl⟩) (fun H locs hP hS => ?_)
    refine lv_if_ne (tgt := 42) hx hb dX12_told_19 (by decide) (fun c_8 => ?_) (fun c_8 => ?_)
    · have hF_56 := ineg c_8 hF_7
      clear hF_7
      refine lv_iconst (v := 0) hx hb dX12_told_42 (by decide +kernel) ?_
      have h9 := Option.some.inj hF_56
      subst h9
      exact W.iret (v := 0) hx hb hr (fun t ht hW => ⟨⟨0, (), rfl, rfl, m_end ht hP⟩, hS.F ht⟩) hS.2.2 dX12_told_43
    · have hF_9 := ipos c_8 hF_7
      clear hF_7
      refine lv_aload_n hx hb dX12_told_22 rfl (lv_at hl 0 rfl) ?_
      refine va_get (D := (dC, dI)) (ci := 12) (v := .int (u_6.2.1 44)) (C := RX12) (T := TX12) (N := 123) hx hb hts ii_X12 hown hK hP 0 rfl rfl 44 (by decide) (hts (.fieldLink RX12 597 "StoryHouseModel" "built" "Z") wq_1400) (fun _ h9 => h9) rfl dX12_told_23 ?_
      refine lv_if_eq (tgt := 42) hx hb dX12_told_26 (by decide) (fun c_10 => ?_) (fun c_10 => ?_)
      · have hF_11 := ipos c_10 hF_9
        clear hF_9
        refine lv_iconst (v := 0) hx hb dX12_told_42 (by decide +kernel) ?_
        have h9 := Option.some.inj hF_11
        subst h9
        exact W.iret (v := 0) hx hb hr (fun t ht hW => ⟨⟨0, (), rfl, rfl, m_end ht hP⟩, hS.F ht⟩) hS.2.2 dX12_told_43
      · have hF_12 := ineg c_10 hF_9
        clear hF_9
        refine lv_iload_n hx hb dX12_told_29 rfl (lv_at hl 1 rfl) ?_
        refine lv_bipush (v := 6) hx hb dX12_told_30 (by decide +kernel) ?_
        obtain ⟨j_14, ej_14, hF_15⟩ := bnd_e hF_12
        clear hF_12
        have Jj_14 : ∀  (σ_13 : MS), j_14  σ_13 = some res → ∀ (H : Heap) (locs : List Loc), va_P (dC, dI) vwCl (mW cB cI cZ h qK qS ad σ_13) H → va_S (mCells h ad sz) s.heap H locs → ∀ ls : Array Slot, lv_has ls 2 [(0, .ref h), (1, .int p0)] → W p l e (headSpec (g_ws yX12_told cX12_told 2 (some .int)) { frames := 2, cells := 0, slots := 0, locals := 61 }).room s m ([.ref h, .int p0] : List Value).toArray below meth c H locs 0 0 (MQ below (va_Qi (fun r (_ : Unit) => r = res.1) (fun _ t => va_P (dC, dI) vwCl (mW cB cI cZ h qK qS ad res.2) t.heap) (mCells h ad sz)) ([.ref h, .int p0] : List Value).toArray s 0 0 (mCells h ad sz)) (F0 m 44 ls []) := by
          intro  σ_13 hF0 H locs hP hS ls hl
          subst ej_14
          have hF_16 := hF0
          clear hF0
          refine lv_iload_n hx hb dX12_told_44 rfl (lv_at hl 1 rfl) ?_
          by_cases c_17 : p0 = 0
          · have hF_18 := ipos c_17 hF_16
            clear hF_16
            refine lv_tableIn (off := 59) (tgt := 104) hx hb dX12_told_45 (by rw [c_17]; decide +kernel) (by rw [c_17]; decide +kernel) (by rw [c_17]; decide +kernel) (by decide) ?_
            refine lv_aload_n hx hb dX12_told_104 rfl (lv_at hl 0 rfl) ?_
            refine va_get (D := (dC, dI)) (ci := 12) (v := .int (σ_13.1 78)) (C := RX12) (T := TX12) (N := 123) hx hb hts ii_X12 hown hK hP 0 rfl rfl 78 (by decide) (hts (.fieldLink RX12 587 "StoryHouseModel" "nObjects" "I") wq_1434) (fun _ h9 => h9) rfl dX12_told_105 ?_
            have h9 := Option.some.inj hF_18
            subst h9
            exact W.iret (v := (σ_13.1 78)) hx hb hr (fun t ht hW => ⟨⟨(σ_13.1 78), (), rfl, rfl, m_end ht hP⟩, hS.F ht⟩) hS.2.2 dX12_told_108
          have hF_19 := ineg c_17 hF_16
          clear hF_16
          by_cases c_20 : p0 = 1
          · have hF_21 := ipos c_20 hF_19
            clear hF_19
            refine lv_tableIn (off := 64) (tgt := 109) hx hb dX12_told_45 (by rw [c_20]; decide +kernel) (by rw [c_20]; decide +kernel) (by rw [c_20]; decide +kernel) (by decide) ?_
            refine lv_aload_n hx hb dX12_told_109 rfl (lv_at hl 0 rfl) ?_
            refine va_get (D := (dC, dI)) (ci := 12) (v := .int (σ_13.1 79)) (C := RX12) (T := TX12) (N := 123) hx hb hts ii_X12 hown hK hP 0 rfl rfl 79 (by decide) (hts (.fieldLink RX12 603 "StoryHouseModel" "nVerbs" "I") wq_1435) (fun _ h9 => h9) rfl dX12_told_110 ?_
            have h9 := Option.some.inj hF_21
            subst h9
            exact W.iret (v := (σ_13.1 79)) hx hb hr (fun t ht hW => ⟨⟨(σ_13.1 79), (), rfl, rfl, m_end ht hP⟩, hS.F ht⟩) hS.2.2 dX12_told_113
          have hF_22 := ineg c_20 hF_19
          clear hF_19
          by_cases c_23 : p0 = 2
          · have hF_24 := ipos c_23 hF_22
            clear hF_22
            refine lv_tableIn (off := 69) (tgt := 114) hx hb dX12_told_45 (by rw [c_23]; decide +kernel) (by rw [c_23]; decide +kernel) (by rw [c_23]; decide +kernel) (by decide) ?_
            refine lv_aload_n hx hb dX12_told_114 rfl (lv_at hl 0 rfl) ?_
            refine va_get (D := (dC, dI)) (ci := 12) (v := .int (σ_13.1 80)) (C := RX12) (T := TX12) (N := 123) hx hb hts ii_X12 hown hK hP 0 rfl rfl 80 (by decide) (hts (.fieldLink RX12 606 "StoryHouseModel" "nVars" "I") wq_1436) (fun _ h9 => h9) rfl dX12_told_115 ?_
            have h9 := Option.some.inj hF_24
            subst h9
            exact W.iret (v := (σ_13.1 80)) hx hb hr (fun t ht hW => ⟨⟨(σ_13.1 80), (), rfl, rfl, m_end ht hP⟩, hS.F ht⟩) hS.2.2 dX12_told_118
          have hF_25 := ineg c_23 hF_22
          clear hF_22
          by_cases c_26 : p0 = 3
          · have hF_27 := ipos c_26 hF_25
            clear hF_25
            refine lv_tableIn (off := 74) (tgt := 119) hx hb dX12_told_45 (by rw [c_26]; decide +kernel) (by rw [c_26]; decide +kernel) (by rw [c_26]; decide +kernel) (by decide) ?_
            refine lv_aload_n hx hb dX12_told_119 rfl (lv_at hl 0 rfl) ?_
            refine va_get (D := (dC, dI)) (ci := 12) (v := .int (σ_13.1 81)) (C := RX12) (T := TX12) (N := 123) hx hb hts ii_X12 hown hK hP 0 rfl rfl 81 (by decide) (hts (.fieldLink RX12 609 "StoryHouseModel" "nArrays" "I") wq_1437) (fun _ h9 => h9) rfl dX12_told_120 ?_
            have h9 := Option.some.inj hF_27
            subst h9
            exact W.iret (v := (σ_13.1 81)) hx hb hr (fun t ht hW => ⟨⟨(σ_13.1 81), (), rfl, rfl, m_end ht hP⟩, hS.F ht⟩) hS.2.2 dX12_told_123
          have hF_28 := ineg c_26 hF_25
          clear hF_25
          by_cases c_29 : p0 = 4
          · have hF_30 := ipos c_29 hF_28
            clear hF_28
            refine lv_tableIn (off := 79) (tgt := 124) hx hb dX12_told_45 (by rw [c_29]; decide +kernel) (by rw [c_29]; decide +kernel) (by rw [c_29]; decide +kernel) (by decide) ?_
            refine lv_aload_n hx hb dX12_told_124 rfl (lv_at hl 0 rfl) ?_
            refine va_get (D := (dC, dI)) (ci := 12) (v := .int (σ_13.1 82)) (C := RX12) (T := TX12) (N := 123) hx hb hts ii_X12 hown hK hP 0 rfl rfl 82 (by decide) (hts (.fieldLink RX12 612 "StoryHouseModel" "nDefs" "I") wq_1438) (fun _ h9 => h9) rfl dX12_told_125 ?_
            have h9 := Option.some.inj hF_30
            subst h9
            exact W.iret (v := (σ_13.1 82)) hx hb hr (fun t ht hW => ⟨⟨(σ_13.1 82), (), rfl, rfl, m_end ht hP⟩, hS.F ht⟩) hS.2.2 dX12_told_128
          have hF_31 := ineg c_29 hF_28
          clear hF_28
          by_cases c_32 : p0 = 5
          · have hF_33 := ipos c_32 hF_31
            clear hF_31
            refine lv_tableIn (off := 84) (tgt := 129) hx hb dX12_told_45 (by rw [c_32]; decide +kernel) (by rw [c_32]; decide +kernel) (by rw [c_32]; decide +kernel) (by decide) ?_
            refine lv_aload_n hx hb dX12_told_129 rfl (lv_at hl 0 rfl) ?_
            refine va_get (D := (dC, dI)) (ci := 12) (v := .int (σ_13.1 83)) (C := RX12) (T := TX12) (N := 123) hx hb hts ii_X12 hown hK hP 0 rfl rfl 83 (by decide) (hts (.fieldLink RX12 615 "StoryHouseModel" "nOns" "I") wq_1439) (fun _ h9 => h9) rfl dX12_told_130 ?_
            have h9 := Option.some.inj hF_33
            subst h9
            exact W.iret (v := (σ_13.1 83)) hx hb hr (fun t ht hW => ⟨⟨(σ_13.1 83), (), rfl, rfl, m_end ht hP⟩, hS.F ht⟩) hS.2.2 dX12_told_133
          have hF_34 := ineg c_32 hF_31
          clear hF_31
          by_cases c_35 : p0 = 6
          · have hF_36 := ipos c_35 hF_34
            clear hF_34
            refine lv_tableIn (off := 89) (tgt := 134) hx hb dX12_told_45 (by rw [c_35]; decide +kernel) (by rw [c_35]; decide +kernel) (by rw [c_35]; decide +kernel) (by decide) ?_
            refine lv_aload_n hx hb dX12_told_134 rfl (lv_at hl 0 rfl) ?_
            refine va_get (D := (dC, dI)) (ci := 12) (v := .int (σ_13.1 84)) (C := RX12) (T := TX12) (N := 123) hx hb hts ii_X12 hown hK hP 0 rfl rfl 84 (by decide) (hts (.fieldLink RX12 618 "StoryHouseModel" "nEachs" "I") wq_1440) (fun _ h9 => h9) rfl dX12_told_135 ?_
            have h9 := Option.some.inj hF_36
            subst h9
            exact W.iret (v := (σ_13.1 84)) hx hb hr (fun t ht hW => ⟨⟨(σ_13.1 84), (), rfl, rfl, m_end ht hP⟩, hS.F ht⟩) hS.2.2 dX12_told_138
          have hF_37 := ineg c_35 hF_34
          clear hF_34
          by_cases c_38 : p0 = 7
          · have hF_39 := ipos c_38 hF_37
            clear hF_37
            refine lv_tableIn (off := 94) (tgt := 139) hx hb dX12_told_45 (by rw [c_38]; decide +kernel) (by rw [c_38]; decide +kernel) (by rw [c_38]; decide +kernel) (by decide) ?_
            refine lv_aload_n hx hb dX12_told_139 rfl (lv_at hl 0 rfl) ?_
            refine va_get (D := (dC, dI)) (ci := 12) (v := .int (σ_13.1 94)) (C := RX12) (T := TX12) (N := 123) hx hb hts ii_X12 hown hK hP 0 rfl rfl 94 (by decide) (hts (.fieldLink RX12 660 "StoryHouseModel" "turns" "I") wq_1450) (fun _ h9 => h9) rfl dX12_told_140 ?_
            have h9 := Option.some.inj hF_39
            subst h9
            exact W.iret (v := (σ_13.1 94)) hx hb hr (fun t ht hW => ⟨⟨(σ_13.1 94), (), rfl, rfl, m_end ht hP⟩, hS.F ht⟩) hS.2.2 dX12_told_143
          have hF_40 := ineg c_38 hF_37
          clear hF_37
          by_cases c_41 : p0 = 8
          · have hF_42 := ipos c_41 hF_40
            clear hF_40
            refine lv_tableIn (off := 99) (tgt := 144) hx hb dX12_told_45 (by rw [c_41]; decide +kernel) (by rw [c_41]; decide +kernel) (by rw [c_41]; decide +kernel) (by decide) ?_
            refine lv_aload_n hx hb dX12_told_144 rfl (lv_at hl 0 rfl) ?_
            refine va_get (D := (dC, dI)) (ci := 12) (v := .int (σ_13.1 95)) (C := RX12) (T := TX12) (N := 123) hx hb hts ii_X12 hown hK hP 0 rfl rfl 95 (by decide) (hts (.fieldLink RX12 663 "StoryHouseModel" "ended" "I") wq_1451) (fun _ h9 => h9) rfl dX12_told_145 ?_
            have h9 := Option.some.inj hF_42
            subst h9
            exact W.iret (v := (σ_13.1 95)) hx hb hr (fun t ht hW => ⟨⟨(σ_13.1 95), (), rfl, rfl, m_end ht hP⟩, hS.F ht⟩) hS.2.2 dX12_told_148
          have hF_43 := ineg c_41 hF_40
          clear hF_40
          by_cases c_44 : p0 = 9
          · have hF_45 := ipos c_44 hF_43
            clear hF_43
            refine lv_tableIn (off := 104) (tgt := 149) hx hb dX12_told_45 (by rw [c_44]; decide +kernel) (by rw [c_44]; decide +kernel) (by rw [c_44]; decide +kernel) (by decide) ?_
            refine lv_aload_n hx hb dX12_told_149 rfl (lv_at hl 0 rfl) ?_
            refine va_get (D := (dC, dI)) (ci := 12) (v := .int (σ_13.1 96)) (C := RX12) (T := TX12) (N := 123) hx hb hts ii_X12 hown hK hP 0 rfl rfl 96 (by decide) (hts (.fieldLink RX12 665 "StoryHouseModel" "it" "I") wq_1452) (fun _ h9 => h9) rfl dX12_told_150 ?_
            have h9 := Option.some.inj hF_45
            subst h9
            exact W.iret (v := (σ_13.1 96)) hx hb hr (fun t ht hW => ⟨⟨(σ_13.1 96), (), rfl, rfl, m_end ht hP⟩, hS.F ht⟩) hS.2.2 dX12_told_153
          have hF_46 := ineg c_44 hF_43
          clear hF_43
          by_cases c_47 : p0 = 10
          · have hF_48 := ipos c_47 hF_46
            clear hF_46
            refine lv_tableIn (off := 109) (tgt := 154) hx hb dX12_told_45 (by rw [c_47]; decide +kernel) (by rw [c_47]; decide +kernel) (by rw [c_47]; decide +kernel) (by decide) ?_
            refine lv_aload_n hx hb dX12_told_154 rfl (lv_at hl 0 rfl) ?_
            refine va_get (D := (dC, dI)) (ci := 12) (v := .int (σ_13.1 101)) (C := RX12) (T := TX12) (N := 123) hx hb hts ii_X12 hown hK hP 0 rfl rfl 101 (by decide) (hts (.fieldLink RX12 786 "StoryHouseModel" "undos" "I") wq_1457) (fun _ h9 => h9) rfl dX12_told_155 ?_
            have h9 := Option.some.inj hF_48
            subst h9
            exact W.iret (v := (σ_13.1 101)) hx hb hr (fun t ht hW => ⟨⟨(σ_13.1 101), (), rfl, rfl, m_end ht hP⟩, hS.F ht⟩) hS.2.2 dX12_told_158
          have hF_49 := ineg c_47 hF_46
          clear hF_46
          refine m_tabD (lo := 0) (n := 11) (tgt := 159) hx hb dX12_told_45 (by decide +kernel) (by decide) (fun j9 h9 e9 => by
              match j9, h9 with
              | 0, _ => exact absurd ((by rw [e9]; decide +kernel)) c_17
              | 1, _ => exact absurd ((by rw [e9]; decide +kernel)) c_20
              | 2, _ => exact absurd ((by rw [e9]; decide +kernel)) c_23
              | 3, _ => exact absurd ((by rw [e9]; decide +kernel)) c_26
              | 4, _ => exact absurd ((by rw [e9]; decide +kernel)) c_29
              | 5, _ => exact absurd ((by rw [e9]; decide +kernel)) c_32
              | 6, _ => exact absurd ((by rw [e9]; decide +kernel)) c_35
              | 7, _ => exact absurd ((by rw [e9]; decide +kernel)) c_38
              | 8, _ => exact absurd ((by rw [e9]; decide +kernel)) c_41
              | 9, _ => exact absurd ((by rw [e9]; decide +kernel)) c_44
              | 10, _ => exact absurd ((by rw [e9]; decide +kernel)) c_47
              | n9 + 11, h9 => exact absurd h9 (by omega)) ?_
          refine lv_aload_n hx hb dX12_told_159 rfl (lv_at hl 0 rfl) ?_
          refine va_get (D := (dC, dI)) (ci := 12) (v := .int (σ_13.1 93)) (C := RX12) (T := TX12) (N := 123) hx hb hts ii_X12 hown hK hP 0 rfl rfl 93 (by decide) (hts (.fieldLink RX12 657 "StoryHouseModel" "seed" "I") wq_1449) (fun _ h9 => h9) rfl dX12_told_160 ?_
          have h9 := Option.some.inj hF_49
          subst h9
          exact W.iret (v := (σ_13.1 93)) hx hb hr (fun t ht hW => ⟨⟨(σ_13.1 93), (), rfl, rfl, m_end ht hP⟩, hS.F ht⟩) hS.2.2 dX12_told_163
        refine lv_icmp_le (tgt := 44) hx hb dX12_told_32 (by decide) (fun c_50 => ?_) (fun c_50 => ?_)
        · have hF_51 := ipos c_50 hF_15
          clear hF_15
          exact Jj_14  u_6.2 hF_51 _ _ hP hS ls (lv_sub hl [0, 1] rfl)
        · have hF_52 := ineg c_50 hF_15
          clear hF_15
          refine lv_aload_n hx hb dX12_told_35 rfl (lv_at hl 0 rfl) ?_
          refine va_get (D := (dC, dI)) (ci := 12) (v := .int (u_6.2.1 86)) (C := RX12) (T := TX12) (N := 123) hx hb hts ii_X12 hown hK hP 0 rfl rfl 86 (by decide) (hts (.fieldLink RX12 600 "StoryHouseModel" "playing" "Z") wq_1442) (fun _ h9 => h9) rfl dX12_told_36 ?_
          refine lv_if_ne (tgt := 44) hx hb dX12_told_39 (by decide) (fun c_53 => ?_) (fun c_53 => ?_)
          · have hF_55 := ineg c_53 hF_52
            clear hF_52
            exact Jj_14  u_6.2 hF_55 _ _ hP hS ls (lv_sub hl [0, 1] rfl)
          · have hF_54 := ipos c_53 hF_52
            clear hF_52
            refine lv_iconst (v := 0) hx hb dX12_told_42 (by decide +kernel) ?_
            have h9 := Option.some.inj hF_54
            subst h9
            exact W.iret (v := 0) hx hb hr (fun t ht hW => ⟨⟨0, (), rfl, rfl, m_end ht hP⟩, hS.F ht⟩) hS.2.2 dX12_told_43
  obtain ⟨j_58, ej_58, hF_59⟩ := bnd_e hF_4
  clear hF_4
  have Jj_58 : ∀  (σ_57 : MS), j_58  σ_57 = some res → ∀ (H : Heap) (locs : List Loc), va_P (dC, dI) vwCl (mW cB cI cZ h qK qS ad σ_57) H → va_S (mCells h ad sz) s.heap H locs → ∀ ls : Array Slot, lv_has ls 2 [(0, .ref h), (1, .int p0)] → W p l e (headSpec (g_ws yX12_told cX12_told 2 (some .int)) { frames := 2, cells := 0, slots := 0, locals := 61 }).room s m ([.ref h, .int p0] : List Value).toArray below meth c H locs 0 0 (MQ below (va_Qi (fun r (_ : Unit) => r = res.1) (fun _ t => va_P (dC, dI) vwCl (mW cB cI cZ h qK qS ad res.2) t.heap) (mCells h ad sz)) ([.ref h, .int p0] : List Value).toArray s 0 0 (mCells h ad sz)) (F0 m 11 ls [.ref h]) := by
    intro  σ_57 hF0 H locs hP hS ls hl
    subst ej_58
    have hF_60 := hF0
    clear hF0
    refine lv_iconst (v := 1) hx hb dX12_told_11 (by decide +kernel) ?_
    refine lv_goto (tgt := 16) hx hb dX12_told_12 (by decide) ?_
    exact Jj_3 1 σ_57 hF_60 _ _ hP hS ls (lv_sub hl [0, 1] rfl)
  refine lv_if_lt (tgt := 11) hx hb dX12_told_2 (by decide) (fun c_61 => ?_) (fun c_61 => ?_)
  · have hF_62 := ipos c_61 hF_59
    clear hF_59
    exact Jj_58  σ hF_62 _ _ hP hS ls (lv_sub hl [0, 1] rfl)
  · have hF_63 := ineg c_61 hF_59
    clear hF_59
    refine lv_iload_n hx hb dX12_told_5 rfl (lv_at hl 1 rfl) ?_
    refine lv_bipush (v := 11) hx hb dX12_told_6 (by decide +kernel) ?_
    refine lv_icmp_le (tgt := 15) hx hb dX12_told_8 (by decide) (fun c_64 => ?_) (fun c_64 => ?_)
    · have hF_65 := ipos c_64 hF_63
      clear hF_63
      refine lv_iconst (v := 0) hx hb dX12_told_15 (by decide +kernel) ?_
      exact Jj_3 0 σ hF_65 _ _ hP hS ls (lv_sub hl [0, 1] rfl)
    · have hF_66 := ineg c_64 hF_63
      clear hF_63
      exact Jj_58  σ hF_66 _ _ hP hS ls (lv_sub hl [0, 1] rfl)
theorem dX12_sound_0 : decode cX12_sound 0 = .ok (.aload_n 0, 1) := by decide +kernel
theorem dX12_sound_1 : decode cX12_sound 1 = .ok (.iconst 0, 1) := by decide +kernel
theorem dX12_sound_2 : decode cX12_sound 2 = .ok (.putfield 240, 3) := by decide +kernel
theorem dX12_sound_5 : decode cX12_sound 5 = .ok (.iconst 1, 1) := by decide +kernel
theorem dX12_sound_6 : decode cX12_sound 6 = .ok (.ireturn, 1) := by decide +kernel
def F_X12_sound  (σ : MS) : MR :=
  bnd (mI σ 0 0) fun σ_1 =>
  some (1, σ_1)
set_option maxHeartbeats 4000000 in
set_option maxRecDepth 100000 in
theorem m_X12_sound (l : Launch) (dC : Nat → ClassId) (dI : Nat → Nat → Nat) (cB cC cI cJ cZ cP : ClassId) (h qK qS : Nat) (ad : Nat → Nat) (hDD : mDis cB cI cZ h qK qS ad) (sz : Nat)   (σ : MS) (res : Int32 × MS) (hF : F_X12_sound  σ = some res) : Met l yX12_sound (g_ws yX12_sound cX12_sound 1 (some .boolean)) ({ frames := 1, cells := 0, slots := 0, locals := 40 }) (va_Pc [.ref h] (m_B (dC, dI) [(cB, .byte), (cC, .char), (cI, .int), (cJ, .long), (cZ, .boolean), (cP, .object "StoryHouse$Play")] sz h ad qK qS (mW cB cI cZ h qK qS ad σ) g_0)) (va_Qi (fun r (_ : Unit) => r = res.1) (fun _ t => va_P (dC, dI) vwCl (mW cB cI cZ h qK qS ad res.2) t.heap) (mCells h ad sz)) 0 0 (mCells h ad sz) := by
  refine Met.ofW (cc := cX12_sound) (maxL := 1) (ret := (some .boolean)) (by decide) rfl ?_
  intro p e s m args below meth c s₁ B hml hv
  obtain ⟨rfl, hsz, hP, hK, hE, hKS, hX⟩ := hv
  have hx := B.exec
  have hb := B.bytes
  have hr := B.returns
  have hts0 := atoms_spec (ws := g_ws yX12_sound cX12_sound 1 (some .boolean)) B.pre
  have hts : ∀ w ∈ lw_good, w.before ([.ref h] : List Value).toArray s = true := fun w z => hts0 w (List.mem_cons_of_mem _ z)
  have hown : s.vm.findClass RX12 = some m.cls := findClass_of_methodNamed B.named
  have hlocks := B.notSynchronized
  have hS : va_S (mCells h ad sz) s.heap s.heap [] := va_S.rf
  have hl := lv_entry ([.ref h]) (n := 1) (Nat.le_of_ble_eq_true rfl)
  rw [lg_entry_eq]
  generalize (lg_sl ([.ref h]) ++ List.replicate (1 - (lg_sl ([.ref h])).length) Slot.unset).toArray = ls at hl ⊢
  have hl : lv_has ls 1 [(0, .ref h)] := hl
  unfold F_X12_sound at hF
  refine lv_aload_n hx hb dX12_sound_0 rfl (lv_at hl 0 rfl) ?_
  refine lv_iconst (v := 0) hx hb dX12_sound_1 (by decide +kernel) ?_
  obtain ⟨σ_1, eσ_1, hF_2⟩ := bnd_e hF
  clear hF
  refine m_put (σ' := σ_1) (v := .int 0) (ty := .int) hx hb hts hown hK hP (hDD _ _) hS (by rw [eσ_1]; exact mwI_0) (k := 0) (by decide) (hts (.fieldLink RX12 240 "StoryHouseModel" "thrown" "I") wq_1356) (fun _ h9 => h9) rfl (by decide +kernel) rfl rfl dX12_sound_2 (fun H locs hP hS => ?_)
  refine lv_iconst (v := 1) hx hb dX12_sound_5 (by decide +kernel) ?_
  have h9 := Option.some.inj hF_2
  subst h9
  exact W.zret (v := 1) hx hb hr (by decide +kernel) (fun t ht hW => ⟨⟨1, (), rfl, rfl, m_end ht hP⟩, hS.F ht⟩) hS.2.2 dX12_sound_6
