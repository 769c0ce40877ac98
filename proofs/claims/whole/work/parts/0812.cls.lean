/-! methods of the class: what each does is its function -/
theorem dX3_isTooMuch_0 : decode cX3_isTooMuch 0 = .ok (.aload_n 0, 1) := by decide +kernel
theorem dX3_isTooMuch_1 : decode cX3_isTooMuch 1 = .ok (.dup, 1) := by decide +kernel
theorem dX3_isTooMuch_2 : decode cX3_isTooMuch 2 = .ok (.getfield 40, 3) := by decide +kernel
theorem dX3_isTooMuch_5 : decode cX3_isTooMuch 5 = .ok (.iconst 1, 1) := by decide +kernel
theorem dX3_isTooMuch_6 : decode cX3_isTooMuch 6 = .ok (.iadd, 1) := by decide +kernel
theorem dX3_isTooMuch_7 : decode cX3_isTooMuch 7 = .ok (.putfield 40, 3) := by decide +kernel
theorem dX3_isTooMuch_10 : decode cX3_isTooMuch 10 = .ok (.aload_n 0, 1) := by decide +kernel
theorem dX3_isTooMuch_11 : decode cX3_isTooMuch 11 = .ok (.getfield 40, 3) := by decide +kernel
theorem dX3_isTooMuch_14 : decode cX3_isTooMuch 14 = .ok (.sipush 20000, 3) := by decide +kernel
theorem dX3_isTooMuch_17 : decode cX3_isTooMuch 17 = .ok (.if_icmp .le 7, 3) := by decide +kernel
theorem dX3_isTooMuch_20 : decode cX3_isTooMuch 20 = .ok (.iconst 1, 1) := by decide +kernel
theorem dX3_isTooMuch_21 : decode cX3_isTooMuch 21 = .ok (.goto 4, 3) := by decide +kernel
theorem dX3_isTooMuch_24 : decode cX3_isTooMuch 24 = .ok (.iconst 0, 1) := by decide +kernel
theorem dX3_isTooMuch_25 : decode cX3_isTooMuch 25 = .ok (.ireturn, 1) := by decide +kernel
def F_X3_isTooMuch  (Γ : HS) : HR :=
  bnd (cI' Γ 10 13 (((Γ 10).1 13) + 1)) fun σ_1 =>
  if ((σ_1 10).1 13) ≤ 20000 then (
    some (0, σ_1)
  ) else (
    some (1, σ_1)
  )
set_option maxHeartbeats 4000000 in
set_option maxRecDepth 100000 in
theorem k_X3_isTooMuch (l : Launch) (dC : Nat → ClassId) (dI : Nat → Nat → Nat) (cB cC cI cJ cZ cP : ClassId) (oA : Nat → Nat) (rA : Nat → Nat → Nat) (sz : Nat)   (Γ : HS) (res : Int32 × HS) (hF : F_X3_isTooMuch  Γ = some res) : Met l yX3_isTooMuch (g_ws yX3_isTooMuch cX3_isTooMuch 1 (some .boolean)) ({ frames := 1, cells := 0, slots := 0, locals := 40 }) (va_Pc [.ref (oA 10)] (g_B (dC, dI) [(cB, .byte), (cC, .char), (cI, .int), (cJ, .long), (cZ, .boolean), (cP, .object "StoryHouse$Play")] sz (b_k cB cC cI cJ cZ oA rA Γ ++ b_p cB cC cI cJ cZ oA rA Γ ++ b_o cB cC cI cJ cZ oA rA Γ ++ b_s cB cC cI cJ cZ oA rA Γ ++ b_c cB cC cI cJ cZ oA rA Γ ++ b_t cB cC cI cJ cZ oA rA Γ ++ b_d cB cC cI cJ cZ oA rA Γ) g_0)) (va_Qi (fun r (_ : Unit) => r = res.1) (g_Bo (dC, dI) (va_A (b_k cB cC cI cJ cZ oA rA Γ ++ b_p cB cC cI cJ cZ oA rA Γ ++ b_o cB cC cI cJ cZ oA rA Γ ++ b_s cB cC cI cJ cZ oA rA Γ ++ b_c cB cC cI cJ cZ oA rA Γ ++ b_t cB cC cI cJ cZ oA rA Γ ++ b_d cB cC cI cJ cZ oA rA Γ) sz) (fun (_ : Unit) => (b_k cB cC cI cJ cZ oA rA res.2 ++ b_p cB cC cI cJ cZ oA rA res.2 ++ b_o cB cC cI cJ cZ oA rA res.2 ++ b_s cB cC cI cJ cZ oA rA res.2 ++ b_c cB cC cI cJ cZ oA rA res.2 ++ b_t cB cC cI cJ cZ oA rA res.2 ++ b_d cB cC cI cJ cZ oA rA res.2))) (va_A (b_k cB cC cI cJ cZ oA rA Γ ++ b_p cB cC cI cJ cZ oA rA Γ ++ b_o cB cC cI cJ cZ oA rA Γ ++ b_s cB cC cI cJ cZ oA rA Γ ++ b_c cB cC cI cJ cZ oA rA Γ ++ b_t cB cC cI cJ cZ oA rA Γ ++ b_d cB cC cI cJ cZ oA rA Γ) sz)) 0 0 (va_A (b_k cB cC cI cJ cZ oA rA Γ ++ b_p cB cC cI cJ cZ oA rA Γ ++ b_o cB cC cI cJ cZ oA rA Γ ++ b_s cB cC cI cJ cZ oA rA Γ ++ b_c cB cC cI cJ cZ oA rA Γ ++ b_t cB cC cI cJ cZ oA rA Γ ++ b_d cB cC cI cJ cZ oA rA Γ) sz) := by
  refine Met.ofW (cc := cX3_isTooMuch) (maxL := 1) (ret := (some .boolean)) (by decide) rfl ?_
  intro p e s m args below meth c s₁ B hml hv
  obtain ⟨rfl, hsz, hP, hK, hD0, hE, hX⟩ := hv
  have hx := B.exec
  have hb := B.bytes
  have hr := B.returns
  have hts0 := atoms_spec (ws := g_ws yX3_isTooMuch cX3_isTooMuch 1 (some .boolean)) B.pre
  have hts : ∀ w ∈ lw_good, w.before ([.ref (oA 10)] : List Value).toArray s = true := fun w z => hts0 w (List.mem_cons_of_mem _ z)
  have hown : s.vm.findClass RX3 = some m.cls := findClass_of_methodNamed B.named
  have hlocks := B.notSynchronized
  subst hsz
  have hD1 := hD0.self (sz := s.heap.size)
  generalize hAe : va_A (b_k cB cC cI cJ cZ oA rA Γ ++ b_p cB cC cI cJ cZ oA rA Γ ++ b_o cB cC cI cJ cZ oA rA Γ ++ b_s cB cC cI cJ cZ oA rA Γ ++ b_c cB cC cI cJ cZ oA rA Γ ++ b_t cB cC cI cJ cZ oA rA Γ ++ b_d cB cC cI cJ cZ oA rA Γ) s.heap.size = A at hD1 hE hX ⊢
  have hA : ∀ q : Nat, s.heap.size ≤ q → A q := fun q z => by rw [← hAe]; exact Or.inr z
  have hDD : ∀ Γ : HS, va_D A (b_k cB cC cI cJ cZ oA rA Γ ++ b_p cB cC cI cJ cZ oA rA Γ ++ b_o cB cC cI cJ cZ oA rA Γ ++ b_s cB cC cI cJ cZ oA rA Γ ++ b_c cB cC cI cJ cZ oA rA Γ ++ b_t cB cC cI cJ cZ oA rA Γ ++ b_d cB cC cI cJ cZ oA rA Γ) := fun Γ9 => va_D_fst (ws := (b_k cB cC cI cJ cZ oA rA Γ ++ b_p cB cC cI cJ cZ oA rA Γ ++ b_o cB cC cI cJ cZ oA rA Γ ++ b_s cB cC cI cJ cZ oA rA Γ ++ b_c cB cC cI cJ cZ oA rA Γ ++ b_t cB cC cI cJ cZ oA rA Γ ++ b_d cB cC cI cJ cZ oA rA Γ)) (ws' := (b_k cB cC cI cJ cZ oA rA Γ9 ++ b_p cB cC cI cJ cZ oA rA Γ9 ++ b_o cB cC cI cJ cZ oA rA Γ9 ++ b_s cB cC cI cJ cZ oA rA Γ9 ++ b_c cB cC cI cJ cZ oA rA Γ9 ++ b_t cB cC cI cJ cZ oA rA Γ9 ++ b_d cB cC cI cJ cZ oA rA Γ9)) rfl hD1
  have hN := hE.1
  have hS : va_S A s.heap s.heap [] := va_S.rf
  have hl := lv_entry ([.ref (oA 10)]) (n := 1) (Nat.le_of_ble_eq_true rfl)
  rw [lg_entry_eq]
  generalize (lg_sl ([.ref (oA 10)]) ++ List.replicate (1 - (lg_sl ([.ref (oA 10)])).length) Slot.unset).toArray = ls at hl ⊢
  have hl : lv_has ls 1 [(0, .ref (oA 10))] := hl
  unfold F_X3_isTooMuch at hF
  refine lv_aload_n hx hb dX3_isTooMuch_0 rfl (lv_at hl 0 rfl) ?_
  refine lv_dup hx hb dX3_isTooMuch_1 rfl ?_
  refine va_get (D := (dC, dI)) (ci := 3) (v := .int ((Γ 10).1 13)) (C := RX3) (T := TX3) (N := 16) hx hb hts ii_X3 hown hK hP 0 rfl rfl 13 (by decide) (hts (.fieldLink RX3 40 "StoryHouse$Machine" "work" "I") wq_277) (fun _ h9 => h9) rfl dX3_isTooMuch_2 ?_
  refine lv_iconst (v := 1) hx hb dX3_isTooMuch_5 (by decide +kernel) ?_
  refine lv_iadd hx hb dX3_isTooMuch_6 ?_
  obtain ⟨σ_1, eσ_1, hF_2⟩ := bnd_e hF
  clear hF
  refine va_put (D := (dC, dI)) (ci := 3) (v := .int (((Γ 10).1 13) + 1)) (ty := .int) (C := RX3) (T := TX3) (N := 16) hx hb hts ii_X3 tyX3 tyX3_ok nmX3 hown hK hP (hDD _) hS 0 rfl rfl 13 (by decide) (hts (.fieldLink RX3 40 "StoryHouse$Machine" "work" "I") wq_277) (fun _ h9 => h9) rfl (by decide +kernel) rfl rfl (Nat.le_of_ble_eq_true rfl) dX3_isTooMuch_7 (fun H locs hP' _ hS => ?_)
  have hP : va_P (dC, dI) vwCl (b_k cB cC cI cJ cZ oA rA σ_1 ++ b_p cB cC cI cJ cZ oA rA σ_1 ++ b_o cB cC cI cJ cZ oA rA σ_1 ++ b_s cB cC cI cJ cZ oA rA σ_1 ++ b_c cB cC cI cJ cZ oA rA σ_1 ++ b_t cB cC cI cJ cZ oA rA σ_1 ++ b_d cB cC cI cJ cZ oA rA σ_1) H := by rw [eσ_1]; exact cs_kposctd_k_13 ▸ hP'
  clear hP'
  refine lv_aload_n hx hb dX3_isTooMuch_10 rfl (lv_at hl 0 rfl) ?_
  refine va_get (D := (dC, dI)) (ci := 3) (v := .int ((σ_1 10).1 13)) (C := RX3) (T := TX3) (N := 16) hx hb hts ii_X3 hown hK hP 0 rfl rfl 13 (by decide) (hts (.fieldLink RX3 40 "StoryHouse$Machine" "work" "I") wq_277) (fun _ h9 => h9) rfl dX3_isTooMuch_11 ?_
  refine lv_sipush (v := 20000) hx hb dX3_isTooMuch_14 (by decide +kernel) ?_
  refine lv_icmp_le (tgt := 24) hx hb dX3_isTooMuch_17 (by decide) (fun c_3 => ?_) (fun c_3 => ?_)
  · have hF_4 := ipos c_3 hF_2
    clear hF_2
    refine lv_iconst (v := 0) hx hb dX3_isTooMuch_24 (by decide +kernel) ?_
    have h9 := Option.some.inj hF_4
    subst h9
    exact W.zret (v := 0) hx hb hr (by decide +kernel) (fun t ht hW => ⟨⟨0, (), rfl, rfl, m_end ht hP, hDD _⟩, hS.F ht⟩) hS.2.2 dX3_isTooMuch_25
  · have hF_5 := ineg c_3 hF_2
    clear hF_2
    refine lv_iconst (v := 1) hx hb dX3_isTooMuch_20 (by decide +kernel) ?_
    refine lv_goto (tgt := 25) hx hb dX3_isTooMuch_21 (by decide) ?_
    have h9 := Option.some.inj hF_5
    subst h9
    exact W.zret (v := 1) hx hb hr (by decide +kernel) (fun t ht hW => ⟨⟨1, (), rfl, rfl, m_end ht hP, hDD _⟩, hS.F ht⟩) hS.2.2 dX3_isTooMuch_25
theorem dX3_push_0 : decode cX3_push 0 = .ok (.aload_n 0, 1) := by decide +kernel
theorem dX3_push_1 : decode cX3_push 1 = .ok (.getfield 49, 3) := by decide +kernel
theorem dX3_push_4 : decode cX3_push 4 = .ok (.ifCond .lt 35, 3) := by decide +kernel
theorem dX3_push_7 : decode cX3_push 7 = .ok (.aload_n 0, 1) := by decide +kernel
theorem dX3_push_8 : decode cX3_push 8 = .ok (.getfield 49, 3) := by decide +kernel
theorem dX3_push_11 : decode cX3_push 11 = .ok (.aload_n 0, 1) := by decide +kernel
theorem dX3_push_12 : decode cX3_push 12 = .ok (.getfield 11, 3) := by decide +kernel
theorem dX3_push_15 : decode cX3_push 15 = .ok (.arraylength, 1) := by decide +kernel
theorem dX3_push_16 : decode cX3_push 16 = .ok (.if_icmp .ge 23, 3) := by decide +kernel
theorem dX3_push_19 : decode cX3_push 19 = .ok (.aload_n 0, 1) := by decide +kernel
theorem dX3_push_20 : decode cX3_push 20 = .ok (.getfield 11, 3) := by decide +kernel
theorem dX3_push_23 : decode cX3_push 23 = .ok (.aload_n 0, 1) := by decide +kernel
theorem dX3_push_24 : decode cX3_push 24 = .ok (.getfield 49, 3) := by decide +kernel
theorem dX3_push_27 : decode cX3_push 27 = .ok (.iload_n 1, 1) := by decide +kernel
theorem dX3_push_28 : decode cX3_push 28 = .ok (.iastore, 1) := by decide +kernel
theorem dX3_push_29 : decode cX3_push 29 = .ok (.aload_n 0, 1) := by decide +kernel
theorem dX3_push_30 : decode cX3_push 30 = .ok (.dup, 1) := by decide +kernel
theorem dX3_push_31 : decode cX3_push 31 = .ok (.getfield 49, 3) := by decide +kernel
theorem dX3_push_34 : decode cX3_push 34 = .ok (.iconst 1, 1) := by decide +kernel
theorem dX3_push_35 : decode cX3_push 35 = .ok (.iadd, 1) := by decide +kernel
theorem dX3_push_36 : decode cX3_push 36 = .ok (.putfield 49, 3) := by decide +kernel
theorem dX3_push_39 : decode cX3_push 39 = .ok (.return_, 1) := by decide +kernel
def F_X3_push (p0 : Int32) (Γ : HS) : HR :=
  if ((Γ 10).1 7) < 0 then (
    some (0, Γ)
  ) else (
    if 9000 ≤ ((Γ 10).1 7) then (
      some (0, Γ)
    ) else (
      if ((Γ 10).1 7) < 0 ∨ 9000 ≤ ((Γ 10).1 7).toNatClampNeg then none else
      bnd (cA' Γ 10 6 (upd ((Γ 10).2.1 6) ((Γ 10).1 7).toNatClampNeg p0)) fun σ_9 =>
      bnd (cI' σ_9 10 7 (((σ_9 10).1 7) + 1)) fun σ_11 =>
      some (0, σ_11)
    )
  )
set_option maxHeartbeats 4000000 in
set_option maxRecDepth 100000 in
theorem k_X3_push (l : Launch) (dC : Nat → ClassId) (dI : Nat → Nat → Nat) (cB cC cI cJ cZ cP : ClassId) (oA : Nat → Nat) (rA : Nat → Nat → Nat) (sz : Nat)  (p0 : Int32) (Γ : HS) (res : Int32 × HS) (hF : F_X3_push p0 Γ = some res) : Met l yX3_push (g_ws yX3_push cX3_push 2 none) ({ frames := 1, cells := 0, slots := 0, locals := 40 }) (va_Pc [.ref (oA 10), .int p0] (g_B (dC, dI) [(cB, .byte), (cC, .char), (cI, .int), (cJ, .long), (cZ, .boolean), (cP, .object "StoryHouse$Play")] sz (b_k cB cC cI cJ cZ oA rA Γ ++ b_p cB cC cI cJ cZ oA rA Γ ++ b_o cB cC cI cJ cZ oA rA Γ ++ b_s cB cC cI cJ cZ oA rA Γ ++ b_c cB cC cI cJ cZ oA rA Γ ++ b_t cB cC cI cJ cZ oA rA Γ ++ b_d cB cC cI cJ cZ oA rA Γ) g_0)) (va_Qv (fun (_ : Unit) => True) (g_Bo (dC, dI) (va_A (b_k cB cC cI cJ cZ oA rA Γ ++ b_p cB cC cI cJ cZ oA rA Γ ++ b_o cB cC cI cJ cZ oA rA Γ ++ b_s cB cC cI cJ cZ oA rA Γ ++ b_c cB cC cI cJ cZ oA rA Γ ++ b_t cB cC cI cJ cZ oA rA Γ ++ b_d cB cC cI cJ cZ oA rA Γ) sz) (fun (_ : Unit) => (b_k cB cC cI cJ cZ oA rA res.2 ++ b_p cB cC cI cJ cZ oA rA res.2 ++ b_o cB cC cI cJ cZ oA rA res.2 ++ b_s cB cC cI cJ cZ oA rA res.2 ++ b_c cB cC cI cJ cZ oA rA res.2 ++ b_t cB cC cI cJ cZ oA rA res.2 ++ b_d cB cC cI cJ cZ oA rA res.2))) (va_A (b_k cB cC cI cJ cZ oA rA Γ ++ b_p cB cC cI cJ cZ oA rA Γ ++ b_o cB cC cI cJ cZ oA rA Γ ++ b_s cB cC cI cJ cZ oA rA Γ ++ b_c cB cC cI cJ cZ oA rA Γ ++ b_t cB cC cI cJ cZ oA rA Γ ++ b_d cB cC cI cJ cZ oA rA Γ) sz)) 0 0 (va_A (b_k cB cC cI cJ cZ oA rA Γ ++ b_p cB cC cI cJ cZ oA rA Γ ++ b_o cB cC cI cJ cZ oA rA Γ ++ b_s cB cC cI cJ cZ oA rA Γ ++ b_c cB cC cI cJ cZ oA rA Γ ++ b_t cB cC cI cJ cZ oA rA Γ ++ b_d cB cC cI cJ cZ oA rA Γ) sz) := by
  refine Met.ofW (cc := cX3_push) (maxL := 2) (ret := none) (by decide) rfl ?_
  intro p e s m args below meth c s₁ B hml hv
  obtain ⟨rfl, hsz, hP, hK, hD0, hE, hX⟩ := hv
  have hx := B.exec
  have hb := B.bytes
  have hr := B.returns
  have hts0 := atoms_spec (ws := g_ws yX3_push cX3_push 2 none) B.pre
  have hts : ∀ w ∈ lw_good, w.before ([.ref (oA 10), .int p0] : List Value).toArray s = true := fun w z => hts0 w (List.mem_cons_of_mem _ z)
  have hown : s.vm.findClass RX3 = some m.cls := findClass_of_methodNamed B.named
  have hlocks := B.notSynchronized
  subst hsz
  have hD1 := hD0.self (sz := s.heap.size)
  generalize hAe : va_A (b_k cB cC cI cJ cZ oA rA Γ ++ b_p cB cC cI cJ cZ oA rA Γ ++ b_o cB cC cI cJ cZ oA rA Γ ++ b_s cB cC cI cJ cZ oA rA Γ ++ b_c cB cC cI cJ cZ oA rA Γ ++ b_t cB cC cI cJ cZ oA rA Γ ++ b_d cB cC cI cJ cZ oA rA Γ) s.heap.size = A at hD1 hE hX ⊢
  have hA : ∀ q : Nat, s.heap.size ≤ q → A q := fun q z => by rw [← hAe]; exact Or.inr z
  have hDD : ∀ Γ : HS, va_D A (b_k cB cC cI cJ cZ oA rA Γ ++ b_p cB cC cI cJ cZ oA rA Γ ++ b_o cB cC cI cJ cZ oA rA Γ ++ b_s cB cC cI cJ cZ oA rA Γ ++ b_c cB cC cI cJ cZ oA rA Γ ++ b_t cB cC cI cJ cZ oA rA Γ ++ b_d cB cC cI cJ cZ oA rA Γ) := fun Γ9 => va_D_fst (ws := (b_k cB cC cI cJ cZ oA rA Γ ++ b_p cB cC cI cJ cZ oA rA Γ ++ b_o cB cC cI cJ cZ oA rA Γ ++ b_s cB cC cI cJ cZ oA rA Γ ++ b_c cB cC cI cJ cZ oA rA Γ ++ b_t cB cC cI cJ cZ oA rA Γ ++ b_d cB cC cI cJ cZ oA rA Γ)) (ws' := (b_k cB cC cI cJ cZ oA rA Γ9 ++ b_p cB cC cI cJ cZ oA rA Γ9 ++ b_o cB cC cI cJ cZ oA rA Γ9 ++ b_s cB cC cI cJ cZ oA rA Γ9 ++ b_c cB cC cI cJ cZ oA rA Γ9 ++ b_t cB cC cI cJ cZ oA rA Γ9 ++ b_d cB cC cI cJ cZ oA rA Γ9)) rfl hD1
  have hN := hE.1
  have hS : va_S A s.heap s.heap [] := va_S.rf
  have hl := lv_entry ([.ref (oA 10), .int p0]) (n := 2) (Nat.le_of_ble_eq_true rfl)
  rw [lg_entry_eq]
  generalize (lg_sl ([.ref (oA 10), .int p0]) ++ List.replicate (2 - (lg_sl ([.ref (oA 10), .int p0])).length) Slot.unset).toArray = ls at hl ⊢
  have hl : lv_has ls 2 [(0, .ref (oA 10)), (1, .int p0)] := hl
  unfold F_X3_push at hF
  refine lv_aload_n hx hb dX3_push_0 rfl (lv_at hl 0 rfl) ?_
  refine va_get (D := (dC, dI)) (ci := 3) (v := .int ((Γ 10).1 7)) (C := RX3) (T := TX3) (N := 16) hx hb hts ii_X3 hown hK hP 0 rfl rfl 7 (by decide) (hts (.fieldLink RX3 49 "StoryHouse$Machine" "top" "I") wq_271) (fun _ h9 => h9) rfl dX3_push_1 ?_
  refine lv_if_lt (tgt := 39) hx hb dX3_push_4 (by decide) (fun c_1 => ?_) (fun c_1 => ?_)
  · have hF_2 := ipos c_1 hF
    clear hF
    have h9 := Option.some.inj hF_2
    subst h9
    exact W.vret hx hb hr (fun t ht hW => ⟨⟨(), rfl, trivial, m_end ht hP, hDD _⟩, hS.F ht⟩) hS.2.2 dX3_push_39
  · have hF_3 := ineg c_1 hF
    clear hF
    refine lv_aload_n hx hb dX3_push_7 rfl (lv_at hl 0 rfl) ?_
    refine va_get (D := (dC, dI)) (ci := 3) (v := .int ((Γ 10).1 7)) (C := RX3) (T := TX3) (N := 16) hx hb hts ii_X3 hown hK hP 0 rfl rfl 7 (by decide) (hts (.fieldLink RX3 49 "StoryHouse$Machine" "top" "I") wq_271) (fun _ h9 => h9) rfl dX3_push_8 ?_
    refine lv_aload_n hx hb dX3_push_11 rfl (lv_at hl 0 rfl) ?_
    refine va_get (D := (dC, dI)) (ci := 3) (v := .ref (rA 10 6)) (C := RX3) (T := TX3) (N := 16) hx hb hts ii_X3 hown hK hP 0 rfl rfl 6 (by decide) (hts (.fieldLink RX3 11 "StoryHouse$Machine" "stack" "[I") wq_270) (fun _ h9 => h9) rfl dX3_push_12 ?_
    refine va_alen (v := 9000) hx hb hK hP 1 2 rfl rfl (by first | rfl | decide +kernel) dX3_push_15 ?_
    refine lv_icmp_ge (tgt := 39) hx hb dX3_push_16 (by decide) (fun c_4 => ?_) (fun c_4 => ?_)
    · have hF_5 := ipos c_4 hF_3
      clear hF_3
      have h9 := Option.some.inj hF_5
      subst h9
      exact W.vret hx hb hr (fun t ht hW => ⟨⟨(), rfl, trivial, m_end ht hP, hDD _⟩, hS.F ht⟩) hS.2.2 dX3_push_39
    · have hF_6 := ineg c_4 hF_3
      clear hF_3
      refine lv_aload_n hx hb dX3_push_19 rfl (lv_at hl 0 rfl) ?_
      refine va_get (D := (dC, dI)) (ci := 3) (v := .ref (rA 10 6)) (C := RX3) (T := TX3) (N := 16) hx hb hts ii_X3 hown hK hP 0 rfl rfl 6 (by decide) (hts (.fieldLink RX3 11 "StoryHouse$Machine" "stack" "[I") wq_270) (fun _ h9 => h9) rfl dX3_push_20 ?_
      refine lv_aload_n hx hb dX3_push_23 rfl (lv_at hl 0 rfl) ?_
      refine va_get (D := (dC, dI)) (ci := 3) (v := .int ((Γ 10).1 7)) (C := RX3) (T := TX3) (N := 16) hx hb hts ii_X3 hown hK hP 0 rfl rfl 7 (by decide) (hts (.fieldLink RX3 49 "StoryHouse$Machine" "top" "I") wq_271) (fun _ h9 => h9) rfl dX3_push_24 ?_
      refine lv_iload_n hx hb dX3_push_27 rfl (lv_at hl 1 rfl) ?_
      obtain ⟨g_7, hF_8⟩ := nif_e hF_6
      clear hF_6
      obtain ⟨σ_9, eσ_9, hF_10⟩ := bnd_e hF_8
      clear hF_8
      refine va_iast (f := (Γ 10).2.1 6) hx hb hK hP (hDD _) hS 1 2 rfl rfl g_7 dX3_push_28 (fun H locs hP' _ hS => ?_)
      have hP : va_P (dC, dI) vwCl (b_k cB cC cI cJ cZ oA rA σ_9 ++ b_p cB cC cI cJ cZ oA rA σ_9 ++ b_o cB cC cI cJ cZ oA rA σ_9 ++ b_s cB cC cI cJ cZ oA rA σ_9 ++ b_c cB cC cI cJ cZ oA rA σ_9 ++ b_t cB cC cI cJ cZ oA rA σ_9 ++ b_d cB cC cI cJ cZ oA rA σ_9) H := by rw [eσ_9]; exact cs_kposctd_k_6 ▸ hP'
      clear hP'
      refine lv_aload_n hx hb dX3_push_29 rfl (lv_at hl 0 rfl) ?_
      refine lv_dup hx hb dX3_push_30 rfl ?_
      refine va_get (D := (dC, dI)) (ci := 3) (v := .int ((σ_9 10).1 7)) (C := RX3) (T := TX3) (N := 16) hx hb hts ii_X3 hown hK hP 0 rfl rfl 7 (by decide) (hts (.fieldLink RX3 49 "StoryHouse$Machine" "top" "I") wq_271) (fun _ h9 => h9) rfl dX3_push_31 ?_
      refine lv_iconst (v := 1) hx hb dX3_push_34 (by decide +kernel) ?_
      refine lv_iadd hx hb dX3_push_35 ?_
      obtain ⟨σ_11, eσ_11, hF_12⟩ := bnd_e hF_10
      clear hF_10
      refine va_put (D := (dC, dI)) (ci := 3) (v := .int (((σ_9 10).1 7) + 1)) (ty := .int) (C := RX3) (T := TX3) (N := 16) hx hb hts ii_X3 tyX3 tyX3_ok nmX3 hown hK hP (hDD _) hS 0 rfl rfl 7 (by decide) (hts (.fieldLink RX3 49 "StoryHouse$Machine" "top" "I") wq_271) (fun _ h9 => h9) rfl (by decide +kernel) rfl rfl (Nat.le_of_ble_eq_true rfl) dX3_push_36 (fun H locs hP' _ hS => ?_)
      have hP : va_P (dC, dI) vwCl (b_k cB cC cI cJ cZ oA rA σ_11 ++ b_p cB cC cI cJ cZ oA rA σ_11 ++ b_o cB cC cI cJ cZ oA rA σ_11 ++ b_s cB cC cI cJ cZ oA rA σ_11 ++ b_c cB cC cI cJ cZ oA rA σ_11 ++ b_t cB cC cI cJ cZ oA rA σ_11 ++ b_d cB cC cI cJ cZ oA rA σ_11) H := by rw [eσ_11]; exact cs_kposctd_k_7 ▸ hP'
      clear hP'
      have h9 := Option.some.inj hF_12
      subst h9
      exact W.vret hx hb hr (fun t ht hW => ⟨⟨(), rfl, trivial, m_end ht hP, hDD _⟩, hS.F ht⟩) hS.2.2 dX3_push_39
theorem dX3_leave_0 : decode cX3_leave 0 = .ok (.aload_n 0, 1) := by decide +kernel
theorem dX3_leave_1 : decode cX3_leave 1 = .ok (.getfield 43, 3) := by decide +kernel
theorem dX3_leave_4 : decode cX3_leave 4 = .ok (.ifCond .ne 11, 3) := by decide +kernel
theorem dX3_leave_7 : decode cX3_leave 7 = .ok (.aload_n 0, 1) := by decide +kernel
theorem dX3_leave_8 : decode cX3_leave 8 = .ok (.iconst 1, 1) := by decide +kernel
theorem dX3_leave_9 : decode cX3_leave 9 = .ok (.putfield 21, 3) := by decide +kernel
theorem dX3_leave_12 : decode cX3_leave 12 = .ok (.goto 56, 3) := by decide +kernel
theorem dX3_leave_15 : decode cX3_leave 15 = .ok (.aload_n 0, 1) := by decide +kernel
theorem dX3_leave_16 : decode cX3_leave 16 = .ok (.aload_n 0, 1) := by decide +kernel
theorem dX3_leave_17 : decode cX3_leave 17 = .ok (.getfield 46, 3) := by decide +kernel
theorem dX3_leave_20 : decode cX3_leave 20 = .ok (.putfield 49, 3) := by decide +kernel
theorem dX3_leave_23 : decode cX3_leave 23 = .ok (.aload_n 0, 1) := by decide +kernel
theorem dX3_leave_24 : decode cX3_leave 24 = .ok (.dup, 1) := by decide +kernel
theorem dX3_leave_25 : decode cX3_leave 25 = .ok (.getfield 43, 3) := by decide +kernel
theorem dX3_leave_28 : decode cX3_leave 28 = .ok (.iconst 1, 1) := by decide +kernel
theorem dX3_leave_29 : decode cX3_leave 29 = .ok (.isub, 1) := by decide +kernel
theorem dX3_leave_30 : decode cX3_leave 30 = .ok (.putfield 43, 3) := by decide +kernel
theorem dX3_leave_33 : decode cX3_leave 33 = .ok (.aload_n 0, 1) := by decide +kernel
theorem dX3_leave_34 : decode cX3_leave 34 = .ok (.aload_n 0, 1) := by decide +kernel
theorem dX3_leave_35 : decode cX3_leave 35 = .ok (.getfield 18, 3) := by decide +kernel
theorem dX3_leave_38 : decode cX3_leave 38 = .ok (.aload_n 0, 1) := by decide +kernel
theorem dX3_leave_39 : decode cX3_leave 39 = .ok (.getfield 43, 3) := by decide +kernel
theorem dX3_leave_42 : decode cX3_leave 42 = .ok (.invokestatic 98, 3) := by decide +kernel
theorem dX3_leave_45 : decode cX3_leave 45 = .ok (.putfield 46, 3) := by decide +kernel
theorem dX3_leave_48 : decode cX3_leave 48 = .ok (.aload_n 0, 1) := by decide +kernel
theorem dX3_leave_49 : decode cX3_leave 49 = .ok (.aload_n 0, 1) := by decide +kernel
theorem dX3_leave_50 : decode cX3_leave 50 = .ok (.getfield 15, 3) := by decide +kernel
theorem dX3_leave_53 : decode cX3_leave 53 = .ok (.aload_n 0, 1) := by decide +kernel
theorem dX3_leave_54 : decode cX3_leave 54 = .ok (.getfield 43, 3) := by decide +kernel
theorem dX3_leave_57 : decode cX3_leave 57 = .ok (.invokestatic 98, 3) := by decide +kernel
theorem dX3_leave_60 : decode cX3_leave 60 = .ok (.putfield 68, 3) := by decide +kernel
theorem dX3_leave_63 : decode cX3_leave 63 = .ok (.aload_n 0, 1) := by decide +kernel
theorem dX3_leave_64 : decode cX3_leave 64 = .ok (.iload_n 1, 1) := by decide +kernel
theorem dX3_leave_65 : decode cX3_leave 65 = .ok (.invokevirtual 113, 3) := by decide +kernel
theorem dX3_leave_68 : decode cX3_leave 68 = .ok (.return_, 1) := by decide +kernel
def F_X3_leave (p0 : Int32) (Γ : HS) : HR :=
  if ((Γ 10).1 12) = 0 then (
    bnd (cI' Γ 10 14 1) fun σ_3 =>
    some (0, σ_3)
  ) else (
    bnd (cI' Γ 10 7 ((Γ 10).1 8)) fun σ_6 =>
    bnd (cI' σ_6 10 12 (((σ_6 10).1 12) - 1)) fun σ_8 =>
    bnd (((σ_8 10).1 12)) fun (x_10 : Int32) =>
    bnd ((g_at 30 ((σ_8 10).2.1 11) x_10)) fun (x_12 : Int32) =>
    bnd (cI' σ_8 10 8 x_12) fun σ_14 =>
    bnd (((σ_14 10).1 12)) fun (x_16 : Int32) =>
    bnd ((g_at 30 ((σ_14 10).2.1 10) x_16)) fun (x_18 : Int32) =>
    bnd (cI' σ_14 10 9 x_18) fun σ_20 =>
    (F_X3_push p0 σ_20).bind fun u_22 =>
    some (0, u_22.2)
  )
set_option maxHeartbeats 4000000 in
set_option maxRecDepth 100000 in
theorem k_X3_leave (l : Launch) (dC : Nat → ClassId) (dI : Nat → Nat → Nat) (cB cC cI cJ cZ cP : ClassId) (oA : Nat → Nat) (rA : Nat → Nat → Nat) (sz : Nat)  (p0 : Int32) (Γ : HS) (res : Int32 × HS) (hF : F_X3_leave p0 Γ = some res) : Met l yX3_leave (g_ws yX3_leave cX3_leave 2 none) ({ frames := 3, cells := 0, slots := 0, locals := 81 }) (va_Pc [.ref (oA 10), .int p0] (g_B (dC, dI) [(cB, .byte), (cC, .char), (cI, .int), (cJ, .long), (cZ, .boolean), (cP, .object "StoryHouse$Play")] sz (b_k cB cC cI cJ cZ oA rA Γ ++ b_p cB cC cI cJ cZ oA rA Γ ++ b_o cB cC cI cJ cZ oA rA Γ ++ b_s cB cC cI cJ cZ oA rA Γ ++ b_c cB cC cI cJ cZ oA rA Γ ++ b_t cB cC cI cJ cZ oA rA Γ ++ b_d cB cC cI cJ cZ oA rA Γ) g_0)) (va_Qv (fun (_ : Unit) => True) (g_Bo (dC, dI) (va_A (b_k cB cC cI cJ cZ oA rA Γ ++ b_p cB cC cI cJ cZ oA rA Γ ++ b_o cB cC cI cJ cZ oA rA Γ ++ b_s cB cC cI cJ cZ oA rA Γ ++ b_c cB cC cI cJ cZ oA rA Γ ++ b_t cB cC cI cJ cZ oA rA Γ ++ b_d cB cC cI cJ cZ oA rA Γ) sz) (fun (_ : Unit) => (b_k cB cC cI cJ cZ oA rA res.2 ++ b_p cB cC cI cJ cZ oA rA res.2 ++ b_o cB cC cI cJ cZ oA rA res.2 ++ b_s cB cC cI cJ cZ oA rA res.2 ++ b_c cB cC cI cJ cZ oA rA res.2 ++ b_t cB cC cI cJ cZ oA rA res.2 ++ b_d cB cC cI cJ cZ oA rA res.2))) (va_A (b_k cB cC cI cJ cZ oA rA Γ ++ b_p cB cC cI cJ cZ oA rA Γ ++ b_o cB cC cI cJ cZ oA rA Γ ++ b_s cB cC cI cJ cZ oA rA Γ ++ b_c cB cC cI cJ cZ oA rA Γ ++ b_t cB cC cI cJ cZ oA rA Γ ++ b_d cB cC cI cJ cZ oA rA Γ) sz)) 0 0 (va_A (b_k cB cC cI cJ cZ oA rA Γ ++ b_p cB cC cI cJ cZ oA rA Γ ++ b_o cB cC cI cJ cZ oA rA Γ ++ b_s cB cC cI cJ cZ oA rA Γ ++ b_c cB cC cI cJ cZ oA rA Γ ++ b_t cB cC cI cJ cZ oA rA Γ ++ b_d cB cC cI cJ cZ oA rA Γ) sz) := by
  refine Met.ofW (cc := cX3_leave) (maxL := 2) (ret := none) (by decide) rfl ?_
  intro p e s m args below meth c s₁ B hml hv
  obtain ⟨rfl, hsz, hP, hK, hD0, hE, hX⟩ := hv
  have hx := B.exec
  have hb := B.bytes
  have hr := B.returns
  have hts0 := atoms_spec (ws := g_ws yX3_leave cX3_leave 2 none) B.pre
  have hts : ∀ w ∈ lw_good, w.before ([.ref (oA 10), .int p0] : List Value).toArray s = true := fun w z => hts0 w (List.mem_cons_of_mem _ z)
  have hown : s.vm.findClass RX3 = some m.cls := findClass_of_methodNamed B.named
  have hlocks := B.notSynchronized
  subst hsz
  have hD1 := hD0.self (sz := s.heap.size)
  generalize hAe : va_A (b_k cB cC cI cJ cZ oA rA Γ ++ b_p cB cC cI cJ cZ oA rA Γ ++ b_o cB cC cI cJ cZ oA rA Γ ++ b_s cB cC cI cJ cZ oA rA Γ ++ b_c cB cC cI cJ cZ oA rA Γ ++ b_t cB cC cI cJ cZ oA rA Γ ++ b_d cB cC cI cJ cZ oA rA Γ) s.heap.size = A at hD1 hE hX ⊢
  have hA : ∀ q : Nat, s.heap.size ≤ q → A q := fun q z => by rw [← hAe]; exact Or.inr z
  have hDD : ∀ Γ : HS, va_D A (b_k cB cC cI cJ cZ oA rA Γ ++ b_p cB cC cI cJ cZ oA rA Γ ++ b_o cB cC cI cJ cZ oA rA Γ ++ b_s cB cC cI cJ cZ oA rA Γ ++ b_c cB cC cI cJ cZ oA rA Γ ++ b_t cB cC cI cJ cZ oA rA Γ ++ b_d cB cC cI cJ cZ oA rA Γ) := fun Γ9 => va_D_fst (ws := (b_k cB cC cI cJ cZ oA rA Γ ++ b_p cB cC cI cJ cZ oA rA Γ ++ b_o cB cC cI cJ cZ oA rA Γ ++ b_s cB cC cI cJ cZ oA rA Γ ++ b_c cB cC cI cJ cZ oA rA Γ ++ b_t cB cC cI cJ cZ oA rA Γ ++ b_d cB cC cI cJ cZ oA rA Γ)) (ws' := (b_k cB cC cI cJ cZ oA rA Γ9 ++ b_p cB cC cI cJ cZ oA rA Γ9 ++ b_o cB cC cI cJ cZ oA rA Γ9 ++ b_s cB cC cI cJ cZ oA rA Γ9 ++ b_c cB cC cI cJ cZ oA rA Γ9 ++ b_t cB cC cI cJ cZ oA rA Γ9 ++ b_d cB cC cI cJ cZ oA rA Γ9)) rfl hD1
  have hN := hE.1
  have hS : va_S A s.heap s.heap [] := va_S.rf
  have hl := lv_entry ([.ref (oA 10), .int p0]) (n := 2) (Nat.le_of_ble_eq_true rfl)
  rw [lg_entry_eq]
  generalize (lg_sl ([.ref (oA 10), .int p0]) ++ List.replicate (2 - (lg_sl ([.ref (oA 10), .int p0])).length) Slot.unset).toArray = ls at hl ⊢
  have hl : lv_has ls 2 [(0, .ref (oA 10)), (1, .int p0)] := hl
  unfold F_X3_leave at hF
  refine lv_aload_n hx hb dX3_leave_0 rfl (lv_at hl 0 rfl) ?_
  refine va_get (D := (dC, dI)) (ci := 3) (v := .int ((Γ 10).1 12)) (C := RX3) (T := TX3) (N := 16) hx hb hts ii_X3 hown hK hP 0 rfl rfl 12 (by decide) (hts (.fieldLink RX3 43 "StoryHouse$Machine" "depth" "I") wq_276) (fun _ h9 => h9) rfl dX3_leave_1 ?_
  refine lv_if_ne (tgt := 15) hx hb dX3_leave_4 (by decide) (fun c_1 => ?_) (fun c_1 => ?_)
  · have hF_5 := ineg c_1 hF
    clear hF
    refine lv_aload_n hx hb dX3_leave_15 rfl (lv_at hl 0 rfl) ?_
    refine lv_aload_n hx hb dX3_leave_16 rfl (lv_at hl 0 rfl) ?_
    refine va_get (D := (dC, dI)) (ci := 3) (v := .int ((Γ 10).1 8)) (C := RX3) (T := TX3) (N := 16) hx hb hts ii_X3 hown hK hP 0 rfl rfl 8 (by decide) (hts (.fieldLink RX3 46 "StoryHouse$Machine" "base" "I") wq_272) (fun _ h9 => h9) rfl dX3_leave_17 ?_
    obtain ⟨σ_6, eσ_6, hF_7⟩ := bnd_e hF_5
    clear hF_5
    refine va_put (D := (dC, dI)) (ci := 3) (v := .int ((Γ 10).1 8)) (ty := .int) (C := RX3) (T := TX3) (N := 16) hx hb hts ii_X3 tyX3 tyX3_ok nmX3 hown hK hP (hDD _) hS 0 rfl rfl 7 (by decide) (hts (.fieldLink RX3 49 "StoryHouse$Machine" "top" "I") wq_271) (fun _ h9 => h9) rfl (by decide +kernel) rfl rfl (Nat.le_of_ble_eq_true rfl) dX3_leave_20 (fun H locs hP' _ hS => ?_)
    have hP : va_P (dC, dI) vwCl (b_k cB cC cI cJ cZ oA rA σ_6 ++ b_p cB cC cI cJ cZ oA rA σ_6 ++ b_o cB cC cI cJ cZ oA rA σ_6 ++ b_s cB cC cI cJ cZ oA rA σ_6 ++ b_c cB cC cI cJ cZ oA rA σ_6 ++ b_t cB cC cI cJ cZ oA rA σ_6 ++ b_d cB cC cI cJ cZ oA rA σ_6) H := by rw [eσ_6]; exact cs_kposctd_k_7 ▸ hP'
    clear hP'
    refine lv_aload_n hx hb dX3_leave_23 rfl (lv_at hl 0 rfl) ?_
    refine lv_dup hx hb dX3_leave_24 rfl ?_
    refine va_get (D := (dC, dI)) (ci := 3) (v := .int ((σ_6 10).1 12)) (C := RX3) (T := TX3) (N := 16) hx hb hts ii_X3 hown hK hP 0 rfl rfl 12 (by decide) (hts (.fieldLink RX3 43 "StoryHouse$Machine" "depth" "I") wq_276) (fun _ h9 => h9) rfl dX3_leave_25 ?_
    refine lv_iconst (v := 1) hx hb dX3_leave_28 (by decide +kernel) ?_
    refine lv_isub hx hb dX3_leave_29 ?_
    obtain ⟨σ_8, eσ_8, hF_9⟩ := bnd_e hF_7
    clear hF_7
    refine va_put (D := (dC, dI)) (ci := 3) (v := .int (((σ_6 10).1 12) - 1)) (ty := .int) (C := RX3) (T := TX3) (N := 16) hx hb hts ii_X3 tyX3 tyX3_ok nmX3 hown hK hP (hDD _) hS 0 rfl rfl 12 (by decide) (hts (.fieldLink RX3 43 "StoryHouse$Machine" "depth" "I") wq_276) (fun _ h9 => h9) rfl (by decide +kernel) rfl rfl (Nat.le_of_ble_eq_true rfl) dX3_leave_30 (fun H locs hP' _ hS => ?_)
    have hP : va_P (dC, dI) vwCl (b_k cB cC cI cJ cZ oA rA σ_8 ++ b_p cB cC cI cJ cZ oA rA σ_8 ++ b_o cB cC cI cJ cZ oA rA σ_8 ++ b_s cB cC cI cJ cZ oA rA σ_8 ++ b_c cB cC cI cJ cZ oA rA σ_8 ++ b_t cB cC cI cJ cZ oA rA σ_8 ++ b_d cB cC cI cJ cZ oA rA σ_8) H := by rw [eσ_8]; exact cs_kposctd_k_12 ▸ hP'
    clear hP'
    refine lv_aload_n hx hb dX3_leave_33 rfl (lv_at hl 0 rfl) ?_
    refine lv_aload_n hx hb dX3_leave_34 rfl (lv_at hl 0 rfl) ?_
    refine va_get (D := (dC, dI)) (ci := 3) (v := .ref (rA 10 11)) (C := RX3) (T := TX3) (N := 16) hx hb hts ii_X3 hown hK hP 0 rfl rfl 11 (by decide) (hts (.fieldLink RX3 18 "StoryHouse$Machine" "bases" "[I") wq_275) (fun _ h9 => h9) rfl dX3_leave_35 ?_
    refine lv_aload_n hx hb dX3_leave_38 rfl (lv_at hl 0 rfl) ?_
    refine va_get (D := (dC, dI)) (ci := 3) (v := .int ((σ_8 10).1 12)) (C := RX3) (T := TX3) (N := 16) hx hb hts ii_X3 hown hK hP 0 rfl rfl 12 (by decide) (hts (.fieldLink RX3 43 "StoryHouse$Machine" "depth" "I") wq_276) (fun _ h9 => h9) rfl dX3_leave_39 ?_
    obtain ⟨x_10, ex_10, hF_11⟩ := bnd_e hF_9
    clear hF_9
    refine m_top ex_10 ?_
    have hq9 : ((b_k cB cC cI cJ cZ oA rA σ_8 ++ b_p cB cC cI cJ cZ oA rA σ_8 ++ b_o cB cC cI cJ cZ oA rA σ_8 ++ b_s cB cC cI cJ cZ oA rA σ_8 ++ b_c cB cC cI cJ cZ oA rA σ_8 ++ b_t cB cC cI cJ cZ oA rA σ_8 ++ b_d cB cC cI cJ cZ oA rA σ_8))[3]? = some (rA 10 11, .inl (cI, 30, .inl ((σ_8 10).2.1 11))) := rfl
    have hPc := hP.sub (ws' := [(rA 10 11, .inl (cI, 30, .inl ((σ_8 10).2.1 11)))]) [3] (pk_fm (er_C hq9))
    have hDc := (hDD σ_8).sub (ws' := [(rA 10 11, .inl (cI, 30, .inl ((σ_8 10).2.1 11)))]) [3] (by decide +kernel) (er_C hq9)
    have hFc := va_free (wc := [(rA 10 11, .inl (cI, 30, .inl ((σ_8 10).2.1 11)))]) (hDD σ_8) hS hA [3] (er_C hq9)
    refine g_ofi (wc := [(rA 10 11, .inl (cI, 30, .inl ((σ_8 10).2.1 11)))]) (wr := (((b_k cB cC cI cJ cZ oA rA σ_8 ++ b_p cB cC cI cJ cZ oA rA σ_8 ++ b_o cB cC cI cJ cZ oA rA σ_8 ++ b_s cB cC cI cJ cZ oA rA σ_8 ++ b_c cB cC cI cJ cZ oA rA σ_8 ++ b_t cB cC cI cJ cZ oA rA σ_8 ++ b_d cB cC cI cJ cZ oA rA σ_8)).eraseIdx 3)) hP (hDD σ_8) hS hFc [3] ((List.range ((b_k cB cC cI cJ cZ oA rA σ_8 ++ b_p cB cC cI cJ cZ oA rA σ_8 ++ b_o cB cC cI cJ cZ oA rA σ_8 ++ b_s cB cC cI cJ cZ oA rA σ_8 ++ b_c cB cC cI cJ cZ oA rA σ_8 ++ b_t cB cC cI cJ cZ oA rA σ_8 ++ b_d cB cC cI cJ cZ oA rA σ_8)).length).eraseIdx 3) (er_C hq9) er_R er_n er_d (va_runSN (As := [.ref (rA 10 11), .int x_10]) (rest := [.ref (oA 10)]) ⟨hx, hb, hml, hown, hts⟩ (c_X11_at l dC dI cB cC cI cJ cZ cP H.size (rA 10 11) x_10 30 ((σ_8 10).2.1 11) (by decide)) ⟨va_cnB 2 hts (g_gA wq_407) rfl rfl rfl (nw_30 hN) (hts (.initialized RX11) wq_1) (by decide +kernel) ⟨Nat.le_of_ble_eq_true rfl, Nat.le_of_ble_eq_true rfl⟩, (hts (.static yX11_at) wq_406), trivial⟩ (g_preS g_bl0 hK hPc hDc hS hE hFc g_to0) rfl rfl hl.1 rfl (lv_room (Nat.le_of_ble_eq_true rfl)) dX3_leave_42 ⟨Nat.le_of_ble_eq_true rfl, Nat.le_of_ble_eq_true rfl⟩) (fun r9 u9 H locs hw9 hP' hD' hS => ?_)
    clear hPc hDc hFc hD'
    have hP : va_P (dC, dI) vwCl (b_k cB cC cI cJ cZ oA rA σ_8 ++ b_p cB cC cI cJ cZ oA rA σ_8 ++ b_o cB cC cI cJ cZ oA rA σ_8 ++ b_s cB cC cI cJ cZ oA rA σ_8 ++ b_c cB cC cI cJ cZ oA rA σ_8 ++ b_t cB cC cI cJ cZ oA rA σ_8 ++ b_d cB cC cI cJ cZ oA rA σ_8) H := er_I hP' hq9
    clear hP' hq9
    subst hw9
    obtain ⟨x_12, ex_12, hF_13⟩ := bnd_e hF_11
    clear hF_11
    refine m_top ex_12 ?_
    obtain ⟨σ_14, eσ_14, hF_15⟩ := bnd_e hF_13
    clear hF_13
    refine va_put (D := (dC, dI)) (ci := 3) (v := .int x_12) (ty := .int) (C := RX3) (T := TX3) (N := 16) hx hb hts ii_X3 tyX3 tyX3_ok nmX3 hown hK hP (hDD _) hS 0 rfl rfl 8 (by decide) (hts (.fieldLink RX3 46 "StoryHouse$Machine" "base" "I") wq_272) (fun _ h9 => h9) rfl (by decide +kernel) rfl rfl (Nat.le_of_ble_eq_true rfl) dX3_leave_45 (fun H locs hP' _ hS => ?_)
    have hP : va_P (dC, dI) vwCl (b_k cB cC cI cJ cZ oA rA σ_14 ++ b_p cB cC cI cJ cZ oA rA σ_14 ++ b_o cB cC cI cJ cZ oA rA σ_14 ++ b_s cB cC cI cJ cZ oA rA σ_14 ++ b_c cB cC cI cJ cZ oA rA σ_14 ++ b_t cB cC cI cJ cZ oA rA σ_14 ++ b_d cB cC cI cJ cZ oA rA σ_14) H := by rw [eσ_14]; exact cs_kposctd_k_8 ▸ hP'
    clear hP'
    refine lv_aload_n hx hb dX3_leave_48 rfl (lv_at hl 0 rfl) ?_
    refine lv_aload_n hx hb dX3_leave_49 rfl (lv_at hl 0 rfl) ?_
    refine va_get (D := (dC, dI)) (ci := 3) (v := .ref (rA 10 10)) (C := RX3) (T := TX3) (N := 16) hx hb hts ii_X3 hown hK hP 0 rfl rfl 10 (by decide) (hts (.fieldLink RX3 15 "StoryHouse$Machine" "returns" "[I") wq_274) (fun _ h9 => h9) rfl dX3_leave_50 ?_
    refine lv_aload_n hx hb dX3_leave_53 rfl (lv_at hl 0 rfl) ?_
    refine va_get (D := (dC, dI)) (ci := 3) (v := .int ((σ_14 10).1 12)) (C := RX3) (T := TX3) (N := 16) hx hb hts ii_X3 hown hK hP 0 rfl rfl 12 (by decide) (hts (.fieldLink RX3 43 "StoryHouse$Machine" "depth" "I") wq_276) (fun _ h9 => h9) rfl dX3_leave_54 ?_
    obtain ⟨x_16, ex_16, hF_17⟩ := bnd_e hF_15
    clear hF_15
    refine m_top ex_16 ?_
    have hq9 : ((b_k cB cC cI cJ cZ oA rA σ_14 ++ b_p cB cC cI cJ cZ oA rA σ_14 ++ b_o cB cC cI cJ cZ oA rA σ_14 ++ b_s cB cC cI cJ cZ oA rA σ_14 ++ b_c cB cC cI cJ cZ oA rA σ_14 ++ b_t cB cC cI cJ cZ oA rA σ_14 ++ b_d cB cC cI cJ cZ oA rA σ_14))[2]? = some (rA 10 10, .inl (cI, 30, .inl ((σ_14 10).2.1 10))) := rfl
    have hPc := hP.sub (ws' := [(rA 10 10, .inl (cI, 30, .inl ((σ_14 10).2.1 10)))]) [2] (pk_fm (er_C hq9))
    have hDc := (hDD σ_14).sub (ws' := [(rA 10 10, .inl (cI, 30, .inl ((σ_14 10).2.1 10)))]) [2] (by decide +kernel) (er_C hq9)
    have hFc := va_free (wc := [(rA 10 10, .inl (cI, 30, .inl ((σ_14 10).2.1 10)))]) (hDD σ_14) hS hA [2] (er_C hq9)
    refine g_ofi (wc := [(rA 10 10, .inl (cI, 30, .inl ((σ_14 10).2.1 10)))]) (wr := (((b_k cB cC cI cJ cZ oA rA σ_14 ++ b_p cB cC cI cJ cZ oA rA σ_14 ++ b_o cB cC cI cJ cZ oA rA σ_14 ++ b_s cB cC cI cJ cZ oA rA σ_14 ++ b_c cB cC cI cJ cZ oA rA σ_14 ++ b_t cB cC cI cJ cZ oA rA σ_14 ++ b_d cB cC cI cJ cZ oA rA σ_14)).eraseIdx 2)) hP (hDD σ_14) hS hFc [2] ((List.range ((b_k cB cC cI cJ cZ oA rA σ_14 ++ b_p cB cC cI cJ cZ oA rA σ_14 ++ b_o cB cC cI cJ cZ oA rA σ_14 ++ b_s cB cC cI cJ cZ oA rA σ_14 ++ b_c cB cC cI cJ cZ oA rA σ_14 ++ b_t cB cC cI cJ cZ oA rA σ_14 ++ b_d cB cC cI cJ cZ oA rA σ_14)).length).eraseIdx 2) (er_C hq9) er_R er_n er_d (va_runSN (As := [.ref (rA 10 10), .int x_16]) (rest := [.ref (oA 10)]) ⟨hx, hb, hml, hown, hts⟩ (c_X11_at l dC dI cB cC cI cJ cZ cP H.size (rA 10 10) x_16 30 ((σ_14 10).2.1 10) (by decide)) ⟨va_cnB 2 hts (g_gA wq_407) rfl rfl rfl (nw_30 hN) (hts (.initialized RX11) wq_1) (by decide +kernel) ⟨Nat.le_of_ble_eq_true rfl, Nat.le_of_ble_eq_true rfl⟩, (hts (.static yX11_at) wq_406), trivial⟩ (g_preS g_bl0 hK hPc hDc hS hE hFc g_to0) rfl rfl hl.1 rfl (lv_room (Nat.le_of_ble_eq_true rfl)) dX3_leave_57 ⟨Nat.le_of_ble_eq_true rfl, Nat.le_of_ble_eq_true rfl⟩) (fun r9 u9 H locs hw9 hP' hD' hS => ?_)
    clear hPc hDc hFc hD'
    have hP : va_P (dC, dI) vwCl (b_k cB cC cI cJ cZ oA rA σ_14 ++ b_p cB cC cI cJ cZ oA rA σ_14 ++ b_o cB cC cI cJ cZ oA rA σ_14 ++ b_s cB cC cI cJ cZ oA rA σ_14 ++ b_c cB cC cI cJ cZ oA rA σ_14 ++ b_t cB cC cI cJ cZ oA rA σ_14 ++ b_d cB cC cI cJ cZ oA rA σ_14) H := er_I hP' hq9
    clear hP' hq9
    subst hw9
    obtain ⟨x_18, ex_18, hF_19⟩ := bnd_e hF_17
    clear hF_17
    refine m_top ex_18 ?_
    obtain ⟨σ_20, eσ_20, hF_21⟩ := bnd_e hF_19
    clear hF_19
    refine va_put (D := (dC, dI)) (ci := 3) (v := .int x_18) (ty := .int) (C := RX3) (T := TX3) (N := 16) hx hb hts ii_X3 tyX3 tyX3_ok nmX3 hown hK hP (hDD _) hS 0 rfl rfl 9 (by decide) (hts (.fieldLink RX3 68 "StoryHouse$Machine" "pc" "I") wq_273) (fun _ h9 => h9) rfl (by decide +kernel) rfl rfl (Nat.le_of_ble_eq_true rfl) dX3_leave_60 (fun H locs hP' _ hS => ?_)
    have hP : va_P (dC, dI) vwCl (b_k cB cC cI cJ cZ oA rA σ_20 ++ b_p cB cC cI cJ cZ oA rA σ_20 ++ b_o cB cC cI cJ cZ oA rA σ_20 ++ b_s cB cC cI cJ cZ oA rA σ_20 ++ b_c cB cC cI cJ cZ oA rA σ_20 ++ b_t cB cC cI cJ cZ oA rA σ_20 ++ b_d cB cC cI cJ cZ oA rA σ_20) H := by rw [eσ_20]; exact cs_kposctd_k_9 ▸ hP'
    clear hP'
    refine lv_aload_n hx hb dX3_leave_63 rfl (lv_at hl 0 rfl) ?_
    refine lv_iload_n hx hb dX3_leave_64 rfl (lv_at hl 1 rfl) ?_
    obtain ⟨u_22, hu_22, hF_23⟩ := Option.bind_eq_some_iff.mp hF_21
    clear hF_21
    have hPc := bx_P (bs := [b_k cB cC cI cJ cZ oA rA σ_20, b_p cB cC cI cJ cZ oA rA σ_20, b_o cB cC cI cJ cZ oA rA σ_20, b_s cB cC cI cJ cZ oA rA σ_20, b_c cB cC cI cJ cZ oA rA σ_20, b_t cB cC cI cJ cZ oA rA σ_20, b_d cB cC cI cJ cZ oA rA σ_20]) (bs' := [b_k cB cC cI cJ cZ oA rA σ_20, b_p cB cC cI cJ cZ oA rA σ_20, b_o cB cC cI cJ cZ oA rA σ_20, b_s cB cC cI cJ cZ oA rA σ_20, b_c cB cC cI cJ cZ oA rA σ_20, b_t cB cC cI cJ cZ oA rA σ_20, b_d cB cC cI cJ cZ oA rA σ_20]) (ws' := (b_k cB cC cI cJ cZ oA rA σ_20 ++ b_p cB cC cI cJ cZ oA rA σ_20 ++ b_o cB cC cI cJ cZ oA rA σ_20 ++ b_s cB cC cI cJ cZ oA rA σ_20 ++ b_c cB cC cI cJ cZ oA rA σ_20 ++ b_t cB cC cI cJ cZ oA rA σ_20 ++ b_d cB cC cI cJ cZ oA rA σ_20)) hP fl_7 fl_7 [0, 1, 2, 3, 4, 5, 6] rfl
    have hDc := bx_D (bs := [b_k cB cC cI cJ cZ oA rA σ_20, b_p cB cC cI cJ cZ oA rA σ_20, b_o cB cC cI cJ cZ oA rA σ_20, b_s cB cC cI cJ cZ oA rA σ_20, b_c cB cC cI cJ cZ oA rA σ_20, b_t cB cC cI cJ cZ oA rA σ_20, b_d cB cC cI cJ cZ oA rA σ_20]) (bs' := [b_k cB cC cI cJ cZ oA rA σ_20, b_p cB cC cI cJ cZ oA rA σ_20, b_o cB cC cI cJ cZ oA rA σ_20, b_s cB cC cI cJ cZ oA rA σ_20, b_c cB cC cI cJ cZ oA rA σ_20, b_t cB cC cI cJ cZ oA rA σ_20, b_d cB cC cI cJ cZ oA rA σ_20]) (ws' := (b_k cB cC cI cJ cZ oA rA σ_20 ++ b_p cB cC cI cJ cZ oA rA σ_20 ++ b_o cB cC cI cJ cZ oA rA σ_20 ++ b_s cB cC cI cJ cZ oA rA σ_20 ++ b_c cB cC cI cJ cZ oA rA σ_20 ++ b_t cB cC cI cJ cZ oA rA σ_20 ++ b_d cB cC cI cJ cZ oA rA σ_20)) (hDD σ_20) fl_7 fl_7 [0, 1, 2, 3, 4, 5, 6] (by decide +kernel) rfl
    have hFc := bx_F (bs := [b_k cB cC cI cJ cZ oA rA σ_20, b_p cB cC cI cJ cZ oA rA σ_20, b_o cB cC cI cJ cZ oA rA σ_20, b_s cB cC cI cJ cZ oA rA σ_20, b_c cB cC cI cJ cZ oA rA σ_20, b_t cB cC cI cJ cZ oA rA σ_20, b_d cB cC cI cJ cZ oA rA σ_20]) (bs' := [b_k cB cC cI cJ cZ oA rA σ_20, b_p cB cC cI cJ cZ oA rA σ_20, b_o cB cC cI cJ cZ oA rA σ_20, b_s cB cC cI cJ cZ oA rA σ_20, b_c cB cC cI cJ cZ oA rA σ_20, b_t cB cC cI cJ cZ oA rA σ_20, b_d cB cC cI cJ cZ oA rA σ_20]) (wc := (b_k cB cC cI cJ cZ oA rA σ_20 ++ b_p cB cC cI cJ cZ oA rA σ_20 ++ b_o cB cC cI cJ cZ oA rA σ_20 ++ b_s cB cC cI cJ cZ oA rA σ_20 ++ b_c cB cC cI cJ cZ oA rA σ_20 ++ b_t cB cC cI cJ cZ oA rA σ_20 ++ b_d cB cC cI cJ cZ oA rA σ_20)) (hDD σ_20) hS hA fl_7 fl_7 [0, 1, 2, 3, 4, 5, 6] rfl
    refine g_ofv (wc := (b_k cB cC cI cJ cZ oA rA σ_20 ++ b_p cB cC cI cJ cZ oA rA σ_20 ++ b_o cB cC cI cJ cZ oA rA σ_20 ++ b_s cB cC cI cJ cZ oA rA σ_20 ++ b_c cB cC cI cJ cZ oA rA σ_20 ++ b_t cB cC cI cJ cZ oA rA σ_20 ++ b_d cB cC cI cJ cZ oA rA σ_20)) (wr := ([] : va_W)) hP (hDD σ_20) hS hFc (bx_ix [b_k cB cC cI cJ cZ oA rA σ_20, b_p cB cC cI cJ cZ oA rA σ_20, b_o cB cC cI cJ cZ oA rA σ_20, b_s cB cC cI cJ cZ oA rA σ_20, b_c cB cC cI cJ cZ oA rA σ_20, b_t cB cC cI cJ cZ oA rA σ_20, b_d cB cC cI cJ cZ oA rA σ_20] [0, 1, 2, 3, 4, 5, 6]) (bx_ix [b_k cB cC cI cJ cZ oA rA σ_20, b_p cB cC cI cJ cZ oA rA σ_20, b_o cB cC cI cJ cZ oA rA σ_20, b_s cB cC cI cJ cZ oA rA σ_20, b_c cB cC cI cJ cZ oA rA σ_20, b_t cB cC cI cJ cZ oA rA σ_20, b_d cB cC cI cJ cZ oA rA σ_20] []) (bx_C (bs := [b_k cB cC cI cJ cZ oA rA σ_20, b_p cB cC cI cJ cZ oA rA σ_20, b_o cB cC cI cJ cZ oA rA σ_20, b_s cB cC cI cJ cZ oA rA σ_20, b_c cB cC cI cJ cZ oA rA σ_20, b_t cB cC cI cJ cZ oA rA σ_20, b_d cB cC cI cJ cZ oA rA σ_20]) (bs' := [b_k cB cC cI cJ cZ oA rA σ_20, b_p cB cC cI cJ cZ oA rA σ_20, b_o cB cC cI cJ cZ oA rA σ_20, b_s cB cC cI cJ cZ oA rA σ_20, b_c cB cC cI cJ cZ oA rA σ_20, b_t cB cC cI cJ cZ oA rA σ_20, b_d cB cC cI cJ cZ oA rA σ_20]) (is := [0, 1, 2, 3, 4, 5, 6]) fl_7 fl_7 rfl) (bx_C (bs := [b_k cB cC cI cJ cZ oA rA σ_20, b_p cB cC cI cJ cZ oA rA σ_20, b_o cB cC cI cJ cZ oA rA σ_20, b_s cB cC cI cJ cZ oA rA σ_20, b_c cB cC cI cJ cZ oA rA σ_20, b_t cB cC cI cJ cZ oA rA σ_20, b_d cB cC cI cJ cZ oA rA σ_20]) (bs' := []) (is := []) fl_7 fl_0 rfl) (bx_n (by decide +kernel)) (bx_d (by decide +kernel)) (va_runV (As := [.int p0]) (rest := []) ⟨hx, hb, hml, hown, hts⟩ (k_X3_push l dC dI cB cC cI cJ cZ cP oA rA H.size  p0 σ_20 _ hu_22) (cwV 1 hts (g_gV wq_1141 wq_1142 wq_2085 wq_11 wq_1143) rfl rfl rfl (by decide +kernel) ⟨Nat.le_of_ble_eq_true rfl, Nat.le_of_ble_eq_true rfl⟩) (g_preV g_bl0 hK hPc hDc hS hE hFc g_to0 (q0 := 0) (ci := 3) rfl rfl) rfl rfl hl.1 rfl (lv_room (Nat.le_of_ble_eq_true rfl)) dX3_leave_65 ⟨Nat.le_of_ble_eq_true rfl, Nat.le_of_ble_eq_true rfl⟩) (fun u9 H locs hw9 hP' hD' hS => ?_)
    clear hPc hDc hFc
    have hP : va_P (dC, dI) vwCl (b_k cB cC cI cJ cZ oA rA u_22.2 ++ b_p cB cC cI cJ cZ oA rA u_22.2 ++ b_o cB cC cI cJ cZ oA rA u_22.2 ++ b_s cB cC cI cJ cZ oA rA u_22.2 ++ b_c cB cC cI cJ cZ oA rA u_22.2 ++ b_t cB cC cI cJ cZ oA rA u_22.2 ++ b_d cB cC cI cJ cZ oA rA u_22.2) H := hP'
    clear hP' hD'
    have h9 := Option.some.inj hF_23
    subst h9
    exact W.vret hx hb hr (fun t ht hW => ⟨⟨(), rfl, trivial, m_end ht hP, hDD _⟩, hS.F ht⟩) hS.2.2 dX3_leave_68
  · have hF_2 := ipos c_1 hF
    clear hF
    refine lv_aload_n hx hb dX3_leave_7 rfl (lv_at hl 0 rfl) ?_
    refine lv_iconst (v := 1) hx hb dX3_leave_8 (by decide +kernel) ?_
    obtain ⟨σ_3, eσ_3, hF_4⟩ := bnd_e hF_2
    clear hF_2
    refine va_put (D := (dC, dI)) (ci := 3) (v := .int 1) (ty := .int) (C := RX3) (T := TX3) (N := 16) hx hb hts ii_X3 tyX3 tyX3_ok nmX3 hown hK hP (hDD _) hS 0 rfl rfl 14 (by decide) (hts (.fieldLink RX3 21 "StoryHouse$Machine" "how" "I") wq_278) (fun _ h9 => h9) rfl (by decide +kernel) rfl rfl (Nat.le_of_ble_eq_true rfl) dX3_leave_9 (fun H locs hP' _ hS => ?_)
    have hP : va_P (dC, dI) vwCl (b_k cB cC cI cJ cZ oA rA σ_3 ++ b_p cB cC cI cJ cZ oA rA σ_3 ++ b_o cB cC cI cJ cZ oA rA σ_3 ++ b_s cB cC cI cJ cZ oA rA σ_3 ++ b_c cB cC cI cJ cZ oA rA σ_3 ++ b_t cB cC cI cJ cZ oA rA σ_3 ++ b_d cB cC cI cJ cZ oA rA σ_3) H := by rw [eσ_3]; exact cs_kposctd_k_14 ▸ hP'
    clear hP'
    refine lv_goto (tgt := 68) hx hb dX3_leave_12 (by decide) ?_
    have h9 := Option.some.inj hF_4
    subst h9
    exact W.vret hx hb hr (fun t ht hW => ⟨⟨(), rfl, trivial, m_end ht hP, hDD _⟩, hS.F ht⟩) hS.2.2 dX3_leave_68
theorem dX3_pop_0 : decode cX3_pop 0 = .ok (.aload_n 0, 1) := by decide +kernel
theorem dX3_pop_1 : decode cX3_pop 1 = .ok (.getfield 49, 3) := by decide +kernel
theorem dX3_pop_4 : decode cX3_pop 4 = .ok (.ifCond .gt 5, 3) := by decide +kernel
theorem dX3_pop_7 : decode cX3_pop 7 = .ok (.iconst 0, 1) := by decide +kernel
theorem dX3_pop_8 : decode cX3_pop 8 = .ok (.ireturn, 1) := by decide +kernel
theorem dX3_pop_9 : decode cX3_pop 9 = .ok (.aload_n 0, 1) := by decide +kernel
theorem dX3_pop_10 : decode cX3_pop 10 = .ok (.dup, 1) := by decide +kernel
theorem dX3_pop_11 : decode cX3_pop 11 = .ok (.getfield 49, 3) := by decide +kernel
theorem dX3_pop_14 : decode cX3_pop 14 = .ok (.iconst 1, 1) := by decide +kernel
theorem dX3_pop_15 : decode cX3_pop 15 = .ok (.isub, 1) := by decide +kernel
theorem dX3_pop_16 : decode cX3_pop 16 = .ok (.putfield 49, 3) := by decide +kernel
theorem dX3_pop_19 : decode cX3_pop 19 = .ok (.aload_n 0, 1) := by decide +kernel
theorem dX3_pop_20 : decode cX3_pop 20 = .ok (.getfield 11, 3) := by decide +kernel
theorem dX3_pop_23 : decode cX3_pop 23 = .ok (.aload_n 0, 1) := by decide +kernel
theorem dX3_pop_24 : decode cX3_pop 24 = .ok (.getfield 49, 3) := by decide +kernel
theorem dX3_pop_27 : decode cX3_pop 27 = .ok (.invokestatic 98, 3) := by decide +kernel
theorem dX3_pop_30 : decode cX3_pop 30 = .ok (.ireturn, 1) := by decide +kernel
def F_X3_pop  (Γ : HS) : HR :=
  if 0 < ((Γ 10).1 7) then (
    bnd (cI' Γ 10 7 (((Γ 10).1 7) - 1)) fun σ_3 =>
    bnd (((σ_3 10).1 7)) fun (x_5 : Int32) =>
    bnd ((g_at 9000 ((σ_3 10).2.1 6) x_5)) fun (x_7 : Int32) =>
    some (x_7, σ_3)
  ) else (
    some (0, Γ)
  )
set_option maxHeartbeats 4000000 in
set_option maxRecDepth 100000 in
theorem k_X3_pop (l : Launch) (dC : Nat → ClassId) (dI : Nat → Nat → Nat) (cB cC cI cJ cZ cP : ClassId) (oA : Nat → Nat) (rA : Nat → Nat → Nat) (sz : Nat)   (Γ : HS) (res : Int32 × HS) (hF : F_X3_pop  Γ = some res) : Met l yX3_pop (g_ws yX3_pop cX3_pop 1 (some .int)) ({ frames := 3, cells := 0, slots := 0, locals := 81 }) (va_Pc [.ref (oA 10)] (g_B (dC, dI) [(cB, .byte), (cC, .char), (cI, .int), (cJ, .long), (cZ, .boolean), (cP, .object "StoryHouse$Play")] sz (b_k cB cC cI cJ cZ oA rA Γ ++ b_p cB cC cI cJ cZ oA rA Γ ++ b_o cB cC cI cJ cZ oA rA Γ ++ b_s cB cC cI cJ cZ oA rA Γ ++ b_c cB cC cI cJ cZ oA rA Γ ++ b_t cB cC cI cJ cZ oA rA Γ ++ b_d cB cC cI cJ cZ oA rA Γ) g_0)) (va_Qi (fun r (_ : Unit) => r = res.1) (g_Bo (dC, dI) (va_A (b_k cB cC cI cJ cZ oA rA Γ ++ b_p cB cC cI cJ cZ oA rA Γ ++ b_o cB cC cI cJ cZ oA rA Γ ++ b_s cB cC cI cJ cZ oA rA Γ ++ b_c cB cC cI cJ cZ oA rA Γ ++ b_t cB cC cI cJ cZ oA rA Γ ++ b_d cB cC cI cJ cZ oA rA Γ) sz) (fun (_ : Unit) => (b_k cB cC cI cJ cZ oA rA res.2 ++ b_p cB cC cI cJ cZ oA rA res.2 ++ b_o cB cC cI cJ cZ oA rA res.2 ++ b_s cB cC cI cJ cZ oA rA res.2 ++ b_c cB cC cI cJ cZ oA rA res.2 ++ b_t cB cC cI cJ cZ oA rA res.2 ++ b_d cB cC cI cJ cZ oA rA res.2))) (va_A (b_k cB cC cI cJ cZ oA rA Γ ++ b_p cB cC cI cJ cZ oA rA Γ ++ b_o cB cC cI cJ cZ oA rA Γ ++ b_s cB cC cI cJ cZ oA rA Γ ++ b_c cB cC cI cJ cZ oA rA Γ ++ b_t cB cC cI cJ cZ oA rA Γ ++ b_d cB cC cI cJ cZ oA rA Γ) sz)) 0 0 (va_A (b_k cB cC cI cJ cZ oA rA Γ ++ b_p cB cC cI cJ cZ oA rA Γ ++ b_o cB cC cI cJ cZ oA rA Γ ++ b_s cB cC cI cJ cZ oA rA Γ ++ b_c cB cC cI cJ cZ oA rA Γ ++ b_t cB cC cI cJ cZ oA rA Γ ++ b_d cB cC cI cJ cZ oA rA Γ) sz) := by
  refine Met.ofW (cc := cX3_pop) (maxL := 1) (ret := (some .int)) (by decide) rfl ?_
  intro p e s m args below meth c s₁ B hml hv
  obtain ⟨rfl, hsz, hP, hK, hD0, hE, hX⟩ := hv
  have hx := B.exec
  have hb := B.bytes
  have hr := B.returns
  have hts0 := atoms_spec (ws := g_ws yX3_pop cX3_pop 1 (some .int)) B.pre
  have hts : ∀ w ∈ lw_good, w.before ([.ref (oA 10)] : List Value).toArray s = true := fun w z => hts0 w (List.mem_cons_of_mem _ z)
  have hown : s.vm.findClass RX3 = some m.cls := findClass_of_methodNamed B.named
  have hlocks := B.notSynchronized
  subst hsz
  have hD1 := hD0.self (sz := s.heap.size)
  generalize hAe : va_A (b_k cB cC cI cJ cZ oA rA Γ ++ b_p cB cC cI cJ cZ oA rA Γ ++ b_o cB cC cI cJ cZ oA rA Γ ++ b_s cB cC cI cJ cZ oA rA Γ ++ b_c cB cC cI cJ cZ oA rA Γ ++ b_t cB cC cI cJ cZ oA rA Γ ++ b_d cB cC cI cJ cZ oA rA Γ) s.heap.size = A at hD1 hE hX ⊢
  have hA : ∀ q : Nat, s.heap.size ≤ q → A q := fun q z => by rw [← hAe]; exact Or.inr z
  have hDD : ∀ Γ : HS, va_D A (b_k cB cC cI cJ cZ oA rA Γ ++ b_p cB cC cI cJ cZ oA rA Γ ++ b_o cB cC cI cJ cZ oA rA Γ ++ b_s cB cC cI cJ cZ oA rA Γ ++ b_c cB cC cI cJ cZ oA rA Γ ++ b_t cB cC cI cJ cZ oA rA Γ ++ b_d cB cC cI cJ cZ oA rA Γ) := fun Γ9 => va_D_fst (ws := (b_k cB cC cI cJ cZ oA rA Γ ++ b_p cB cC cI cJ cZ oA rA Γ ++ b_o cB cC cI cJ cZ oA rA Γ ++ b_s cB cC cI cJ cZ oA rA Γ ++ b_c cB cC cI cJ cZ oA rA Γ ++ b_t cB cC cI cJ cZ oA rA Γ ++ b_d cB cC cI cJ cZ oA rA Γ)) (ws' := (b_k cB cC cI cJ cZ oA rA Γ9 ++ b_p cB cC cI cJ cZ oA rA Γ9 ++ b_o cB cC cI cJ cZ oA rA Γ9 ++ b_s cB cC cI cJ cZ oA rA Γ9 ++ b_c cB cC cI cJ cZ oA rA Γ9 ++ b_t cB cC cI cJ cZ oA rA Γ9 ++ b_d cB cC cI cJ cZ oA rA Γ9)) rfl hD1
  have hN := hE.1
  have hS : va_S A s.heap s.heap [] := va_S.rf
  have hl := lv_entry ([.ref (oA 10)]) (n := 1) (Nat.le_of_ble_eq_true rfl)
  rw [lg_entry_eq]
  generalize (lg_sl ([.ref (oA 10)]) ++ List.replicate (1 - (lg_sl ([.ref (oA 10)])).length) Slot.unset).toArray = ls at hl ⊢
  have hl : lv_has ls 1 [(0, .ref (oA 10))] := hl
  unfold F_X3_pop at hF
  refine lv_aload_n hx hb dX3_pop_0 rfl (lv_at hl 0 rfl) ?_
  refine va_get (D := (dC, dI)) (ci := 3) (v := .int ((Γ 10).1 7)) (C := RX3) (T := TX3) (N := 16) hx hb hts ii_X3 hown hK hP 0 rfl rfl 7 (by decide) (hts (.fieldLink RX3 49 "StoryHouse$Machine" "top" "I") wq_271) (fun _ h9 => h9) rfl dX3_pop_1 ?_
  refine lv_if_gt (tgt := 9) hx hb dX3_pop_4 (by decide) (fun c_1 => ?_) (fun c_1 => ?_)
  · have hF_2 := ipos c_1 hF
    clear hF
    refine lv_aload_n hx hb dX3_pop_9 rfl (lv_at hl 0 rfl) ?_
    refine lv_dup hx hb dX3_pop_10 rfl ?_
    refine va_get (D := (dC, dI)) (ci := 3) (v := .int ((Γ 10).1 7)) (C := RX3) (T := TX3) (N := 16) hx hb hts ii_X3 hown hK hP 0 rfl rfl 7 (by decide) (hts (.fieldLink RX3 49 "StoryHouse$Machine" "top" "I") wq_271) (fun _ h9 => h9) rfl dX3_pop_11 ?_
    refine lv_iconst (v := 1) hx hb dX3_pop_14 (by decide +kernel) ?_
    refine lv_isub hx hb dX3_pop_15 ?_
    obtain ⟨σ_3, eσ_3, hF_4⟩ := bnd_e hF_2
    clear hF_2
    refine va_put (D := (dC, dI)) (ci := 3) (v := .int (((Γ 10).1 7) - 1)) (ty := .int) (C := RX3) (T := TX3) (N := 16) hx hb hts ii_X3 tyX3 tyX3_ok nmX3 hown hK hP (hDD _) hS 0 rfl rfl 7 (by decide) (hts (.fieldLink RX3 49 "StoryHouse$Machine" "top" "I") wq_271) (fun _ h9 => h9) rfl (by decide +kernel) rfl rfl (Nat.le_of_ble_eq_true rfl) dX3_pop_16 (fun H locs hP' _ hS => ?_)
    have hP : va_P (dC, dI) vwCl (b_k cB cC cI cJ cZ oA rA σ_3 ++ b_p cB cC cI cJ cZ oA rA σ_3 ++ b_o cB cC cI cJ cZ oA rA σ_3 ++ b_s cB cC cI cJ cZ oA rA σ_3 ++ b_c cB cC cI cJ cZ oA rA σ_3 ++ b_t cB cC cI cJ cZ oA rA σ_3 ++ b_d cB cC cI cJ cZ oA rA σ_3) H := by rw [eσ_3]; exact cs_kposctd_k_7 ▸ hP'
    clear hP'
    refine lv_aload_n hx hb dX3_pop_19 rfl (lv_at hl 0 rfl) ?_
    refine va_get (D := (dC, dI)) (ci := 3) (v := .ref (rA 10 6)) (C := RX3) (T := TX3) (N := 16) hx hb hts ii_X3 hown hK hP 0 rfl rfl 6 (by decide) (hts (.fieldLink RX3 11 "StoryHouse$Machine" "stack" "[I") wq_270) (fun _ h9 => h9) rfl dX3_pop_20 ?_
    refine lv_aload_n hx hb dX3_pop_23 rfl (lv_at hl 0 rfl) ?_
    refine va_get (D := (dC, dI)) (ci := 3) (v := .int ((σ_3 10).1 7)) (C := RX3) (T := TX3) (N := 16) hx hb hts ii_X3 hown hK hP 0 rfl rfl 7 (by decide) (hts (.fieldLink RX3 49 "StoryHouse$Machine" "top" "I") wq_271) (fun _ h9 => h9) rfl dX3_pop_24 ?_
    obtain ⟨x_5, ex_5, hF_6⟩ := bnd_e hF_4
    clear hF_4
    refine m_top ex_5 ?_
    have hq9 : ((b_k cB cC cI cJ cZ oA rA σ_3 ++ b_p cB cC cI cJ cZ oA rA σ_3 ++ b_o cB cC cI cJ cZ oA rA σ_3 ++ b_s cB cC cI cJ cZ oA rA σ_3 ++ b_c cB cC cI cJ cZ oA rA σ_3 ++ b_t cB cC cI cJ cZ oA rA σ_3 ++ b_d cB cC cI cJ cZ oA rA σ_3))[1]? = some (rA 10 6, .inl (cI, 9000, .inl ((σ_3 10).2.1 6))) := rfl
    have hPc := hP.sub (ws' := [(rA 10 6, .inl (cI, 9000, .inl ((σ_3 10).2.1 6)))]) [1] (pk_fm (er_C hq9))
    have hDc := (hDD σ_3).sub (ws' := [(rA 10 6, .inl (cI, 9000, .inl ((σ_3 10).2.1 6)))]) [1] (by decide +kernel) (er_C hq9)
    have hFc := va_free (wc := [(rA 10 6, .inl (cI, 9000, .inl ((σ_3 10).2.1 6)))]) (hDD σ_3) hS hA [1] (er_C hq9)
    refine g_ofi (wc := [(rA 10 6, .inl (cI, 9000, .inl ((σ_3 10).2.1 6)))]) (wr := (((b_k cB cC cI cJ cZ oA rA σ_3 ++ b_p cB cC cI cJ cZ oA rA σ_3 ++ b_o cB cC cI cJ cZ oA rA σ_3 ++ b_s cB cC cI cJ cZ oA rA σ_3 ++ b_c cB cC cI cJ cZ oA rA σ_3 ++ b_t cB cC cI cJ cZ oA rA σ_3 ++ b_d cB cC cI cJ cZ oA rA σ_3)).eraseIdx 1)) hP (hDD σ_3) hS hFc [1] ((List.range ((b_k cB cC cI cJ cZ oA rA σ_3 ++ b_p cB cC cI cJ cZ oA rA σ_3 ++ b_o cB cC cI cJ cZ oA rA σ_3 ++ b_s cB cC cI cJ cZ oA rA σ_3 ++ b_c cB cC cI cJ cZ oA rA σ_3 ++ b_t cB cC cI cJ cZ oA rA σ_3 ++ b_d cB cC cI cJ cZ oA rA σ_3)).length).eraseIdx 1) (er_C hq9) er_R er_n er_d (va_runSN (As := [.ref (rA 10 6), .int x_5]) (rest := []) ⟨hx, hb, hml, hown, hts⟩ (c_X11_at l dC dI cB cC cI cJ cZ cP H.size (rA 10 6) x_5 9000 ((σ_3 10).2.1 6) (by decide)) ⟨va_cnB 2 hts (g_gA wq_407) rfl rfl rfl (nw_30 hN) (hts (.initialized RX11) wq_1) (by decide +kernel) ⟨Nat.le_of_ble_eq_true rfl, Nat.le_of_ble_eq_true rfl⟩, (hts (.static yX11_at) wq_406), trivial⟩ (g_preS g_bl0 hK hPc hDc hS hE hFc g_to0) rfl rfl hl.1 rfl (lv_room (Nat.le_of_ble_eq_true rfl)) dX3_pop_27 ⟨Nat.le_of_ble_eq_true rfl, Nat.le_of_ble_eq_true rfl⟩) (fun r9 u9 H locs hw9 hP' hD' hS => ?_)
    clear hPc hDc hFc hD'
    have hP : va_P (dC, dI) vwCl (b_k cB cC cI cJ cZ oA rA σ_3 ++ b_p cB cC cI cJ cZ oA rA σ_3 ++ b_o cB cC cI cJ cZ oA rA σ_3 ++ b_s cB cC cI cJ cZ oA rA σ_3 ++ b_c cB cC cI cJ cZ oA rA σ_3 ++ b_t cB cC cI cJ cZ oA rA σ_3 ++ b_d cB cC cI cJ cZ oA rA σ_3) H := er_I hP' hq9
    clear hP' hq9
    subst hw9
    obtain ⟨x_7, ex_7, hF_8⟩ := bnd_e hF_6
    clear hF_6
    refine m_top ex_7 ?_
    have h9 := Option.some.inj hF_8
    subst h9
    exact W.iret (v := x_7) hx hb hr (fun t ht hW => ⟨⟨x_7, (), rfl, rfl, m_end ht hP, hDD _⟩, hS.F ht⟩) hS.2.2 dX3_pop_30
  · have hF_9 := ineg c_1 hF
    clear hF
    refine lv_iconst (v := 0) hx hb dX3_pop_7 (by decide +kernel) ?_
    have h9 := Option.some.inj hF_9
    subst h9
    exact W.iret (v := 0) hx hb hr (fun t ht hW => ⟨⟨0, (), rfl, rfl, m_end ht hP, hDD _⟩, hS.F ht⟩) hS.2.2 dX3_pop_8
theorem dX3_stop_0 : decode cX3_stop 0 = .ok (.aload_n 0, 1) := by decide +kernel
theorem dX3_stop_1 : decode cX3_stop 1 = .ok (.iload_n 1, 1) := by decide +kernel
theorem dX3_stop_2 : decode cX3_stop 2 = .ok (.putfield 37, 3) := by decide +kernel
theorem dX3_stop_5 : decode cX3_stop 5 = .ok (.aload_n 0, 1) := by decide +kernel
theorem dX3_stop_6 : decode cX3_stop 6 = .ok (.iconst 4, 1) := by decide +kernel
theorem dX3_stop_7 : decode cX3_stop 7 = .ok (.putfield 21, 3) := by decide +kernel
theorem dX3_stop_10 : decode cX3_stop 10 = .ok (.return_, 1) := by decide +kernel
def F_X3_stop (p0 : Int32) (Γ : HS) : HR :=
  bnd (cI' Γ 10 5 p0) fun σ_1 =>
  bnd (cI' σ_1 10 14 4) fun σ_3 =>
  some (0, σ_3)
set_option maxHeartbeats 4000000 in
set_option maxRecDepth 100000 in
theorem k_X3_stop (l : Launch) (dC : Nat → ClassId) (dI : Nat → Nat → Nat) (cB cC cI cJ cZ cP : ClassId) (oA : Nat → Nat) (rA : Nat → Nat → Nat) (sz : Nat)  (p0 : Int32) (Γ : HS) (res : Int32 × HS) (hF : F_X3_stop p0 Γ = some res) : Met l yX3_stop (g_ws yX3_stop cX3_stop 2 none) ({ frames := 1, cells := 0, slots := 0, locals := 40 }) (va_Pc [.ref (oA 10), .int p0] (g_B (dC, dI) [(cB, .byte), (cC, .char), (cI, .int), (cJ, .long), (cZ, .boolean), (cP, .object "StoryHouse$Play")] sz (b_k cB cC cI cJ cZ oA rA Γ ++ b_p cB cC cI cJ cZ oA rA Γ ++ b_o cB cC cI cJ cZ oA rA Γ ++ b_s cB cC cI cJ cZ oA rA Γ ++ b_c cB cC cI cJ cZ oA rA Γ ++ b_t cB cC cI cJ cZ oA rA Γ ++ b_d cB cC cI cJ cZ oA rA Γ) g_0)) (va_Qv (fun (_ : Unit) => True) (g_Bo (dC, dI) (va_A (b_k cB cC cI cJ cZ oA rA Γ ++ b_p cB cC cI cJ cZ oA rA Γ ++ b_o cB cC cI cJ cZ oA rA Γ ++ b_s cB cC cI cJ cZ oA rA Γ ++ b_c cB cC cI cJ cZ oA rA Γ ++ b_t cB cC cI cJ cZ oA rA Γ ++ b_d cB cC cI cJ cZ oA rA Γ) sz) (fun (_ : Unit) => (b_k cB cC cI cJ cZ oA rA res.2 ++ b_p cB cC cI cJ cZ oA rA res.2 ++ b_o cB cC cI cJ cZ oA rA res.2 ++ b_s cB cC cI cJ cZ oA rA res.2 ++ b_c cB cC cI cJ cZ oA rA res.2 ++ b_t cB cC cI cJ cZ oA rA res.2 ++ b_d cB cC cI cJ cZ oA rA res.2))) (va_A (b_k cB cC cI cJ cZ oA rA Γ ++ b_p cB cC cI cJ cZ oA rA Γ ++ b_o cB cC cI cJ cZ oA rA Γ ++ b_s cB cC cI cJ cZ oA rA Γ ++ b_c cB cC cI cJ cZ oA rA Γ ++ b_t cB cC cI cJ cZ oA rA Γ ++ b_d cB cC cI cJ cZ oA rA Γ) sz)) 0 0 (va_A (b_k cB cC cI cJ cZ oA rA Γ ++ b_p cB cC cI cJ cZ oA rA Γ ++ b_o cB cC cI cJ cZ oA rA Γ ++ b_s cB cC cI cJ cZ oA rA Γ ++ b_c cB cC cI cJ cZ oA rA Γ ++ b_t cB cC cI cJ cZ oA rA Γ ++ b_d cB cC cI cJ cZ oA rA Γ) sz) := by
  refine Met.ofW (cc := cX3_stop) (maxL := 2) (ret := none) (by decide) rfl ?_
  intro p e s m args below meth c s₁ B hml hv
  obtain ⟨rfl, hsz, hP, hK, hD0, hE, hX⟩ := hv
  have hx := B.exec
  have hb := B.bytes
  have hr := B.returns
  have hts0 := atoms_spec (ws := g_ws yX3_stop cX3_stop 2 none) B.pre
  have hts : ∀ w ∈ lw_good, w.before ([.ref (oA 10), .int p0] : List Value).toArray s = true := fun w z => hts0 w (List.mem_cons_of_mem _ z)
  have hown : s.vm.findClass RX3 = some m.cls := findClass_of_methodNamed B.named
  have hlocks := B.notSynchronized
  subst hsz
  have hD1 := hD0.self (sz := s.heap.size)
  generalize hAe : va_A (b_k cB cC cI cJ cZ oA rA Γ ++ b_p cB cC cI cJ cZ oA rA Γ ++ b_o cB cC cI cJ cZ oA rA Γ ++ b_s cB cC cI cJ cZ oA rA Γ ++ b_c cB cC cI cJ cZ oA rA Γ ++ b_t cB cC cI cJ cZ oA rA Γ ++ b_d cB cC cI cJ cZ oA rA Γ) s.heap.size = A at hD1 hE hX ⊢
  have hA : ∀ q : Nat, s.heap.size ≤ q → A q := fun q z => by rw [← hAe]; exact Or.inr z
  have hDD : ∀ Γ : HS, va_D A (b_k cB cC cI cJ cZ oA rA Γ ++ b_p cB cC cI cJ cZ oA rA Γ ++ b_o cB cC cI cJ cZ oA rA Γ ++ b_s cB cC cI cJ cZ oA rA Γ ++ b_c cB cC cI cJ cZ oA rA Γ ++ b_t cB cC cI cJ cZ oA rA Γ ++ b_d cB cC cI cJ cZ oA rA Γ) := fun Γ9 => va_D_fst (ws := (b_k cB cC cI cJ cZ oA rA Γ ++ b_p cB cC cI cJ cZ oA rA Γ ++ b_o cB cC cI cJ cZ oA rA Γ ++ b_s cB cC cI cJ cZ oA rA Γ ++ b_c cB cC cI cJ cZ oA rA Γ ++ b_t cB cC cI cJ cZ oA rA Γ ++ b_d cB cC cI cJ cZ oA rA Γ)) (ws' := (b_k cB cC cI cJ cZ oA rA Γ9 ++ b_p cB cC cI cJ cZ oA rA Γ9 ++ b_o cB cC cI cJ cZ oA rA Γ9 ++ b_s cB cC cI cJ cZ oA rA Γ9 ++ b_c cB cC cI cJ cZ oA rA Γ9 ++ b_t cB cC cI cJ cZ oA rA Γ9 ++ b_d cB cC cI cJ cZ oA rA Γ9)) rfl hD1
  have hN := hE.1
  have hS : va_S A s.heap s.heap [] := va_S.rf
  have hl := lv_entry ([.ref (oA 10), .int p0]) (n := 2) (Nat.le_of_ble_eq_true rfl)
  rw [lg_entry_eq]
  generalize (lg_sl ([.ref (oA 10), .int p0]) ++ List.replicate (2 - (lg_sl ([.ref (oA 10), .int p0])).length) Slot.unset).toArray = ls at hl ⊢
  have hl : lv_has ls 2 [(0, .ref (oA 10)), (1, .int p0)] := hl
  unfold F_X3_stop at hF
  refine lv_aload_n hx hb dX3_stop_0 rfl (lv_at hl 0 rfl) ?_
  refine lv_iload_n hx hb dX3_stop_1 rfl (lv_at hl 1 rfl) ?_
  obtain ⟨σ_1, eσ_1, hF_2⟩ := bnd_e hF
  clear hF
  refine va_put (D := (dC, dI)) (ci := 3) (v := .int p0) (ty := .int) (C := RX3) (T := TX3) (N := 16) hx hb hts ii_X3 tyX3 tyX3_ok nmX3 hown hK hP (hDD _) hS 0 rfl rfl 5 (by decide) (hts (.fieldLink RX3 37 "StoryHouse$Machine" "broke" "I") wq_267) (fun _ h9 => h9) rfl (by decide +kernel) rfl rfl (Nat.le_of_ble_eq_true rfl) dX3_stop_2 (fun H locs hP' _ hS => ?_)
  have hP : va_P (dC, dI) vwCl (b_k cB cC cI cJ cZ oA rA σ_1 ++ b_p cB cC cI cJ cZ oA rA σ_1 ++ b_o cB cC cI cJ cZ oA rA σ_1 ++ b_s cB cC cI cJ cZ oA rA σ_1 ++ b_c cB cC cI cJ cZ oA rA σ_1 ++ b_t cB cC cI cJ cZ oA rA σ_1 ++ b_d cB cC cI cJ cZ oA rA σ_1) H := by rw [eσ_1]; exact cs_kposctd_k_5 ▸ hP'
  clear hP'
  refine lv_aload_n hx hb dX3_stop_5 rfl (lv_at hl 0 rfl) ?_
  refine lv_iconst (v := 4) hx hb dX3_stop_6 (by decide +kernel) ?_
  obtain ⟨σ_3, eσ_3, hF_4⟩ := bnd_e hF_2
  clear hF_2
  refine va_put (D := (dC, dI)) (ci := 3) (v := .int 4) (ty := .int) (C := RX3) (T := TX3) (N := 16) hx hb hts ii_X3 tyX3 tyX3_ok nmX3 hown hK hP (hDD _) hS 0 rfl rfl 14 (by decide) (hts (.fieldLink RX3 21 "StoryHouse$Machine" "how" "I") wq_278) (fun _ h9 => h9) rfl (by decide +kernel) rfl rfl (Nat.le_of_ble_eq_true rfl) dX3_stop_7 (fun H locs hP' _ hS => ?_)
  have hP : va_P (dC, dI) vwCl (b_k cB cC cI cJ cZ oA rA σ_3 ++ b_p cB cC cI cJ cZ oA rA σ_3 ++ b_o cB cC cI cJ cZ oA rA σ_3 ++ b_s cB cC cI cJ cZ oA rA σ_3 ++ b_c cB cC cI cJ cZ oA rA σ_3 ++ b_t cB cC cI cJ cZ oA rA σ_3 ++ b_d cB cC cI cJ cZ oA rA σ_3) H := by rw [eσ_3]; exact cs_kposctd_k_14 ▸ hP'
  clear hP'
  have h9 := Option.some.inj hF_4
  subst h9
  exact W.vret hx hb hr (fun t ht hW => ⟨⟨(), rfl, trivial, m_end ht hP, hDD _⟩, hS.F ht⟩) hS.2.2 dX3_stop_10
theorem dX5_sign_0 : decode cX5_sign 0 = .ok (.aload_n 0, 1) := by decide +kernel
theorem dX5_sign_1 : decode cX5_sign 1 = .ok (.getfield 15, 3) := by decide +kernel
theorem dX5_sign_4 : decode cX5_sign 4 = .ok (.ifCond .lt 36, 3) := by decide +kernel
theorem dX5_sign_7 : decode cX5_sign 7 = .ok (.aload_n 0, 1) := by decide +kernel
theorem dX5_sign_8 : decode cX5_sign 8 = .ok (.getfield 15, 3) := by decide +kernel
theorem dX5_sign_11 : decode cX5_sign 11 = .ok (.aload_n 0, 1) := by decide +kernel
theorem dX5_sign_12 : decode cX5_sign 12 = .ok (.getfield 9, 3) := by decide +kernel
theorem dX5_sign_15 : decode cX5_sign 15 = .ok (.arraylength, 1) := by decide +kernel
theorem dX5_sign_16 : decode cX5_sign 16 = .ok (.if_icmp .ge 24, 3) := by decide +kernel
theorem dX5_sign_19 : decode cX5_sign 19 = .ok (.aload_n 0, 1) := by decide +kernel
theorem dX5_sign_20 : decode cX5_sign 20 = .ok (.getfield 9, 3) := by decide +kernel
theorem dX5_sign_23 : decode cX5_sign 23 = .ok (.aload_n 0, 1) := by decide +kernel
theorem dX5_sign_24 : decode cX5_sign 24 = .ok (.getfield 15, 3) := by decide +kernel
theorem dX5_sign_27 : decode cX5_sign 27 = .ok (.iload_n 1, 1) := by decide +kernel
theorem dX5_sign_28 : decode cX5_sign 28 = .ok (.i2b, 1) := by decide +kernel
theorem dX5_sign_29 : decode cX5_sign 29 = .ok (.bastore, 1) := by decide +kernel
theorem dX5_sign_30 : decode cX5_sign 30 = .ok (.aload_n 0, 1) := by decide +kernel
theorem dX5_sign_31 : decode cX5_sign 31 = .ok (.dup, 1) := by decide +kernel
theorem dX5_sign_32 : decode cX5_sign 32 = .ok (.getfield 15, 3) := by decide +kernel
theorem dX5_sign_35 : decode cX5_sign 35 = .ok (.iconst 1, 1) := by decide +kernel
theorem dX5_sign_36 : decode cX5_sign 36 = .ok (.iadd, 1) := by decide +kernel
theorem dX5_sign_37 : decode cX5_sign 37 = .ok (.putfield 15, 3) := by decide +kernel
theorem dX5_sign_40 : decode cX5_sign 40 = .ok (.return_, 1) := by decide +kernel
def F_X5_sign (p0 : Int32) (Γ : HS) : HR :=
  if ((Γ 8).1 1) < 0 then (
    some (0, Γ)
  ) else (
    if 3000 ≤ ((Γ 8).1 1) then (
      some (0, Γ)
    ) else (
      bnd (p0.toInt8.toInt32) fun (x_7 : Int32) =>
      if ((Γ 8).1 1) < 0 ∨ 3000 ≤ ((Γ 8).1 1).toNatClampNeg then none else
      bnd (cA' Γ 8 0 (upd ((Γ 8).2.1 0) ((Γ 8).1 1).toNatClampNeg (vp_nar .byte x_7))) fun σ_11 =>
      bnd (cI' σ_11 8 1 (((σ_11 8).1 1) + 1)) fun σ_13 =>
      some (0, σ_13)
    )
  )
set_option maxHeartbeats 4000000 in
set_option maxRecDepth 100000 in
theorem k_X5_sign (l : Launch) (dC : Nat → ClassId) (dI : Nat → Nat → Nat) (cB cC cI cJ cZ cP : ClassId) (oA : Nat → Nat) (rA : Nat → Nat → Nat) (sz : Nat)  (p0 : Int32) (Γ : HS) (res : Int32 × HS) (hF : F_X5_sign p0 Γ = some res) : Met l yX5_sign (g_ws yX5_sign cX5_sign 2 none) ({ frames := 1, cells := 0, slots := 0, locals := 40 }) (va_Pc [.ref (oA 8), .int p0] (g_B (dC, dI) [(cB, .byte), (cC, .char), (cI, .int), (cJ, .long), (cZ, .boolean), (cP, .object "StoryHouse$Play")] sz (b_o cB cC cI cJ cZ oA rA Γ) g_0)) (va_Qv (fun (_ : Unit) => True) (g_Bo (dC, dI) (va_A (b_o cB cC cI cJ cZ oA rA Γ) sz) (fun (_ : Unit) => (b_o cB cC cI cJ cZ oA rA res.2))) (va_A (b_o cB cC cI cJ cZ oA rA Γ) sz)) 0 0 (va_A (b_o cB cC cI cJ cZ oA rA Γ) sz) := by
  refine Met.ofW (cc := cX5_sign) (maxL := 2) (ret := none) (by decide) rfl ?_
  intro p e s m args below meth c s₁ B hml hv
  obtain ⟨rfl, hsz, hP, hK, hD0, hE, hX⟩ := hv
  have hx := B.exec
  have hb := B.bytes
  have hr := B.returns
  have hts0 := atoms_spec (ws := g_ws yX5_sign cX5_sign 2 none) B.pre
  have hts : ∀ w ∈ lw_good, w.before ([.ref (oA 8), .int p0] : List Value).toArray s = true := fun w z => hts0 w (List.mem_cons_of_mem _ z)
  have hown : s.vm.findClass RX5 = some m.cls := findClass_of_methodNamed B.named
  have hlocks := B.notSynchronized
  subst hsz
  have hD1 := hD0.self (sz := s.heap.size)
  generalize hAe : va_A (b_o cB cC cI cJ cZ oA rA Γ) s.heap.size = A at hD1 hE hX ⊢
  have hA : ∀ q : Nat, s.heap.size ≤ q → A q := fun q z => by rw [← hAe]; exact Or.inr z
  have hDD : ∀ Γ : HS, va_D A (b_o cB cC cI cJ cZ oA rA Γ) := fun Γ9 => va_D_fst (ws := (b_o cB cC cI cJ cZ oA rA Γ)) (ws' := (b_o cB cC cI cJ cZ oA rA Γ9)) rfl hD1
  have hN := hE.1
  have hS : va_S A s.heap s.heap [] := va_S.rf
  have hl := lv_entry ([.ref (oA 8), .int p0]) (n := 2) (Nat.le_of_ble_eq_true rfl)
  rw [lg_entry_eq]
  generalize (lg_sl ([.ref (oA 8), .int p0]) ++ List.replicate (2 - (lg_sl ([.ref (oA 8), .int p0])).length) Slot.unset).toArray = ls at hl ⊢
  have hl : lv_has ls 2 [(0, .ref (oA 8)), (1, .int p0)] := hl
  unfold F_X5_sign at hF
  refine lv_aload_n hx hb dX5_sign_0 rfl (lv_at hl 0 rfl) ?_
  refine va_get (D := (dC, dI)) (ci := 5) (v := .int ((Γ 8).1 1)) (C := RX5) (T := TX5) (N := 2) hx hb hts ii_X5 hown hK hP 0 rfl rfl 1 (by decide) (hts (.fieldLink RX5 15 "StoryHouse$Out" "length" "I") wq_210) (fun _ h9 => h9) rfl dX5_sign_1 ?_
  refine lv_if_lt (tgt := 40) hx hb dX5_sign_4 (by decide) (fun c_1 => ?_) (fun c_1 => ?_)
  · have hF_2 := ipos c_1 hF
    clear hF
    have h9 := Option.some.inj hF_2
    subst h9
    exact W.vret hx hb hr (fun t ht hW => ⟨⟨(), rfl, trivial, m_end ht hP, hDD _⟩, hS.F ht⟩) hS.2.2 dX5_sign_40
  · have hF_3 := ineg c_1 hF
    clear hF
    refine lv_aload_n hx hb dX5_sign_7 rfl (lv_at hl 0 rfl) ?_
    refine va_get (D := (dC, dI)) (ci := 5) (v := .int ((Γ 8).1 1)) (C := RX5) (T := TX5) (N := 2) hx hb hts ii_X5 hown hK hP 0 rfl rfl 1 (by decide) (hts (.fieldLink RX5 15 "StoryHouse$Out" "length" "I") wq_210) (fun _ h9 => h9) rfl dX5_sign_8 ?_
    refine lv_aload_n hx hb dX5_sign_11 rfl (lv_at hl 0 rfl) ?_
    refine va_get (D := (dC, dI)) (ci := 5) (v := .ref (rA 8 0)) (C := RX5) (T := TX5) (N := 2) hx hb hts ii_X5 hown hK hP 0 rfl rfl 0 (by decide) (hts (.fieldLink RX5 9 "StoryHouse$Out" "bytes" "[B") wq_208) (fun _ h9 => h9) rfl dX5_sign_12 ?_
    refine va_alen (v := 3000) hx hb hK hP 1 0 rfl rfl (by first | rfl | decide +kernel) dX5_sign_15 ?_
    refine lv_icmp_ge (tgt := 40) hx hb dX5_sign_16 (by decide) (fun c_4 => ?_) (fun c_4 => ?_)
    · have hF_5 := ipos c_4 hF_3
      clear hF_3
      have h9 := Option.some.inj hF_5
      subst h9
      exact W.vret hx hb hr (fun t ht hW => ⟨⟨(), rfl, trivial, m_end ht hP, hDD _⟩, hS.F ht⟩) hS.2.2 dX5_sign_40
    · have hF_6 := ineg c_4 hF_3
      clear hF_3
      refine lv_aload_n hx hb dX5_sign_19 rfl (lv_at hl 0 rfl) ?_
      refine va_get (D := (dC, dI)) (ci := 5) (v := .ref (rA 8 0)) (C := RX5) (T := TX5) (N := 2) hx hb hts ii_X5 hown hK hP 0 rfl rfl 0 (by decide) (hts (.fieldLink RX5 9 "StoryHouse$Out" "bytes" "[B") wq_208) (fun _ h9 => h9) rfl dX5_sign_20 ?_
      refine lv_aload_n hx hb dX5_sign_23 rfl (lv_at hl 0 rfl) ?_
      refine va_get (D := (dC, dI)) (ci := 5) (v := .int ((Γ 8).1 1)) (C := RX5) (T := TX5) (N := 2) hx hb hts ii_X5 hown hK hP 0 rfl rfl 1 (by decide) (hts (.fieldLink RX5 15 "StoryHouse$Out" "length" "I") wq_210) (fun _ h9 => h9) rfl dX5_sign_24 ?_
      refine lv_iload_n hx hb dX5_sign_27 rfl (lv_at hl 1 rfl) ?_
      refine lv_i2b hx hb dX5_sign_28 rfl ?_
      obtain ⟨x_7, ex_7, hF_8⟩ := bnd_e hF_6
      clear hF_6
      refine m_top ex_7 ?_
      obtain ⟨g_9, hF_10⟩ := nif_e hF_8
      clear hF_8
      obtain ⟨σ_11, eσ_11, hF_12⟩ := bnd_e hF_10
      clear hF_10
      refine va_bast (f := (Γ 8).2.1 0) hx hb hK hP (hDD _) hS 1 0 rfl rfl g_9 dX5_sign_29 (fun H locs hP' _ hS => ?_)
      have hP : va_P (dC, dI) vwCl (b_o cB cC cI cJ cZ oA rA σ_11) H := by rw [eσ_11]; exact cs_o_o_0 ▸ hP'
      clear hP'
      refine lv_aload_n hx hb dX5_sign_30 rfl (lv_at hl 0 rfl) ?_
      refine lv_dup hx hb dX5_sign_31 rfl ?_
      refine va_get (D := (dC, dI)) (ci := 5) (v := .int ((σ_11 8).1 1)) (C := RX5) (T := TX5) (N := 2) hx hb hts ii_X5 hown hK hP 0 rfl rfl 1 (by decide) (hts (.fieldLink RX5 15 "StoryHouse$Out" "length" "I") wq_210) (fun _ h9 => h9) rfl dX5_sign_32 ?_
      refine lv_iconst (v := 1) hx hb dX5_sign_35 (by decide +kernel) ?_
      refine lv_iadd hx hb dX5_sign_36 ?_
      obtain ⟨σ_13, eσ_13, hF_14⟩ := bnd_e hF_12
      clear hF_12
      refine va_put (D := (dC, dI)) (ci := 5) (v := .int (((σ_11 8).1 1) + 1)) (ty := .int) (C := RX5) (T := TX5) (N := 2) hx hb hts ii_X5 tyX5 tyX5_ok nmX5 hown hK hP (hDD _) hS 0 rfl rfl 1 (by decide) (hts (.fieldLink RX5 15 "StoryHouse$Out" "length" "I") wq_210) (fun _ h9 => h9) rfl (by decide +kernel) rfl rfl (Nat.le_of_ble_eq_true rfl) dX5_sign_37 (fun H locs hP' _ hS => ?_)
      have hP : va_P (dC, dI) vwCl (b_o cB cC cI cJ cZ oA rA σ_13) H := by rw [eσ_13]; exact cs_o_o_1 ▸ hP'
      clear hP'
      have h9 := Option.some.inj hF_14
      subst h9
      exact W.vret hx hb hr (fun t ht hW => ⟨⟨(), rfl, trivial, m_end ht hP, hDD _⟩, hS.F ht⟩) hS.2.2 dX5_sign_40
theorem dX5_text_0 : decode cX5_text 0 = .ok (.iconst 0, 1) := by decide +kernel
theorem dX5_text_1 : decode cX5_text 1 = .ok (.istore_n 2, 1) := by decide +kernel
theorem dX5_text_2 : decode cX5_text 2 = .ok (.iload_n 2, 1) := by decide +kernel
theorem dX5_text_3 : decode cX5_text 3 = .ok (.aload_n 1, 1) := by decide +kernel
theorem dX5_text_4 : decode cX5_text 4 = .ok (.invokevirtual 19, 3) := by decide +kernel
theorem dX5_text_7 : decode cX5_text 7 = .ok (.if_icmp .ge 18, 3) := by decide +kernel
theorem dX5_text_10 : decode cX5_text 10 = .ok (.aload_n 0, 1) := by decide +kernel
theorem dX5_text_11 : decode cX5_text 11 = .ok (.aload_n 1, 1) := by decide +kernel
theorem dX5_text_12 : decode cX5_text 12 = .ok (.iload_n 2, 1) := by decide +kernel
theorem dX5_text_13 : decode cX5_text 13 = .ok (.invokevirtual 24, 3) := by decide +kernel
theorem dX5_text_16 : decode cX5_text 16 = .ok (.invokevirtual 28, 3) := by decide +kernel
theorem dX5_text_19 : decode cX5_text 19 = .ok (.iinc 2 1, 3) := by decide +kernel
theorem dX5_text_22 : decode cX5_text 22 = .ok (.goto (-20), 3) := by decide +kernel
theorem dX5_text_25 : decode cX5_text 25 = .ok (.return_, 1) := by decide +kernel
def F_X5_text (b0 : List Int32) (Γ : HS) : HR :=
  loopF (fun (again_2 : (Int32 × HS) → HR) (s_1 : Int32 × HS) => (
    bnd ((Int32.ofNat (b0).length)) fun (x_5 : Int32) =>
    if x_5 ≤ s_1.1 then (
      some (0, s_1.2)
    ) else (
      if s_1.1 < 0 ∨ Int32.ofNat (b0).length ≤ s_1.1 then none else
      bnd ((g_chr ((b0).getD s_1.1.toNatClampNeg 0))) fun (x_12 : Int32) =>
      (F_X5_sign x_12 s_1.2).bind fun u_14 =>
      bnd (s_1.1 + 1) fun (x_16 : Int32) =>
      again_2 (x_16, u_14.2)
    )
  )) FU (0, Γ)
set_option maxHeartbeats 4000000 in
set_option maxRecDepth 100000 in
theorem k_X5_text (l : Launch) (dC : Nat → ClassId) (dI : Nat → Nat → Nat) (cB cC cI cJ cZ cP : ClassId) (oA : Nat → Nat) (rA : Nat → Nat → Nat) (sz : Nat) (q0 vq0 : Nat) (b0 : List Int32) (Γ : HS) (res : Int32 × HS) (hF : F_X5_text b0 Γ = some res) : Met l yX5_text (g_ws yX5_text cX5_text 3 none) ({ frames := 5, cells := 0, slots := 0, locals := 125 }) (va_Pc [.ref (oA 8), .ref q0] (g_B (dC, dI) [(cB, .byte), (cC, .char), (cI, .int), (cJ, .long), (cZ, .boolean), (cP, .object "StoryHouse$Play")] sz (b_o cB cC cI cJ cZ oA rA Γ) (fun U : State => g_S q0 vq0 b0 (va_A (b_o cB cC cI cJ cZ oA rA Γ) sz) U U.heap))) (va_Qv (fun (_ : Unit) => True) (g_Bo (dC, dI) (va_A (b_o cB cC cI cJ cZ oA rA Γ) sz) (fun (_ : Unit) => (b_o cB cC cI cJ cZ oA rA res.2))) (va_A (b_o cB cC cI cJ cZ oA rA Γ) sz)) 0 0 (va_A (b_o cB cC cI cJ cZ oA rA Γ) sz) := by
  refine Met.ofW (cc := cX5_text) (maxL := 3) (ret := none) (by decide) rfl ?_
  intro p e s m args below meth c s₁ B hml hv
  obtain ⟨rfl, hsz, hP, hK, hD0, hE, hX⟩ := hv
  have hx := B.exec
  have hb := B.bytes
  have hr := B.returns
  have hts0 := atoms_spec (ws := g_ws yX5_text cX5_text 3 none) B.pre
  have hts : ∀ w ∈ lw_good, w.before ([.ref (oA 8), .ref q0] : List Value).toArray s = true := fun w z => hts0 w (List.mem_cons_of_mem _ z)
  have hown : s.vm.findClass RX5 = some m.cls := findClass_of_methodNamed B.named
  have hlocks := B.notSynchronized
  subst hsz
  have hD1 := hD0.self (sz := s.heap.size)
  generalize hAe : va_A (b_o cB cC cI cJ cZ oA rA Γ) s.heap.size = A at hD1 hE hX ⊢
  have hA : ∀ q : Nat, s.heap.size ≤ q → A q := fun q z => by rw [← hAe]; exact Or.inr z
  have hDD : ∀ Γ : HS, va_D A (b_o cB cC cI cJ cZ oA rA Γ) := fun Γ9 => va_D_fst (ws := (b_o cB cC cI cJ cZ oA rA Γ)) (ws' := (b_o cB cC cI cJ cZ oA rA Γ9)) rfl hD1
  have hN := hE.1
  have hStr_q0 := hX
  have hS : va_S A s.heap s.heap [] := va_S.rf
  have hl := lv_entry ([.ref (oA 8), .ref q0]) (n := 3) (Nat.le_of_ble_eq_true rfl)
  rw [lg_entry_eq]
  generalize (lg_sl ([.ref (oA 8), .ref q0]) ++ List.replicate (3 - (lg_sl ([.ref (oA 8), .ref q0])).length) Slot.unset).toArray = ls at hl ⊢
  have hl : lv_has ls 3 [(0, .ref (oA 8)), (1, .ref q0)] := hl
  unfold F_X5_text at hF
  refine lv_iconst (v := 0) hx hb dX5_text_0 (by decide +kernel) ?_
  refine lv_istore_n (lv' := [(2, .int 0), (0, .ref (oA 8)), (1, .ref q0)]) hx hb dX5_text_1 rfl hl (by decide) rfl (fun ls hl => ?_)
  refine loopF_ind (P := fun (s_1 : Int32 × HS) => ∀ (H : Heap) (locs : List Loc), va_P (dC, dI) vwCl (b_o cB cC cI cJ cZ oA rA s_1.2) H → va_S A s.heap H locs → ∀ ls : Array Slot, lv_has ls 3 [(0, .ref (oA 8)), (1, .ref q0), (2, .int s_1.1)] → W p l e (headSpec (g_ws yX5_text cX5_text 3 none) { frames := 5, cells := 0, slots := 0, locals := 125 }).room s m ([.ref (oA 8), .ref q0] : List Value).toArray below meth c H locs 0 0 (MQ below (va_Qv (fun (_ : Unit) => True) (g_Bo (dC, dI) A (fun (_ : Unit) => (b_o cB cC cI cJ cZ oA rA res.2))) A) ([.ref (oA 8), .ref q0] : List Value).toArray s 0 0 A) (F0 m 2 ls [])) ?_ _ _ hF _ _ hP hS ls (lv_sub hl [1, 2, 0] rfl)
  intro again_2 s_1 ih_3 hF_4
  intro H locs hP hS ls hl
  refine lv_iload_n hx hb dX5_text_2 rfl (lv_at hl 2 rfl) ?_
  refine lv_aload_n hx hb dX5_text_3 rfl (lv_at hl 1 rfl) ?_
  refine c_cs (v := Int32.ofNat (b0).length) hA hP hS (va_runV (As := []) (rest := [.int s_1.1]) ⟨hx, hb, hml, hown, hts⟩ (c_J0_length_8abf5 l dC dI cB cC cI cJ cZ cP H.size q0  _ b0 ) (cwV 0 hts (g_gV wq_1006 wq_346 wq_347 wq_22 wq_348) rfl rfl rfl (by decide +kernel) ⟨Nat.le_of_ble_eq_true rfl, Nat.le_of_ble_eq_true rfl⟩) (g_preVs g_blS hK (wc := []) (A := A) (fun k q z => by simp at z) ⟨fun i j p q z => by simp at z, fun k q z => by simp at z⟩ hS hE (c_nil hA hS) (g_toS hStr_q0 hS (c_nil hA hS)) (va_Orecv hStr_q0.1 hS)) rfl rfl hl.1 rfl (lv_room (Nat.le_of_ble_eq_true rfl)) dX5_text_4 ⟨Nat.le_of_ble_eq_true rfl, Nat.le_of_ble_eq_true rfl⟩) (fun H locs hP hS => ?_)
  obtain ⟨x_5, ex_5, hF_6⟩ := bnd_e hF_4
  clear hF_4
  refine m_top ex_5 ?_
  refine lv_icmp_ge (tgt := 25) hx hb dX5_text_7 (by decide) (fun c_7 => ?_) (fun c_7 => ?_)
  · have hF_8 := ipos c_7 hF_6
    clear hF_6
    have h9 := Option.some.inj hF_8
    subst h9
    exact W.vret hx hb hr (fun t ht hW => ⟨⟨(), rfl, trivial, m_end ht hP, hDD _⟩, hS.F ht⟩) hS.2.2 dX5_text_25
  · have hF_9 := ineg c_7 hF_6
    clear hF_6
    refine lv_aload_n hx hb dX5_text_10 rfl (lv_at hl 0 rfl) ?_
    refine lv_aload_n hx hb dX5_text_11 rfl (lv_at hl 1 rfl) ?_
    refine lv_iload_n hx hb dX5_text_12 rfl (lv_at hl 2 rfl) ?_
    obtain ⟨g_10, hF_11⟩ := nif_e hF_9
    clear hF_9
    refine c_cs (v := g_chr ((b0).getD s_1.1.toNatClampNeg 0)) hA hP hS (va_runV (As := [.int s_1.1]) (rest := [.ref (oA 8)]) ⟨hx, hb, hml, hown, hts⟩ (c_J0_charAt_5068e l dC dI cB cC cI cJ cZ cP H.size q0 s_1.1 _ b0 (fun z => g_10 (Or.inl z)) (Int32.not_le.mp (fun z => g_10 (Or.inr z)))) (cwV 1 hts (g_gV wq_1007 wq_359 wq_360 wq_22 wq_361) rfl rfl rfl (by decide +kernel) ⟨Nat.le_of_ble_eq_true rfl, Nat.le_of_ble_eq_true rfl⟩) (g_preVs g_blS hK (wc := []) (A := A) (fun k q z => by simp at z) ⟨fun i j p q z => by simp at z, fun k q z => by simp at z⟩ hS hE (c_nil hA hS) (g_toS hStr_q0 hS (c_nil hA hS)) (va_Orecv hStr_q0.1 hS)) rfl rfl hl.1 rfl (lv_room (Nat.le_of_ble_eq_true rfl)) dX5_text_13 ⟨Nat.le_of_ble_eq_true rfl, Nat.le_of_ble_eq_true rfl⟩) (fun H locs hP hS => ?_)
    obtain ⟨x_12, ex_12, hF_13⟩ := bnd_e hF_11
    clear hF_11
    refine m_top ex_12 ?_
    obtain ⟨u_14, hu_14, hF_15⟩ := Option.bind_eq_some_iff.mp hF_13
    clear hF_13
    have hPc := bx_P (bs := [b_o cB cC cI cJ cZ oA rA s_1.2]) (bs' := [b_o cB cC cI cJ cZ oA rA s_1.2]) (ws' := (b_o cB cC cI cJ cZ oA rA s_1.2)) hP fl_1 fl_1 [0] rfl
    have hDc := bx_D (bs := [b_o cB cC cI cJ cZ oA rA s_1.2]) (bs' := [b_o cB cC cI cJ cZ oA rA s_1.2]) (ws' := (b_o cB cC cI cJ cZ oA rA s_1.2)) (hDD s_1.2) fl_1 fl_1 [0] (by decide +kernel) rfl
    have hFc := bx_F (bs := [b_o cB cC cI cJ cZ oA rA s_1.2]) (bs' := [b_o cB cC cI cJ cZ oA rA s_1.2]) (wc := (b_o cB cC cI cJ cZ oA rA s_1.2)) (hDD s_1.2) hS hA fl_1 fl_1 [0] rfl
    refine g_ofv (wc := (b_o cB cC cI cJ cZ oA rA s_1.2)) (wr := ([] : va_W)) hP (hDD s_1.2) hS hFc (bx_ix [b_o cB cC cI cJ cZ oA rA s_1.2] [0]) (bx_ix [b_o cB cC cI cJ cZ oA rA s_1.2] []) (bx_C (bs := [b_o cB cC cI cJ cZ oA rA s_1.2]) (bs' := [b_o cB cC cI cJ cZ oA rA s_1.2]) (is := [0]) fl_1 fl_1 rfl) (bx_C (bs := [b_o cB cC cI cJ cZ oA rA s_1.2]) (bs' := []) (is := []) fl_1 fl_0 rfl) (bx_n (by decide +kernel)) (bx_d (by decide +kernel)) (va_runV (As := [.int x_12]) (rest := []) ⟨hx, hb, hml, hown, hts⟩ (k_X5_sign l dC dI cB cC cI cJ cZ cP oA rA H.size  x_12 s_1.2 _ hu_14) (cwV 1 hts (g_gV wq_1008 wq_1009 wq_1010 wq_9 wq_1011) rfl rfl rfl (by decide +kernel) ⟨Nat.le_of_ble_eq_true rfl, Nat.le_of_ble_eq_true rfl⟩) (g_preV g_bl0 hK hPc hDc hS hE hFc g_to0 (q0 := 0) (ci := 5) rfl rfl) rfl rfl hl.1 rfl (lv_room (Nat.le_of_ble_eq_true rfl)) dX5_text_16 ⟨Nat.le_of_ble_eq_true rfl, Nat.le_of_ble_eq_true rfl⟩) (fun u9 H locs hw9 hP' hD' hS => ?_)
    clear hPc hDc hFc
    have hP : va_P (dC, dI) vwCl (b_o cB cC cI cJ cZ oA rA u_14.2) H := hP'
    clear hP' hD'
    obtain ⟨x_16, ex_16, hF_17⟩ := bnd_e hF_15
    clear hF_15
    refine lv_iinc (v := x_16) (lv' := [(2, .int x_16), (0, .ref (oA 8)), (1, .ref q0)]) hx hb dX5_text_19 hl (k := 2) rfl (by rw [ex_16]; rfl) (by decide) rfl (fun ls hl => ?_)
    refine lv_goto (tgt := 2) hx hb dX5_text_22 (by decide) ?_
    exact ih_3 (x_16, u_14.2) hF_17 _ _ hP hS ls (lv_sub hl [1, 2, 0] rfl)
theorem dX5_line_0 : decode cX5_line 0 = .ok (.aload_n 0, 1) := by decide +kernel
theorem dX5_line_1 : decode cX5_line 1 = .ok (.aload_n 1, 1) := by decide +kernel
theorem dX5_line_2 : decode cX5_line 2 = .ok (.invokevirtual 32, 3) := by decide +kernel
theorem dX5_line_5 : decode cX5_line 5 = .ok (.aload_n 0, 1) := by decide +kernel
theorem dX5_line_6 : decode cX5_line 6 = .ok (.bipush 10, 2) := by decide +kernel
theorem dX5_line_8 : decode cX5_line 8 = .ok (.invokevirtual 28, 3) := by decide +kernel
theorem dX5_line_11 : decode cX5_line 11 = .ok (.return_, 1) := by decide +kernel
def F_X5_line (b0 : List Int32) (Γ : HS) : HR :=
  (F_X5_text b0 Γ).bind fun u_1 =>
  (F_X5_sign 10 u_1.2).bind fun u_3 =>
  some (0, u_3.2)
set_option maxHeartbeats 4000000 in
set_option maxRecDepth 100000 in
theorem k_X5_line (l : Launch) (dC : Nat → ClassId) (dI : Nat → Nat → Nat) (cB cC cI cJ cZ cP : ClassId) (oA : Nat → Nat) (rA : Nat → Nat → Nat) (sz : Nat) (q0 vq0 : Nat) (b0 : List Int32) (Γ : HS) (res : Int32 × HS) (hF : F_X5_line b0 Γ = some res) : Met l yX5_line (g_ws yX5_line cX5_line 2 none) ({ frames := 6, cells := 0, slots := 0, locals := 147 }) (va_Pc [.ref (oA 8), .ref q0] (g_B (dC, dI) [(cB, .byte), (cC, .char), (cI, .int), (cJ, .long), (cZ, .boolean), (cP, .object "StoryHouse$Play")] sz (b_o cB cC cI cJ cZ oA rA Γ) (fun U : State => g_S q0 vq0 b0 (va_A (b_o cB cC cI cJ cZ oA rA Γ) sz) U U.heap))) (va_Qv (fun (_ : Unit) => True) (g_Bo (dC, dI) (va_A (b_o cB cC cI cJ cZ oA rA Γ) sz) (fun (_ : Unit) => (b_o cB cC cI cJ cZ oA rA res.2))) (va_A (b_o cB cC cI cJ cZ oA rA Γ) sz)) 0 0 (va_A (b_o cB cC cI cJ cZ oA rA Γ) sz) := by
  refine Met.ofW (cc := cX5_line) (maxL := 2) (ret := none) (by decide) rfl ?_
  intro p e s m args below meth c s₁ B hml hv
  obtain ⟨rfl, hsz, hP, hK, hD0, hE, hX⟩ := hv
  have hx := B.exec
  have hb := B.bytes
  have hr := B.returns
  have hts0 := atoms_spec (ws := g_ws yX5_line cX5_line 2 none) B.pre
  have hts : ∀ w ∈ lw_good, w.before ([.ref (oA 8), .ref q0] : List Value).toArray s = true := fun w z => hts0 w (List.mem_cons_of_mem _ z)
  have hown : s.vm.findClass RX5 = some m.cls := findClass_of_methodNamed B.named
  have hlocks := B.notSynchronized
  subst hsz
  have hD1 := hD0.self (sz := s.heap.size)
  generalize hAe : va_A (b_o cB cC cI cJ cZ oA rA Γ) s.heap.size = A at hD1 hE hX ⊢
  have hA : ∀ q : Nat, s.heap.size ≤ q → A q := fun q z => by rw [← hAe]; exact Or.inr z
  have hDD : ∀ Γ : HS, va_D A (b_o cB cC cI cJ cZ oA rA Γ) := fun Γ9 => va_D_fst (ws := (b_o cB cC cI cJ cZ oA rA Γ)) (ws' := (b_o cB cC cI cJ cZ oA rA Γ9)) rfl hD1
  have hN := hE.1
  have hStr_q0 := hX
  have hS : va_S A s.heap s.heap [] := va_S.rf
  have hl := lv_entry ([.ref (oA 8), .ref q0]) (n := 2) (Nat.le_of_ble_eq_true rfl)
  rw [lg_entry_eq]
  generalize (lg_sl ([.ref (oA 8), .ref q0]) ++ List.replicate (2 - (lg_sl ([.ref (oA 8), .ref q0])).length) Slot.unset).toArray = ls at hl ⊢
  have hl : lv_has ls 2 [(0, .ref (oA 8)), (1, .ref q0)] := hl
  unfold F_X5_line at hF
  refine lv_aload_n hx hb dX5_line_0 rfl (lv_at hl 0 rfl) ?_
  refine lv_aload_n hx hb dX5_line_1 rfl (lv_at hl 1 rfl) ?_
  obtain ⟨u_1, hu_1, hF_2⟩ := Option.bind_eq_some_iff.mp hF
  clear hF
  have hPc := bx_P (bs := [b_o cB cC cI cJ cZ oA rA Γ]) (bs' := [b_o cB cC cI cJ cZ oA rA Γ]) (ws' := (b_o cB cC cI cJ cZ oA rA Γ)) hP fl_1 fl_1 [0] rfl
  have hDc := bx_D (bs := [b_o cB cC cI cJ cZ oA rA Γ]) (bs' := [b_o cB cC cI cJ cZ oA rA Γ]) (ws' := (b_o cB cC cI cJ cZ oA rA Γ)) (hDD Γ) fl_1 fl_1 [0] (by decide +kernel) rfl
  have hFc := bx_F (bs := [b_o cB cC cI cJ cZ oA rA Γ]) (bs' := [b_o cB cC cI cJ cZ oA rA Γ]) (wc := (b_o cB cC cI cJ cZ oA rA Γ)) (hDD Γ) hS hA fl_1 fl_1 [0] rfl
  refine g_ofv (wc := (b_o cB cC cI cJ cZ oA rA Γ)) (wr := ([] : va_W)) hP (hDD Γ) hS hFc (bx_ix [b_o cB cC cI cJ cZ oA rA Γ] [0]) (bx_ix [b_o cB cC cI cJ cZ oA rA Γ] []) (bx_C (bs := [b_o cB cC cI cJ cZ oA rA Γ]) (bs' := [b_o cB cC cI cJ cZ oA rA Γ]) (is := [0]) fl_1 fl_1 rfl) (bx_C (bs := [b_o cB cC cI cJ cZ oA rA Γ]) (bs' := []) (is := []) fl_1 fl_0 rfl) (bx_n (by decide +kernel)) (bx_d (by decide +kernel)) (va_runV (As := [.ref q0]) (rest := []) ⟨hx, hb, hml, hown, hts⟩ (k_X5_text l dC dI cB cC cI cJ cZ cP oA rA s.heap.size q0 _ b0 Γ _ hu_1) (cwV 1 hts (g_gV wq_1002 wq_1003 wq_1004 wq_9 wq_1005) rfl rfl rfl (by decide +kernel) ⟨Nat.le_of_ble_eq_true rfl, Nat.le_of_ble_eq_true rfl⟩) (g_preV g_blS hK hPc hDc hS hE hFc (g_toS hStr_q0 hS hFc) (q0 := 0) (ci := 5) rfl rfl) rfl rfl hl.1 rfl (lv_room (Nat.le_of_ble_eq_true rfl)) dX5_line_2 ⟨Nat.le_of_ble_eq_true rfl, Nat.le_of_ble_eq_true rfl⟩) (fun u9 H locs hw9 hP' hD' hS => ?_)
  clear hPc hDc hFc
  have hP : va_P (dC, dI) vwCl (b_o cB cC cI cJ cZ oA rA u_1.2) H := hP'
  clear hP' hD'
  refine lv_aload_n hx hb dX5_line_5 rfl (lv_at hl 0 rfl) ?_
  refine lv_bipush (v := 10) hx hb dX5_line_6 (by decide +kernel) ?_
  obtain ⟨u_3, hu_3, hF_4⟩ := Option.bind_eq_some_iff.mp hF_2
  clear hF_2
  have hPc := bx_P (bs := [b_o cB cC cI cJ cZ oA rA u_1.2]) (bs' := [b_o cB cC cI cJ cZ oA rA u_1.2]) (ws' := (b_o cB cC cI cJ cZ oA rA u_1.2)) hP fl_1 fl_1 [0] rfl
  have hDc := bx_D (bs := [b_o cB cC cI cJ cZ oA rA u_1.2]) (bs' := [b_o cB cC cI cJ cZ oA rA u_1.2]) (ws' := (b_o cB cC cI cJ cZ oA rA u_1.2)) (hDD u_1.2) fl_1 fl_1 [0] (by decide +kernel) rfl
  have hFc := bx_F (bs := [b_o cB cC cI cJ cZ oA rA u_1.2]) (bs' := [b_o cB cC cI cJ cZ oA rA u_1.2]) (wc := (b_o cB cC cI cJ cZ oA rA u_1.2)) (hDD u_1.2) hS hA fl_1 fl_1 [0] rfl
  refine g_ofv (wc := (b_o cB cC cI cJ cZ oA rA u_1.2)) (wr := ([] : va_W)) hP (hDD u_1.2) hS hFc (bx_ix [b_o cB cC cI cJ cZ oA rA u_1.2] [0]) (bx_ix [b_o cB cC cI cJ cZ oA rA u_1.2] []) (bx_C (bs := [b_o cB cC cI cJ cZ oA rA u_1.2]) (bs' := [b_o cB cC cI cJ cZ oA rA u_1.2]) (is := [0]) fl_1 fl_1 rfl) (bx_C (bs := [b_o cB cC cI cJ cZ oA rA u_1.2]) (bs' := []) (is := []) fl_1 fl_0 rfl) (bx_n (by decide +kernel)) (bx_d (by decide +kernel)) (va_runV (As := [.int 10]) (rest := []) ⟨hx, hb, hml, hown, hts⟩ (k_X5_sign l dC dI cB cC cI cJ cZ cP oA rA H.size  10 u_1.2 _ hu_3) (cwV 1 hts (g_gV wq_1008 wq_1009 wq_1010 wq_9 wq_1011) rfl rfl rfl (by decide +kernel) ⟨Nat.le_of_ble_eq_true rfl, Nat.le_of_ble_eq_true rfl⟩) (g_preV g_bl0 hK hPc hDc hS hE hFc g_to0 (q0 := 0) (ci := 5) rfl rfl) rfl rfl hl.1 rfl (lv_room (Nat.le_of_ble_eq_true rfl)) dX5_line_8 ⟨Nat.le_of_ble_eq_true rfl, Nat.le_of_ble_eq_true rfl⟩) (fun u9 H locs hw9 hP' hD' hS => ?_)
  clear hPc hDc hFc
  have hP : va_P (dC, dI) vwCl (b_o cB cC cI cJ cZ oA rA u_3.2) H := hP'
  clear hP' hD'
  have h9 := Option.some.inj hF_4
  subst h9
  exact W.vret hx hb hr (fun t ht hW => ⟨⟨(), rfl, trivial, m_end ht hP, hDD _⟩, hS.F ht⟩) hS.2.2 dX5_line_11
