/-! methods of the class: what each does is its function -/
theorem dX8_tellBreak_0 : decode cX8_tellBreak 0 = .ok (.aload_n 0, 1) := by decide +kernel
theorem dX8_tellBreak_1 : decode cX8_tellBreak 1 = .ok (.getfield 26, 3) := by decide +kernel
theorem dX8_tellBreak_4 : decode cX8_tellBreak 4 = .ok (.invokevirtual 242, 3) := by decide +kernel
theorem dX8_tellBreak_7 : decode cX8_tellBreak 7 = .ok (.aload_n 0, 1) := by decide +kernel
theorem dX8_tellBreak_8 : decode cX8_tellBreak 8 = .ok (.getfield 26, 3) := by decide +kernel
theorem dX8_tellBreak_11 : decode cX8_tellBreak 11 = .ok (.ldc 245, 2) := by decide +kernel
theorem dX8_tellBreak_13 : decode cX8_tellBreak 13 = .ok (.invokevirtual 233, 3) := by decide +kernel
theorem dX8_tellBreak_16 : decode cX8_tellBreak 16 = .ok (.aload_n 0, 1) := by decide +kernel
theorem dX8_tellBreak_17 : decode cX8_tellBreak 17 = .ok (.getfield 26, 3) := by decide +kernel
theorem dX8_tellBreak_20 : decode cX8_tellBreak 20 = .ok (.aload_n 0, 1) := by decide +kernel
theorem dX8_tellBreak_21 : decode cX8_tellBreak 21 = .ok (.getfield 30, 3) := by decide +kernel
theorem dX8_tellBreak_24 : decode cX8_tellBreak 24 = .ok (.getfield 247, 3) := by decide +kernel
theorem dX8_tellBreak_27 : decode cX8_tellBreak 27 = .ok (.invokevirtual 250, 3) := by decide +kernel
theorem dX8_tellBreak_30 : decode cX8_tellBreak 30 = .ok (.aload_n 0, 1) := by decide +kernel
theorem dX8_tellBreak_31 : decode cX8_tellBreak 31 = .ok (.getfield 26, 3) := by decide +kernel
theorem dX8_tellBreak_34 : decode cX8_tellBreak 34 = .ok (.ldc 253, 2) := by decide +kernel
theorem dX8_tellBreak_36 : decode cX8_tellBreak 36 = .ok (.invokevirtual 65, 3) := by decide +kernel
theorem dX8_tellBreak_39 : decode cX8_tellBreak 39 = .ok (.return_, 1) := by decide +kernel
def F_X8_tellBreak  (Γ : HS) : HR :=
  (F_X5_wipe Γ).bind fun u_1 =>
  bnd (mrg (fun j => j == 8) Γ u_1.2) fun σ_3 =>
  (F_X5_text ([91, 98, 114, 101, 97, 107, 32] : List Int32) σ_3).bind fun u_6 =>
  bnd (mrg (fun j => j == 8) σ_3 u_6.2) fun σ_8 =>
  (F_X5_number ((σ_8 10).1 5) σ_8).bind fun u_10 =>
  bnd (mrg (fun j => j == 8) σ_8 u_10.2) fun σ_12 =>
  (F_X5_line ([93] : List Int32) σ_12).bind fun u_15 =>
  bnd (mrg (fun j => j == 8) σ_12 u_15.2) fun σ_17 =>
  some (0, σ_17)
set_option maxHeartbeats 4000000 in
set_option maxRecDepth 100000 in
theorem k_X8_tellBreak (l : Launch) (dC : Nat → ClassId) (dI : Nat → Nat → Nat) (cB cC cI cJ cZ cP : ClassId) (oA : Nat → Nat) (rA : Nat → Nat → Nat) (sz : Nat)   (Γ : HS) (res : Int32 × HS) (hF : F_X8_tellBreak  Γ = some res) : Met l yX8_tellBreak (g_ws yX8_tellBreak cX8_tellBreak 1 none) ({ frames := 7, cells := 0, slots := 0, locals := 168 }) (va_Pc [.ref (oA 11)] (g_B (dC, dI) [(cB, .byte), (cC, .char), (cI, .int), (cJ, .long), (cZ, .boolean), (cP, .object "StoryHouse$Play")] sz (b_e cB cC cI cJ cZ oA rA Γ ++ b_k cB cC cI cJ cZ oA rA Γ ++ b_p cB cC cI cJ cZ oA rA Γ ++ b_o cB cC cI cJ cZ oA rA Γ ++ b_s cB cC cI cJ cZ oA rA Γ ++ b_c cB cC cI cJ cZ oA rA Γ ++ b_t cB cC cI cJ cZ oA rA Γ ++ b_d cB cC cI cJ cZ oA rA Γ) g_0)) (va_Qv (fun (_ : Unit) => True) (g_Bo (dC, dI) (va_A (b_e cB cC cI cJ cZ oA rA Γ ++ b_k cB cC cI cJ cZ oA rA Γ ++ b_p cB cC cI cJ cZ oA rA Γ ++ b_o cB cC cI cJ cZ oA rA Γ ++ b_s cB cC cI cJ cZ oA rA Γ ++ b_c cB cC cI cJ cZ oA rA Γ ++ b_t cB cC cI cJ cZ oA rA Γ ++ b_d cB cC cI cJ cZ oA rA Γ) sz) (fun (_ : Unit) => (b_e cB cC cI cJ cZ oA rA res.2 ++ b_k cB cC cI cJ cZ oA rA res.2 ++ b_p cB cC cI cJ cZ oA rA res.2 ++ b_o cB cC cI cJ cZ oA rA res.2 ++ b_s cB cC cI cJ cZ oA rA res.2 ++ b_c cB cC cI cJ cZ oA rA res.2 ++ b_t cB cC cI cJ cZ oA rA res.2 ++ b_d cB cC cI cJ cZ oA rA res.2))) (va_A (b_e cB cC cI cJ cZ oA rA Γ ++ b_k cB cC cI cJ cZ oA rA Γ ++ b_p cB cC cI cJ cZ oA rA Γ ++ b_o cB cC cI cJ cZ oA rA Γ ++ b_s cB cC cI cJ cZ oA rA Γ ++ b_c cB cC cI cJ cZ oA rA Γ ++ b_t cB cC cI cJ cZ oA rA Γ ++ b_d cB cC cI cJ cZ oA rA Γ) sz)) 0 0 (va_A (b_e cB cC cI cJ cZ oA rA Γ ++ b_k cB cC cI cJ cZ oA rA Γ ++ b_p cB cC cI cJ cZ oA rA Γ ++ b_o cB cC cI cJ cZ oA rA Γ ++ b_s cB cC cI cJ cZ oA rA Γ ++ b_c cB cC cI cJ cZ oA rA Γ ++ b_t cB cC cI cJ cZ oA rA Γ ++ b_d cB cC cI cJ cZ oA rA Γ) sz) := by
  refine Met.ofW (cc := cX8_tellBreak) (maxL := 1) (ret := none) (by decide) rfl ?_
  intro p e s m args below meth c s₁ B hml hv
  obtain ⟨rfl, hsz, hP, hK, hD0, hE, hX⟩ := hv
  have hx := B.exec
  have hb := B.bytes
  have hr := B.returns
  have hts0 := atoms_spec (ws := g_ws yX8_tellBreak cX8_tellBreak 1 none) B.pre
  have hts : ∀ w ∈ lw_good, w.before ([.ref (oA 11)] : List Value).toArray s = true := fun w z => hts0 w (List.mem_cons_of_mem _ z)
  have hown : s.vm.findClass RX8 = some m.cls := findClass_of_methodNamed B.named
  have hlocks := B.notSynchronized
  subst hsz
  have hD1 := hD0.self (sz := s.heap.size)
  generalize hAe : va_A (b_e cB cC cI cJ cZ oA rA Γ ++ b_k cB cC cI cJ cZ oA rA Γ ++ b_p cB cC cI cJ cZ oA rA Γ ++ b_o cB cC cI cJ cZ oA rA Γ ++ b_s cB cC cI cJ cZ oA rA Γ ++ b_c cB cC cI cJ cZ oA rA Γ ++ b_t cB cC cI cJ cZ oA rA Γ ++ b_d cB cC cI cJ cZ oA rA Γ) s.heap.size = A at hD1 hE hX ⊢
  have hA : ∀ q : Nat, s.heap.size ≤ q → A q := fun q z => by rw [← hAe]; exact Or.inr z
  have hDD : ∀ Γ : HS, va_D A (b_e cB cC cI cJ cZ oA rA Γ ++ b_k cB cC cI cJ cZ oA rA Γ ++ b_p cB cC cI cJ cZ oA rA Γ ++ b_o cB cC cI cJ cZ oA rA Γ ++ b_s cB cC cI cJ cZ oA rA Γ ++ b_c cB cC cI cJ cZ oA rA Γ ++ b_t cB cC cI cJ cZ oA rA Γ ++ b_d cB cC cI cJ cZ oA rA Γ) := fun Γ9 => va_D_fst (ws := (b_e cB cC cI cJ cZ oA rA Γ ++ b_k cB cC cI cJ cZ oA rA Γ ++ b_p cB cC cI cJ cZ oA rA Γ ++ b_o cB cC cI cJ cZ oA rA Γ ++ b_s cB cC cI cJ cZ oA rA Γ ++ b_c cB cC cI cJ cZ oA rA Γ ++ b_t cB cC cI cJ cZ oA rA Γ ++ b_d cB cC cI cJ cZ oA rA Γ)) (ws' := (b_e cB cC cI cJ cZ oA rA Γ9 ++ b_k cB cC cI cJ cZ oA rA Γ9 ++ b_p cB cC cI cJ cZ oA rA Γ9 ++ b_o cB cC cI cJ cZ oA rA Γ9 ++ b_s cB cC cI cJ cZ oA rA Γ9 ++ b_c cB cC cI cJ cZ oA rA Γ9 ++ b_t cB cC cI cJ cZ oA rA Γ9 ++ b_d cB cC cI cJ cZ oA rA Γ9)) rfl hD1
  have hN := hE.1
  have hS : va_S A s.heap s.heap [] := va_S.rf
  have hl := lv_entry ([.ref (oA 11)]) (n := 1) (Nat.le_of_ble_eq_true rfl)
  rw [lg_entry_eq]
  generalize (lg_sl ([.ref (oA 11)]) ++ List.replicate (1 - (lg_sl ([.ref (oA 11)])).length) Slot.unset).toArray = ls at hl ⊢
  have hl : lv_has ls 1 [(0, .ref (oA 11))] := hl
  unfold F_X8_tellBreak at hF
  refine lv_aload_n hx hb dX8_tellBreak_0 rfl (lv_at hl 0 rfl) ?_
  refine va_get (D := (dC, dI)) (ci := 8) (v := .ref (oA 8)) (C := RX8) (T := TX8) (N := 16) hx hb hts ii_X8 hown hK hP 0 rfl rfl 1 (by decide) (hts (.fieldLink RX8 26 "StoryHouse$Teller" "told" "LStoryHouse$Out;") wq_287) (fun _ h9 => h9) rfl dX8_tellBreak_1 ?_
  obtain ⟨u_1, hu_1, hF_2⟩ := Option.bind_eq_some_iff.mp hF
  clear hF
  have hPc := bx_P (bs := [b_e cB cC cI cJ cZ oA rA Γ, b_k cB cC cI cJ cZ oA rA Γ, b_p cB cC cI cJ cZ oA rA Γ, b_o cB cC cI cJ cZ oA rA Γ, b_s cB cC cI cJ cZ oA rA Γ, b_c cB cC cI cJ cZ oA rA Γ, b_t cB cC cI cJ cZ oA rA Γ, b_d cB cC cI cJ cZ oA rA Γ]) (bs' := [b_o cB cC cI cJ cZ oA rA Γ]) (ws' := (b_o cB cC cI cJ cZ oA rA Γ)) hP fl_8 fl_1 [3] rfl
  have hDc := bx_D (bs := [b_e cB cC cI cJ cZ oA rA Γ, b_k cB cC cI cJ cZ oA rA Γ, b_p cB cC cI cJ cZ oA rA Γ, b_o cB cC cI cJ cZ oA rA Γ, b_s cB cC cI cJ cZ oA rA Γ, b_c cB cC cI cJ cZ oA rA Γ, b_t cB cC cI cJ cZ oA rA Γ, b_d cB cC cI cJ cZ oA rA Γ]) (bs' := [b_o cB cC cI cJ cZ oA rA Γ]) (ws' := (b_o cB cC cI cJ cZ oA rA Γ)) (hDD Γ) fl_8 fl_1 [3] (by decide +kernel) rfl
  have hFc := bx_F (bs := [b_e cB cC cI cJ cZ oA rA Γ, b_k cB cC cI cJ cZ oA rA Γ, b_p cB cC cI cJ cZ oA rA Γ, b_o cB cC cI cJ cZ oA rA Γ, b_s cB cC cI cJ cZ oA rA Γ, b_c cB cC cI cJ cZ oA rA Γ, b_t cB cC cI cJ cZ oA rA Γ, b_d cB cC cI cJ cZ oA rA Γ]) (bs' := [b_o cB cC cI cJ cZ oA rA Γ]) (wc := (b_o cB cC cI cJ cZ oA rA Γ)) (hDD Γ) hS hA fl_8 fl_1 [3] rfl
  refine g_ofv (wc := (b_o cB cC cI cJ cZ oA rA Γ)) (wr := (b_e cB cC cI cJ cZ oA rA Γ ++ b_k cB cC cI cJ cZ oA rA Γ ++ b_p cB cC cI cJ cZ oA rA Γ ++ b_s cB cC cI cJ cZ oA rA Γ ++ b_c cB cC cI cJ cZ oA rA Γ ++ b_t cB cC cI cJ cZ oA rA Γ ++ b_d cB cC cI cJ cZ oA rA Γ)) hP (hDD Γ) hS hFc (bx_ix [b_e cB cC cI cJ cZ oA rA Γ, b_k cB cC cI cJ cZ oA rA Γ, b_p cB cC cI cJ cZ oA rA Γ, b_o cB cC cI cJ cZ oA rA Γ, b_s cB cC cI cJ cZ oA rA Γ, b_c cB cC cI cJ cZ oA rA Γ, b_t cB cC cI cJ cZ oA rA Γ, b_d cB cC cI cJ cZ oA rA Γ] [3]) (bx_ix [b_e cB cC cI cJ cZ oA rA Γ, b_k cB cC cI cJ cZ oA rA Γ, b_p cB cC cI cJ cZ oA rA Γ, b_o cB cC cI cJ cZ oA rA Γ, b_s cB cC cI cJ cZ oA rA Γ, b_c cB cC cI cJ cZ oA rA Γ, b_t cB cC cI cJ cZ oA rA Γ, b_d cB cC cI cJ cZ oA rA Γ] [0, 1, 2, 4, 5, 6, 7]) (bx_C (bs := [b_e cB cC cI cJ cZ oA rA Γ, b_k cB cC cI cJ cZ oA rA Γ, b_p cB cC cI cJ cZ oA rA Γ, b_o cB cC cI cJ cZ oA rA Γ, b_s cB cC cI cJ cZ oA rA Γ, b_c cB cC cI cJ cZ oA rA Γ, b_t cB cC cI cJ cZ oA rA Γ, b_d cB cC cI cJ cZ oA rA Γ]) (bs' := [b_o cB cC cI cJ cZ oA rA Γ]) (is := [3]) fl_8 fl_1 rfl) (bx_C (bs := [b_e cB cC cI cJ cZ oA rA Γ, b_k cB cC cI cJ cZ oA rA Γ, b_p cB cC cI cJ cZ oA rA Γ, b_o cB cC cI cJ cZ oA rA Γ, b_s cB cC cI cJ cZ oA rA Γ, b_c cB cC cI cJ cZ oA rA Γ, b_t cB cC cI cJ cZ oA rA Γ, b_d cB cC cI cJ cZ oA rA Γ]) (bs' := [b_e cB cC cI cJ cZ oA rA Γ, b_k cB cC cI cJ cZ oA rA Γ, b_p cB cC cI cJ cZ oA rA Γ, b_s cB cC cI cJ cZ oA rA Γ, b_c cB cC cI cJ cZ oA rA Γ, b_t cB cC cI cJ cZ oA rA Γ, b_d cB cC cI cJ cZ oA rA Γ]) (is := [0, 1, 2, 4, 5, 6, 7]) fl_8 fl_7 rfl) (bx_n (by decide +kernel)) (bx_d (by decide +kernel)) (va_runV (As := []) (rest := []) ⟨hx, hb, hml, hown, hts⟩ (k_X5_wipe l dC dI cB cC cI cJ cZ cP oA rA s.heap.size  Γ _ hu_1) (cwV 0 hts (g_gV wq_1262 wq_952 wq_953 wq_9 wq_954) rfl rfl rfl (by decide +kernel) ⟨Nat.le_of_ble_eq_true rfl, Nat.le_of_ble_eq_true rfl⟩) (g_preV g_bl0 hK hPc hDc hS hE hFc g_to0 (q0 := 0) (ci := 5) rfl rfl) rfl rfl hl.1 rfl (lv_room (Nat.le_of_ble_eq_true rfl)) dX8_tellBreak_4 ⟨Nat.le_of_ble_eq_true rfl, Nat.le_of_ble_eq_true rfl⟩) (fun u9 H locs hw9 hP' hD' hS => ?_)
  clear hPc hDc hFc
  obtain ⟨σ_3, eσ_3, hF_4⟩ := bnd_e hF_2
  clear hF_2
  have hP : va_P (dC, dI) vwCl (b_e cB cC cI cJ cZ oA rA σ_3 ++ b_k cB cC cI cJ cZ oA rA σ_3 ++ b_p cB cC cI cJ cZ oA rA σ_3 ++ b_o cB cC cI cJ cZ oA rA σ_3 ++ b_s cB cC cI cJ cZ oA rA σ_3 ++ b_c cB cC cI cJ cZ oA rA σ_3 ++ b_t cB cC cI cJ cZ oA rA σ_3 ++ b_d cB cC cI cJ cZ oA rA σ_3) H := by rw [eσ_3]; exact bx_P (bs := [b_e cB cC cI cJ cZ oA rA Γ, b_k cB cC cI cJ cZ oA rA Γ, b_p cB cC cI cJ cZ oA rA Γ, b_s cB cC cI cJ cZ oA rA Γ, b_c cB cC cI cJ cZ oA rA Γ, b_t cB cC cI cJ cZ oA rA Γ, b_d cB cC cI cJ cZ oA rA Γ] ++ [b_o cB cC cI cJ cZ oA rA u_1.2]) (bs' := [b_e cB cC cI cJ cZ oA rA (mrg (fun j => j == 8) Γ u_1.2), b_k cB cC cI cJ cZ oA rA (mrg (fun j => j == 8) Γ u_1.2), b_p cB cC cI cJ cZ oA rA (mrg (fun j => j == 8) Γ u_1.2), b_o cB cC cI cJ cZ oA rA (mrg (fun j => j == 8) Γ u_1.2), b_s cB cC cI cJ cZ oA rA (mrg (fun j => j == 8) Γ u_1.2), b_c cB cC cI cJ cZ oA rA (mrg (fun j => j == 8) Γ u_1.2), b_t cB cC cI cJ cZ oA rA (mrg (fun j => j == 8) Γ u_1.2), b_d cB cC cI cJ cZ oA rA (mrg (fun j => j == 8) Γ u_1.2)]) hP' (fl_a fl_7 fl_1) fl_8 [0, 1, 2, 7, 3, 4, 5, 6] rfl
  clear hP' hD'
  refine lv_aload_n hx hb dX8_tellBreak_7 rfl (lv_at hl 0 rfl) ?_
  refine va_get (D := (dC, dI)) (ci := 8) (v := .ref (oA 8)) (C := RX8) (T := TX8) (N := 16) hx hb hts ii_X8 hown hK hP 0 rfl rfl 1 (by decide) (hts (.fieldLink RX8 26 "StoryHouse$Teller" "told" "LStoryHouse$Out;") wq_287) (fun _ h9 => h9) rfl dX8_tellBreak_8 ?_
  obtain ⟨q_5, vq_5, hRq_5, hSq_5⟩ := hE.2.2.2.2 _ (List.mem_of_getElem? (i := 68) rfl)
  refine va_ldcS (own := RX8) (tx := "[break ") hx hb hown hRq_5 dX8_tellBreak_11 ?_
  obtain ⟨u_6, hu_6, hF_7⟩ := Option.bind_eq_some_iff.mp hF_4
  clear hF_4
  have hPc := bx_P (bs := [b_e cB cC cI cJ cZ oA rA σ_3, b_k cB cC cI cJ cZ oA rA σ_3, b_p cB cC cI cJ cZ oA rA σ_3, b_o cB cC cI cJ cZ oA rA σ_3, b_s cB cC cI cJ cZ oA rA σ_3, b_c cB cC cI cJ cZ oA rA σ_3, b_t cB cC cI cJ cZ oA rA σ_3, b_d cB cC cI cJ cZ oA rA σ_3]) (bs' := [b_o cB cC cI cJ cZ oA rA σ_3]) (ws' := (b_o cB cC cI cJ cZ oA rA σ_3)) hP fl_8 fl_1 [3] rfl
  have hDc := bx_D (bs := [b_e cB cC cI cJ cZ oA rA σ_3, b_k cB cC cI cJ cZ oA rA σ_3, b_p cB cC cI cJ cZ oA rA σ_3, b_o cB cC cI cJ cZ oA rA σ_3, b_s cB cC cI cJ cZ oA rA σ_3, b_c cB cC cI cJ cZ oA rA σ_3, b_t cB cC cI cJ cZ oA rA σ_3, b_d cB cC cI cJ cZ oA rA σ_3]) (bs' := [b_o cB cC cI cJ cZ oA rA σ_3]) (ws' := (b_o cB cC cI cJ cZ oA rA σ_3)) (hDD σ_3) fl_8 fl_1 [3] (by decide +kernel) rfl
  have hFc := bx_F (bs := [b_e cB cC cI cJ cZ oA rA σ_3, b_k cB cC cI cJ cZ oA rA σ_3, b_p cB cC cI cJ cZ oA rA σ_3, b_o cB cC cI cJ cZ oA rA σ_3, b_s cB cC cI cJ cZ oA rA σ_3, b_c cB cC cI cJ cZ oA rA σ_3, b_t cB cC cI cJ cZ oA rA σ_3, b_d cB cC cI cJ cZ oA rA σ_3]) (bs' := [b_o cB cC cI cJ cZ oA rA σ_3]) (wc := (b_o cB cC cI cJ cZ oA rA σ_3)) (hDD σ_3) hS hA fl_8 fl_1 [3] rfl
  refine g_ofv (wc := (b_o cB cC cI cJ cZ oA rA σ_3)) (wr := (b_e cB cC cI cJ cZ oA rA σ_3 ++ b_k cB cC cI cJ cZ oA rA σ_3 ++ b_p cB cC cI cJ cZ oA rA σ_3 ++ b_s cB cC cI cJ cZ oA rA σ_3 ++ b_c cB cC cI cJ cZ oA rA σ_3 ++ b_t cB cC cI cJ cZ oA rA σ_3 ++ b_d cB cC cI cJ cZ oA rA σ_3)) hP (hDD σ_3) hS hFc (bx_ix [b_e cB cC cI cJ cZ oA rA σ_3, b_k cB cC cI cJ cZ oA rA σ_3, b_p cB cC cI cJ cZ oA rA σ_3, b_o cB cC cI cJ cZ oA rA σ_3, b_s cB cC cI cJ cZ oA rA σ_3, b_c cB cC cI cJ cZ oA rA σ_3, b_t cB cC cI cJ cZ oA rA σ_3, b_d cB cC cI cJ cZ oA rA σ_3] [3]) (bx_ix [b_e cB cC cI cJ cZ oA rA σ_3, b_k cB cC cI cJ cZ oA rA σ_3, b_p cB cC cI cJ cZ oA rA σ_3, b_o cB cC cI cJ cZ oA rA σ_3, b_s cB cC cI cJ cZ oA rA σ_3, b_c cB cC cI cJ cZ oA rA σ_3, b_t cB cC cI cJ cZ oA rA σ_3, b_d cB cC cI cJ cZ oA rA σ_3] [0, 1, 2, 4, 5, 6, 7]) (bx_C (bs := [b_e cB cC cI cJ cZ oA rA σ_3, b_k cB cC cI cJ cZ oA rA σ_3, b_p cB cC cI cJ cZ oA rA σ_3, b_o cB cC cI cJ cZ oA rA σ_3, b_s cB cC cI cJ cZ oA rA σ_3, b_c cB cC cI cJ cZ oA rA σ_3, b_t cB cC cI cJ cZ oA rA σ_3, b_d cB cC cI cJ cZ oA rA σ_3]) (bs' := [b_o cB cC cI cJ cZ oA rA σ_3]) (is := [3]) fl_8 fl_1 rfl) (bx_C (bs := [b_e cB cC cI cJ cZ oA rA σ_3, b_k cB cC cI cJ cZ oA rA σ_3, b_p cB cC cI cJ cZ oA rA σ_3, b_o cB cC cI cJ cZ oA rA σ_3, b_s cB cC cI cJ cZ oA rA σ_3, b_c cB cC cI cJ cZ oA rA σ_3, b_t cB cC cI cJ cZ oA rA σ_3, b_d cB cC cI cJ cZ oA rA σ_3]) (bs' := [b_e cB cC cI cJ cZ oA rA σ_3, b_k cB cC cI cJ cZ oA rA σ_3, b_p cB cC cI cJ cZ oA rA σ_3, b_s cB cC cI cJ cZ oA rA σ_3, b_c cB cC cI cJ cZ oA rA σ_3, b_t cB cC cI cJ cZ oA rA σ_3, b_d cB cC cI cJ cZ oA rA σ_3]) (is := [0, 1, 2, 4, 5, 6, 7]) fl_8 fl_7 rfl) (bx_n (by decide +kernel)) (bx_d (by decide +kernel)) (va_runV (As := [.ref q_5]) (rest := []) ⟨hx, hb, hml, hown, hts⟩ (k_X5_text l dC dI cB cC cI cJ cZ cP oA rA H.size q_5 _ ([91, 98, 114, 101, 97, 107, 32] : List Int32) σ_3 _ hu_6) (cwV 1 hts (g_gV wq_1031 wq_1003 wq_1004 wq_9 wq_1005) rfl rfl rfl (by decide +kernel) ⟨Nat.le_of_ble_eq_true rfl, Nat.le_of_ble_eq_true rfl⟩) (g_preV g_blS hK hPc hDc hS hE hFc (g_toS hSq_5 hS hFc) (q0 := 0) (ci := 5) rfl rfl) rfl rfl hl.1 rfl (lv_room (Nat.le_of_ble_eq_true rfl)) dX8_tellBreak_13 ⟨Nat.le_of_ble_eq_true rfl, Nat.le_of_ble_eq_true rfl⟩) (fun u9 H locs hw9 hP' hD' hS => ?_)
  clear hPc hDc hFc
  obtain ⟨σ_8, eσ_8, hF_9⟩ := bnd_e hF_7
  clear hF_7
  have hP : va_P (dC, dI) vwCl (b_e cB cC cI cJ cZ oA rA σ_8 ++ b_k cB cC cI cJ cZ oA rA σ_8 ++ b_p cB cC cI cJ cZ oA rA σ_8 ++ b_o cB cC cI cJ cZ oA rA σ_8 ++ b_s cB cC cI cJ cZ oA rA σ_8 ++ b_c cB cC cI cJ cZ oA rA σ_8 ++ b_t cB cC cI cJ cZ oA rA σ_8 ++ b_d cB cC cI cJ cZ oA rA σ_8) H := by rw [eσ_8]; exact bx_P (bs := [b_e cB cC cI cJ cZ oA rA σ_3, b_k cB cC cI cJ cZ oA rA σ_3, b_p cB cC cI cJ cZ oA rA σ_3, b_s cB cC cI cJ cZ oA rA σ_3, b_c cB cC cI cJ cZ oA rA σ_3, b_t cB cC cI cJ cZ oA rA σ_3, b_d cB cC cI cJ cZ oA rA σ_3] ++ [b_o cB cC cI cJ cZ oA rA u_6.2]) (bs' := [b_e cB cC cI cJ cZ oA rA (mrg (fun j => j == 8) σ_3 u_6.2), b_k cB cC cI cJ cZ oA rA (mrg (fun j => j == 8) σ_3 u_6.2), b_p cB cC cI cJ cZ oA rA (mrg (fun j => j == 8) σ_3 u_6.2), b_o cB cC cI cJ cZ oA rA (mrg (fun j => j == 8) σ_3 u_6.2), b_s cB cC cI cJ cZ oA rA (mrg (fun j => j == 8) σ_3 u_6.2), b_c cB cC cI cJ cZ oA rA (mrg (fun j => j == 8) σ_3 u_6.2), b_t cB cC cI cJ cZ oA rA (mrg (fun j => j == 8) σ_3 u_6.2), b_d cB cC cI cJ cZ oA rA (mrg (fun j => j == 8) σ_3 u_6.2)]) hP' (fl_a fl_7 fl_1) fl_8 [0, 1, 2, 7, 3, 4, 5, 6] rfl
  clear hP' hD'
  refine lv_aload_n hx hb dX8_tellBreak_16 rfl (lv_at hl 0 rfl) ?_
  refine va_get (D := (dC, dI)) (ci := 8) (v := .ref (oA 8)) (C := RX8) (T := TX8) (N := 16) hx hb hts ii_X8 hown hK hP 0 rfl rfl 1 (by decide) (hts (.fieldLink RX8 26 "StoryHouse$Teller" "told" "LStoryHouse$Out;") wq_287) (fun _ h9 => h9) rfl dX8_tellBreak_17 ?_
  refine lv_aload_n hx hb dX8_tellBreak_20 rfl (lv_at hl 0 rfl) ?_
  refine va_get (D := (dC, dI)) (ci := 8) (v := .ref (oA 10)) (C := RX8) (T := TX8) (N := 16) hx hb hts ii_X8 hown hK hP 0 rfl rfl 2 (by decide) (hts (.fieldLink RX8 30 "StoryHouse$Teller" "machine" "LStoryHouse$Machine;") wq_288) (fun _ h9 => h9) rfl dX8_tellBreak_21 ?_
  refine va_get (D := (dC, dI)) (ci := 3) (v := .int ((σ_8 10).1 5)) (C := RX3) (T := TX3) (N := 16) hx hb hts ii_X3 hown hK hP 4 rfl rfl 5 (by decide) (hts (.fieldLink RX8 247 "StoryHouse$Machine" "broke" "I") wq_269) (fun _ h9 => h9) rfl dX8_tellBreak_24 ?_
  obtain ⟨u_10, hu_10, hF_11⟩ := Option.bind_eq_some_iff.mp hF_9
  clear hF_9
  have hPc := bx_P (bs := [b_e cB cC cI cJ cZ oA rA σ_8, b_k cB cC cI cJ cZ oA rA σ_8, b_p cB cC cI cJ cZ oA rA σ_8, b_o cB cC cI cJ cZ oA rA σ_8, b_s cB cC cI cJ cZ oA rA σ_8, b_c cB cC cI cJ cZ oA rA σ_8, b_t cB cC cI cJ cZ oA rA σ_8, b_d cB cC cI cJ cZ oA rA σ_8]) (bs' := [b_o cB cC cI cJ cZ oA rA σ_8]) (ws' := (b_o cB cC cI cJ cZ oA rA σ_8)) hP fl_8 fl_1 [3] rfl
  have hDc := bx_D (bs := [b_e cB cC cI cJ cZ oA rA σ_8, b_k cB cC cI cJ cZ oA rA σ_8, b_p cB cC cI cJ cZ oA rA σ_8, b_o cB cC cI cJ cZ oA rA σ_8, b_s cB cC cI cJ cZ oA rA σ_8, b_c cB cC cI cJ cZ oA rA σ_8, b_t cB cC cI cJ cZ oA rA σ_8, b_d cB cC cI cJ cZ oA rA σ_8]) (bs' := [b_o cB cC cI cJ cZ oA rA σ_8]) (ws' := (b_o cB cC cI cJ cZ oA rA σ_8)) (hDD σ_8) fl_8 fl_1 [3] (by decide +kernel) rfl
  have hFc := bx_F (bs := [b_e cB cC cI cJ cZ oA rA σ_8, b_k cB cC cI cJ cZ oA rA σ_8, b_p cB cC cI cJ cZ oA rA σ_8, b_o cB cC cI cJ cZ oA rA σ_8, b_s cB cC cI cJ cZ oA rA σ_8, b_c cB cC cI cJ cZ oA rA σ_8, b_t cB cC cI cJ cZ oA rA σ_8, b_d cB cC cI cJ cZ oA rA σ_8]) (bs' := [b_o cB cC cI cJ cZ oA rA σ_8]) (wc := (b_o cB cC cI cJ cZ oA rA σ_8)) (hDD σ_8) hS hA fl_8 fl_1 [3] rfl
  refine g_ofv (wc := (b_o cB cC cI cJ cZ oA rA σ_8)) (wr := (b_e cB cC cI cJ cZ oA rA σ_8 ++ b_k cB cC cI cJ cZ oA rA σ_8 ++ b_p cB cC cI cJ cZ oA rA σ_8 ++ b_s cB cC cI cJ cZ oA rA σ_8 ++ b_c cB cC cI cJ cZ oA rA σ_8 ++ b_t cB cC cI cJ cZ oA rA σ_8 ++ b_d cB cC cI cJ cZ oA rA σ_8)) hP (hDD σ_8) hS hFc (bx_ix [b_e cB cC cI cJ cZ oA rA σ_8, b_k cB cC cI cJ cZ oA rA σ_8, b_p cB cC cI cJ cZ oA rA σ_8, b_o cB cC cI cJ cZ oA rA σ_8, b_s cB cC cI cJ cZ oA rA σ_8, b_c cB cC cI cJ cZ oA rA σ_8, b_t cB cC cI cJ cZ oA rA σ_8, b_d cB cC cI cJ cZ oA rA σ_8] [3]) (bx_ix [b_e cB cC cI cJ cZ oA rA σ_8, b_k cB cC cI cJ cZ oA rA σ_8, b_p cB cC cI cJ cZ oA rA σ_8, b_o cB cC cI cJ cZ oA rA σ_8, b_s cB cC cI cJ cZ oA rA σ_8, b_c cB cC cI cJ cZ oA rA σ_8, b_t cB cC cI cJ cZ oA rA σ_8, b_d cB cC cI cJ cZ oA rA σ_8] [0, 1, 2, 4, 5, 6, 7]) (bx_C (bs := [b_e cB cC cI cJ cZ oA rA σ_8, b_k cB cC cI cJ cZ oA rA σ_8, b_p cB cC cI cJ cZ oA rA σ_8, b_o cB cC cI cJ cZ oA rA σ_8, b_s cB cC cI cJ cZ oA rA σ_8, b_c cB cC cI cJ cZ oA rA σ_8, b_t cB cC cI cJ cZ oA rA σ_8, b_d cB cC cI cJ cZ oA rA σ_8]) (bs' := [b_o cB cC cI cJ cZ oA rA σ_8]) (is := [3]) fl_8 fl_1 rfl) (bx_C (bs := [b_e cB cC cI cJ cZ oA rA σ_8, b_k cB cC cI cJ cZ oA rA σ_8, b_p cB cC cI cJ cZ oA rA σ_8, b_o cB cC cI cJ cZ oA rA σ_8, b_s cB cC cI cJ cZ oA rA σ_8, b_c cB cC cI cJ cZ oA rA σ_8, b_t cB cC cI cJ cZ oA rA σ_8, b_d cB cC cI cJ cZ oA rA σ_8]) (bs' := [b_e cB cC cI cJ cZ oA rA σ_8, b_k cB cC cI cJ cZ oA rA σ_8, b_p cB cC cI cJ cZ oA rA σ_8, b_s cB cC cI cJ cZ oA rA σ_8, b_c cB cC cI cJ cZ oA rA σ_8, b_t cB cC cI cJ cZ oA rA σ_8, b_d cB cC cI cJ cZ oA rA σ_8]) (is := [0, 1, 2, 4, 5, 6, 7]) fl_8 fl_7 rfl) (bx_n (by decide +kernel)) (bx_d (by decide +kernel)) (va_runV (As := [.int ((σ_8 10).1 5)]) (rest := []) ⟨hx, hb, hml, hown, hts⟩ (k_X5_number l dC dI cB cC cI cJ cZ cP oA rA H.size  ((σ_8 10).1 5) σ_8 _ hu_10) (cwV 1 hts (g_gV wq_1263 wq_1193 wq_1194 wq_9 wq_1195) rfl rfl rfl (by decide +kernel) ⟨Nat.le_of_ble_eq_true rfl, Nat.le_of_ble_eq_true rfl⟩) (g_preV g_bl0 hK hPc hDc hS hE hFc g_to0 (q0 := 0) (ci := 5) rfl rfl) rfl rfl hl.1 rfl (lv_room (Nat.le_of_ble_eq_true rfl)) dX8_tellBreak_27 ⟨Nat.le_of_ble_eq_true rfl, Nat.le_of_ble_eq_true rfl⟩) (fun u9 H locs hw9 hP' hD' hS => ?_)
  clear hPc hDc hFc
  obtain ⟨σ_12, eσ_12, hF_13⟩ := bnd_e hF_11
  clear hF_11
  have hP : va_P (dC, dI) vwCl (b_e cB cC cI cJ cZ oA rA σ_12 ++ b_k cB cC cI cJ cZ oA rA σ_12 ++ b_p cB cC cI cJ cZ oA rA σ_12 ++ b_o cB cC cI cJ cZ oA rA σ_12 ++ b_s cB cC cI cJ cZ oA rA σ_12 ++ b_c cB cC cI cJ cZ oA rA σ_12 ++ b_t cB cC cI cJ cZ oA rA σ_12 ++ b_d cB cC cI cJ cZ oA rA σ_12) H := by rw [eσ_12]; exact bx_P (bs := [b_e cB cC cI cJ cZ oA rA σ_8, b_k cB cC cI cJ cZ oA rA σ_8, b_p cB cC cI cJ cZ oA rA σ_8, b_s cB cC cI cJ cZ oA rA σ_8, b_c cB cC cI cJ cZ oA rA σ_8, b_t cB cC cI cJ cZ oA rA σ_8, b_d cB cC cI cJ cZ oA rA σ_8] ++ [b_o cB cC cI cJ cZ oA rA u_10.2]) (bs' := [b_e cB cC cI cJ cZ oA rA (mrg (fun j => j == 8) σ_8 u_10.2), b_k cB cC cI cJ cZ oA rA (mrg (fun j => j == 8) σ_8 u_10.2), b_p cB cC cI cJ cZ oA rA (mrg (fun j => j == 8) σ_8 u_10.2), b_o cB cC cI cJ cZ oA rA (mrg (fun j => j == 8) σ_8 u_10.2), b_s cB cC cI cJ cZ oA rA (mrg (fun j => j == 8) σ_8 u_10.2), b_c cB cC cI cJ cZ oA rA (mrg (fun j => j == 8) σ_8 u_10.2), b_t cB cC cI cJ cZ oA rA (mrg (fun j => j == 8) σ_8 u_10.2), b_d cB cC cI cJ cZ oA rA (mrg (fun j => j == 8) σ_8 u_10.2)]) hP' (fl_a fl_7 fl_1) fl_8 [0, 1, 2, 7, 3, 4, 5, 6] rfl
  clear hP' hD'
  refine lv_aload_n hx hb dX8_tellBreak_30 rfl (lv_at hl 0 rfl) ?_
  refine va_get (D := (dC, dI)) (ci := 8) (v := .ref (oA 8)) (C := RX8) (T := TX8) (N := 16) hx hb hts ii_X8 hown hK hP 0 rfl rfl 1 (by decide) (hts (.fieldLink RX8 26 "StoryHouse$Teller" "told" "LStoryHouse$Out;") wq_287) (fun _ h9 => h9) rfl dX8_tellBreak_31 ?_
  obtain ⟨q_14, vq_14, hRq_14, hSq_14⟩ := hE.2.2.2.2 _ (List.mem_of_getElem? (i := 69) rfl)
  refine va_ldcS (own := RX8) (tx := "]") hx hb hown hRq_14 dX8_tellBreak_34 ?_
  obtain ⟨u_15, hu_15, hF_16⟩ := Option.bind_eq_some_iff.mp hF_13
  clear hF_13
  have hPc := bx_P (bs := [b_e cB cC cI cJ cZ oA rA σ_12, b_k cB cC cI cJ cZ oA rA σ_12, b_p cB cC cI cJ cZ oA rA σ_12, b_o cB cC cI cJ cZ oA rA σ_12, b_s cB cC cI cJ cZ oA rA σ_12, b_c cB cC cI cJ cZ oA rA σ_12, b_t cB cC cI cJ cZ oA rA σ_12, b_d cB cC cI cJ cZ oA rA σ_12]) (bs' := [b_o cB cC cI cJ cZ oA rA σ_12]) (ws' := (b_o cB cC cI cJ cZ oA rA σ_12)) hP fl_8 fl_1 [3] rfl
  have hDc := bx_D (bs := [b_e cB cC cI cJ cZ oA rA σ_12, b_k cB cC cI cJ cZ oA rA σ_12, b_p cB cC cI cJ cZ oA rA σ_12, b_o cB cC cI cJ cZ oA rA σ_12, b_s cB cC cI cJ cZ oA rA σ_12, b_c cB cC cI cJ cZ oA rA σ_12, b_t cB cC cI cJ cZ oA rA σ_12, b_d cB cC cI cJ cZ oA rA σ_12]) (bs' := [b_o cB cC cI cJ cZ oA rA σ_12]) (ws' := (b_o cB cC cI cJ cZ oA rA σ_12)) (hDD σ_12) fl_8 fl_1 [3] (by decide +kernel) rfl
  have hFc := bx_F (bs := [b_e cB cC cI cJ cZ oA rA σ_12, b_k cB cC cI cJ cZ oA rA σ_12, b_p cB cC cI cJ cZ oA rA σ_12, b_o cB cC cI cJ cZ oA rA σ_12, b_s cB cC cI cJ cZ oA rA σ_12, b_c cB cC cI cJ cZ oA rA σ_12, b_t cB cC cI cJ cZ oA rA σ_12, b_d cB cC cI cJ cZ oA rA σ_12]) (bs' := [b_o cB cC cI cJ cZ oA rA σ_12]) (wc := (b_o cB cC cI cJ cZ oA rA σ_12)) (hDD σ_12) hS hA fl_8 fl_1 [3] rfl
  refine g_ofv (wc := (b_o cB cC cI cJ cZ oA rA σ_12)) (wr := (b_e cB cC cI cJ cZ oA rA σ_12 ++ b_k cB cC cI cJ cZ oA rA σ_12 ++ b_p cB cC cI cJ cZ oA rA σ_12 ++ b_s cB cC cI cJ cZ oA rA σ_12 ++ b_c cB cC cI cJ cZ oA rA σ_12 ++ b_t cB cC cI cJ cZ oA rA σ_12 ++ b_d cB cC cI cJ cZ oA rA σ_12)) hP (hDD σ_12) hS hFc (bx_ix [b_e cB cC cI cJ cZ oA rA σ_12, b_k cB cC cI cJ cZ oA rA σ_12, b_p cB cC cI cJ cZ oA rA σ_12, b_o cB cC cI cJ cZ oA rA σ_12, b_s cB cC cI cJ cZ oA rA σ_12, b_c cB cC cI cJ cZ oA rA σ_12, b_t cB cC cI cJ cZ oA rA σ_12, b_d cB cC cI cJ cZ oA rA σ_12] [3]) (bx_ix [b_e cB cC cI cJ cZ oA rA σ_12, b_k cB cC cI cJ cZ oA rA σ_12, b_p cB cC cI cJ cZ oA rA σ_12, b_o cB cC cI cJ cZ oA rA σ_12, b_s cB cC cI cJ cZ oA rA σ_12, b_c cB cC cI cJ cZ oA rA σ_12, b_t cB cC cI cJ cZ oA rA σ_12, b_d cB cC cI cJ cZ oA rA σ_12] [0, 1, 2, 4, 5, 6, 7]) (bx_C (bs := [b_e cB cC cI cJ cZ oA rA σ_12, b_k cB cC cI cJ cZ oA rA σ_12, b_p cB cC cI cJ cZ oA rA σ_12, b_o cB cC cI cJ cZ oA rA σ_12, b_s cB cC cI cJ cZ oA rA σ_12, b_c cB cC cI cJ cZ oA rA σ_12, b_t cB cC cI cJ cZ oA rA σ_12, b_d cB cC cI cJ cZ oA rA σ_12]) (bs' := [b_o cB cC cI cJ cZ oA rA σ_12]) (is := [3]) fl_8 fl_1 rfl) (bx_C (bs := [b_e cB cC cI cJ cZ oA rA σ_12, b_k cB cC cI cJ cZ oA rA σ_12, b_p cB cC cI cJ cZ oA rA σ_12, b_o cB cC cI cJ cZ oA rA σ_12, b_s cB cC cI cJ cZ oA rA σ_12, b_c cB cC cI cJ cZ oA rA σ_12, b_t cB cC cI cJ cZ oA rA σ_12, b_d cB cC cI cJ cZ oA rA σ_12]) (bs' := [b_e cB cC cI cJ cZ oA rA σ_12, b_k cB cC cI cJ cZ oA rA σ_12, b_p cB cC cI cJ cZ oA rA σ_12, b_s cB cC cI cJ cZ oA rA σ_12, b_c cB cC cI cJ cZ oA rA σ_12, b_t cB cC cI cJ cZ oA rA σ_12, b_d cB cC cI cJ cZ oA rA σ_12]) (is := [0, 1, 2, 4, 5, 6, 7]) fl_8 fl_7 rfl) (bx_n (by decide +kernel)) (bx_d (by decide +kernel)) (va_runV (As := [.ref q_14]) (rest := []) ⟨hx, hb, hml, hown, hts⟩ (k_X5_line l dC dI cB cC cI cJ cZ cP oA rA H.size q_14 _ ([93] : List Int32) σ_12 _ hu_15) (cwV 1 hts (g_gV wq_998 wq_999 wq_1000 wq_9 wq_1001) rfl rfl rfl (by decide +kernel) ⟨Nat.le_of_ble_eq_true rfl, Nat.le_of_ble_eq_true rfl⟩) (g_preV g_blS hK hPc hDc hS hE hFc (g_toS hSq_14 hS hFc) (q0 := 0) (ci := 5) rfl rfl) rfl rfl hl.1 rfl (lv_room (Nat.le_of_ble_eq_true rfl)) dX8_tellBreak_36 ⟨Nat.le_of_ble_eq_true rfl, Nat.le_of_ble_eq_true rfl⟩) (fun u9 H locs hw9 hP' hD' hS => ?_)
  clear hPc hDc hFc
  obtain ⟨σ_17, eσ_17, hF_18⟩ := bnd_e hF_16
  clear hF_16
  have hP : va_P (dC, dI) vwCl (b_e cB cC cI cJ cZ oA rA σ_17 ++ b_k cB cC cI cJ cZ oA rA σ_17 ++ b_p cB cC cI cJ cZ oA rA σ_17 ++ b_o cB cC cI cJ cZ oA rA σ_17 ++ b_s cB cC cI cJ cZ oA rA σ_17 ++ b_c cB cC cI cJ cZ oA rA σ_17 ++ b_t cB cC cI cJ cZ oA rA σ_17 ++ b_d cB cC cI cJ cZ oA rA σ_17) H := by rw [eσ_17]; exact bx_P (bs := [b_e cB cC cI cJ cZ oA rA σ_12, b_k cB cC cI cJ cZ oA rA σ_12, b_p cB cC cI cJ cZ oA rA σ_12, b_s cB cC cI cJ cZ oA rA σ_12, b_c cB cC cI cJ cZ oA rA σ_12, b_t cB cC cI cJ cZ oA rA σ_12, b_d cB cC cI cJ cZ oA rA σ_12] ++ [b_o cB cC cI cJ cZ oA rA u_15.2]) (bs' := [b_e cB cC cI cJ cZ oA rA (mrg (fun j => j == 8) σ_12 u_15.2), b_k cB cC cI cJ cZ oA rA (mrg (fun j => j == 8) σ_12 u_15.2), b_p cB cC cI cJ cZ oA rA (mrg (fun j => j == 8) σ_12 u_15.2), b_o cB cC cI cJ cZ oA rA (mrg (fun j => j == 8) σ_12 u_15.2), b_s cB cC cI cJ cZ oA rA (mrg (fun j => j == 8) σ_12 u_15.2), b_c cB cC cI cJ cZ oA rA (mrg (fun j => j == 8) σ_12 u_15.2), b_t cB cC cI cJ cZ oA rA (mrg (fun j => j == 8) σ_12 u_15.2), b_d cB cC cI cJ cZ oA rA (mrg (fun j => j == 8) σ_12 u_15.2)]) hP' (fl_a fl_7 fl_1) fl_8 [0, 1, 2, 7, 3, 4, 5, 6] rfl
  clear hP' hD'
  have h9 := Option.some.inj hF_18
  subst h9
  exact W.vret hx hb hr (fun t ht hW => ⟨⟨(), rfl, trivial, m_end ht hP, hDD _⟩, hS.F ht⟩) hS.2.2 dX8_tellBreak_39
theorem dX9_putUnit_0 : decode cX9_putUnit 0 = .ok (.aload_n 0, 1) := by decide +kernel
theorem dX9_putUnit_1 : decode cX9_putUnit 1 = .ok (.getfield 29, 3) := by decide +kernel
theorem dX9_putUnit_4 : decode cX9_putUnit 4 = .ok (.ifCond .lt 36, 3) := by decide +kernel
theorem dX9_putUnit_7 : decode cX9_putUnit 7 = .ok (.aload_n 0, 1) := by decide +kernel
theorem dX9_putUnit_8 : decode cX9_putUnit 8 = .ok (.getfield 29, 3) := by decide +kernel
theorem dX9_putUnit_11 : decode cX9_putUnit 11 = .ok (.aload_n 0, 1) := by decide +kernel
theorem dX9_putUnit_12 : decode cX9_putUnit 12 = .ok (.getfield 11, 3) := by decide +kernel
theorem dX9_putUnit_15 : decode cX9_putUnit 15 = .ok (.arraylength, 1) := by decide +kernel
theorem dX9_putUnit_16 : decode cX9_putUnit 16 = .ok (.if_icmp .ge 24, 3) := by decide +kernel
theorem dX9_putUnit_19 : decode cX9_putUnit 19 = .ok (.aload_n 0, 1) := by decide +kernel
theorem dX9_putUnit_20 : decode cX9_putUnit 20 = .ok (.getfield 11, 3) := by decide +kernel
theorem dX9_putUnit_23 : decode cX9_putUnit 23 = .ok (.aload_n 0, 1) := by decide +kernel
theorem dX9_putUnit_24 : decode cX9_putUnit 24 = .ok (.getfield 29, 3) := by decide +kernel
theorem dX9_putUnit_27 : decode cX9_putUnit 27 = .ok (.iload_n 1, 1) := by decide +kernel
theorem dX9_putUnit_28 : decode cX9_putUnit 28 = .ok (.i2c, 1) := by decide +kernel
theorem dX9_putUnit_29 : decode cX9_putUnit 29 = .ok (.castore, 1) := by decide +kernel
theorem dX9_putUnit_30 : decode cX9_putUnit 30 = .ok (.aload_n 0, 1) := by decide +kernel
theorem dX9_putUnit_31 : decode cX9_putUnit 31 = .ok (.dup, 1) := by decide +kernel
theorem dX9_putUnit_32 : decode cX9_putUnit 32 = .ok (.getfield 29, 3) := by decide +kernel
theorem dX9_putUnit_35 : decode cX9_putUnit 35 = .ok (.iconst 1, 1) := by decide +kernel
theorem dX9_putUnit_36 : decode cX9_putUnit 36 = .ok (.iadd, 1) := by decide +kernel
theorem dX9_putUnit_37 : decode cX9_putUnit 37 = .ok (.putfield 29, 3) := by decide +kernel
theorem dX9_putUnit_40 : decode cX9_putUnit 40 = .ok (.return_, 1) := by decide +kernel
def F_X9_putUnit (p0 : Int32) (Γ : HS) : HR :=
  if ((Γ 6).1 1) < 0 then (
    some (0, Γ)
  ) else (
    if 16000 ≤ ((Γ 6).1 1) then (
      some (0, Γ)
    ) else (
      bnd ((p0.toUInt32 % 65536).toInt32) fun (x_7 : Int32) =>
      if ((Γ 6).1 1) < 0 ∨ 16000 ≤ ((Γ 6).1 1).toNatClampNeg then none else
      bnd (cA' Γ 6 0 (upd ((Γ 6).2.1 0) ((Γ 6).1 1).toNatClampNeg (vp_nar .char x_7))) fun σ_11 =>
      bnd (cI' σ_11 6 1 (((σ_11 6).1 1) + 1)) fun σ_13 =>
      some (0, σ_13)
    )
  )
set_option maxHeartbeats 4000000 in
set_option maxRecDepth 100000 in
theorem k_X9_putUnit (l : Launch) (dC : Nat → ClassId) (dI : Nat → Nat → Nat) (cB cC cI cJ cZ cP : ClassId) (oA : Nat → Nat) (rA : Nat → Nat → Nat) (sz : Nat)  (p0 : Int32) (Γ : HS) (res : Int32 × HS) (hF : F_X9_putUnit p0 Γ = some res) : Met l yX9_putUnit (g_ws yX9_putUnit cX9_putUnit 2 none) ({ frames := 1, cells := 0, slots := 0, locals := 40 }) (va_Pc [.ref (oA 6), .int p0] (g_B (dC, dI) [(cB, .byte), (cC, .char), (cI, .int), (cJ, .long), (cZ, .boolean), (cP, .object "StoryHouse$Play")] sz (b_t cB cC cI cJ cZ oA rA Γ) g_0)) (va_Qv (fun (_ : Unit) => True) (g_Bo (dC, dI) (va_A (b_t cB cC cI cJ cZ oA rA Γ) sz) (fun (_ : Unit) => (b_t cB cC cI cJ cZ oA rA res.2))) (va_A (b_t cB cC cI cJ cZ oA rA Γ) sz)) 0 0 (va_A (b_t cB cC cI cJ cZ oA rA Γ) sz) := by
  refine Met.ofW (cc := cX9_putUnit) (maxL := 2) (ret := none) (by decide) rfl ?_
  intro p e s m args below meth c s₁ B hml hv
  obtain ⟨rfl, hsz, hP, hK, hD0, hE, hX⟩ := hv
  have hx := B.exec
  have hb := B.bytes
  have hr := B.returns
  have hts0 := atoms_spec (ws := g_ws yX9_putUnit cX9_putUnit 2 none) B.pre
  have hts : ∀ w ∈ lw_good, w.before ([.ref (oA 6), .int p0] : List Value).toArray s = true := fun w z => hts0 w (List.mem_cons_of_mem _ z)
  have hown : s.vm.findClass RX9 = some m.cls := findClass_of_methodNamed B.named
  have hlocks := B.notSynchronized
  subst hsz
  have hD1 := hD0.self (sz := s.heap.size)
  generalize hAe : va_A (b_t cB cC cI cJ cZ oA rA Γ) s.heap.size = A at hD1 hE hX ⊢
  have hA : ∀ q : Nat, s.heap.size ≤ q → A q := fun q z => by rw [← hAe]; exact Or.inr z
  have hDD : ∀ Γ : HS, va_D A (b_t cB cC cI cJ cZ oA rA Γ) := fun Γ9 => va_D_fst (ws := (b_t cB cC cI cJ cZ oA rA Γ)) (ws' := (b_t cB cC cI cJ cZ oA rA Γ9)) rfl hD1
  have hN := hE.1
  have hS : va_S A s.heap s.heap [] := va_S.rf
  have hl := lv_entry ([.ref (oA 6), .int p0]) (n := 2) (Nat.le_of_ble_eq_true rfl)
  rw [lg_entry_eq]
  generalize (lg_sl ([.ref (oA 6), .int p0]) ++ List.replicate (2 - (lg_sl ([.ref (oA 6), .int p0])).length) Slot.unset).toArray = ls at hl ⊢
  have hl : lv_has ls 2 [(0, .ref (oA 6)), (1, .int p0)] := hl
  unfold F_X9_putUnit at hF
  refine lv_aload_n hx hb dX9_putUnit_0 rfl (lv_at hl 0 rfl) ?_
  refine va_get (D := (dC, dI)) (ci := 9) (v := .int ((Γ 6).1 1)) (C := RX9) (T := TX9) (N := 9) hx hb hts ii_X9 hown hK hP 0 rfl rfl 1 (by decide) (hts (.fieldLink RX9 29 "StoryHouse$Texts" "unitCount" "I") wq_135) (fun _ h9 => h9) rfl dX9_putUnit_1 ?_
  refine lv_if_lt (tgt := 40) hx hb dX9_putUnit_4 (by decide) (fun c_1 => ?_) (fun c_1 => ?_)
  · have hF_2 := ipos c_1 hF
    clear hF
    have h9 := Option.some.inj hF_2
    subst h9
    exact W.vret hx hb hr (fun t ht hW => ⟨⟨(), rfl, trivial, m_end ht hP, hDD _⟩, hS.F ht⟩) hS.2.2 dX9_putUnit_40
  · have hF_3 := ineg c_1 hF
    clear hF
    refine lv_aload_n hx hb dX9_putUnit_7 rfl (lv_at hl 0 rfl) ?_
    refine va_get (D := (dC, dI)) (ci := 9) (v := .int ((Γ 6).1 1)) (C := RX9) (T := TX9) (N := 9) hx hb hts ii_X9 hown hK hP 0 rfl rfl 1 (by decide) (hts (.fieldLink RX9 29 "StoryHouse$Texts" "unitCount" "I") wq_135) (fun _ h9 => h9) rfl dX9_putUnit_8 ?_
    refine lv_aload_n hx hb dX9_putUnit_11 rfl (lv_at hl 0 rfl) ?_
    refine va_get (D := (dC, dI)) (ci := 9) (v := .ref (rA 6 0)) (C := RX9) (T := TX9) (N := 9) hx hb hts ii_X9 hown hK hP 0 rfl rfl 0 (by decide) (hts (.fieldLink RX9 11 "StoryHouse$Texts" "units" "[C") wq_134) (fun _ h9 => h9) rfl dX9_putUnit_12 ?_
    refine va_alen (v := 16000) hx hb hK hP 1 1 rfl rfl (by first | rfl | decide +kernel) dX9_putUnit_15 ?_
    refine lv_icmp_ge (tgt := 40) hx hb dX9_putUnit_16 (by decide) (fun c_4 => ?_) (fun c_4 => ?_)
    · have hF_5 := ipos c_4 hF_3
      clear hF_3
      have h9 := Option.some.inj hF_5
      subst h9
      exact W.vret hx hb hr (fun t ht hW => ⟨⟨(), rfl, trivial, m_end ht hP, hDD _⟩, hS.F ht⟩) hS.2.2 dX9_putUnit_40
    · have hF_6 := ineg c_4 hF_3
      clear hF_3
      refine lv_aload_n hx hb dX9_putUnit_19 rfl (lv_at hl 0 rfl) ?_
      refine va_get (D := (dC, dI)) (ci := 9) (v := .ref (rA 6 0)) (C := RX9) (T := TX9) (N := 9) hx hb hts ii_X9 hown hK hP 0 rfl rfl 0 (by decide) (hts (.fieldLink RX9 11 "StoryHouse$Texts" "units" "[C") wq_134) (fun _ h9 => h9) rfl dX9_putUnit_20 ?_
      refine lv_aload_n hx hb dX9_putUnit_23 rfl (lv_at hl 0 rfl) ?_
      refine va_get (D := (dC, dI)) (ci := 9) (v := .int ((Γ 6).1 1)) (C := RX9) (T := TX9) (N := 9) hx hb hts ii_X9 hown hK hP 0 rfl rfl 1 (by decide) (hts (.fieldLink RX9 29 "StoryHouse$Texts" "unitCount" "I") wq_135) (fun _ h9 => h9) rfl dX9_putUnit_24 ?_
      refine lv_iload_n hx hb dX9_putUnit_27 rfl (lv_at hl 1 rfl) ?_
      refine lv_i2c hx hb dX9_putUnit_28 rfl ?_
      obtain ⟨x_7, ex_7, hF_8⟩ := bnd_e hF_6
      clear hF_6
      refine m_top ex_7 ?_
      obtain ⟨g_9, hF_10⟩ := nif_e hF_8
      clear hF_8
      obtain ⟨σ_11, eσ_11, hF_12⟩ := bnd_e hF_10
      clear hF_10
      refine va_cast (f := (Γ 6).2.1 0) hx hb hK hP (hDD _) hS 1 1 rfl rfl g_9 dX9_putUnit_29 (fun H locs hP' _ hS => ?_)
      have hP : va_P (dC, dI) vwCl (b_t cB cC cI cJ cZ oA rA σ_11) H := by rw [eσ_11]; exact cs_t_t_0 ▸ hP'
      clear hP'
      refine lv_aload_n hx hb dX9_putUnit_30 rfl (lv_at hl 0 rfl) ?_
      refine lv_dup hx hb dX9_putUnit_31 rfl ?_
      refine va_get (D := (dC, dI)) (ci := 9) (v := .int ((σ_11 6).1 1)) (C := RX9) (T := TX9) (N := 9) hx hb hts ii_X9 hown hK hP 0 rfl rfl 1 (by decide) (hts (.fieldLink RX9 29 "StoryHouse$Texts" "unitCount" "I") wq_135) (fun _ h9 => h9) rfl dX9_putUnit_32 ?_
      refine lv_iconst (v := 1) hx hb dX9_putUnit_35 (by decide +kernel) ?_
      refine lv_iadd hx hb dX9_putUnit_36 ?_
      obtain ⟨σ_13, eσ_13, hF_14⟩ := bnd_e hF_12
      clear hF_12
      refine va_put (D := (dC, dI)) (ci := 9) (v := .int (((σ_11 6).1 1) + 1)) (ty := .int) (C := RX9) (T := TX9) (N := 9) hx hb hts ii_X9 tyX9 tyX9_ok nmX9 hown hK hP (hDD _) hS 0 rfl rfl 1 (by decide) (hts (.fieldLink RX9 29 "StoryHouse$Texts" "unitCount" "I") wq_135) (fun _ h9 => h9) rfl (by decide +kernel) rfl rfl (Nat.le_of_ble_eq_true rfl) dX9_putUnit_37 (fun H locs hP' _ hS => ?_)
      have hP : va_P (dC, dI) vwCl (b_t cB cC cI cJ cZ oA rA σ_13) H := by rw [eσ_13]; exact cs_t_t_1 ▸ hP'
      clear hP'
      have h9 := Option.some.inj hF_14
      subst h9
      exact W.vret hx hb hr (fun t ht hW => ⟨⟨(), rfl, trivial, m_end ht hP, hDD _⟩, hS.F ht⟩) hS.2.2 dX9_putUnit_40
theorem dX9_gather_0 : decode cX9_gather 0 = .ok (.aload_n 0, 1) := by decide +kernel
theorem dX9_gather_1 : decode cX9_gather 1 = .ok (.getfield 73, 3) := by decide +kernel
theorem dX9_gather_4 : decode cX9_gather 4 = .ok (.iconst 3, 1) := by decide +kernel
theorem dX9_gather_5 : decode cX9_gather 5 = .ok (.if_icmp .ne 21, 3) := by decide +kernel
theorem dX9_gather_8 : decode cX9_gather 8 = .ok (.aload_n 0, 1) := by decide +kernel
theorem dX9_gather_9 : decode cX9_gather 9 = .ok (.aload_n 0, 1) := by decide +kernel
theorem dX9_gather_10 : decode cX9_gather 10 = .ok (.getfield 70, 3) := by decide +kernel
theorem dX9_gather_13 : decode cX9_gather 13 = .ok (.invokevirtual 92, 3) := by decide +kernel
theorem dX9_gather_16 : decode cX9_gather 16 = .ok (.aload_n 0, 1) := by decide +kernel
theorem dX9_gather_17 : decode cX9_gather 17 = .ok (.iconst 0, 1) := by decide +kernel
theorem dX9_gather_18 : decode cX9_gather 18 = .ok (.putfield 70, 3) := by decide +kernel
theorem dX9_gather_21 : decode cX9_gather 21 = .ok (.aload_n 0, 1) := by decide +kernel
theorem dX9_gather_22 : decode cX9_gather 22 = .ok (.iconst 0, 1) := by decide +kernel
theorem dX9_gather_23 : decode cX9_gather 23 = .ok (.putfield 73, 3) := by decide +kernel
theorem dX9_gather_26 : decode cX9_gather 26 = .ok (.aload_n 0, 1) := by decide +kernel
theorem dX9_gather_27 : decode cX9_gather 27 = .ok (.aload_n 0, 1) := by decide +kernel
theorem dX9_gather_28 : decode cX9_gather 28 = .ok (.getfield 70, 3) := by decide +kernel
theorem dX9_gather_31 : decode cX9_gather 31 = .ok (.iconst 5, 1) := by decide +kernel
theorem dX9_gather_32 : decode cX9_gather 32 = .ok (.ishl, 1) := by decide +kernel
theorem dX9_gather_33 : decode cX9_gather 33 = .ok (.iload_n 1, 1) := by decide +kernel
theorem dX9_gather_34 : decode cX9_gather 34 = .ok (.ior, 1) := by decide +kernel
theorem dX9_gather_35 : decode cX9_gather 35 = .ok (.putfield 70, 3) := by decide +kernel
theorem dX9_gather_38 : decode cX9_gather 38 = .ok (.aload_n 0, 1) := by decide +kernel
theorem dX9_gather_39 : decode cX9_gather 39 = .ok (.dup, 1) := by decide +kernel
theorem dX9_gather_40 : decode cX9_gather 40 = .ok (.getfield 73, 3) := by decide +kernel
theorem dX9_gather_43 : decode cX9_gather 43 = .ok (.iconst 1, 1) := by decide +kernel
theorem dX9_gather_44 : decode cX9_gather 44 = .ok (.iadd, 1) := by decide +kernel
theorem dX9_gather_45 : decode cX9_gather 45 = .ok (.putfield 73, 3) := by decide +kernel
theorem dX9_gather_48 : decode cX9_gather 48 = .ok (.return_, 1) := by decide +kernel
def F_X9_gather (p0 : Int32) (Γ : HS) : HR :=
  bnd (fun  (σ_1 : HS) => (
    bnd (((((σ_1 6).1 2) <<< (5 &&& 31)) ||| p0)) fun (x_5 : Int32) =>
    bnd (cI' σ_1 6 2 x_5) fun σ_7 =>
    bnd (cI' σ_7 6 3 (((σ_7 6).1 3) + 1)) fun σ_9 =>
    some (0, σ_9)
  ) : HS → HR) fun j_2 =>
  if ((Γ 6).1 3) = 3 then (
    (F_X9_putUnit ((Γ 6).1 2) Γ).bind fun u_13 =>
    bnd (cI' u_13.2 6 2 0) fun σ_15 =>
    bnd (cI' σ_15 6 3 0) fun σ_17 =>
    j_2  σ_17
  ) else (
    j_2  Γ
  )
set_option maxHeartbeats 4000000 in
set_option maxRecDepth 100000 in
theorem k_X9_gather (l : Launch) (dC : Nat → ClassId) (dI : Nat → Nat → Nat) (cB cC cI cJ cZ cP : ClassId) (oA : Nat → Nat) (rA : Nat → Nat → Nat) (sz : Nat)  (p0 : Int32) (Γ : HS) (res : Int32 × HS) (hF : F_X9_gather p0 Γ = some res) : Met l yX9_gather (g_ws yX9_gather cX9_gather 2 none) ({ frames := 2, cells := 0, slots := 0, locals := 61 }) (va_Pc [.ref (oA 6), .int p0] (g_B (dC, dI) [(cB, .byte), (cC, .char), (cI, .int), (cJ, .long), (cZ, .boolean), (cP, .object "StoryHouse$Play")] sz (b_t cB cC cI cJ cZ oA rA Γ) g_0)) (va_Qv (fun (_ : Unit) => True) (g_Bo (dC, dI) (va_A (b_t cB cC cI cJ cZ oA rA Γ) sz) (fun (_ : Unit) => (b_t cB cC cI cJ cZ oA rA res.2))) (va_A (b_t cB cC cI cJ cZ oA rA Γ) sz)) 0 0 (va_A (b_t cB cC cI cJ cZ oA rA Γ) sz) := by
  refine Met.ofW (cc := cX9_gather) (maxL := 2) (ret := none) (by decide) rfl ?_
  intro p e s m args below meth c s₁ B hml hv
  obtain ⟨rfl, hsz, hP, hK, hD0, hE, hX⟩ := hv
  have hx := B.exec
  have hb := B.bytes
  have hr := B.returns
  have hts0 := atoms_spec (ws := g_ws yX9_gather cX9_gather 2 none) B.pre
  have hts : ∀ w ∈ lw_good, w.before ([.ref (oA 6), .int p0] : List Value).toArray s = true := fun w z => hts0 w (List.mem_cons_of_mem _ z)
  have hown : s.vm.findClass RX9 = some m.cls := findClass_of_methodNamed B.named
  have hlocks := B.notSynchronized
  subst hsz
  have hD1 := hD0.self (sz := s.heap.size)
  generalize hAe : va_A (b_t cB cC cI cJ cZ oA rA Γ) s.heap.size = A at hD1 hE hX ⊢
  have hA : ∀ q : Nat, s.heap.size ≤ q → A q := fun q z => by rw [← hAe]; exact Or.inr z
  have hDD : ∀ Γ : HS, va_D A (b_t cB cC cI cJ cZ oA rA Γ) := fun Γ9 => va_D_fst (ws := (b_t cB cC cI cJ cZ oA rA Γ)) (ws' := (b_t cB cC cI cJ cZ oA rA Γ9)) rfl hD1
  have hN := hE.1
  have hS : va_S A s.heap s.heap [] := va_S.rf
  have hl := lv_entry ([.ref (oA 6), .int p0]) (n := 2) (Nat.le_of_ble_eq_true rfl)
  rw [lg_entry_eq]
  generalize (lg_sl ([.ref (oA 6), .int p0]) ++ List.replicate (2 - (lg_sl ([.ref (oA 6), .int p0])).length) Slot.unset).toArray = ls at hl ⊢
  have hl : lv_has ls 2 [(0, .ref (oA 6)), (1, .int p0)] := hl
  unfold F_X9_gather at hF
  refine lv_aload_n hx hb dX9_gather_0 rfl (lv_at hl 0 rfl) ?_
  refine va_get (D := (dC, dI)) (ci := 9) (v := .int ((Γ 6).1 3)) (C := RX9) (T := TX9) (N := 9) hx hb hts ii_X9 hown hK hP 0 rfl rfl 3 (by decide) (hts (.fieldLink RX9 73 "StoryHouse$Texts" "gatheredCodes" "I") wq_137) (fun _ h9 => h9) rfl dX9_gather_1 ?_
  refine lv_iconst (v := 3) hx hb dX9_gather_4 (by decide +kernel) ?_
  obtain ⟨j_2, ej_2, hF_3⟩ := bnd_e hF
  clear hF
  have Jj_2 : ∀  (σ_1 : HS), j_2  σ_1 = some res → ∀ (H : Heap) (locs : List Loc), va_P (dC, dI) vwCl (b_t cB cC cI cJ cZ oA rA σ_1) H → va_S A s.heap H locs → ∀ ls : Array Slot, lv_has ls 2 [(0, .ref (oA 6)), (1, .int p0)] → W p l e (headSpec (g_ws yX9_gather cX9_gather 2 none) { frames := 2, cells := 0, slots := 0, locals := 61 }).room s m ([.ref (oA 6), .int p0] : List Value).toArray below meth c H locs 0 0 (MQ below (va_Qv (fun (_ : Unit) => True) (g_Bo (dC, dI) A (fun (_ : Unit) => (b_t cB cC cI cJ cZ oA rA res.2))) A) ([.ref (oA 6), .int p0] : List Value).toArray s 0 0 A) (F0 m 26 ls []) := by
    intro  σ_1 hF0 H locs hP hS ls hl
    subst ej_2
    have hF_4 := hF0
    clear hF0
    refine lv_aload_n hx hb dX9_gather_26 rfl (lv_at hl 0 rfl) ?_
    refine lv_aload_n hx hb dX9_gather_27 rfl (lv_at hl 0 rfl) ?_
    refine va_get (D := (dC, dI)) (ci := 9) (v := .int ((σ_1 6).1 2)) (C := RX9) (T := TX9) (N := 9) hx hb hts ii_X9 hown hK hP 0 rfl rfl 2 (by decide) (hts (.fieldLink RX9 70 "StoryHouse$Texts" "gathered" "I") wq_136) (fun _ h9 => h9) rfl dX9_gather_28 ?_
    refine lv_iconst (v := 5) hx hb dX9_gather_31 (by decide +kernel) ?_
    refine lv_ishl hx hb dX9_gather_32 ?_
    refine lv_iload_n hx hb dX9_gather_33 rfl (lv_at hl 1 rfl) ?_
    refine lv_ior hx hb dX9_gather_34 ?_
    obtain ⟨x_5, ex_5, hF_6⟩ := bnd_e hF_4
    clear hF_4
    refine m_top ex_5 ?_
    obtain ⟨σ_7, eσ_7, hF_8⟩ := bnd_e hF_6
    clear hF_6
    refine va_put (D := (dC, dI)) (ci := 9) (v := .int x_5) (ty := .int) (C := RX9) (T := TX9) (N := 9) hx hb hts ii_X9 tyX9 tyX9_ok nmX9 hown hK hP (hDD _) hS 0 rfl rfl 2 (by decide) (hts (.fieldLink RX9 70 "StoryHouse$Texts" "gathered" "I") wq_136) (fun _ h9 => h9) rfl (by decide +kernel) rfl rfl (Nat.le_of_ble_eq_true rfl) dX9_gather_35 (fun H locs hP' _ hS => ?_)
    have hP : va_P (dC, dI) vwCl (b_t cB cC cI cJ cZ oA rA σ_7) H := by rw [eσ_7]; exact cs_t_t_2 ▸ hP'
    clear hP'
    refine lv_aload_n hx hb dX9_gather_38 rfl (lv_at hl 0 rfl) ?_
    refine lv_dup hx hb dX9_gather_39 rfl ?_
    refine va_get (D := (dC, dI)) (ci := 9) (v := .int ((σ_7 6).1 3)) (C := RX9) (T := TX9) (N := 9) hx hb hts ii_X9 hown hK hP 0 rfl rfl 3 (by decide) (hts (.fieldLink RX9 73 "StoryHouse$Texts" "gatheredCodes" "I") wq_137) (fun _ h9 => h9) rfl dX9_gather_40 ?_
    refine lv_iconst (v := 1) hx hb dX9_gather_43 (by decide +kernel) ?_
    refine lv_iadd hx hb dX9_gather_44 ?_
    obtain ⟨σ_9, eσ_9, hF_10⟩ := bnd_e hF_8
    clear hF_8
    refine va_put (D := (dC, dI)) (ci := 9) (v := .int (((σ_7 6).1 3) + 1)) (ty := .int) (C := RX9) (T := TX9) (N := 9) hx hb hts ii_X9 tyX9 tyX9_ok nmX9 hown hK hP (hDD _) hS 0 rfl rfl 3 (by decide) (hts (.fieldLink RX9 73 "StoryHouse$Texts" "gatheredCodes" "I") wq_137) (fun _ h9 => h9) rfl (by decide +kernel) rfl rfl (Nat.le_of_ble_eq_true rfl) dX9_gather_45 (fun H locs hP' _ hS => ?_)
    have hP : va_P (dC, dI) vwCl (b_t cB cC cI cJ cZ oA rA σ_9) H := by rw [eσ_9]; exact cs_t_t_3 ▸ hP'
    clear hP'
    have h9 := Option.some.inj hF_10
    subst h9
    exact W.vret hx hb hr (fun t ht hW => ⟨⟨(), rfl, trivial, m_end ht hP, hDD _⟩, hS.F ht⟩) hS.2.2 dX9_gather_48
  refine lv_icmp_ne (tgt := 26) hx hb dX9_gather_5 (by decide) (fun c_11 => ?_) (fun c_11 => ?_)
  · have hF_19 := ineg c_11 hF_3
    clear hF_3
    exact Jj_2  Γ hF_19 _ _ hP hS ls (lv_sub hl [0, 1] rfl)
  · have hF_12 := ipos c_11 hF_3
    clear hF_3
    refine lv_aload_n hx hb dX9_gather_8 rfl (lv_at hl 0 rfl) ?_
    refine lv_aload_n hx hb dX9_gather_9 rfl (lv_at hl 0 rfl) ?_
    refine va_get (D := (dC, dI)) (ci := 9) (v := .int ((Γ 6).1 2)) (C := RX9) (T := TX9) (N := 9) hx hb hts ii_X9 hown hK hP 0 rfl rfl 2 (by decide) (hts (.fieldLink RX9 70 "StoryHouse$Texts" "gathered" "I") wq_136) (fun _ h9 => h9) rfl dX9_gather_10 ?_
    obtain ⟨u_13, hu_13, hF_14⟩ := Option.bind_eq_some_iff.mp hF_12
    clear hF_12
    have hPc := bx_P (bs := [b_t cB cC cI cJ cZ oA rA Γ]) (bs' := [b_t cB cC cI cJ cZ oA rA Γ]) (ws' := (b_t cB cC cI cJ cZ oA rA Γ)) hP fl_1 fl_1 [0] rfl
    have hDc := bx_D (bs := [b_t cB cC cI cJ cZ oA rA Γ]) (bs' := [b_t cB cC cI cJ cZ oA rA Γ]) (ws' := (b_t cB cC cI cJ cZ oA rA Γ)) (hDD Γ) fl_1 fl_1 [0] (by decide +kernel) rfl
    have hFc := bx_F (bs := [b_t cB cC cI cJ cZ oA rA Γ]) (bs' := [b_t cB cC cI cJ cZ oA rA Γ]) (wc := (b_t cB cC cI cJ cZ oA rA Γ)) (hDD Γ) hS hA fl_1 fl_1 [0] rfl
    refine g_ofv (wc := (b_t cB cC cI cJ cZ oA rA Γ)) (wr := ([] : va_W)) hP (hDD Γ) hS hFc (bx_ix [b_t cB cC cI cJ cZ oA rA Γ] [0]) (bx_ix [b_t cB cC cI cJ cZ oA rA Γ] []) (bx_C (bs := [b_t cB cC cI cJ cZ oA rA Γ]) (bs' := [b_t cB cC cI cJ cZ oA rA Γ]) (is := [0]) fl_1 fl_1 rfl) (bx_C (bs := [b_t cB cC cI cJ cZ oA rA Γ]) (bs' := []) (is := []) fl_1 fl_0 rfl) (bx_n (by decide +kernel)) (bx_d (by decide +kernel)) (va_runV (As := [.int ((Γ 6).1 2)]) (rest := []) ⟨hx, hb, hml, hown, hts⟩ (k_X9_putUnit l dC dI cB cC cI cJ cZ cP oA rA s.heap.size  ((Γ 6).1 2) Γ _ hu_13) (cwV 1 hts (g_gV wq_862 wq_863 wq_2064 wq_7 wq_864) rfl rfl rfl (by decide +kernel) ⟨Nat.le_of_ble_eq_true rfl, Nat.le_of_ble_eq_true rfl⟩) (g_preV g_bl0 hK hPc hDc hS hE hFc g_to0 (q0 := 0) (ci := 9) rfl rfl) rfl rfl hl.1 rfl (lv_room (Nat.le_of_ble_eq_true rfl)) dX9_gather_13 ⟨Nat.le_of_ble_eq_true rfl, Nat.le_of_ble_eq_true rfl⟩) (fun u9 H locs hw9 hP' hD' hS => ?_)
    clear hPc hDc hFc
    have hP : va_P (dC, dI) vwCl (b_t cB cC cI cJ cZ oA rA u_13.2) H := hP'
    clear hP' hD'
    refine lv_aload_n hx hb dX9_gather_16 rfl (lv_at hl 0 rfl) ?_
    refine lv_iconst (v := 0) hx hb dX9_gather_17 (by decide +kernel) ?_
    obtain ⟨σ_15, eσ_15, hF_16⟩ := bnd_e hF_14
    clear hF_14
    refine va_put (D := (dC, dI)) (ci := 9) (v := .int 0) (ty := .int) (C := RX9) (T := TX9) (N := 9) hx hb hts ii_X9 tyX9 tyX9_ok nmX9 hown hK hP (hDD _) hS 0 rfl rfl 2 (by decide) (hts (.fieldLink RX9 70 "StoryHouse$Texts" "gathered" "I") wq_136) (fun _ h9 => h9) rfl (by decide +kernel) rfl rfl (Nat.le_of_ble_eq_true rfl) dX9_gather_18 (fun H locs hP' _ hS => ?_)
    have hP : va_P (dC, dI) vwCl (b_t cB cC cI cJ cZ oA rA σ_15) H := by rw [eσ_15]; exact cs_t_t_2 ▸ hP'
    clear hP'
    refine lv_aload_n hx hb dX9_gather_21 rfl (lv_at hl 0 rfl) ?_
    refine lv_iconst (v := 0) hx hb dX9_gather_22 (by decide +kernel) ?_
    obtain ⟨σ_17, eσ_17, hF_18⟩ := bnd_e hF_16
    clear hF_16
    refine va_put (D := (dC, dI)) (ci := 9) (v := .int 0) (ty := .int) (C := RX9) (T := TX9) (N := 9) hx hb hts ii_X9 tyX9 tyX9_ok nmX9 hown hK hP (hDD _) hS 0 rfl rfl 3 (by decide) (hts (.fieldLink RX9 73 "StoryHouse$Texts" "gatheredCodes" "I") wq_137) (fun _ h9 => h9) rfl (by decide +kernel) rfl rfl (Nat.le_of_ble_eq_true rfl) dX9_gather_23 (fun H locs hP' _ hS => ?_)
    have hP : va_P (dC, dI) vwCl (b_t cB cC cI cJ cZ oA rA σ_17) H := by rw [eσ_17]; exact cs_t_t_3 ▸ hP'
    clear hP'
    exact Jj_2  σ_17 hF_18 _ _ hP hS ls (lv_sub hl [0, 1] rfl)
theorem dX9_shutText_0 : decode cX9_shutText 0 = .ok (.aload_n 0, 1) := by decide +kernel
theorem dX9_shutText_1 : decode cX9_shutText 1 = .ok (.getfield 73, 3) := by decide +kernel
theorem dX9_shutText_4 : decode cX9_shutText 4 = .ok (.istore_n 1, 1) := by decide +kernel
theorem dX9_shutText_5 : decode cX9_shutText 5 = .ok (.iload_n 1, 1) := by decide +kernel
theorem dX9_shutText_6 : decode cX9_shutText 6 = .ok (.iconst 3, 1) := by decide +kernel
theorem dX9_shutText_7 : decode cX9_shutText 7 = .ok (.if_icmp .ge 22, 3) := by decide +kernel
theorem dX9_shutText_10 : decode cX9_shutText 10 = .ok (.aload_n 0, 1) := by decide +kernel
theorem dX9_shutText_11 : decode cX9_shutText 11 = .ok (.aload_n 0, 1) := by decide +kernel
theorem dX9_shutText_12 : decode cX9_shutText 12 = .ok (.getfield 70, 3) := by decide +kernel
theorem dX9_shutText_15 : decode cX9_shutText 15 = .ok (.iconst 5, 1) := by decide +kernel
theorem dX9_shutText_16 : decode cX9_shutText 16 = .ok (.ishl, 1) := by decide +kernel
theorem dX9_shutText_17 : decode cX9_shutText 17 = .ok (.bipush 31, 2) := by decide +kernel
theorem dX9_shutText_19 : decode cX9_shutText 19 = .ok (.ior, 1) := by decide +kernel
theorem dX9_shutText_20 : decode cX9_shutText 20 = .ok (.putfield 70, 3) := by decide +kernel
theorem dX9_shutText_23 : decode cX9_shutText 23 = .ok (.iinc 1 1, 3) := by decide +kernel
theorem dX9_shutText_26 : decode cX9_shutText 26 = .ok (.goto (-21), 3) := by decide +kernel
theorem dX9_shutText_29 : decode cX9_shutText 29 = .ok (.aload_n 0, 1) := by decide +kernel
theorem dX9_shutText_30 : decode cX9_shutText 30 = .ok (.aload_n 0, 1) := by decide +kernel
theorem dX9_shutText_31 : decode cX9_shutText 31 = .ok (.getfield 70, 3) := by decide +kernel
theorem dX9_shutText_34 : decode cX9_shutText 34 = .ok (.ldc 95, 2) := by decide +kernel
theorem dX9_shutText_36 : decode cX9_shutText 36 = .ok (.ior, 1) := by decide +kernel
theorem dX9_shutText_37 : decode cX9_shutText 37 = .ok (.invokevirtual 92, 3) := by decide +kernel
theorem dX9_shutText_40 : decode cX9_shutText 40 = .ok (.return_, 1) := by decide +kernel
def F_X9_shutText  (Γ : HS) : HR :=
  bnd (((Γ 6).1 3)) fun (x_1 : Int32) =>
  loopF (fun (again_4 : (Int32 × HS) → HR) (s_3 : Int32 × HS) => (
    if 3 ≤ s_3.1 then (
      (F_X9_putUnit (((s_3.2 6).1 2) ||| 32768) s_3.2).bind fun u_9 =>
      some (0, u_9.2)
    ) else (
      bnd (((((s_3.2 6).1 2) <<< (5 &&& 31)) ||| 31)) fun (x_12 : Int32) =>
      bnd (cI' s_3.2 6 2 x_12) fun σ_14 =>
      bnd (s_3.1 + 1) fun (x_16 : Int32) =>
      again_4 (x_16, σ_14)
    )
  )) FU (x_1, Γ)
set_option maxHeartbeats 4000000 in
set_option maxRecDepth 100000 in
theorem k_X9_shutText (l : Launch) (dC : Nat → ClassId) (dI : Nat → Nat → Nat) (cB cC cI cJ cZ cP : ClassId) (oA : Nat → Nat) (rA : Nat → Nat → Nat) (sz : Nat)   (Γ : HS) (res : Int32 × HS) (hF : F_X9_shutText  Γ = some res) : Met l yX9_shutText (g_ws yX9_shutText cX9_shutText 2 none) ({ frames := 2, cells := 0, slots := 0, locals := 61 }) (va_Pc [.ref (oA 6)] (g_B (dC, dI) [(cB, .byte), (cC, .char), (cI, .int), (cJ, .long), (cZ, .boolean), (cP, .object "StoryHouse$Play")] sz (b_t cB cC cI cJ cZ oA rA Γ) g_0)) (va_Qv (fun (_ : Unit) => True) (g_Bo (dC, dI) (va_A (b_t cB cC cI cJ cZ oA rA Γ) sz) (fun (_ : Unit) => (b_t cB cC cI cJ cZ oA rA res.2))) (va_A (b_t cB cC cI cJ cZ oA rA Γ) sz)) 0 0 (va_A (b_t cB cC cI cJ cZ oA rA Γ) sz) := by
  refine Met.ofW (cc := cX9_shutText) (maxL := 2) (ret := none) (by decide) rfl ?_
  intro p e s m args below meth c s₁ B hml hv
  obtain ⟨rfl, hsz, hP, hK, hD0, hE, hX⟩ := hv
  have hx := B.exec
  have hb := B.bytes
  have hr := B.returns
  have hts0 := atoms_spec (ws := g_ws yX9_shutText cX9_shutText 2 none) B.pre
  have hts : ∀ w ∈ lw_good, w.before ([.ref (oA 6)] : List Value).toArray s = true := fun w z => hts0 w (List.mem_cons_of_mem _ z)
  have hown : s.vm.findClass RX9 = some m.cls := findClass_of_methodNamed B.named
  have hlocks := B.notSynchronized
  subst hsz
  have hD1 := hD0.self (sz := s.heap.size)
  generalize hAe : va_A (b_t cB cC cI cJ cZ oA rA Γ) s.heap.size = A at hD1 hE hX ⊢
  have hA : ∀ q : Nat, s.heap.size ≤ q → A q := fun q z => by rw [← hAe]; exact Or.inr z
  have hDD : ∀ Γ : HS, va_D A (b_t cB cC cI cJ cZ oA rA Γ) := fun Γ9 => va_D_fst (ws := (b_t cB cC cI cJ cZ oA rA Γ)) (ws' := (b_t cB cC cI cJ cZ oA rA Γ9)) rfl hD1
  have hN := hE.1
  have hS : va_S A s.heap s.heap [] := va_S.rf
  have hl := lv_entry ([.ref (oA 6)]) (n := 2) (Nat.le_of_ble_eq_true rfl)
  rw [lg_entry_eq]
  generalize (lg_sl ([.ref (oA 6)]) ++ List.replicate (2 - (lg_sl ([.ref (oA 6)])).length) Slot.unset).toArray = ls at hl ⊢
  have hl : lv_has ls 2 [(0, .ref (oA 6))] := hl
  unfold F_X9_shutText at hF
  refine lv_aload_n hx hb dX9_shutText_0 rfl (lv_at hl 0 rfl) ?_
  refine va_get (D := (dC, dI)) (ci := 9) (v := .int ((Γ 6).1 3)) (C := RX9) (T := TX9) (N := 9) hx hb hts ii_X9 hown hK hP 0 rfl rfl 3 (by decide) (hts (.fieldLink RX9 73 "StoryHouse$Texts" "gatheredCodes" "I") wq_137) (fun _ h9 => h9) rfl dX9_shutText_1 ?_
  obtain ⟨x_1, ex_1, hF_2⟩ := bnd_e hF
  clear hF
  refine m_top ex_1 ?_
  refine lv_istore_n (lv' := [(1, .int x_1), (0, .ref (oA 6))]) hx hb dX9_shutText_4 rfl hl (by decide) rfl (fun ls hl => ?_)
  refine loopF_ind (P := fun (s_3 : Int32 × HS) => ∀ (H : Heap) (locs : List Loc), va_P (dC, dI) vwCl (b_t cB cC cI cJ cZ oA rA s_3.2) H → va_S A s.heap H locs → ∀ ls : Array Slot, lv_has ls 2 [(0, .ref (oA 6)), (1, .int s_3.1)] → W p l e (headSpec (g_ws yX9_shutText cX9_shutText 2 none) { frames := 2, cells := 0, slots := 0, locals := 61 }).room s m ([.ref (oA 6)] : List Value).toArray below meth c H locs 0 0 (MQ below (va_Qv (fun (_ : Unit) => True) (g_Bo (dC, dI) A (fun (_ : Unit) => (b_t cB cC cI cJ cZ oA rA res.2))) A) ([.ref (oA 6)] : List Value).toArray s 0 0 A) (F0 m 5 ls [])) ?_ _ _ hF_2 _ _ hP hS ls (lv_sub hl [1, 0] rfl)
  intro again_4 s_3 ih_5 hF_6
  intro H locs hP hS ls hl
  refine lv_iload_n hx hb dX9_shutText_5 rfl (lv_at hl 1 rfl) ?_
  refine lv_iconst (v := 3) hx hb dX9_shutText_6 (by decide +kernel) ?_
  refine lv_icmp_ge (tgt := 29) hx hb dX9_shutText_7 (by decide) (fun c_7 => ?_) (fun c_7 => ?_)
  · have hF_8 := ipos c_7 hF_6
    clear hF_6
    refine lv_aload_n hx hb dX9_shutText_29 rfl (lv_at hl 0 rfl) ?_
    refine lv_aload_n hx hb dX9_shutText_30 rfl (lv_at hl 0 rfl) ?_
    refine va_get (D := (dC, dI)) (ci := 9) (v := .int ((s_3.2 6).1 2)) (C := RX9) (T := TX9) (N := 9) hx hb hts ii_X9 hown hK hP 0 rfl rfl 2 (by decide) (hts (.fieldLink RX9 70 "StoryHouse$Texts" "gathered" "I") wq_136) (fun _ h9 => h9) rfl dX9_shutText_31 ?_
    refine lv_ldc (v := 32768) hx hb hown (hts (.constant RX9 95 (32768)) wq_868) dX9_shutText_34 ?_
    refine lv_ior hx hb dX9_shutText_36 ?_
    obtain ⟨u_9, hu_9, hF_10⟩ := Option.bind_eq_some_iff.mp hF_8
    clear hF_8
    have hPc := bx_P (bs := [b_t cB cC cI cJ cZ oA rA s_3.2]) (bs' := [b_t cB cC cI cJ cZ oA rA s_3.2]) (ws' := (b_t cB cC cI cJ cZ oA rA s_3.2)) hP fl_1 fl_1 [0] rfl
    have hDc := bx_D (bs := [b_t cB cC cI cJ cZ oA rA s_3.2]) (bs' := [b_t cB cC cI cJ cZ oA rA s_3.2]) (ws' := (b_t cB cC cI cJ cZ oA rA s_3.2)) (hDD s_3.2) fl_1 fl_1 [0] (by decide +kernel) rfl
    have hFc := bx_F (bs := [b_t cB cC cI cJ cZ oA rA s_3.2]) (bs' := [b_t cB cC cI cJ cZ oA rA s_3.2]) (wc := (b_t cB cC cI cJ cZ oA rA s_3.2)) (hDD s_3.2) hS hA fl_1 fl_1 [0] rfl
    refine g_ofv (wc := (b_t cB cC cI cJ cZ oA rA s_3.2)) (wr := ([] : va_W)) hP (hDD s_3.2) hS hFc (bx_ix [b_t cB cC cI cJ cZ oA rA s_3.2] [0]) (bx_ix [b_t cB cC cI cJ cZ oA rA s_3.2] []) (bx_C (bs := [b_t cB cC cI cJ cZ oA rA s_3.2]) (bs' := [b_t cB cC cI cJ cZ oA rA s_3.2]) (is := [0]) fl_1 fl_1 rfl) (bx_C (bs := [b_t cB cC cI cJ cZ oA rA s_3.2]) (bs' := []) (is := []) fl_1 fl_0 rfl) (bx_n (by decide +kernel)) (bx_d (by decide +kernel)) (va_runV (As := [.int (((s_3.2 6).1 2) ||| 32768)]) (rest := []) ⟨hx, hb, hml, hown, hts⟩ (k_X9_putUnit l dC dI cB cC cI cJ cZ cP oA rA H.size  (((s_3.2 6).1 2) ||| 32768) s_3.2 _ hu_9) (cwV 1 hts (g_gV wq_862 wq_863 wq_2064 wq_7 wq_864) rfl rfl rfl (by decide +kernel) ⟨Nat.le_of_ble_eq_true rfl, Nat.le_of_ble_eq_true rfl⟩) (g_preV g_bl0 hK hPc hDc hS hE hFc g_to0 (q0 := 0) (ci := 9) rfl rfl) rfl rfl hl.1 rfl (lv_room (Nat.le_of_ble_eq_true rfl)) dX9_shutText_37 ⟨Nat.le_of_ble_eq_true rfl, Nat.le_of_ble_eq_true rfl⟩) (fun u9 H locs hw9 hP' hD' hS => ?_)
    clear hPc hDc hFc
    have hP : va_P (dC, dI) vwCl (b_t cB cC cI cJ cZ oA rA u_9.2) H := hP'
    clear hP' hD'
    have h9 := Option.some.inj hF_10
    subst h9
    exact W.vret hx hb hr (fun t ht hW => ⟨⟨(), rfl, trivial, m_end ht hP, hDD _⟩, hS.F ht⟩) hS.2.2 dX9_shutText_40
  · have hF_11 := ineg c_7 hF_6
    clear hF_6
    refine lv_aload_n hx hb dX9_shutText_10 rfl (lv_at hl 0 rfl) ?_
    refine lv_aload_n hx hb dX9_shutText_11 rfl (lv_at hl 0 rfl) ?_
    refine va_get (D := (dC, dI)) (ci := 9) (v := .int ((s_3.2 6).1 2)) (C := RX9) (T := TX9) (N := 9) hx hb hts ii_X9 hown hK hP 0 rfl rfl 2 (by decide) (hts (.fieldLink RX9 70 "StoryHouse$Texts" "gathered" "I") wq_136) (fun _ h9 => h9) rfl dX9_shutText_12 ?_
    refine lv_iconst (v := 5) hx hb dX9_shutText_15 (by decide +kernel) ?_
    refine lv_ishl hx hb dX9_shutText_16 ?_
    refine lv_bipush (v := 31) hx hb dX9_shutText_17 (by decide +kernel) ?_
    refine lv_ior hx hb dX9_shutText_19 ?_
    obtain ⟨x_12, ex_12, hF_13⟩ := bnd_e hF_11
    clear hF_11
    refine m_top ex_12 ?_
    obtain ⟨σ_14, eσ_14, hF_15⟩ := bnd_e hF_13
    clear hF_13
    refine va_put (D := (dC, dI)) (ci := 9) (v := .int x_12) (ty := .int) (C := RX9) (T := TX9) (N := 9) hx hb hts ii_X9 tyX9 tyX9_ok nmX9 hown hK hP (hDD _) hS 0 rfl rfl 2 (by decide) (hts (.fieldLink RX9 70 "StoryHouse$Texts" "gathered" "I") wq_136) (fun _ h9 => h9) rfl (by decide +kernel) rfl rfl (Nat.le_of_ble_eq_true rfl) dX9_shutText_20 (fun H locs hP' _ hS => ?_)
    have hP : va_P (dC, dI) vwCl (b_t cB cC cI cJ cZ oA rA σ_14) H := by rw [eσ_14]; exact cs_t_t_2 ▸ hP'
    clear hP'
    obtain ⟨x_16, ex_16, hF_17⟩ := bnd_e hF_15
    clear hF_15
    refine lv_iinc (v := x_16) (lv' := [(1, .int x_16), (0, .ref (oA 6))]) hx hb dX9_shutText_23 hl (k := 1) rfl (by rw [ex_16]; rfl) (by decide) rfl (fun ls hl => ?_)
    refine lv_goto (tgt := 5) hx hb dX9_shutText_26 (by decide) ?_
    exact ih_5 (x_16, σ_14) hF_17 _ _ hP hS ls (lv_sub hl [1, 0] rfl)
theorem dX9_signOf_0 : decode cX9_signOf 0 = .ok (.iload_n 1, 1) := by decide +kernel
theorem dX9_signOf_1 : decode cX9_signOf 1 = .ok (.ifCond .lt 21, 3) := by decide +kernel
theorem dX9_signOf_4 : decode cX9_signOf 4 = .ok (.iload_n 1, 1) := by decide +kernel
theorem dX9_signOf_5 : decode cX9_signOf 5 = .ok (.aload_n 0, 1) := by decide +kernel
theorem dX9_signOf_6 : decode cX9_signOf 6 = .ok (.getfield 22, 3) := by decide +kernel
theorem dX9_signOf_9 : decode cX9_signOf 9 = .ok (.arraylength, 1) := by decide +kernel
theorem dX9_signOf_10 : decode cX9_signOf 10 = .ok (.if_icmp .ge 12, 3) := by decide +kernel
theorem dX9_signOf_13 : decode cX9_signOf 13 = .ok (.aload_n 0, 1) := by decide +kernel
theorem dX9_signOf_14 : decode cX9_signOf 14 = .ok (.getfield 22, 3) := by decide +kernel
theorem dX9_signOf_17 : decode cX9_signOf 17 = .ok (.iload_n 1, 1) := by decide +kernel
theorem dX9_signOf_18 : decode cX9_signOf 18 = .ok (.baload, 1) := by decide +kernel
theorem dX9_signOf_19 : decode cX9_signOf 19 = .ok (.goto 4, 3) := by decide +kernel
theorem dX9_signOf_22 : decode cX9_signOf 22 = .ok (.iconst 0, 1) := by decide +kernel
theorem dX9_signOf_23 : decode cX9_signOf 23 = .ok (.istore_n 2, 1) := by decide +kernel
theorem dX9_signOf_24 : decode cX9_signOf 24 = .ok (.iload_n 2, 1) := by decide +kernel
theorem dX9_signOf_25 : decode cX9_signOf 25 = .ok (.bipush 94, 2) := by decide +kernel
theorem dX9_signOf_27 : decode cX9_signOf 27 = .ok (.if_icmp .ne 8, 3) := by decide +kernel
theorem dX9_signOf_30 : decode cX9_signOf 30 = .ok (.bipush 10, 2) := by decide +kernel
theorem dX9_signOf_32 : decode cX9_signOf 32 = .ok (.goto 4, 3) := by decide +kernel
theorem dX9_signOf_35 : decode cX9_signOf 35 = .ok (.iload_n 2, 1) := by decide +kernel
theorem dX9_signOf_36 : decode cX9_signOf 36 = .ok (.ireturn, 1) := by decide +kernel
def F_X9_signOf (p0 : Int32) (Γ : HS) : HR :=
  bnd (fun (t_1 : Int32) (σ_2 : HS) => (
    if t_1 = 94 then (
      some (10, σ_2)
    ) else (
      some (t_1, σ_2)
    )
  ) : Int32 → HS → HR) fun j_3 =>
  bnd (fun  (σ_9 : HS) => (
    j_3 0 σ_9
  ) : HS → HR) fun j_10 =>
  if p0 < 0 then (
    j_10  Γ
  ) else (
    if 16000 ≤ p0 then (
      j_10  Γ
    ) else (
      if p0 < 0 ∨ 16000 ≤ p0.toNatClampNeg then none else
      j_3 ((Γ 6).2.1 7 p0.toNatClampNeg) Γ
    )
  )
set_option maxHeartbeats 4000000 in
set_option maxRecDepth 100000 in
theorem k_X9_signOf (l : Launch) (dC : Nat → ClassId) (dI : Nat → Nat → Nat) (cB cC cI cJ cZ cP : ClassId) (oA : Nat → Nat) (rA : Nat → Nat → Nat) (sz : Nat)  (p0 : Int32) (Γ : HS) (res : Int32 × HS) (hF : F_X9_signOf p0 Γ = some res) : Met l yX9_signOf (g_ws yX9_signOf cX9_signOf 3 (some .int)) ({ frames := 1, cells := 0, slots := 0, locals := 40 }) (va_Pc [.ref (oA 6), .int p0] (g_B (dC, dI) [(cB, .byte), (cC, .char), (cI, .int), (cJ, .long), (cZ, .boolean), (cP, .object "StoryHouse$Play")] sz (b_t cB cC cI cJ cZ oA rA Γ) g_0)) (va_Qi (fun r (_ : Unit) => r = res.1) (g_Bo (dC, dI) (va_A (b_t cB cC cI cJ cZ oA rA Γ) sz) (fun (_ : Unit) => (b_t cB cC cI cJ cZ oA rA res.2))) (va_A (b_t cB cC cI cJ cZ oA rA Γ) sz)) 0 0 (va_A (b_t cB cC cI cJ cZ oA rA Γ) sz) := by
  refine Met.ofW (cc := cX9_signOf) (maxL := 3) (ret := (some .int)) (by decide) rfl ?_
  intro p e s m args below meth c s₁ B hml hv
  obtain ⟨rfl, hsz, hP, hK, hD0, hE, hX⟩ := hv
  have hx := B.exec
  have hb := B.bytes
  have hr := B.returns
  have hts0 := atoms_spec (ws := g_ws yX9_signOf cX9_signOf 3 (some .int)) B.pre
  have hts : ∀ w ∈ lw_good, w.before ([.ref (oA 6), .int p0] : List Value).toArray s = true := fun w z => hts0 w (List.mem_cons_of_mem _ z)
  have hown : s.vm.findClass RX9 = some m.cls := findClass_of_methodNamed B.named
  have hlocks := B.notSynchronized
  subst hsz
  have hD1 := hD0.self (sz := s.heap.size)
  generalize hAe : va_A (b_t cB cC cI cJ cZ oA rA Γ) s.heap.size = A at hD1 hE hX ⊢
  have hA : ∀ q : Nat, s.heap.size ≤ q → A q := fun q z => by rw [← hAe]; exact Or.inr z
  have hDD : ∀ Γ : HS, va_D A (b_t cB cC cI cJ cZ oA rA Γ) := fun Γ9 => va_D_fst (ws := (b_t cB cC cI cJ cZ oA rA Γ)) (ws' := (b_t cB cC cI cJ cZ oA rA Γ9)) rfl hD1
  have hN := hE.1
  have hS : va_S A s.heap s.heap [] := va_S.rf
  have hl := lv_entry ([.ref (oA 6), .int p0]) (n := 3) (Nat.le_of_ble_eq_true rfl)
  rw [lg_entry_eq]
  generalize (lg_sl ([.ref (oA 6), .int p0]) ++ List.replicate (3 - (lg_sl ([.ref (oA 6), .int p0])).length) Slot.unset).toArray = ls at hl ⊢
  have hl : lv_has ls 3 [(0, .ref (oA 6)), (1, .int p0)] := hl
  unfold F_X9_signOf at hF
  refine lv_iload_n hx hb dX9_signOf_0 rfl (lv_at hl 1 rfl) ?_
  obtain ⟨j_3, ej_3, hF_4⟩ := bnd_e hF
  clear hF
  have Jj_3 : ∀ (t_1 : Int32) (σ_2 : HS), j_3 t_1 σ_2 = some res → ∀ (H : Heap) (locs : List Loc), va_P (dC, dI) vwCl (b_t cB cC cI cJ cZ oA rA σ_2) H → va_S A s.heap H locs → ∀ ls : Array Slot, lv_has ls 3 [] → W p l e (headSpec (g_ws yX9_signOf cX9_signOf 3 (some .int)) { frames := 1, cells := 0, slots := 0, locals := 40 }).room s m ([.ref (oA 6), .int p0] : List Value).toArray below meth c H locs 0 0 (MQ below (va_Qi (fun r (_ : Unit) => r = res.1) (g_Bo (dC, dI) A (fun (_ : Unit) => (b_t cB cC cI cJ cZ oA rA res.2))) A) ([.ref (oA 6), .int p0] : List Value).toArray s 0 0 A) (F0 m 23 ls [.int t_1]) := by
    intro t_1 σ_2 hF0 H locs hP hS ls hl
    subst ej_3
    have hF_5 := hF0
    clear hF0
    refine lv_istore_n (lv' := [(2, .int t_1)]) hx hb dX9_signOf_23 rfl hl (by decide) rfl (fun ls hl => ?_)
    refine lv_iload_n hx hb dX9_signOf_24 rfl (lv_at hl 0 rfl) ?_
    refine lv_bipush (v := 94) hx hb dX9_signOf_25 (by decide +kernel) ?_
    refine lv_icmp_ne (tgt := 35) hx hb dX9_signOf_27 (by decide) (fun c_6 => ?_) (fun c_6 => ?_)
    · have hF_8 := ineg c_6 hF_5
      clear hF_5
      refine lv_iload_n hx hb dX9_signOf_35 rfl (lv_at hl 0 rfl) ?_
      have h9 := Option.some.inj hF_8
      subst h9
      exact W.iret (v := t_1) hx hb hr (fun t ht hW => ⟨⟨t_1, (), rfl, rfl, m_end ht hP, hDD _⟩, hS.F ht⟩) hS.2.2 dX9_signOf_36
    · have hF_7 := ipos c_6 hF_5
      clear hF_5
      refine lv_bipush (v := 10) hx hb dX9_signOf_30 (by decide +kernel) ?_
      refine lv_goto (tgt := 36) hx hb dX9_signOf_32 (by decide) ?_
      have h9 := Option.some.inj hF_7
      subst h9
      exact W.iret (v := 10) hx hb hr (fun t ht hW => ⟨⟨10, (), rfl, rfl, m_end ht hP, hDD _⟩, hS.F ht⟩) hS.2.2 dX9_signOf_36
  obtain ⟨j_10, ej_10, hF_11⟩ := bnd_e hF_4
  clear hF_4
  have Jj_10 : ∀  (σ_9 : HS), j_10  σ_9 = some res → ∀ (H : Heap) (locs : List Loc), va_P (dC, dI) vwCl (b_t cB cC cI cJ cZ oA rA σ_9) H → va_S A s.heap H locs → ∀ ls : Array Slot, lv_has ls 3 [] → W p l e (headSpec (g_ws yX9_signOf cX9_signOf 3 (some .int)) { frames := 1, cells := 0, slots := 0, locals := 40 }).room s m ([.ref (oA 6), .int p0] : List Value).toArray below meth c H locs 0 0 (MQ below (va_Qi (fun r (_ : Unit) => r = res.1) (g_Bo (dC, dI) A (fun (_ : Unit) => (b_t cB cC cI cJ cZ oA rA res.2))) A) ([.ref (oA 6), .int p0] : List Value).toArray s 0 0 A) (F0 m 22 ls []) := by
    intro  σ_9 hF0 H locs hP hS ls hl
    subst ej_10
    have hF_12 := hF0
    clear hF0
    refine lv_iconst (v := 0) hx hb dX9_signOf_22 (by decide +kernel) ?_
    exact Jj_3 0 σ_9 hF_12 _ _ hP hS ls (lv_sub hl [] rfl)
  refine lv_if_lt (tgt := 22) hx hb dX9_signOf_1 (by decide) (fun c_13 => ?_) (fun c_13 => ?_)
  · have hF_14 := ipos c_13 hF_11
    clear hF_11
    exact Jj_10  Γ hF_14 _ _ hP hS ls (lv_sub hl [] rfl)
  · have hF_15 := ineg c_13 hF_11
    clear hF_11
    refine lv_iload_n hx hb dX9_signOf_4 rfl (lv_at hl 1 rfl) ?_
    refine lv_aload_n hx hb dX9_signOf_5 rfl (lv_at hl 0 rfl) ?_
    refine va_get (D := (dC, dI)) (ci := 9) (v := .ref (rA 6 7)) (C := RX9) (T := TX9) (N := 9) hx hb hts ii_X9 hown hK hP 0 rfl rfl 7 (by decide) (hts (.fieldLink RX9 22 "StoryHouse$Texts" "source" "[B") wq_141) (fun _ h9 => h9) rfl dX9_signOf_6 ?_
    refine va_alen (v := 16000) hx hb hK hP 4 0 rfl rfl (by first | rfl | decide +kernel) dX9_signOf_9 ?_
    refine lv_icmp_ge (tgt := 22) hx hb dX9_signOf_10 (by decide) (fun c_16 => ?_) (fun c_16 => ?_)
    · have hF_17 := ipos c_16 hF_15
      clear hF_15
      exact Jj_10  Γ hF_17 _ _ hP hS ls (lv_sub hl [] rfl)
    · have hF_18 := ineg c_16 hF_15
      clear hF_15
      refine lv_aload_n hx hb dX9_signOf_13 rfl (lv_at hl 0 rfl) ?_
      refine va_get (D := (dC, dI)) (ci := 9) (v := .ref (rA 6 7)) (C := RX9) (T := TX9) (N := 9) hx hb hts ii_X9 hown hK hP 0 rfl rfl 7 (by decide) (hts (.fieldLink RX9 22 "StoryHouse$Texts" "source" "[B") wq_141) (fun _ h9 => h9) rfl dX9_signOf_14 ?_
      refine lv_iload_n hx hb dX9_signOf_17 rfl (lv_at hl 1 rfl) ?_
      obtain ⟨g_19, hF_20⟩ := nif_e hF_18
      clear hF_18
      refine va_bald (f := (Γ 6).2.1 7) hx hb hK hP 4 0 rfl rfl g_19 dX9_signOf_18 ?_
      refine lv_goto (tgt := 23) hx hb dX9_signOf_19 (by decide) ?_
      exact Jj_3 ((Γ 6).2.1 7 p0.toNatClampNeg) Γ hF_20 _ _ hP hS ls (lv_sub hl [] rfl)
theorem dX9_pack_0 : decode cX9_pack 0 = .ok (.aload_n 0, 1) := by decide +kernel
theorem dX9_pack_1 : decode cX9_pack 1 = .ok (.getfield 15, 3) := by decide +kernel
theorem dX9_pack_4 : decode cX9_pack 4 = .ok (.aload_n 0, 1) := by decide +kernel
theorem dX9_pack_5 : decode cX9_pack 5 = .ok (.getfield 33, 3) := by decide +kernel
theorem dX9_pack_8 : decode cX9_pack 8 = .ok (.aload_n 0, 1) := by decide +kernel
theorem dX9_pack_9 : decode cX9_pack 9 = .ok (.getfield 29, 3) := by decide +kernel
theorem dX9_pack_12 : decode cX9_pack 12 = .ok (.invokestatic 66, 3) := by decide +kernel
theorem dX9_pack_15 : decode cX9_pack 15 = .ok (.aload_n 0, 1) := by decide +kernel
theorem dX9_pack_16 : decode cX9_pack 16 = .ok (.getfield 19, 3) := by decide +kernel
theorem dX9_pack_19 : decode cX9_pack 19 = .ok (.aload_n 0, 1) := by decide +kernel
theorem dX9_pack_20 : decode cX9_pack 20 = .ok (.getfield 33, 3) := by decide +kernel
theorem dX9_pack_23 : decode cX9_pack 23 = .ok (.iload_n 1, 1) := by decide +kernel
theorem dX9_pack_24 : decode cX9_pack 24 = .ok (.invokestatic 66, 3) := by decide +kernel
theorem dX9_pack_27 : decode cX9_pack 27 = .ok (.aload_n 0, 1) := by decide +kernel
theorem dX9_pack_28 : decode cX9_pack 28 = .ok (.dup, 1) := by decide +kernel
theorem dX9_pack_29 : decode cX9_pack 29 = .ok (.getfield 33, 3) := by decide +kernel
theorem dX9_pack_32 : decode cX9_pack 32 = .ok (.iconst 1, 1) := by decide +kernel
theorem dX9_pack_33 : decode cX9_pack 33 = .ok (.iadd, 1) := by decide +kernel
theorem dX9_pack_34 : decode cX9_pack 34 = .ok (.putfield 33, 3) := by decide +kernel
theorem dX9_pack_37 : decode cX9_pack 37 = .ok (.aload_n 0, 1) := by decide +kernel
theorem dX9_pack_38 : decode cX9_pack 38 = .ok (.iconst 0, 1) := by decide +kernel
theorem dX9_pack_39 : decode cX9_pack 39 = .ok (.putfield 70, 3) := by decide +kernel
theorem dX9_pack_42 : decode cX9_pack 42 = .ok (.aload_n 0, 1) := by decide +kernel
theorem dX9_pack_43 : decode cX9_pack 43 = .ok (.iconst 0, 1) := by decide +kernel
theorem dX9_pack_44 : decode cX9_pack 44 = .ok (.putfield 73, 3) := by decide +kernel
theorem dX9_pack_47 : decode cX9_pack 47 = .ok (.iload_n 1, 1) := by decide +kernel
theorem dX9_pack_48 : decode cX9_pack 48 = .ok (.istore_n 2, 1) := by decide +kernel
theorem dX9_pack_49 : decode cX9_pack 49 = .ok (.iload_n 2, 1) := by decide +kernel
theorem dX9_pack_50 : decode cX9_pack 50 = .ok (.aload_n 0, 1) := by decide +kernel
theorem dX9_pack_51 : decode cX9_pack 51 = .ok (.getfield 22, 3) := by decide +kernel
theorem dX9_pack_54 : decode cX9_pack 54 = .ok (.arraylength, 1) := by decide +kernel
theorem dX9_pack_55 : decode cX9_pack 55 = .ok (.if_icmp .ge 71, 3) := by decide +kernel
theorem dX9_pack_58 : decode cX9_pack 58 = .ok (.aload_n 0, 1) := by decide +kernel
theorem dX9_pack_59 : decode cX9_pack 59 = .ok (.getfield 22, 3) := by decide +kernel
theorem dX9_pack_62 : decode cX9_pack 62 = .ok (.iload_n 2, 1) := by decide +kernel
theorem dX9_pack_63 : decode cX9_pack 63 = .ok (.baload, 1) := by decide +kernel
theorem dX9_pack_64 : decode cX9_pack 64 = .ok (.bipush 34, 2) := by decide +kernel
theorem dX9_pack_66 : decode cX9_pack 66 = .ok (.if_icmp .eq 60, 3) := by decide +kernel
theorem dX9_pack_69 : decode cX9_pack 69 = .ok (.ldc 76, 2) := by decide +kernel
theorem dX9_pack_71 : decode cX9_pack 71 = .ok (.aload_n 0, 1) := by decide +kernel
theorem dX9_pack_72 : decode cX9_pack 72 = .ok (.iload_n 2, 1) := by decide +kernel
theorem dX9_pack_73 : decode cX9_pack 73 = .ok (.invokevirtual 78, 3) := by decide +kernel
theorem dX9_pack_76 : decode cX9_pack 76 = .ok (.i2c, 1) := by decide +kernel
theorem dX9_pack_77 : decode cX9_pack 77 = .ok (.invokevirtual 81, 3) := by decide +kernel
theorem dX9_pack_80 : decode cX9_pack 80 = .ok (.istore_n 3, 1) := by decide +kernel
theorem dX9_pack_81 : decode cX9_pack 81 = .ok (.iload_n 3, 1) := by decide +kernel
theorem dX9_pack_82 : decode cX9_pack 82 = .ok (.bipush 29, 2) := by decide +kernel
theorem dX9_pack_84 : decode cX9_pack 84 = .ok (.if_icmp .lt 31, 3) := by decide +kernel
theorem dX9_pack_87 : decode cX9_pack 87 = .ok (.aload_n 0, 1) := by decide +kernel
theorem dX9_pack_88 : decode cX9_pack 88 = .ok (.bipush 29, 2) := by decide +kernel
theorem dX9_pack_90 : decode cX9_pack 90 = .ok (.iload_n 3, 1) := by decide +kernel
theorem dX9_pack_91 : decode cX9_pack 91 = .ok (.bipush 29, 2) := by decide +kernel
theorem dX9_pack_93 : decode cX9_pack 93 = .ok (.isub, 1) := by decide +kernel
theorem dX9_pack_94 : decode cX9_pack 94 = .ok (.bipush 32, 2) := by decide +kernel
theorem dX9_pack_96 : decode cX9_pack 96 = .ok (.idiv, 1) := by decide +kernel
theorem dX9_pack_97 : decode cX9_pack 97 = .ok (.iadd, 1) := by decide +kernel
theorem dX9_pack_98 : decode cX9_pack 98 = .ok (.invokevirtual 86, 3) := by decide +kernel
theorem dX9_pack_101 : decode cX9_pack 101 = .ok (.aload_n 0, 1) := by decide +kernel
theorem dX9_pack_102 : decode cX9_pack 102 = .ok (.iload_n 3, 1) := by decide +kernel
theorem dX9_pack_103 : decode cX9_pack 103 = .ok (.bipush 29, 2) := by decide +kernel
theorem dX9_pack_105 : decode cX9_pack 105 = .ok (.isub, 1) := by decide +kernel
theorem dX9_pack_106 : decode cX9_pack 106 = .ok (.bipush 32, 2) := by decide +kernel
theorem dX9_pack_108 : decode cX9_pack 108 = .ok (.irem, 1) := by decide +kernel
theorem dX9_pack_109 : decode cX9_pack 109 = .ok (.invokevirtual 86, 3) := by decide +kernel
theorem dX9_pack_112 : decode cX9_pack 112 = .ok (.goto 8, 3) := by decide +kernel
theorem dX9_pack_115 : decode cX9_pack 115 = .ok (.aload_n 0, 1) := by decide +kernel
theorem dX9_pack_116 : decode cX9_pack 116 = .ok (.iload_n 3, 1) := by decide +kernel
theorem dX9_pack_117 : decode cX9_pack 117 = .ok (.invokevirtual 86, 3) := by decide +kernel
theorem dX9_pack_120 : decode cX9_pack 120 = .ok (.iinc 2 1, 3) := by decide +kernel
theorem dX9_pack_123 : decode cX9_pack 123 = .ok (.goto (-74), 3) := by decide +kernel
theorem dX9_pack_126 : decode cX9_pack 126 = .ok (.aload_n 0, 1) := by decide +kernel
theorem dX9_pack_127 : decode cX9_pack 127 = .ok (.invokevirtual 89, 3) := by decide +kernel
theorem dX9_pack_130 : decode cX9_pack 130 = .ok (.return_, 1) := by decide +kernel
def F_X9_pack (p0 : Int32) (Γ : HS) : HR :=
  bnd (((Γ 6).1 1)) fun (x_1 : Int32) =>
  bnd (cA' Γ 6 4 (g_put 8000 ((Γ 6).2.1 4) ((Γ 6).1 6) x_1)) fun σ_3 =>
  bnd (cA' σ_3 6 5 (g_put 8000 ((σ_3 6).2.1 5) ((σ_3 6).1 6) p0)) fun σ_5 =>
  bnd (cI' σ_5 6 6 (((σ_5 6).1 6) + 1)) fun σ_7 =>
  bnd (cI' σ_7 6 2 0) fun σ_9 =>
  bnd (cI' σ_9 6 3 0) fun σ_11 =>
  loopF (fun (again_14 : (Int32 × HS) → HR) (s_13 : Int32 × HS) => (
    bnd (fun  (σ_17 : HS) => (
      (F_X9_shutText σ_17).bind fun u_21 =>
      some (0, u_21.2)
    ) : HS → HR) fun j_18 =>
    if 16000 ≤ s_13.1 then (
      j_18  s_13.2
    ) else (
      if s_13.1 < 0 ∨ 16000 ≤ s_13.1.toNatClampNeg then none else
      if ((s_13.2 6).2.1 7 s_13.1.toNatClampNeg) = 34 then (
        j_18  s_13.2
      ) else (
        (F_X9_signOf s_13.1 s_13.2).bind fun u_32 =>
        bnd ((u_32.1.toUInt32 % 65536).toInt32) fun (x_34 : Int32) =>
        bnd ((tx_ixOf ([32, 10, 97, 98, 99, 100, 101, 102, 103, 104, 105, 106, 107, 108, 109, 110, 111, 112, 113, 114, 115, 116, 117, 118, 119, 120, 121, 122, 46, 33, 35, 36, 37, 38, 39, 40, 41, 42, 43, 44, 45, 47, 48, 49, 50, 51, 52, 53, 54, 55, 56, 57, 58, 59, 60, 61, 62, 63, 64, 65, 66, 67, 68, 69, 70, 71, 72, 73, 74, 75, 76, 77, 78, 79, 80, 81, 82, 83, 84, 85, 86, 87, 88, 89, 90, 91, 92, 93, 95, 96, 123, 124, 125, 126] : List Int32) x_34)) fun (x_36 : Int32) =>
        bnd (fun  (σ_38 : HS) => (
          bnd (s_13.1 + 1) fun (x_42 : Int32) =>
          again_14 (x_42, σ_38)
        ) : HS → HR) fun j_39 =>
        if x_36 < 29 then (
          (F_X9_gather x_36 u_32.2).bind fun u_46 =>
          j_39  u_46.2
        ) else (
          bnd (((x_36 - 29) / 32)) fun (x_49 : Int32) =>
          (F_X9_gather (29 + x_49) u_32.2).bind fun u_51 =>
          bnd (((x_36 - 29) - (x_36 - 29) / 32 * 32)) fun (x_53 : Int32) =>
          (F_X9_gather x_53 u_51.2).bind fun u_55 =>
          j_39  u_55.2
        )
      )
    )
  )) FU (p0, σ_11)
set_option maxHeartbeats 4000000 in
set_option maxRecDepth 100000 in
theorem k_X9_pack (l : Launch) (dC : Nat → ClassId) (dI : Nat → Nat → Nat) (cB cC cI cJ cZ cP : ClassId) (oA : Nat → Nat) (rA : Nat → Nat → Nat) (sz : Nat)  (p0 : Int32) (Γ : HS) (res : Int32 × HS) (hF : F_X9_pack p0 Γ = some res) : Met l yX9_pack (g_ws yX9_pack cX9_pack 4 none) ({ frames := 5, cells := 0, slots := 0, locals := 131 }) (va_Pc [.ref (oA 6), .int p0] (g_B (dC, dI) [(cB, .byte), (cC, .char), (cI, .int), (cJ, .long), (cZ, .boolean), (cP, .object "StoryHouse$Play")] sz (b_t cB cC cI cJ cZ oA rA Γ) g_0)) (va_Qv (fun (_ : Unit) => True) (g_Bo (dC, dI) (va_A (b_t cB cC cI cJ cZ oA rA Γ) sz) (fun (_ : Unit) => (b_t cB cC cI cJ cZ oA rA res.2))) (va_A (b_t cB cC cI cJ cZ oA rA Γ) sz)) 0 0 (va_A (b_t cB cC cI cJ cZ oA rA Γ) sz) := by
  refine Met.ofW (cc := cX9_pack) (maxL := 4) (ret := none) (by decide) rfl ?_
  intro p e s m args below meth c s₁ B hml hv
  obtain ⟨rfl, hsz, hP, hK, hD0, hE, hX⟩ := hv
  have hx := B.exec
  have hb := B.bytes
  have hr := B.returns
  have hts0 := atoms_spec (ws := g_ws yX9_pack cX9_pack 4 none) B.pre
  have hts : ∀ w ∈ lw_good, w.before ([.ref (oA 6), .int p0] : List Value).toArray s = true := fun w z => hts0 w (List.mem_cons_of_mem _ z)
  have hown : s.vm.findClass RX9 = some m.cls := findClass_of_methodNamed B.named
  have hlocks := B.notSynchronized
  subst hsz
  have hD1 := hD0.self (sz := s.heap.size)
  generalize hAe : va_A (b_t cB cC cI cJ cZ oA rA Γ) s.heap.size = A at hD1 hE hX ⊢
  have hA : ∀ q : Nat, s.heap.size ≤ q → A q := fun q z => by rw [← hAe]; exact Or.inr z
  have hDD : ∀ Γ : HS, va_D A (b_t cB cC cI cJ cZ oA rA Γ) := fun Γ9 => va_D_fst (ws := (b_t cB cC cI cJ cZ oA rA Γ)) (ws' := (b_t cB cC cI cJ cZ oA rA Γ9)) rfl hD1
  have hN := hE.1
  have hS : va_S A s.heap s.heap [] := va_S.rf
  have hl := lv_entry ([.ref (oA 6), .int p0]) (n := 4) (Nat.le_of_ble_eq_true rfl)
  rw [lg_entry_eq]
  generalize (lg_sl ([.ref (oA 6), .int p0]) ++ List.replicate (4 - (lg_sl ([.ref (oA 6), .int p0])).length) Slot.unset).toArray = ls at hl ⊢
  have hl : lv_has ls 4 [(0, .ref (oA 6)), (1, .int p0)] := hl
  unfold F_X9_pack at hF
  refine lv_aload_n hx hb dX9_pack_0 rfl (lv_at hl 0 rfl) ?_
  refine va_get (D := (dC, dI)) (ci := 9) (v := .ref (rA 6 4)) (C := RX9) (T := TX9) (N := 9) hx hb hts ii_X9 hown hK hP 0 rfl rfl 4 (by decide) (hts (.fieldLink RX9 15 "StoryHouse$Texts" "begins" "[I") wq_138) (fun _ h9 => h9) rfl dX9_pack_1 ?_
  refine lv_aload_n hx hb dX9_pack_4 rfl (lv_at hl 0 rfl) ?_
  refine va_get (D := (dC, dI)) (ci := 9) (v := .int ((Γ 6).1 6)) (C := RX9) (T := TX9) (N := 9) hx hb hts ii_X9 hown hK hP 0 rfl rfl 6 (by decide) (hts (.fieldLink RX9 33 "StoryHouse$Texts" "count" "I") wq_140) (fun _ h9 => h9) rfl dX9_pack_5 ?_
  refine lv_aload_n hx hb dX9_pack_8 rfl (lv_at hl 0 rfl) ?_
  refine va_get (D := (dC, dI)) (ci := 9) (v := .int ((Γ 6).1 1)) (C := RX9) (T := TX9) (N := 9) hx hb hts ii_X9 hown hK hP 0 rfl rfl 1 (by decide) (hts (.fieldLink RX9 29 "StoryHouse$Texts" "unitCount" "I") wq_135) (fun _ h9 => h9) rfl dX9_pack_9 ?_
  obtain ⟨x_1, ex_1, hF_2⟩ := bnd_e hF
  clear hF
  refine m_top ex_1 ?_
  have hq9 : ((b_t cB cC cI cJ cZ oA rA Γ))[2]? = some (rA 6 4, .inl (cI, 8000, .inl ((Γ 6).2.1 4))) := rfl
  have hPc := hP.sub (ws' := [(rA 6 4, .inl (cI, 8000, .inl ((Γ 6).2.1 4)))]) [2] (pk_fm (er_C hq9))
  have hDc := (hDD Γ).sub (ws' := [(rA 6 4, .inl (cI, 8000, .inl ((Γ 6).2.1 4)))]) [2] (by decide +kernel) (er_C hq9)
  have hFc := va_free (wc := [(rA 6 4, .inl (cI, 8000, .inl ((Γ 6).2.1 4)))]) (hDD Γ) hS hA [2] (er_C hq9)
  refine g_ofv (wc := [(rA 6 4, .inl (cI, 8000, .inl ((Γ 6).2.1 4)))]) (wr := (((b_t cB cC cI cJ cZ oA rA Γ)).eraseIdx 2)) hP (hDD Γ) hS hFc [2] ((List.range ((b_t cB cC cI cJ cZ oA rA Γ)).length).eraseIdx 2) (er_C hq9) er_R er_n er_d (va_runSN (As := [.ref (rA 6 4), .int ((Γ 6).1 6), .int x_1]) (rest := []) ⟨hx, hb, hml, hown, hts⟩ (c_X11_put l dC dI cB cC cI cJ cZ cP s.heap.size (rA 6 4) ((Γ 6).1 6) x_1 8000 ((Γ 6).2.1 4) (by decide)) ⟨va_cnB 3 hts (g_gA wq_412) rfl rfl rfl (nw_26 hN) (hts (.initialized RX11) wq_1) (by decide +kernel) ⟨Nat.le_of_ble_eq_true rfl, Nat.le_of_ble_eq_true rfl⟩, (hts (.static yX11_put) wq_411), trivial⟩ (g_preS g_bl0 hK hPc hDc hS hE hFc g_to0) rfl rfl hl.1 rfl (lv_room (Nat.le_of_ble_eq_true rfl)) dX9_pack_12 ⟨Nat.le_of_ble_eq_true rfl, Nat.le_of_ble_eq_true rfl⟩) (fun g9 H locs hw9 hP' hD' hS => ?_)
  clear hPc hDc hFc hD'
  obtain ⟨σ_3, eσ_3, hF_4⟩ := bnd_e hF_2
  clear hF_2
  subst hw9
  have hP : va_P (dC, dI) vwCl (b_t cB cC cI cJ cZ oA rA σ_3) H := by rw [eσ_3]; exact cs_t_t_4 ▸ er_P hP' (er_lt hq9)
  clear hP' hq9
  refine lv_aload_n hx hb dX9_pack_15 rfl (lv_at hl 0 rfl) ?_
  refine va_get (D := (dC, dI)) (ci := 9) (v := .ref (rA 6 5)) (C := RX9) (T := TX9) (N := 9) hx hb hts ii_X9 hown hK hP 0 rfl rfl 5 (by decide) (hts (.fieldLink RX9 19 "StoryHouse$Texts" "toldPlaces" "[I") wq_139) (fun _ h9 => h9) rfl dX9_pack_16 ?_
  refine lv_aload_n hx hb dX9_pack_19 rfl (lv_at hl 0 rfl) ?_
  refine va_get (D := (dC, dI)) (ci := 9) (v := .int ((σ_3 6).1 6)) (C := RX9) (T := TX9) (N := 9) hx hb hts ii_X9 hown hK hP 0 rfl rfl 6 (by decide) (hts (.fieldLink RX9 33 "StoryHouse$Texts" "count" "I") wq_140) (fun _ h9 => h9) rfl dX9_pack_20 ?_
  refine lv_iload_n hx hb dX9_pack_23 rfl (lv_at hl 1 rfl) ?_
  have hq9 : ((b_t cB cC cI cJ cZ oA rA σ_3))[3]? = some (rA 6 5, .inl (cI, 8000, .inl ((σ_3 6).2.1 5))) := rfl
  have hPc := hP.sub (ws' := [(rA 6 5, .inl (cI, 8000, .inl ((σ_3 6).2.1 5)))]) [3] (pk_fm (er_C hq9))
  have hDc := (hDD σ_3).sub (ws' := [(rA 6 5, .inl (cI, 8000, .inl ((σ_3 6).2.1 5)))]) [3] (by decide +kernel) (er_C hq9)
  have hFc := va_free (wc := [(rA 6 5, .inl (cI, 8000, .inl ((σ_3 6).2.1 5)))]) (hDD σ_3) hS hA [3] (er_C hq9)
  refine g_ofv (wc := [(rA 6 5, .inl (cI, 8000, .inl ((σ_3 6).2.1 5)))]) (wr := (((b_t cB cC cI cJ cZ oA rA σ_3)).eraseIdx 3)) hP (hDD σ_3) hS hFc [3] ((List.range ((b_t cB cC cI cJ cZ oA rA σ_3)).length).eraseIdx 3) (er_C hq9) er_R er_n er_d (va_runSN (As := [.ref (rA 6 5), .int ((σ_3 6).1 6), .int p0]) (rest := []) ⟨hx, hb, hml, hown, hts⟩ (c_X11_put l dC dI cB cC cI cJ cZ cP H.size (rA 6 5) ((σ_3 6).1 6) p0 8000 ((σ_3 6).2.1 5) (by decide)) ⟨va_cnB 3 hts (g_gA wq_412) rfl rfl rfl (nw_26 hN) (hts (.initialized RX11) wq_1) (by decide +kernel) ⟨Nat.le_of_ble_eq_true rfl, Nat.le_of_ble_eq_true rfl⟩, (hts (.static yX11_put) wq_411), trivial⟩ (g_preS g_bl0 hK hPc hDc hS hE hFc g_to0) rfl rfl hl.1 rfl (lv_room (Nat.le_of_ble_eq_true rfl)) dX9_pack_24 ⟨Nat.le_of_ble_eq_true rfl, Nat.le_of_ble_eq_true rfl⟩) (fun g9 H locs hw9 hP' hD' hS => ?_)
  clear hPc hDc hFc hD'
  obtain ⟨σ_5, eσ_5, hF_6⟩ := bnd_e hF_4
  clear hF_4
  subst hw9
  have hP : va_P (dC, dI) vwCl (b_t cB cC cI cJ cZ oA rA σ_5) H := by rw [eσ_5]; exact cs_t_t_5 ▸ er_P hP' (er_lt hq9)
  clear hP' hq9
  refine lv_aload_n hx hb dX9_pack_27 rfl (lv_at hl 0 rfl) ?_
  refine lv_dup hx hb dX9_pack_28 rfl ?_
  refine va_get (D := (dC, dI)) (ci := 9) (v := .int ((σ_5 6).1 6)) (C := RX9) (T := TX9) (N := 9) hx hb hts ii_X9 hown hK hP 0 rfl rfl 6 (by decide) (hts (.fieldLink RX9 33 "StoryHouse$Texts" "count" "I") wq_140) (fun _ h9 => h9) rfl dX9_pack_29 ?_
  refine lv_iconst (v := 1) hx hb dX9_pack_32 (by decide +kernel) ?_
  refine lv_iadd hx hb dX9_pack_33 ?_
  obtain ⟨σ_7, eσ_7, hF_8⟩ := bnd_e hF_6
  clear hF_6
  refine va_put (D := (dC, dI)) (ci := 9) (v := .int (((σ_5 6).1 6) + 1)) (ty := .int) (C := RX9) (T := TX9) (N := 9) hx hb hts ii_X9 tyX9 tyX9_ok nmX9 hown hK hP (hDD _) hS 0 rfl rfl 6 (by decide) (hts (.fieldLink RX9 33 "StoryHouse$Texts" "count" "I") wq_140) (fun _ h9 => h9) rfl (by decide +kernel) rfl rfl (Nat.le_of_ble_eq_true rfl) dX9_pack_34 (fun H locs hP' _ hS => ?_)
  have hP : va_P (dC, dI) vwCl (b_t cB cC cI cJ cZ oA rA σ_7) H := by rw [eσ_7]; exact cs_t_t_6 ▸ hP'
  clear hP'
  refine lv_aload_n hx hb dX9_pack_37 rfl (lv_at hl 0 rfl) ?_
  refine lv_iconst (v := 0) hx hb dX9_pack_38 (by decide +kernel) ?_
  obtain ⟨σ_9, eσ_9, hF_10⟩ := bnd_e hF_8
  clear hF_8
  refine va_put (D := (dC, dI)) (ci := 9) (v := .int 0) (ty := .int) (C := RX9) (T := TX9) (N := 9) hx hb hts ii_X9 tyX9 tyX9_ok nmX9 hown hK hP (hDD _) hS 0 rfl rfl 2 (by decide) (hts (.fieldLink RX9 70 "StoryHouse$Texts" "gathered" "I") wq_136) (fun _ h9 => h9) rfl (by decide +kernel) rfl rfl (Nat.le_of_ble_eq_true rfl) dX9_pack_39 (fun H locs hP' _ hS => ?_)
  have hP : va_P (dC, dI) vwCl (b_t cB cC cI cJ cZ oA rA σ_9) H := by rw [eσ_9]; exact cs_t_t_2 ▸ hP'
  clear hP'
  refine lv_aload_n hx hb dX9_pack_42 rfl (lv_at hl 0 rfl) ?_
  refine lv_iconst (v := 0) hx hb dX9_pack_43 (by decide +kernel) ?_
  obtain ⟨σ_11, eσ_11, hF_12⟩ := bnd_e hF_10
  clear hF_10
  refine va_put (D := (dC, dI)) (ci := 9) (v := .int 0) (ty := .int) (C := RX9) (T := TX9) (N := 9) hx hb hts ii_X9 tyX9 tyX9_ok nmX9 hown hK hP (hDD _) hS 0 rfl rfl 3 (by decide) (hts (.fieldLink RX9 73 "StoryHouse$Texts" "gatheredCodes" "I") wq_137) (fun _ h9 => h9) rfl (by decide +kernel) rfl rfl (Nat.le_of_ble_eq_true rfl) dX9_pack_44 (fun H locs hP' _ hS => ?_)
  have hP : va_P (dC, dI) vwCl (b_t cB cC cI cJ cZ oA rA σ_11) H := by rw [eσ_11]; exact cs_t_t_3 ▸ hP'
  clear hP'
  refine lv_iload_n hx hb dX9_pack_47 rfl (lv_at hl 1 rfl) ?_
  refine lv_istore_n (lv' := [(2, .int p0), (0, .ref (oA 6)), (1, .int p0)]) hx hb dX9_pack_48 rfl hl (by decide) rfl (fun ls hl => ?_)
  refine loopF_ind (P := fun (s_13 : Int32 × HS) => ∀ (H : Heap) (locs : List Loc), va_P (dC, dI) vwCl (b_t cB cC cI cJ cZ oA rA s_13.2) H → va_S A s.heap H locs → ∀ ls : Array Slot, lv_has ls 4 [(0, .ref (oA 6)), (2, .int s_13.1)] → W p l e (headSpec (g_ws yX9_pack cX9_pack 4 none) { frames := 5, cells := 0, slots := 0, locals := 131 }).room s m ([.ref (oA 6), .int p0] : List Value).toArray below meth c H locs 0 0 (MQ below (va_Qv (fun (_ : Unit) => True) (g_Bo (dC, dI) A (fun (_ : Unit) => (b_t cB cC cI cJ cZ oA rA res.2))) A) ([.ref (oA 6), .int p0] : List Value).toArray s 0 0 A) (F0 m 49 ls [])) ?_ _ _ hF_12 _ _ hP hS ls (lv_sub hl [1, 0] rfl)
  intro again_14 s_13 ih_15 hF_16
  intro H locs hP hS ls hl
  refine lv_iload_n hx hb dX9_pack_49 rfl (lv_at hl 1 rfl) ?_
  refine lv_aload_n hx hb dX9_pack_50 rfl (lv_at hl 0 rfl) ?_
  refine va_get (D := (dC, dI)) (ci := 9) (v := .ref (rA 6 7)) (C := RX9) (T := TX9) (N := 9) hx hb hts ii_X9 hown hK hP 0 rfl rfl 7 (by decide) (hts (.fieldLink RX9 22 "StoryHouse$Texts" "source" "[B") wq_141) (fun _ h9 => h9) rfl dX9_pack_51 ?_
  refine va_alen (v := 16000) hx hb hK hP 4 0 rfl rfl (by first | rfl | decide +kernel) dX9_pack_54 ?_
  obtain ⟨j_18, ej_18, hF_19⟩ := bnd_e hF_16
  clear hF_16
  have Jj_18 : ∀  (σ_17 : HS), j_18  σ_17 = some res → ∀ (H : Heap) (locs : List Loc), va_P (dC, dI) vwCl (b_t cB cC cI cJ cZ oA rA σ_17) H → va_S A s.heap H locs → ∀ ls : Array Slot, lv_has ls 4 [(0, .ref (oA 6))] → W p l e (headSpec (g_ws yX9_pack cX9_pack 4 none) { frames := 5, cells := 0, slots := 0, locals := 131 }).room s m ([.ref (oA 6), .int p0] : List Value).toArray below meth c H locs 0 0 (MQ below (va_Qv (fun (_ : Unit) => True) (g_Bo (dC, dI) A (fun (_ : Unit) => (b_t cB cC cI cJ cZ oA rA res.2))) A) ([.ref (oA 6), .int p0] : List Value).toArray s 0 0 A) (F0 m 126 ls []) := by
    intro  σ_17 hF0 H locs hP hS ls hl
    subst ej_18
    have hF_20 := hF0
    clear hF0
    refine lv_aload_n hx hb dX9_pack_126 rfl (lv_at hl 0 rfl) ?_
    obtain ⟨u_21, hu_21, hF_22⟩ := Option.bind_eq_some_iff.mp hF_20
    clear hF_20
    have hPc := bx_P (bs := [b_t cB cC cI cJ cZ oA rA σ_17]) (bs' := [b_t cB cC cI cJ cZ oA rA σ_17]) (ws' := (b_t cB cC cI cJ cZ oA rA σ_17)) hP fl_1 fl_1 [0] rfl
    have hDc := bx_D (bs := [b_t cB cC cI cJ cZ oA rA σ_17]) (bs' := [b_t cB cC cI cJ cZ oA rA σ_17]) (ws' := (b_t cB cC cI cJ cZ oA rA σ_17)) (hDD σ_17) fl_1 fl_1 [0] (by decide +kernel) rfl
    have hFc := bx_F (bs := [b_t cB cC cI cJ cZ oA rA σ_17]) (bs' := [b_t cB cC cI cJ cZ oA rA σ_17]) (wc := (b_t cB cC cI cJ cZ oA rA σ_17)) (hDD σ_17) hS hA fl_1 fl_1 [0] rfl
    refine g_ofv (wc := (b_t cB cC cI cJ cZ oA rA σ_17)) (wr := ([] : va_W)) hP (hDD σ_17) hS hFc (bx_ix [b_t cB cC cI cJ cZ oA rA σ_17] [0]) (bx_ix [b_t cB cC cI cJ cZ oA rA σ_17] []) (bx_C (bs := [b_t cB cC cI cJ cZ oA rA σ_17]) (bs' := [b_t cB cC cI cJ cZ oA rA σ_17]) (is := [0]) fl_1 fl_1 rfl) (bx_C (bs := [b_t cB cC cI cJ cZ oA rA σ_17]) (bs' := []) (is := []) fl_1 fl_0 rfl) (bx_n (by decide +kernel)) (bx_d (by decide +kernel)) (va_runV (As := []) (rest := []) ⟨hx, hb, hml, hown, hts⟩ (k_X9_shutText l dC dI cB cC cI cJ cZ cP oA rA H.size  σ_17 _ hu_21) (cwV 0 hts (g_gV wq_865 wq_866 wq_2065 wq_7 wq_867) rfl rfl rfl (by decide +kernel) ⟨Nat.le_of_ble_eq_true rfl, Nat.le_of_ble_eq_true rfl⟩) (g_preV g_bl0 hK hPc hDc hS hE hFc g_to0 (q0 := 0) (ci := 9) rfl rfl) rfl rfl hl.1 rfl (lv_room (Nat.le_of_ble_eq_true rfl)) dX9_pack_127 ⟨Nat.le_of_ble_eq_true rfl, Nat.le_of_ble_eq_true rfl⟩) (fun u9 H locs hw9 hP' hD' hS => ?_)
    clear hPc hDc hFc
    have hP : va_P (dC, dI) vwCl (b_t cB cC cI cJ cZ oA rA u_21.2) H := hP'
    clear hP' hD'
    have h9 := Option.some.inj hF_22
    subst h9
    exact W.vret hx hb hr (fun t ht hW => ⟨⟨(), rfl, trivial, m_end ht hP, hDD _⟩, hS.F ht⟩) hS.2.2 dX9_pack_130
  refine lv_icmp_ge (tgt := 126) hx hb dX9_pack_55 (by decide) (fun c_23 => ?_) (fun c_23 => ?_)
  · have hF_24 := ipos c_23 hF_19
    clear hF_19
    exact Jj_18  s_13.2 hF_24 _ _ hP hS ls (lv_sub hl [0] rfl)
  · have hF_25 := ineg c_23 hF_19
    clear hF_19
    refine lv_aload_n hx hb dX9_pack_58 rfl (lv_at hl 0 rfl) ?_
    refine va_get (D := (dC, dI)) (ci := 9) (v := .ref (rA 6 7)) (C := RX9) (T := TX9) (N := 9) hx hb hts ii_X9 hown hK hP 0 rfl rfl 7 (by decide) (hts (.fieldLink RX9 22 "StoryHouse$Texts" "source" "[B") wq_141) (fun _ h9 => h9) rfl dX9_pack_59 ?_
    refine lv_iload_n hx hb dX9_pack_62 rfl (lv_at hl 1 rfl) ?_
    obtain ⟨g_26, hF_27⟩ := nif_e hF_25
    clear hF_25
    refine va_bald (f := (s_13.2 6).2.1 7) hx hb hK hP 4 0 rfl rfl g_26 dX9_pack_63 ?_
    refine lv_bipush (v := 34) hx hb dX9_pack_64 (by decide +kernel) ?_
    refine lv_icmp_eq (tgt := 126) hx hb dX9_pack_66 (by decide) (fun c_28 => ?_) (fun c_28 => ?_)
    · have hF_29 := ipos c_28 hF_27
      clear hF_27
      exact Jj_18  s_13.2 hF_29 _ _ hP hS ls (lv_sub hl [0] rfl)
    · have hF_30 := ineg c_28 hF_27
      clear hF_27
      obtain ⟨q_31, vq_31, hRq_31, hSq_31⟩ := hE.2.2.2.2 _ (List.mem_of_getElem? (i := 21) rfl)
      refine va_ldcS (own := RX9) (tx := " \nabcdefghijklmnopqrstuvwxyz.!#$%&'()*+,-/0123456789:;<=>?@ABCDEFGHIJKLMNOPQRSTUVWXYZ[\\]_`{|}~") hx hb hown hRq_31 dX9_pack_69 ?_
      refine lv_aload_n hx hb dX9_pack_71 rfl (lv_at hl 0 rfl) ?_
      refine lv_iload_n hx hb dX9_pack_72 rfl (lv_at hl 1 rfl) ?_
      obtain ⟨u_32, hu_32, hF_33⟩ := Option.bind_eq_some_iff.mp hF_30
      clear hF_30
      have hPc := bx_P (bs := [b_t cB cC cI cJ cZ oA rA s_13.2]) (bs' := [b_t cB cC cI cJ cZ oA rA s_13.2]) (ws' := (b_t cB cC cI cJ cZ oA rA s_13.2)) hP fl_1 fl_1 [0] rfl
      have hDc := bx_D (bs := [b_t cB cC cI cJ cZ oA rA s_13.2]) (bs' := [b_t cB cC cI cJ cZ oA rA s_13.2]) (ws' := (b_t cB cC cI cJ cZ oA rA s_13.2)) (hDD s_13.2) fl_1 fl_1 [0] (by decide +kernel) rfl
      have hFc := bx_F (bs := [b_t cB cC cI cJ cZ oA rA s_13.2]) (bs' := [b_t cB cC cI cJ cZ oA rA s_13.2]) (wc := (b_t cB cC cI cJ cZ oA rA s_13.2)) (hDD s_13.2) hS hA fl_1 fl_1 [0] rfl
      refine g_ofi (wc := (b_t cB cC cI cJ cZ oA rA s_13.2)) (wr := ([] : va_W)) hP (hDD s_13.2) hS hFc (bx_ix [b_t cB cC cI cJ cZ oA rA s_13.2] [0]) (bx_ix [b_t cB cC cI cJ cZ oA rA s_13.2] []) (bx_C (bs := [b_t cB cC cI cJ cZ oA rA s_13.2]) (bs' := [b_t cB cC cI cJ cZ oA rA s_13.2]) (is := [0]) fl_1 fl_1 rfl) (bx_C (bs := [b_t cB cC cI cJ cZ oA rA s_13.2]) (bs' := []) (is := []) fl_1 fl_0 rfl) (bx_n (by decide +kernel)) (bx_d (by decide +kernel)) (va_runV (As := [.int s_13.1]) (rest := [.ref q_31]) ⟨hx, hb, hml, hown, hts⟩ (k_X9_signOf l dC dI cB cC cI cJ cZ cP oA rA H.size  s_13.1 s_13.2 _ hu_32) (cwV 1 hts (g_gV wq_855 wq_856 wq_2062 wq_7 wq_857) rfl rfl rfl (by decide +kernel) ⟨Nat.le_of_ble_eq_true rfl, Nat.le_of_ble_eq_true rfl⟩) (g_preV g_bl0 hK hPc hDc hS hE hFc g_to0 (q0 := 0) (ci := 9) rfl rfl) rfl rfl hl.1 rfl (lv_room (Nat.le_of_ble_eq_true rfl)) dX9_pack_73 ⟨Nat.le_of_ble_eq_true rfl, Nat.le_of_ble_eq_true rfl⟩) (fun r9 u9 H locs hw9 hP' hD' hS => ?_)
      clear hPc hDc hFc
      subst hw9
      have hP : va_P (dC, dI) vwCl (b_t cB cC cI cJ cZ oA rA u_32.2) H := hP'
      clear hP' hD'
      refine lv_i2c hx hb dX9_pack_76 rfl ?_
      obtain ⟨x_34, ex_34, hF_35⟩ := bnd_e hF_33
      clear hF_33
      refine m_top ex_34 ?_
      refine c_cs (v := tx_ixOf ([32, 10, 97, 98, 99, 100, 101, 102, 103, 104, 105, 106, 107, 108, 109, 110, 111, 112, 113, 114, 115, 116, 117, 118, 119, 120, 121, 122, 46, 33, 35, 36, 37, 38, 39, 40, 41, 42, 43, 44, 45, 47, 48, 49, 50, 51, 52, 53, 54, 55, 56, 57, 58, 59, 60, 61, 62, 63, 64, 65, 66, 67, 68, 69, 70, 71, 72, 73, 74, 75, 76, 77, 78, 79, 80, 81, 82, 83, 84, 85, 86, 87, 88, 89, 90, 91, 92, 93, 95, 96, 123, 124, 125, 126] : List Int32) x_34) hA hP hS (va_runV (As := [.int x_34]) (rest := []) ⟨hx, hb, hml, hown, hts⟩ (c_J0_indexOf_0f7a4 l dC dI cB cC cI cJ cZ cP H.size q_31 x_34 _ ([32, 10, 97, 98, 99, 100, 101, 102, 103, 104, 105, 106, 107, 108, 109, 110, 111, 112, 113, 114, 115, 116, 117, 118, 119, 120, 121, 122, 46, 33, 35, 36, 37, 38, 39, 40, 41, 42, 43, 44, 45, 47, 48, 49, 50, 51, 52, 53, 54, 55, 56, 57, 58, 59, 60, 61, 62, 63, 64, 65, 66, 67, 68, 69, 70, 71, 72, 73, 74, 75, 76, 77, 78, 79, 80, 81, 82, 83, 84, 85, 86, 87, 88, 89, 90, 91, 92, 93, 95, 96, 123, 124, 125, 126] : List Int32) ) (cwV 1 hts (g_gV wq_858 wq_445 wq_446 wq_22 wq_447) rfl rfl rfl (by decide +kernel) ⟨Nat.le_of_ble_eq_true rfl, Nat.le_of_ble_eq_true rfl⟩) (g_preVs g_blS hK (wc := []) (A := A) (fun k q z => by simp at z) ⟨fun i j p q z => by simp at z, fun k q z => by simp at z⟩ hS hE (c_nil hA hS) (g_toS hSq_31 hS (c_nil hA hS)) (va_Orecv hSq_31.1 hS)) rfl rfl hl.1 rfl (lv_room (Nat.le_of_ble_eq_true rfl)) dX9_pack_77 ⟨Nat.le_of_ble_eq_true rfl, Nat.le_of_ble_eq_true rfl⟩) (fun H locs hP hS => ?_)
      obtain ⟨x_36, ex_36, hF_37⟩ := bnd_e hF_35
      clear hF_35
      refine m_top ex_36 ?_
      refine lv_istore_n (lv' := [(3, .int x_36), (0, .ref (oA 6)), (2, .int s_13.1)]) hx hb dX9_pack_80 rfl hl (by decide) rfl (fun ls hl => ?_)
      refine lv_iload_n hx hb dX9_pack_81 rfl (lv_at hl 0 rfl) ?_
      refine lv_bipush (v := 29) hx hb dX9_pack_82 (by decide +kernel) ?_
      obtain ⟨j_39, ej_39, hF_40⟩ := bnd_e hF_37
      clear hF_37
      have Jj_39 : ∀  (σ_38 : HS), j_39  σ_38 = some res → ∀ (H : Heap) (locs : List Loc), va_P (dC, dI) vwCl (b_t cB cC cI cJ cZ oA rA σ_38) H → va_S A s.heap H locs → ∀ ls : Array Slot, lv_has ls 4 [(0, .ref (oA 6)), (2, .int s_13.1)] → W p l e (headSpec (g_ws yX9_pack cX9_pack 4 none) { frames := 5, cells := 0, slots := 0, locals := 131 }).room s m ([.ref (oA 6), .int p0] : List Value).toArray below meth c H locs 0 0 (MQ below (va_Qv (fun (_ : Unit) => True) (g_Bo (dC, dI) A (fun (_ : Unit) => (b_t cB cC cI cJ cZ oA rA res.2))) A) ([.ref (oA 6), .int p0] : List Value).toArray s 0 0 A) (F0 m 120 ls []) := by
        intro  σ_38 hF0 H locs hP hS ls hl
        subst ej_39
        have hF_41 := hF0
        clear hF0
        obtain ⟨x_42, ex_42, hF_43⟩ := bnd_e hF_41
        clear hF_41
        refine lv_iinc (v := x_42) (lv' := [(2, .int x_42), (0, .ref (oA 6))]) hx hb dX9_pack_120 hl (k := 1) rfl (by rw [ex_42]; rfl) (by decide) rfl (fun ls hl => ?_)
        refine lv_goto (tgt := 49) hx hb dX9_pack_123 (by decide) ?_
        exact ih_15 (x_42, σ_38) hF_43 _ _ hP hS ls (lv_sub hl [1, 0] rfl)
      refine lv_icmp_lt (tgt := 115) hx hb dX9_pack_84 (by decide) (fun c_44 => ?_) (fun c_44 => ?_)
      · have hF_45 := ipos c_44 hF_40
        clear hF_40
        refine lv_aload_n hx hb dX9_pack_115 rfl (lv_at hl 1 rfl) ?_
        refine lv_iload_n hx hb dX9_pack_116 rfl (lv_at hl 0 rfl) ?_
        obtain ⟨u_46, hu_46, hF_47⟩ := Option.bind_eq_some_iff.mp hF_45
        clear hF_45
        have hPc := bx_P (bs := [b_t cB cC cI cJ cZ oA rA u_32.2]) (bs' := [b_t cB cC cI cJ cZ oA rA u_32.2]) (ws' := (b_t cB cC cI cJ cZ oA rA u_32.2)) hP fl_1 fl_1 [0] rfl
        have hDc := bx_D (bs := [b_t cB cC cI cJ cZ oA rA u_32.2]) (bs' := [b_t cB cC cI cJ cZ oA rA u_32.2]) (ws' := (b_t cB cC cI cJ cZ oA rA u_32.2)) (hDD u_32.2) fl_1 fl_1 [0] (by decide +kernel) rfl
        have hFc := bx_F (bs := [b_t cB cC cI cJ cZ oA rA u_32.2]) (bs' := [b_t cB cC cI cJ cZ oA rA u_32.2]) (wc := (b_t cB cC cI cJ cZ oA rA u_32.2)) (hDD u_32.2) hS hA fl_1 fl_1 [0] rfl
        refine g_ofv (wc := (b_t cB cC cI cJ cZ oA rA u_32.2)) (wr := ([] : va_W)) hP (hDD u_32.2) hS hFc (bx_ix [b_t cB cC cI cJ cZ oA rA u_32.2] [0]) (bx_ix [b_t cB cC cI cJ cZ oA rA u_32.2] []) (bx_C (bs := [b_t cB cC cI cJ cZ oA rA u_32.2]) (bs' := [b_t cB cC cI cJ cZ oA rA u_32.2]) (is := [0]) fl_1 fl_1 rfl) (bx_C (bs := [b_t cB cC cI cJ cZ oA rA u_32.2]) (bs' := []) (is := []) fl_1 fl_0 rfl) (bx_n (by decide +kernel)) (bx_d (by decide +kernel)) (va_runV (As := [.int x_36]) (rest := []) ⟨hx, hb, hml, hown, hts⟩ (k_X9_gather l dC dI cB cC cI cJ cZ cP oA rA H.size  x_36 u_32.2 _ hu_46) (cwV 1 hts (g_gV wq_859 wq_860 wq_2063 wq_7 wq_861) rfl rfl rfl (by decide +kernel) ⟨Nat.le_of_ble_eq_true rfl, Nat.le_of_ble_eq_true rfl⟩) (g_preV g_bl0 hK hPc hDc hS hE hFc g_to0 (q0 := 0) (ci := 9) rfl rfl) rfl rfl hl.1 rfl (lv_room (Nat.le_of_ble_eq_true rfl)) dX9_pack_117 ⟨Nat.le_of_ble_eq_true rfl, Nat.le_of_ble_eq_true rfl⟩) (fun u9 H locs hw9 hP' hD' hS => ?_)
        clear hPc hDc hFc
        have hP : va_P (dC, dI) vwCl (b_t cB cC cI cJ cZ oA rA u_46.2) H := hP'
        clear hP' hD'
        exact Jj_39  u_46.2 hF_47 _ _ hP hS ls (lv_sub hl [1, 2] rfl)
      · have hF_48 := ineg c_44 hF_40
        clear hF_40
        refine lv_aload_n hx hb dX9_pack_87 rfl (lv_at hl 1 rfl) ?_
        refine lv_bipush (v := 29) hx hb dX9_pack_88 (by decide +kernel) ?_
        refine lv_iload_n hx hb dX9_pack_90 rfl (lv_at hl 0 rfl) ?_
        refine lv_bipush (v := 29) hx hb dX9_pack_91 (by decide +kernel) ?_
        refine lv_isub hx hb dX9_pack_93 ?_
        refine lv_bipush (v := 32) hx hb dX9_pack_94 (by decide +kernel) ?_
        refine lv_idiv hx hb dX9_pack_96 (by decide +kernel) ?_
        obtain ⟨x_49, ex_49, hF_50⟩ := bnd_e hF_48
        clear hF_48
        refine m_top ex_49 ?_
        refine lv_iadd hx hb dX9_pack_97 ?_
        obtain ⟨u_51, hu_51, hF_52⟩ := Option.bind_eq_some_iff.mp hF_50
        clear hF_50
        have hPc := bx_P (bs := [b_t cB cC cI cJ cZ oA rA u_32.2]) (bs' := [b_t cB cC cI cJ cZ oA rA u_32.2]) (ws' := (b_t cB cC cI cJ cZ oA rA u_32.2)) hP fl_1 fl_1 [0] rfl
        have hDc := bx_D (bs := [b_t cB cC cI cJ cZ oA rA u_32.2]) (bs' := [b_t cB cC cI cJ cZ oA rA u_32.2]) (ws' := (b_t cB cC cI cJ cZ oA rA u_32.2)) (hDD u_32.2) fl_1 fl_1 [0] (by decide +kernel) rfl
        have hFc := bx_F (bs := [b_t cB cC cI cJ cZ oA rA u_32.2]) (bs' := [b_t cB cC cI cJ cZ oA rA u_32.2]) (wc := (b_t cB cC cI cJ cZ oA rA u_32.2)) (hDD u_32.2) hS hA fl_1 fl_1 [0] rfl
        refine g_ofv (wc := (b_t cB cC cI cJ cZ oA rA u_32.2)) (wr := ([] : va_W)) hP (hDD u_32.2) hS hFc (bx_ix [b_t cB cC cI cJ cZ oA rA u_32.2] [0]) (bx_ix [b_t cB cC cI cJ cZ oA rA u_32.2] []) (bx_C (bs := [b_t cB cC cI cJ cZ oA rA u_32.2]) (bs' := [b_t cB cC cI cJ cZ oA rA u_32.2]) (is := [0]) fl_1 fl_1 rfl) (bx_C (bs := [b_t cB cC cI cJ cZ oA rA u_32.2]) (bs' := []) (is := []) fl_1 fl_0 rfl) (bx_n (by decide +kernel)) (bx_d (by decide +kernel)) (va_runV (As := [.int (29 + x_49)]) (rest := []) ⟨hx, hb, hml, hown, hts⟩ (k_X9_gather l dC dI cB cC cI cJ cZ cP oA rA H.size  (29 + x_49) u_32.2 _ hu_51) (cwV 1 hts (g_gV wq_859 wq_860 wq_2063 wq_7 wq_861) rfl rfl rfl (by decide +kernel) ⟨Nat.le_of_ble_eq_true rfl, Nat.le_of_ble_eq_true rfl⟩) (g_preV g_bl0 hK hPc hDc hS hE hFc g_to0 (q0 := 0) (ci := 9) rfl rfl) rfl rfl hl.1 rfl (lv_room (Nat.le_of_ble_eq_true rfl)) dX9_pack_98 ⟨Nat.le_of_ble_eq_true rfl, Nat.le_of_ble_eq_true rfl⟩) (fun u9 H locs hw9 hP' hD' hS => ?_)
        clear hPc hDc hFc
        have hP : va_P (dC, dI) vwCl (b_t cB cC cI cJ cZ oA rA u_51.2) H := hP'
        clear hP' hD'
        refine lv_aload_n hx hb dX9_pack_101 rfl (lv_at hl 1 rfl) ?_
        refine lv_iload_n hx hb dX9_pack_102 rfl (lv_at hl 0 rfl) ?_
        refine lv_bipush (v := 29) hx hb dX9_pack_103 (by decide +kernel) ?_
        refine lv_isub hx hb dX9_pack_105 ?_
        refine lv_bipush (v := 32) hx hb dX9_pack_106 (by decide +kernel) ?_
        refine lv_irem hx hb dX9_pack_108 (by decide +kernel) ?_
        obtain ⟨x_53, ex_53, hF_54⟩ := bnd_e hF_52
        clear hF_52
        refine m_top ex_53 ?_
        obtain ⟨u_55, hu_55, hF_56⟩ := Option.bind_eq_some_iff.mp hF_54
        clear hF_54
        have hPc := bx_P (bs := [b_t cB cC cI cJ cZ oA rA u_51.2]) (bs' := [b_t cB cC cI cJ cZ oA rA u_51.2]) (ws' := (b_t cB cC cI cJ cZ oA rA u_51.2)) hP fl_1 fl_1 [0] rfl
        have hDc := bx_D (bs := [b_t cB cC cI cJ cZ oA rA u_51.2]) (bs' := [b_t cB cC cI cJ cZ oA rA u_51.2]) (ws' := (b_t cB cC cI cJ cZ oA rA u_51.2)) (hDD u_51.2) fl_1 fl_1 [0] (by decide +kernel) rfl
        have hFc := bx_F (bs := [b_t cB cC cI cJ cZ oA rA u_51.2]) (bs' := [b_t cB cC cI cJ cZ oA rA u_51.2]) (wc := (b_t cB cC cI cJ cZ oA rA u_51.2)) (hDD u_51.2) hS hA fl_1 fl_1 [0] rfl
        refine g_ofv (wc := (b_t cB cC cI cJ cZ oA rA u_51.2)) (wr := ([] : va_W)) hP (hDD u_51.2) hS hFc (bx_ix [b_t cB cC cI cJ cZ oA rA u_51.2] [0]) (bx_ix [b_t cB cC cI cJ cZ oA rA u_51.2] []) (bx_C (bs := [b_t cB cC cI cJ cZ oA rA u_51.2]) (bs' := [b_t cB cC cI cJ cZ oA rA u_51.2]) (is := [0]) fl_1 fl_1 rfl) (bx_C (bs := [b_t cB cC cI cJ cZ oA rA u_51.2]) (bs' := []) (is := []) fl_1 fl_0 rfl) (bx_n (by decide +kernel)) (bx_d (by decide +kernel)) (va_runV (As := [.int x_53]) (rest := []) ⟨hx, hb, hml, hown, hts⟩ (k_X9_gather l dC dI cB cC cI cJ cZ cP oA rA H.size  x_53 u_51.2 _ hu_55) (cwV 1 hts (g_gV wq_859 wq_860 wq_2063 wq_7 wq_861) rfl rfl rfl (by decide +kernel) ⟨Nat.le_of_ble_eq_true rfl, Nat.le_of_ble_eq_true rfl⟩) (g_preV g_bl0 hK hPc hDc hS hE hFc g_to0 (q0 := 0) (ci := 9) rfl rfl) rfl rfl hl.1 rfl (lv_room (Nat.le_of_ble_eq_true rfl)) dX9_pack_109 ⟨Nat.le_of_ble_eq_true rfl, Nat.le_of_ble_eq_true rfl⟩) (fun u9 H locs hw9 hP' hD' hS => ?_)
        clear hPc hDc hFc
        have hP : va_P (dC, dI) vwCl (b_t cB cC cI cJ cZ oA rA u_55.2) H := hP'
        clear hP' hD'
        refine lv_goto (tgt := 120) hx hb dX9_pack_112 (by decide) ?_
        exact Jj_39  u_55.2 hF_56 _ _ hP hS ls (lv_sub hl [1, 2] rfl)
theorem dX9_packAll_0 : decode cX9_packAll 0 = .ok (.aload_n 1, 1) := by decide +kernel
theorem dX9_packAll_1 : decode cX9_packAll 1 = .ok (.getfield 36, 3) := by decide +kernel
theorem dX9_packAll_4 : decode cX9_packAll 4 = .ok (.iconst 0, 1) := by decide +kernel
theorem dX9_packAll_5 : decode cX9_packAll 5 = .ok (.aload_n 0, 1) := by decide +kernel
theorem dX9_packAll_6 : decode cX9_packAll 6 = .ok (.getfield 22, 3) := by decide +kernel
theorem dX9_packAll_9 : decode cX9_packAll 9 = .ok (.iconst 0, 1) := by decide +kernel
theorem dX9_packAll_10 : decode cX9_packAll 10 = .ok (.aload_n 1, 1) := by decide +kernel
theorem dX9_packAll_11 : decode cX9_packAll 11 = .ok (.getfield 39, 3) := by decide +kernel
theorem dX9_packAll_14 : decode cX9_packAll 14 = .ok (.aload_n 0, 1) := by decide +kernel
theorem dX9_packAll_15 : decode cX9_packAll 15 = .ok (.getfield 22, 3) := by decide +kernel
theorem dX9_packAll_18 : decode cX9_packAll 18 = .ok (.arraylength, 1) := by decide +kernel
theorem dX9_packAll_19 : decode cX9_packAll 19 = .ok (.invokestatic 42, 3) := by decide +kernel
theorem dX9_packAll_22 : decode cX9_packAll 22 = .ok (.invokestatic 48, 3) := by decide +kernel
theorem dX9_packAll_25 : decode cX9_packAll 25 = .ok (.iconst 0, 1) := by decide +kernel
theorem dX9_packAll_26 : decode cX9_packAll 26 = .ok (.istore_n 2, 1) := by decide +kernel
theorem dX9_packAll_27 : decode cX9_packAll 27 = .ok (.iload_n 2, 1) := by decide +kernel
theorem dX9_packAll_28 : decode cX9_packAll 28 = .ok (.aload_n 1, 1) := by decide +kernel
theorem dX9_packAll_29 : decode cX9_packAll 29 = .ok (.getfield 54, 3) := by decide +kernel
theorem dX9_packAll_32 : decode cX9_packAll 32 = .ok (.if_icmp .ge 29, 3) := by decide +kernel
theorem dX9_packAll_35 : decode cX9_packAll 35 = .ok (.aload_n 1, 1) := by decide +kernel
theorem dX9_packAll_36 : decode cX9_packAll 36 = .ok (.iload_n 2, 1) := by decide +kernel
theorem dX9_packAll_37 : decode cX9_packAll 37 = .ok (.invokevirtual 55, 3) := by decide +kernel
theorem dX9_packAll_40 : decode cX9_packAll 40 = .ok (.iconst 4, 1) := by decide +kernel
theorem dX9_packAll_41 : decode cX9_packAll 41 = .ok (.if_icmp .ne 14, 3) := by decide +kernel
theorem dX9_packAll_44 : decode cX9_packAll 44 = .ok (.aload_n 0, 1) := by decide +kernel
theorem dX9_packAll_45 : decode cX9_packAll 45 = .ok (.aload_n 1, 1) := by decide +kernel
theorem dX9_packAll_46 : decode cX9_packAll 46 = .ok (.iload_n 2, 1) := by decide +kernel
theorem dX9_packAll_47 : decode cX9_packAll 47 = .ok (.invokevirtual 59, 3) := by decide +kernel
theorem dX9_packAll_50 : decode cX9_packAll 50 = .ok (.iconst 1, 1) := by decide +kernel
theorem dX9_packAll_51 : decode cX9_packAll 51 = .ok (.iadd, 1) := by decide +kernel
theorem dX9_packAll_52 : decode cX9_packAll 52 = .ok (.invokevirtual 62, 3) := by decide +kernel
theorem dX9_packAll_55 : decode cX9_packAll 55 = .ok (.iinc 2 1, 3) := by decide +kernel
theorem dX9_packAll_58 : decode cX9_packAll 58 = .ok (.goto (-31), 3) := by decide +kernel
theorem dX9_packAll_61 : decode cX9_packAll 61 = .ok (.return_, 1) := by decide +kernel
def F_X9_packAll  (Γ : HS) : HR :=
  bnd ((if 16000 < ((Γ 1).1 1) then 16000 else ((Γ 1).1 1))) fun (x_1 : Int32) =>
  if 0 < 0 ∨ 0 < 0 ∨ x_1 < 0 ∨ 16000 < (0 : Int32).toNatClampNeg + x_1.toNatClampNeg ∨ 16000 < (0 : Int32).toNatClampNeg + x_1.toNatClampNeg ∨ ¬ (∀ z, z < x_1.toNatClampNeg → vp_nar .byte (((Γ 1).2.1 0) ((0 : Int32).toNatClampNeg + z)) = ((Γ 1).2.1 0) ((0 : Int32).toNatClampNeg + z)) then none else
  bnd (cA' Γ 6 7 (va_cpy ((Γ 1).2.1 0) ((Γ 6).2.1 7) (0 : Int32).toNatClampNeg (0 : Int32).toNatClampNeg x_1.toNatClampNeg)) fun σ_5 =>
  loopF (fun (again_8 : (Int32 × HS) → HR) (s_7 : Int32 × HS) => (
    if ((s_7.2 1).1 2) ≤ s_7.1 then (
      some (0, s_7.2)
    ) else (
      (F_X10_kindOf s_7.1 s_7.2).bind fun u_14 =>
      bnd (mrg (fun j => j == 1) s_7.2 u_14.2) fun σ_16 =>
      bnd (fun  (σ_18 : HS) => (
        bnd (s_7.1 + 1) fun (x_22 : Int32) =>
        again_8 (x_22, σ_18)
      ) : HS → HR) fun j_19 =>
      if u_14.1 = 4 then (
        (F_X10_placeOf s_7.1 σ_16).bind fun u_26 =>
        bnd (mrg (fun j => j == 1) σ_16 u_26.2) fun σ_28 =>
        (F_X9_pack (u_26.1 + 1) σ_28).bind fun u_30 =>
        bnd (mrg (fun j => j == 6) σ_28 u_30.2) fun σ_32 =>
        j_19  σ_32
      ) else (
        j_19  σ_16
      )
    )
  )) FU (0, σ_5)
set_option maxHeartbeats 4000000 in
set_option maxRecDepth 100000 in
theorem k_X9_packAll (l : Launch) (dC : Nat → ClassId) (dI : Nat → Nat → Nat) (cB cC cI cJ cZ cP : ClassId) (oA : Nat → Nat) (rA : Nat → Nat → Nat) (sz : Nat)   (Γ : HS) (res : Int32 × HS) (hF : F_X9_packAll  Γ = some res) : Met l yX9_packAll (g_ws yX9_packAll cX9_packAll 3 none) ({ frames := 6, cells := 0, slots := 0, locals := 154 }) (va_Pc [.ref (oA 6), .ref (oA 1)] (g_B (dC, dI) [(cB, .byte), (cC, .char), (cI, .int), (cJ, .long), (cZ, .boolean), (cP, .object "StoryHouse$Play")] sz (b_w cB cC cI cJ cZ oA rA Γ ++ b_t cB cC cI cJ cZ oA rA Γ) g_0)) (va_Qv (fun (_ : Unit) => True) (g_Bo (dC, dI) (va_A (b_w cB cC cI cJ cZ oA rA Γ ++ b_t cB cC cI cJ cZ oA rA Γ) sz) (fun (_ : Unit) => (b_w cB cC cI cJ cZ oA rA res.2 ++ b_t cB cC cI cJ cZ oA rA res.2))) (va_A (b_w cB cC cI cJ cZ oA rA Γ ++ b_t cB cC cI cJ cZ oA rA Γ) sz)) 0 0 (va_A (b_w cB cC cI cJ cZ oA rA Γ ++ b_t cB cC cI cJ cZ oA rA Γ) sz) := by
  refine Met.ofW (cc := cX9_packAll) (maxL := 3) (ret := none) (by decide) rfl ?_
  intro p e s m args below meth c s₁ B hml hv
  obtain ⟨rfl, hsz, hP, hK, hD0, hE, hX⟩ := hv
  have hx := B.exec
  have hb := B.bytes
  have hr := B.returns
  have hts0 := atoms_spec (ws := g_ws yX9_packAll cX9_packAll 3 none) B.pre
  have hts : ∀ w ∈ lw_good, w.before ([.ref (oA 6), .ref (oA 1)] : List Value).toArray s = true := fun w z => hts0 w (List.mem_cons_of_mem _ z)
  have hown : s.vm.findClass RX9 = some m.cls := findClass_of_methodNamed B.named
  have hlocks := B.notSynchronized
  subst hsz
  have hD1 := hD0.self (sz := s.heap.size)
  generalize hAe : va_A (b_w cB cC cI cJ cZ oA rA Γ ++ b_t cB cC cI cJ cZ oA rA Γ) s.heap.size = A at hD1 hE hX ⊢
  have hA : ∀ q : Nat, s.heap.size ≤ q → A q := fun q z => by rw [← hAe]; exact Or.inr z
  have hDD : ∀ Γ : HS, va_D A (b_w cB cC cI cJ cZ oA rA Γ ++ b_t cB cC cI cJ cZ oA rA Γ) := fun Γ9 => va_D_fst (ws := (b_w cB cC cI cJ cZ oA rA Γ ++ b_t cB cC cI cJ cZ oA rA Γ)) (ws' := (b_w cB cC cI cJ cZ oA rA Γ9 ++ b_t cB cC cI cJ cZ oA rA Γ9)) rfl hD1
  have hN := hE.1
  have hS : va_S A s.heap s.heap [] := va_S.rf
  have hl := lv_entry ([.ref (oA 6), .ref (oA 1)]) (n := 3) (Nat.le_of_ble_eq_true rfl)
  rw [lg_entry_eq]
  generalize (lg_sl ([.ref (oA 6), .ref (oA 1)]) ++ List.replicate (3 - (lg_sl ([.ref (oA 6), .ref (oA 1)])).length) Slot.unset).toArray = ls at hl ⊢
  have hl : lv_has ls 3 [(0, .ref (oA 6)), (1, .ref (oA 1))] := hl
  unfold F_X9_packAll at hF
  refine lv_aload_n hx hb dX9_packAll_0 rfl (lv_at hl 1 rfl) ?_
  refine va_get (D := (dC, dI)) (ci := 10) (v := .ref (rA 1 0)) (C := RX10) (T := TX10) (N := 12) hx hb hts ii_X10 hown hK hP 0 rfl rfl 0 (by decide) (hts (.fieldLink RX9 36 "StoryHouse$Words" "source" "[B") wq_42) (fun _ h9 => h9) rfl dX9_packAll_1 ?_
  refine lv_iconst (v := 0) hx hb dX9_packAll_4 (by decide +kernel) ?_
  refine lv_aload_n hx hb dX9_packAll_5 rfl (lv_at hl 0 rfl) ?_
  refine va_get (D := (dC, dI)) (ci := 9) (v := .ref (rA 6 7)) (C := RX9) (T := TX9) (N := 9) hx hb hts ii_X9 hown hK hP 9 rfl rfl 7 (by decide) (hts (.fieldLink RX9 22 "StoryHouse$Texts" "source" "[B") wq_141) (fun _ h9 => h9) rfl dX9_packAll_6 ?_
  refine lv_iconst (v := 0) hx hb dX9_packAll_9 (by decide +kernel) ?_
  refine lv_aload_n hx hb dX9_packAll_10 rfl (lv_at hl 1 rfl) ?_
  refine va_get (D := (dC, dI)) (ci := 10) (v := .int ((Γ 1).1 1)) (C := RX10) (T := TX10) (N := 12) hx hb hts ii_X10 hown hK hP 0 rfl rfl 1 (by decide) (hts (.fieldLink RX9 39 "StoryHouse$Words" "length" "I") wq_44) (fun _ h9 => h9) rfl dX9_packAll_11 ?_
  refine lv_aload_n hx hb dX9_packAll_14 rfl (lv_at hl 0 rfl) ?_
  refine va_get (D := (dC, dI)) (ci := 9) (v := .ref (rA 6 7)) (C := RX9) (T := TX9) (N := 9) hx hb hts ii_X9 hown hK hP 9 rfl rfl 7 (by decide) (hts (.fieldLink RX9 22 "StoryHouse$Texts" "source" "[B") wq_141) (fun _ h9 => h9) rfl dX9_packAll_15 ?_
  refine va_alen (v := 16000) hx hb hK hP 13 0 rfl rfl (by first | rfl | decide +kernel) dX9_packAll_18 ?_
  refine va_mmin hx hb (hml.trans hl.1.symm) hown (hts (.methodLink RX9 42 yJ9_min_7cf53) wq_848) (hts (.static yJ9_min_7cf53) wq_331) (hts (.initialized RJ9) wq_19) (hts (.code yJ9_min_7cf53 cJ9_min_7cf53 2 (some .int)) wq_332) (Nat.le_of_ble_eq_true rfl) (Nat.le_of_ble_eq_true rfl) (Nat.le_of_ble_eq_true rfl) (Nat.le_of_ble_eq_true rfl) dX9_packAll_19 ?_
  obtain ⟨x_1, ex_1, hF_2⟩ := bnd_e hF
  clear hF
  refine m_top ex_1 ?_
  obtain ⟨g_3, hF_4⟩ := nif_e hF_2
  clear hF_2
  obtain ⟨σ_5, eσ_5, hF_6⟩ := bnd_e hF_4
  clear hF_4
  refine va_copyi (f := (Γ 1).2.1 0) (g := (Γ 6).2.1 7) hx hb (hml.trans hl.1.symm) hown (hts (.methodLink RX9 48 arraycopyName) wq_849) (hts (.native arraycopyName) wq_338) (hts (.static arraycopyName) wq_337) (hts (.initialized RJ10) wq_20) hK hP (hDD _) hS 1 13 0 0 rfl rfl rfl rfl rfl (by decide) (by decide) (fun z => g_3 (Or.inr (Or.inr (Or.inl z)))) (Nat.not_lt.mp (fun z => g_3 (Or.inr (Or.inr (Or.inr (Or.inl z)))))) (Nat.not_lt.mp (fun z => g_3 (Or.inr (Or.inr (Or.inr (Or.inr (Or.inl z))))))) (fun i hi => nar_fit (Classical.not_not.mp (fun z => g_3 (Or.inr (Or.inr (Or.inr (Or.inr (Or.inr z)))))) i hi)) (by decide +kernel) (by decide +kernel) dX9_packAll_22 (fun H locs hP' _ hS => ?_)
  have hP : va_P (dC, dI) vwCl (b_w cB cC cI cJ cZ oA rA σ_5 ++ b_t cB cC cI cJ cZ oA rA σ_5) H := by rw [eσ_5]; exact cs_wt_t_7 ▸ hP'
  clear hP'
  refine lv_iconst (v := 0) hx hb dX9_packAll_25 (by decide +kernel) ?_
  refine lv_istore_n (lv' := [(2, .int 0), (0, .ref (oA 6)), (1, .ref (oA 1))]) hx hb dX9_packAll_26 rfl hl (by decide) rfl (fun ls hl => ?_)
  refine loopF_ind (P := fun (s_7 : Int32 × HS) => ∀ (H : Heap) (locs : List Loc), va_P (dC, dI) vwCl (b_w cB cC cI cJ cZ oA rA s_7.2 ++ b_t cB cC cI cJ cZ oA rA s_7.2) H → va_S A s.heap H locs → ∀ ls : Array Slot, lv_has ls 3 [(0, .ref (oA 6)), (1, .ref (oA 1)), (2, .int s_7.1)] → W p l e (headSpec (g_ws yX9_packAll cX9_packAll 3 none) { frames := 6, cells := 0, slots := 0, locals := 154 }).room s m ([.ref (oA 6), .ref (oA 1)] : List Value).toArray below meth c H locs 0 0 (MQ below (va_Qv (fun (_ : Unit) => True) (g_Bo (dC, dI) A (fun (_ : Unit) => (b_w cB cC cI cJ cZ oA rA res.2 ++ b_t cB cC cI cJ cZ oA rA res.2))) A) ([.ref (oA 6), .ref (oA 1)] : List Value).toArray s 0 0 A) (F0 m 27 ls [])) ?_ _ _ hF_6 _ _ hP hS ls (lv_sub hl [1, 2, 0] rfl)
  intro again_8 s_7 ih_9 hF_10
  intro H locs hP hS ls hl
  refine lv_iload_n hx hb dX9_packAll_27 rfl (lv_at hl 2 rfl) ?_
  refine lv_aload_n hx hb dX9_packAll_28 rfl (lv_at hl 1 rfl) ?_
  refine va_get (D := (dC, dI)) (ci := 10) (v := .int ((s_7.2 1).1 2)) (C := RX10) (T := TX10) (N := 12) hx hb hts ii_X10 hown hK hP 0 rfl rfl 2 (by decide) (hts (.fieldLink RX9 54 "StoryHouse$Words" "count" "I") wq_48) (fun _ h9 => h9) rfl dX9_packAll_29 ?_
  refine lv_icmp_ge (tgt := 61) hx hb dX9_packAll_32 (by decide) (fun c_11 => ?_) (fun c_11 => ?_)
  · have hF_12 := ipos c_11 hF_10
    clear hF_10
    have h9 := Option.some.inj hF_12
    subst h9
    exact W.vret hx hb hr (fun t ht hW => ⟨⟨(), rfl, trivial, m_end ht hP, hDD _⟩, hS.F ht⟩) hS.2.2 dX9_packAll_61
  · have hF_13 := ineg c_11 hF_10
    clear hF_10
    refine lv_aload_n hx hb dX9_packAll_35 rfl (lv_at hl 1 rfl) ?_
    refine lv_iload_n hx hb dX9_packAll_36 rfl (lv_at hl 2 rfl) ?_
    obtain ⟨u_14, hu_14, hF_15⟩ := Option.bind_eq_some_iff.mp hF_13
    clear hF_13
    have hPc := bx_P (bs := [b_w cB cC cI cJ cZ oA rA s_7.2, b_t cB cC cI cJ cZ oA rA s_7.2]) (bs' := [b_w cB cC cI cJ cZ oA rA s_7.2]) (ws' := (b_w cB cC cI cJ cZ oA rA s_7.2)) hP fl_2 fl_1 [0] rfl
    have hDc := bx_D (bs := [b_w cB cC cI cJ cZ oA rA s_7.2, b_t cB cC cI cJ cZ oA rA s_7.2]) (bs' := [b_w cB cC cI cJ cZ oA rA s_7.2]) (ws' := (b_w cB cC cI cJ cZ oA rA s_7.2)) (hDD s_7.2) fl_2 fl_1 [0] (by decide +kernel) rfl
    have hFc := bx_F (bs := [b_w cB cC cI cJ cZ oA rA s_7.2, b_t cB cC cI cJ cZ oA rA s_7.2]) (bs' := [b_w cB cC cI cJ cZ oA rA s_7.2]) (wc := (b_w cB cC cI cJ cZ oA rA s_7.2)) (hDD s_7.2) hS hA fl_2 fl_1 [0] rfl
    refine g_ofi (wc := (b_w cB cC cI cJ cZ oA rA s_7.2)) (wr := (b_t cB cC cI cJ cZ oA rA s_7.2)) hP (hDD s_7.2) hS hFc (bx_ix [b_w cB cC cI cJ cZ oA rA s_7.2, b_t cB cC cI cJ cZ oA rA s_7.2] [0]) (bx_ix [b_w cB cC cI cJ cZ oA rA s_7.2, b_t cB cC cI cJ cZ oA rA s_7.2] [1]) (bx_C (bs := [b_w cB cC cI cJ cZ oA rA s_7.2, b_t cB cC cI cJ cZ oA rA s_7.2]) (bs' := [b_w cB cC cI cJ cZ oA rA s_7.2]) (is := [0]) fl_2 fl_1 rfl) (bx_C (bs := [b_w cB cC cI cJ cZ oA rA s_7.2, b_t cB cC cI cJ cZ oA rA s_7.2]) (bs' := [b_t cB cC cI cJ cZ oA rA s_7.2]) (is := [1]) fl_2 fl_1 rfl) (bx_n (by decide +kernel)) (bx_d (by decide +kernel)) (va_runV (As := [.int s_7.1]) (rest := []) ⟨hx, hb, hml, hown, hts⟩ (k_X10_kindOf l dC dI cB cC cI cJ cZ cP oA rA H.size  s_7.1 s_7.2 _ hu_14) (cwV 1 hts (g_gV wq_850 wq_543 wq_544 wq_2 wq_545) rfl rfl rfl (by decide +kernel) ⟨Nat.le_of_ble_eq_true rfl, Nat.le_of_ble_eq_true rfl⟩) (g_preV g_bl0 hK hPc hDc hS hE hFc g_to0 (q0 := 0) (ci := 10) rfl rfl) rfl rfl hl.1 rfl (lv_room (Nat.le_of_ble_eq_true rfl)) dX9_packAll_37 ⟨Nat.le_of_ble_eq_true rfl, Nat.le_of_ble_eq_true rfl⟩) (fun r9 u9 H locs hw9 hP' hD' hS => ?_)
    clear hPc hDc hFc
    subst hw9
    obtain ⟨σ_16, eσ_16, hF_17⟩ := bnd_e hF_15
    clear hF_15
    have hP : va_P (dC, dI) vwCl (b_w cB cC cI cJ cZ oA rA σ_16 ++ b_t cB cC cI cJ cZ oA rA σ_16) H := by rw [eσ_16]; exact bx_P (bs := [b_t cB cC cI cJ cZ oA rA s_7.2] ++ [b_w cB cC cI cJ cZ oA rA u_14.2]) (bs' := [b_w cB cC cI cJ cZ oA rA (mrg (fun j => j == 1) s_7.2 u_14.2), b_t cB cC cI cJ cZ oA rA (mrg (fun j => j == 1) s_7.2 u_14.2)]) hP' (fl_a fl_1 fl_1) fl_2 [1, 0] rfl
    clear hP' hD'
    refine lv_iconst (v := 4) hx hb dX9_packAll_40 (by decide +kernel) ?_
    obtain ⟨j_19, ej_19, hF_20⟩ := bnd_e hF_17
    clear hF_17
    have Jj_19 : ∀  (σ_18 : HS), j_19  σ_18 = some res → ∀ (H : Heap) (locs : List Loc), va_P (dC, dI) vwCl (b_w cB cC cI cJ cZ oA rA σ_18 ++ b_t cB cC cI cJ cZ oA rA σ_18) H → va_S A s.heap H locs → ∀ ls : Array Slot, lv_has ls 3 [(0, .ref (oA 6)), (1, .ref (oA 1)), (2, .int s_7.1)] → W p l e (headSpec (g_ws yX9_packAll cX9_packAll 3 none) { frames := 6, cells := 0, slots := 0, locals := 154 }).room s m ([.ref (oA 6), .ref (oA 1)] : List Value).toArray below meth c H locs 0 0 (MQ below (va_Qv (fun (_ : Unit) => True) (g_Bo (dC, dI) A (fun (_ : Unit) => (b_w cB cC cI cJ cZ oA rA res.2 ++ b_t cB cC cI cJ cZ oA rA res.2))) A) ([.ref (oA 6), .ref (oA 1)] : List Value).toArray s 0 0 A) (F0 m 55 ls []) := by
      intro  σ_18 hF0 H locs hP hS ls hl
      subst ej_19
      have hF_21 := hF0
      clear hF0
      obtain ⟨x_22, ex_22, hF_23⟩ := bnd_e hF_21
      clear hF_21
      refine lv_iinc (v := x_22) (lv' := [(2, .int x_22), (0, .ref (oA 6)), (1, .ref (oA 1))]) hx hb dX9_packAll_55 hl (k := 2) rfl (by rw [ex_22]; rfl) (by decide) rfl (fun ls hl => ?_)
      refine lv_goto (tgt := 27) hx hb dX9_packAll_58 (by decide) ?_
      exact ih_9 (x_22, σ_18) hF_23 _ _ hP hS ls (lv_sub hl [1, 2, 0] rfl)
    refine lv_icmp_ne (tgt := 55) hx hb dX9_packAll_41 (by decide) (fun c_24 => ?_) (fun c_24 => ?_)
    · have hF_34 := ineg c_24 hF_20
      clear hF_20
      exact Jj_19  σ_16 hF_34 _ _ hP hS ls (lv_sub hl [0, 1, 2] rfl)
    · have hF_25 := ipos c_24 hF_20
      clear hF_20
      refine lv_aload_n hx hb dX9_packAll_44 rfl (lv_at hl 0 rfl) ?_
      refine lv_aload_n hx hb dX9_packAll_45 rfl (lv_at hl 1 rfl) ?_
      refine lv_iload_n hx hb dX9_packAll_46 rfl (lv_at hl 2 rfl) ?_
      obtain ⟨u_26, hu_26, hF_27⟩ := Option.bind_eq_some_iff.mp hF_25
      clear hF_25
      have hPc := bx_P (bs := [b_w cB cC cI cJ cZ oA rA σ_16, b_t cB cC cI cJ cZ oA rA σ_16]) (bs' := [b_w cB cC cI cJ cZ oA rA σ_16]) (ws' := (b_w cB cC cI cJ cZ oA rA σ_16)) hP fl_2 fl_1 [0] rfl
      have hDc := bx_D (bs := [b_w cB cC cI cJ cZ oA rA σ_16, b_t cB cC cI cJ cZ oA rA σ_16]) (bs' := [b_w cB cC cI cJ cZ oA rA σ_16]) (ws' := (b_w cB cC cI cJ cZ oA rA σ_16)) (hDD σ_16) fl_2 fl_1 [0] (by decide +kernel) rfl
      have hFc := bx_F (bs := [b_w cB cC cI cJ cZ oA rA σ_16, b_t cB cC cI cJ cZ oA rA σ_16]) (bs' := [b_w cB cC cI cJ cZ oA rA σ_16]) (wc := (b_w cB cC cI cJ cZ oA rA σ_16)) (hDD σ_16) hS hA fl_2 fl_1 [0] rfl
      refine g_ofi (wc := (b_w cB cC cI cJ cZ oA rA σ_16)) (wr := (b_t cB cC cI cJ cZ oA rA σ_16)) hP (hDD σ_16) hS hFc (bx_ix [b_w cB cC cI cJ cZ oA rA σ_16, b_t cB cC cI cJ cZ oA rA σ_16] [0]) (bx_ix [b_w cB cC cI cJ cZ oA rA σ_16, b_t cB cC cI cJ cZ oA rA σ_16] [1]) (bx_C (bs := [b_w cB cC cI cJ cZ oA rA σ_16, b_t cB cC cI cJ cZ oA rA σ_16]) (bs' := [b_w cB cC cI cJ cZ oA rA σ_16]) (is := [0]) fl_2 fl_1 rfl) (bx_C (bs := [b_w cB cC cI cJ cZ oA rA σ_16, b_t cB cC cI cJ cZ oA rA σ_16]) (bs' := [b_t cB cC cI cJ cZ oA rA σ_16]) (is := [1]) fl_2 fl_1 rfl) (bx_n (by decide +kernel)) (bx_d (by decide +kernel)) (va_runV (As := [.int s_7.1]) (rest := [.ref (oA 6)]) ⟨hx, hb, hml, hown, hts⟩ (k_X10_placeOf l dC dI cB cC cI cJ cZ cP oA rA H.size  s_7.1 σ_16 _ hu_26) (cwV 1 hts (g_gV wq_851 wq_702 wq_703 wq_2 wq_704) rfl rfl rfl (by decide +kernel) ⟨Nat.le_of_ble_eq_true rfl, Nat.le_of_ble_eq_true rfl⟩) (g_preV g_bl0 hK hPc hDc hS hE hFc g_to0 (q0 := 0) (ci := 10) rfl rfl) rfl rfl hl.1 rfl (lv_room (Nat.le_of_ble_eq_true rfl)) dX9_packAll_47 ⟨Nat.le_of_ble_eq_true rfl, Nat.le_of_ble_eq_true rfl⟩) (fun r9 u9 H locs hw9 hP' hD' hS => ?_)
      clear hPc hDc hFc
      subst hw9
      obtain ⟨σ_28, eσ_28, hF_29⟩ := bnd_e hF_27
      clear hF_27
      have hP : va_P (dC, dI) vwCl (b_w cB cC cI cJ cZ oA rA σ_28 ++ b_t cB cC cI cJ cZ oA rA σ_28) H := by rw [eσ_28]; exact bx_P (bs := [b_t cB cC cI cJ cZ oA rA σ_16] ++ [b_w cB cC cI cJ cZ oA rA u_26.2]) (bs' := [b_w cB cC cI cJ cZ oA rA (mrg (fun j => j == 1) σ_16 u_26.2), b_t cB cC cI cJ cZ oA rA (mrg (fun j => j == 1) σ_16 u_26.2)]) hP' (fl_a fl_1 fl_1) fl_2 [1, 0] rfl
      clear hP' hD'
      refine lv_iconst (v := 1) hx hb dX9_packAll_50 (by decide +kernel) ?_
      refine lv_iadd hx hb dX9_packAll_51 ?_
      obtain ⟨u_30, hu_30, hF_31⟩ := Option.bind_eq_some_iff.mp hF_29
      clear hF_29
      have hPc := bx_P (bs := [b_w cB cC cI cJ cZ oA rA σ_28, b_t cB cC cI cJ cZ oA rA σ_28]) (bs' := [b_t cB cC cI cJ cZ oA rA σ_28]) (ws' := (b_t cB cC cI cJ cZ oA rA σ_28)) hP fl_2 fl_1 [1] rfl
      have hDc := bx_D (bs := [b_w cB cC cI cJ cZ oA rA σ_28, b_t cB cC cI cJ cZ oA rA σ_28]) (bs' := [b_t cB cC cI cJ cZ oA rA σ_28]) (ws' := (b_t cB cC cI cJ cZ oA rA σ_28)) (hDD σ_28) fl_2 fl_1 [1] (by decide +kernel) rfl
      have hFc := bx_F (bs := [b_w cB cC cI cJ cZ oA rA σ_28, b_t cB cC cI cJ cZ oA rA σ_28]) (bs' := [b_t cB cC cI cJ cZ oA rA σ_28]) (wc := (b_t cB cC cI cJ cZ oA rA σ_28)) (hDD σ_28) hS hA fl_2 fl_1 [1] rfl
      refine g_ofv (wc := (b_t cB cC cI cJ cZ oA rA σ_28)) (wr := (b_w cB cC cI cJ cZ oA rA σ_28)) hP (hDD σ_28) hS hFc (bx_ix [b_w cB cC cI cJ cZ oA rA σ_28, b_t cB cC cI cJ cZ oA rA σ_28] [1]) (bx_ix [b_w cB cC cI cJ cZ oA rA σ_28, b_t cB cC cI cJ cZ oA rA σ_28] [0]) (bx_C (bs := [b_w cB cC cI cJ cZ oA rA σ_28, b_t cB cC cI cJ cZ oA rA σ_28]) (bs' := [b_t cB cC cI cJ cZ oA rA σ_28]) (is := [1]) fl_2 fl_1 rfl) (bx_C (bs := [b_w cB cC cI cJ cZ oA rA σ_28, b_t cB cC cI cJ cZ oA rA σ_28]) (bs' := [b_w cB cC cI cJ cZ oA rA σ_28]) (is := [0]) fl_2 fl_1 rfl) (bx_n (by decide +kernel)) (bx_d (by decide +kernel)) (va_runV (As := [.int (u_26.1 + 1)]) (rest := []) ⟨hx, hb, hml, hown, hts⟩ (k_X9_pack l dC dI cB cC cI cJ cZ cP oA rA H.size  (u_26.1 + 1) σ_28 _ hu_30) (cwV 1 hts (g_gV wq_852 wq_853 wq_2061 wq_7 wq_854) rfl rfl rfl (by decide +kernel) ⟨Nat.le_of_ble_eq_true rfl, Nat.le_of_ble_eq_true rfl⟩) (g_preV g_bl0 hK hPc hDc hS hE hFc g_to0 (q0 := 0) (ci := 9) rfl rfl) rfl rfl hl.1 rfl (lv_room (Nat.le_of_ble_eq_true rfl)) dX9_packAll_52 ⟨Nat.le_of_ble_eq_true rfl, Nat.le_of_ble_eq_true rfl⟩) (fun u9 H locs hw9 hP' hD' hS => ?_)
      clear hPc hDc hFc
      obtain ⟨σ_32, eσ_32, hF_33⟩ := bnd_e hF_31
      clear hF_31
      have hP : va_P (dC, dI) vwCl (b_w cB cC cI cJ cZ oA rA σ_32 ++ b_t cB cC cI cJ cZ oA rA σ_32) H := by rw [eσ_32]; exact bx_P (bs := [b_w cB cC cI cJ cZ oA rA σ_28] ++ [b_t cB cC cI cJ cZ oA rA u_30.2]) (bs' := [b_w cB cC cI cJ cZ oA rA (mrg (fun j => j == 6) σ_28 u_30.2), b_t cB cC cI cJ cZ oA rA (mrg (fun j => j == 6) σ_28 u_30.2)]) hP' (fl_a fl_1 fl_1) fl_2 [0, 1] rfl
      clear hP' hD'
      exact Jj_19  σ_32 hF_33 _ _ hP hS ls (lv_sub hl [0, 1, 2] rfl)
