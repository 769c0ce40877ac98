/-! own methods -/
theorem dX11_has_0 : decode cX11_has 0 = .ok (.aload_n 0, 1) := by decide +kernel
theorem dX11_has_1 : decode cX11_has 1 = .ok (.iload_n 1, 1) := by decide +kernel
theorem dX11_has_2 : decode cX11_has 2 = .ok (.invokevirtual 237, 3) := by decide +kernel
theorem dX11_has_5 : decode cX11_has 5 = .ok (.iload_n 2, 1) := by decide +kernel
theorem dX11_has_6 : decode cX11_has 6 = .ok (.ifCond .lt 9, 3) := by decide +kernel
theorem dX11_has_9 : decode cX11_has 9 = .ok (.iload_n 2, 1) := by decide +kernel
theorem dX11_has_10 : decode cX11_has 10 = .ok (.bipush 6, 2) := by decide +kernel
theorem dX11_has_12 : decode cX11_has 12 = .ok (.if_icmp .le 13, 3) := by decide +kernel
theorem dX11_has_15 : decode cX11_has 15 = .ok (.new 95, 3) := by decide +kernel
theorem dX11_has_18 : decode cX11_has 18 = .ok (.dup, 1) := by decide +kernel
theorem dX11_has_19 : decode cX11_has 19 = .ok (.ldc 253, 2) := by decide +kernel
theorem dX11_has_21 : decode cX11_has 21 = .ok (.invokespecial 99, 3) := by decide +kernel
theorem dX11_has_24 : decode cX11_has 24 = .ok (.athrow, 1) := by decide +kernel
theorem dX11_has_25 : decode cX11_has 25 = .ok (.aload_n 0, 1) := by decide +kernel
theorem dX11_has_26 : decode cX11_has 26 = .ok (.invokevirtual 184, 3) := by decide +kernel
theorem dX11_has_29 : decode cX11_has 29 = .ok (.aload_n 0, 1) := by decide +kernel
theorem dX11_has_30 : decode cX11_has 30 = .ok (.getfield 60, 3) := by decide +kernel
theorem dX11_has_33 : decode cX11_has 33 = .ok (.iload_n 1, 1) := by decide +kernel
theorem dX11_has_34 : decode cX11_has 34 = .ok (.iload_n 2, 1) := by decide +kernel
theorem dX11_has_35 : decode cX11_has 35 = .ok (.invokevirtual 255, 3) := by decide +kernel
theorem dX11_has_38 : decode cX11_has 38 = .ok (.ireturn, 1) := by decide +kernel
def F_X11_has (p0 : Int32) (p1 : Int32) (T : TS) : HA :=
  (F_X11_needObject p0 T).bind fun u_1 =>
  bnd (((mrg (fun j => j == 0 || j == 4) T.1 u_1.2.1, T.2) : TS)) fun σ_4 =>
  if ¬ u_1.1.1 = 0 then some ((u_1.1.1, 0), σ_4) else
  bnd (fun  (σ_8 : TS) => (
    some ((1, 0), σ_8)
  ) : TS → HA) fun j_9 =>
  if p1 < 0 then (
    j_9  σ_4
  ) else (
    if p1 ≤ 6 then (
      (F_X11_needPlay σ_4).bind fun u_18 =>
      bnd (((mrg (fun j => j == 0) σ_4.1 u_18.2.1, σ_4.2) : TS)) fun σ_21 =>
      if ¬ u_18.1.1 = 0 then some ((u_18.1.1, 0), σ_21) else
      (F_X6_bears p0 p1 σ_21.1).bind fun u_25 =>
      bnd (((mrg (fun j => j == 9) σ_21.1 u_25.2, σ_21.2) : TS)) fun σ_27 =>
      if ¬ (u_25.1 = 0 ∨ u_25.1 = 1) then none else
      some ((0, u_25.1), σ_27)
    ) else (
      j_9  σ_4
    )
  )
set_option maxHeartbeats 8000000 in
set_option maxRecDepth 100000 in
theorem h_X11_has (l : Launch) (dC : Nat → ClassId) (dI : Nat → Nat → Nat) (cB cC cI cJ cZ cP : ClassId) (oA : Nat → Nat) (rA : Nat → Nat → Nat) (hfl : l.stackTraces = false) (og om : Option Nat) (sz : Nat) (p0 : Int32) (p1 : Int32) (T : TS) (res : (Int32 × Int32) × TS) (hF : F_X11_has p0 p1 T = some res) : vx_Met l yX11_has (g_ws yX11_has cX11_has 3 (some .boolean)) ({ frames := 7, cells := 2, slots := 12, locals := 111 }) (va_Pc [.ref (oA 0), .int p0, .int p1] (g_B (dC, dI) [(cB, .byte), (cC, .char), (cI, .int), (cJ, .long), (cZ, .boolean), (cP, .object "StoryHouse$Play")] sz (b_H cB cC cI cJ cZ cP oA rA T og om) g_0)) (va_Qi (fun r (_ : Unit) => res.1.1 = 0 ∧ r = res.1.2) (g_Bo (dC, dI) (va_A (b_H cB cC cI cJ cZ cP oA rA T og om) sz) (fun (_ : Unit) => (b_H cB cC cI cJ cZ cP oA rA res.2 og om))) (va_A (b_H cB cC cI cJ cZ cP oA rA T og om) sz)) (g_X (dC, dI) (va_A (b_H cB cC cI cJ cZ cP oA rA T og om) sz) (b_H cB cC cI cJ cZ cP oA rA res.2 og om) (fun E : String => XN res.1.1 E)) 2 12 (va_A (b_H cB cC cI cJ cZ cP oA rA T og om) sz) := by
  refine vx_ofW (cc := cX11_has) (maxL := 3) (ret := (some .boolean)) (by decide) rfl ?_
  intro p e s m args below meth c s₁ B hml htab hv
  obtain ⟨rfl, hsz, hP, hK, hD0, hE, hX⟩ := hv
  have hx := B.exec
  have hb := B.bytes
  have hr := B.returns
  have hts0 := atoms_spec (ws := g_ws yX11_has cX11_has 3 (some .boolean)) B.pre
  have hts : ∀ w ∈ lw_good, w.before ([.ref (oA 0), .int p0, .int p1] : List Value).toArray s = true := fun w z => hts0 w (List.mem_cons_of_mem _ z)
  have hown : s.vm.findClass RX11 = some m.cls := findClass_of_methodNamed B.named
  have hlocks := B.notSynchronized
  subst hsz
  have hD1 := hD0.self (sz := s.heap.size)
  generalize hAe : va_A (b_H cB cC cI cJ cZ cP oA rA T og om) s.heap.size = A at hD1 hE hX ⊢
  have hA : ∀ q : Nat, s.heap.size ≤ q → A q := fun q z => by rw [← hAe]; exact Or.inr z
  have hDD : ∀ T : TS, va_D A (b_H cB cC cI cJ cZ cP oA rA T og om) := fun T9 => va_D_fst bH_fst hD1
  have hN := hE.1
  have hS : va_S A s.heap s.heap [] := va_S.rf
  have hl := lv_entry ([.ref (oA 0), .int p0, .int p1]) (n := 3) (Nat.le_of_ble_eq_true rfl)
  rw [lg_entry_eq]
  generalize (lg_sl ([.ref (oA 0), .int p0, .int p1]) ++ List.replicate (3 - (lg_sl ([.ref (oA 0), .int p0, .int p1])).length) Slot.unset).toArray = ls at hl ⊢
  have hl : lv_has ls 3 [(0, .ref (oA 0)), (1, .int p0), (2, .int p1)] := hl
  unfold F_X11_has at hF
  refine lv_aload_n hx hb dX11_has_0 rfl (lv_at hl 0 rfl) ?_
  refine lv_iload_n hx hb dX11_has_1 rfl (lv_at hl 1 rfl) ?_
  obtain ⟨u_1, hu_1, hF_2⟩ := Option.bind_eq_some_iff.mp hF
  clear hF
  have hPc := bx_P (bs := (b_HL cB cC cI cJ cZ cP oA rA T og om)) (bs' := [b_h cB cC cI cJ cZ cP oA rA T.1, b_s cB cC cI cJ cZ oA rA T.1]) (ws' := (b_h cB cC cI cJ cZ cP oA rA T.1 ++ b_s cB cC cI cJ cZ oA rA T.1)) hP fl_H fl_2 [0, 5] rfl
  have hDc := bx_D (bs := (b_HL cB cC cI cJ cZ cP oA rA T og om)) (bs' := [b_h cB cC cI cJ cZ cP oA rA T.1, b_s cB cC cI cJ cZ oA rA T.1]) (ws' := (b_h cB cC cI cJ cZ cP oA rA T.1 ++ b_s cB cC cI cJ cZ oA rA T.1)) (hDD T) fl_H fl_2 [0, 5] (by decide +kernel) rfl
  have hFc := bx_F (bs := (b_HL cB cC cI cJ cZ cP oA rA T og om)) (bs' := [b_h cB cC cI cJ cZ cP oA rA T.1, b_s cB cC cI cJ cZ oA rA T.1]) (wc := (b_h cB cC cI cJ cZ cP oA rA T.1 ++ b_s cB cC cI cJ cZ oA rA T.1)) (hDD T) hS hA fl_H fl_2 [0, 5] rfl
  obtain ⟨σ_4, eσ_4, hF_5⟩ := bnd_e hF_2
  clear hF_2
  refine g_oxv (wc := (b_h cB cC cI cJ cZ cP oA rA T.1 ++ b_s cB cC cI cJ cZ oA rA T.1)) (wr := (b_b cB cC cI cJ cZ oA rA T.1 ++ b_ga cB cC cI cJ cZ oA rA T.1 og ++ b_ma cB cC cI cJ cZ oA rA T.1 om ++ b_w cB cC cI cJ cZ oA rA T.1 ++ b_c cB cC cI cJ cZ oA rA T.1 ++ b_t cB cC cI cJ cZ oA rA T.1 ++ b_d cB cC cI cJ cZ oA rA T.1 ++ b_o cB cC cI cJ cZ oA rA T.1 ++ b_p cB cC cI cJ cZ oA rA T.1 ++ b_k cB cC cI cJ cZ oA rA T.1 ++ b_e cB cC cI cJ cZ oA rA T.1 ++ b_s cB cC cI cJ cZ (fun r => oA (dN r)) (fun r => rA (dN r)) T.2.1 ++ b_c cB cC cI cJ cZ (fun r => oA (dN r)) (fun r => rA (dN r)) T.2.1 ++ b_t cB cC cI cJ cZ (fun r => oA (dN r)) (fun r => rA (dN r)) T.2.1 ++ b_d cB cC cI cJ cZ (fun r => oA (dN r)) (fun r => rA (dN r)) T.2.1 ++ b_p cB cC cI cJ cZ (fun r => oA (pN 18 r)) (fun r => rA (pN 18 r)) (fun _ => T.2.2.1 0) ++ b_p cB cC cI cJ cZ (fun r => oA (pN 19 r)) (fun r => rA (pN 19 r)) (fun _ => T.2.2.1 1) ++ b_p cB cC cI cJ cZ (fun r => oA (pN 20 r)) (fun r => rA (pN 20 r)) (fun _ => T.2.2.1 2) ++ b_p cB cC cI cJ cZ (fun r => oA (pN 21 r)) (fun r => rA (pN 21 r)) (fun _ => T.2.2.1 3) ++ b_p cB cC cI cJ cZ (fun r => oA (pN 22 r)) (fun r => rA (pN 22 r)) (fun _ => T.2.2.2 0) ++ b_p cB cC cI cJ cZ (fun r => oA (pN 23 r)) (fun r => rA (pN 23 r)) (fun _ => T.2.2.2 1) ++ b_p cB cC cI cJ cZ (fun r => oA (pN 24 r)) (fun r => rA (pN 24 r)) (fun _ => T.2.2.2 2) ++ b_p cB cC cI cJ cZ (fun r => oA (pN 25 r)) (fun r => rA (pN 25 r)) (fun _ => T.2.2.2 3) ++ b_p cB cC cI cJ cZ (fun r => oA (pN 26 r)) (fun r => rA (pN 26 r)) (fun _ => T.2.2.2 4) ++ b_p cB cC cI cJ cZ (fun r => oA (pN 27 r)) (fun r => rA (pN 27 r)) (fun _ => T.2.2.2 5))) hP (hDD T) hS hFc (bx_ix (b_HL cB cC cI cJ cZ cP oA rA T og om) [0, 5]) (bx_ix (b_HL cB cC cI cJ cZ cP oA rA T og om) [1, 2, 3, 4, 6, 7, 8, 9, 10, 11, 12, 13, 14, 15, 16, 17, 18, 19, 20, 21, 22, 23, 24, 25, 26]) (bx_C (bs := (b_HL cB cC cI cJ cZ cP oA rA T og om)) (bs' := [b_h cB cC cI cJ cZ cP oA rA T.1, b_s cB cC cI cJ cZ oA rA T.1]) (is := [0, 5]) fl_H fl_2 rfl) (bx_C (bs := (b_HL cB cC cI cJ cZ cP oA rA T og om)) (bs' := [b_b cB cC cI cJ cZ oA rA T.1, b_ga cB cC cI cJ cZ oA rA T.1 og, b_ma cB cC cI cJ cZ oA rA T.1 om, b_w cB cC cI cJ cZ oA rA T.1, b_c cB cC cI cJ cZ oA rA T.1, b_t cB cC cI cJ cZ oA rA T.1, b_d cB cC cI cJ cZ oA rA T.1, b_o cB cC cI cJ cZ oA rA T.1, b_p cB cC cI cJ cZ oA rA T.1, b_k cB cC cI cJ cZ oA rA T.1, b_e cB cC cI cJ cZ oA rA T.1, b_s cB cC cI cJ cZ (fun r => oA (dN r)) (fun r => rA (dN r)) T.2.1, b_c cB cC cI cJ cZ (fun r => oA (dN r)) (fun r => rA (dN r)) T.2.1, b_t cB cC cI cJ cZ (fun r => oA (dN r)) (fun r => rA (dN r)) T.2.1, b_d cB cC cI cJ cZ (fun r => oA (dN r)) (fun r => rA (dN r)) T.2.1, b_p cB cC cI cJ cZ (fun r => oA (pN 18 r)) (fun r => rA (pN 18 r)) (fun _ => T.2.2.1 0), b_p cB cC cI cJ cZ (fun r => oA (pN 19 r)) (fun r => rA (pN 19 r)) (fun _ => T.2.2.1 1), b_p cB cC cI cJ cZ (fun r => oA (pN 20 r)) (fun r => rA (pN 20 r)) (fun _ => T.2.2.1 2), b_p cB cC cI cJ cZ (fun r => oA (pN 21 r)) (fun r => rA (pN 21 r)) (fun _ => T.2.2.1 3), b_p cB cC cI cJ cZ (fun r => oA (pN 22 r)) (fun r => rA (pN 22 r)) (fun _ => T.2.2.2 0), b_p cB cC cI cJ cZ (fun r => oA (pN 23 r)) (fun r => rA (pN 23 r)) (fun _ => T.2.2.2 1), b_p cB cC cI cJ cZ (fun r => oA (pN 24 r)) (fun r => rA (pN 24 r)) (fun _ => T.2.2.2 2), b_p cB cC cI cJ cZ (fun r => oA (pN 25 r)) (fun r => rA (pN 25 r)) (fun _ => T.2.2.2 3), b_p cB cC cI cJ cZ (fun r => oA (pN 26 r)) (fun r => rA (pN 26 r)) (fun _ => T.2.2.2 4), b_p cB cC cI cJ cZ (fun r => oA (pN 27 r)) (fun r => rA (pN 27 r)) (fun _ => T.2.2.2 5)]) (is := [1, 2, 3, 4, 6, 7, 8, 9, 10, 11, 12, 13, 14, 15, 16, 17, 18, 19, 20, 21, 22, 23, 24, 25, 26]) fl_H fl_25 rfl) (bx_n (by decide +kernel)) (bx_d (by decide +kernel)) (vx_runV (As := [.int p0]) (rest := []) ⟨hx, hb, hml, hown, hts⟩ (h_X11_needObject l dC dI cB cC cI cJ cZ cP oA rA hfl s.heap.size p0 T _ hu_1) (cwV 1 hts (g_gV wq_1306 wq_1307 wq_2112 wq_1 wq_1308) rfl rfl rfl (by decide +kernel) ⟨Nat.le_of_ble_eq_true rfl, Nat.le_of_ble_eq_true rfl⟩) (g_preV g_bl0 hK hPc hDc hS hE hFc g_to0 (q0 := 0) (ci := 11) rfl rfl) rfl rfl hl.1 rfl (lv_room (Nat.le_of_ble_eq_true rfl)) dX11_has_2 ⟨Nat.le_of_ble_eq_true rfl, Nat.le_of_ble_eq_true rfl⟩) (fun E ce q9 H1 locs1 hXP hP1 hD1 hS1 hce hcv hcl => ?_) (fun u9 H locs hw9 hP' hD' hS => ?_)
  · have hF_6 := hif_n (XN_ne hXP) hF_5
    have h9 := Option.some.inj hF_6
    subst h9
    exact vx_out (fun x hx => (htab x hx).elim) hlocks hce hcv hcl (g_passed (ws := (b_H cB cC cI cJ cZ cP oA rA σ_4 og om)) (by rw [eσ_4]; exact bx_P (bs := [b_b cB cC cI cJ cZ oA rA T.1, b_ga cB cC cI cJ cZ oA rA T.1 og, b_ma cB cC cI cJ cZ oA rA T.1 om, b_w cB cC cI cJ cZ oA rA T.1, b_c cB cC cI cJ cZ oA rA T.1, b_t cB cC cI cJ cZ oA rA T.1, b_d cB cC cI cJ cZ oA rA T.1, b_o cB cC cI cJ cZ oA rA T.1, b_p cB cC cI cJ cZ oA rA T.1, b_k cB cC cI cJ cZ oA rA T.1, b_e cB cC cI cJ cZ oA rA T.1, b_s cB cC cI cJ cZ (fun r => oA (dN r)) (fun r => rA (dN r)) T.2.1, b_c cB cC cI cJ cZ (fun r => oA (dN r)) (fun r => rA (dN r)) T.2.1, b_t cB cC cI cJ cZ (fun r => oA (dN r)) (fun r => rA (dN r)) T.2.1, b_d cB cC cI cJ cZ (fun r => oA (dN r)) (fun r => rA (dN r)) T.2.1, b_p cB cC cI cJ cZ (fun r => oA (pN 18 r)) (fun r => rA (pN 18 r)) (fun _ => T.2.2.1 0), b_p cB cC cI cJ cZ (fun r => oA (pN 19 r)) (fun r => rA (pN 19 r)) (fun _ => T.2.2.1 1), b_p cB cC cI cJ cZ (fun r => oA (pN 20 r)) (fun r => rA (pN 20 r)) (fun _ => T.2.2.1 2), b_p cB cC cI cJ cZ (fun r => oA (pN 21 r)) (fun r => rA (pN 21 r)) (fun _ => T.2.2.1 3), b_p cB cC cI cJ cZ (fun r => oA (pN 22 r)) (fun r => rA (pN 22 r)) (fun _ => T.2.2.2 0), b_p cB cC cI cJ cZ (fun r => oA (pN 23 r)) (fun r => rA (pN 23 r)) (fun _ => T.2.2.2 1), b_p cB cC cI cJ cZ (fun r => oA (pN 24 r)) (fun r => rA (pN 24 r)) (fun _ => T.2.2.2 2), b_p cB cC cI cJ cZ (fun r => oA (pN 25 r)) (fun r => rA (pN 25 r)) (fun _ => T.2.2.2 3), b_p cB cC cI cJ cZ (fun r => oA (pN 26 r)) (fun r => rA (pN 26 r)) (fun _ => T.2.2.2 4), b_p cB cC cI cJ cZ (fun r => oA (pN 27 r)) (fun r => rA (pN 27 r)) (fun _ => T.2.2.2 5)] ++ [b_h cB cC cI cJ cZ cP oA rA u_1.2.1, b_s cB cC cI cJ cZ oA rA u_1.2.1]) (bs' := (b_HL cB cC cI cJ cZ cP oA rA ((mrg (fun j => j == 0 || j == 4) T.1 u_1.2.1, T.2) : TS) og om)) hP1 (fl_a fl_25 fl_2) fl_H [25, 0, 1, 2, 3, 26, 4, 5, 6, 7, 8, 9, 10, 11, 12, 13, 14, 15, 16, 17, 18, 19, 20, 21, 22, 23, 24] rfl) (hDD _) hS1 hXP) hS1.2.2 (Nat.le_of_ble_eq_true rfl) (Nat.le_of_ble_eq_true rfl)
  have hF_7 := hif_p hw9 hF_5
  clear hF_5
  have hP : va_P (dC, dI) vwCl (b_H cB cC cI cJ cZ cP oA rA σ_4 og om) H := by rw [eσ_4]; exact bx_P (bs := [b_b cB cC cI cJ cZ oA rA T.1, b_ga cB cC cI cJ cZ oA rA T.1 og, b_ma cB cC cI cJ cZ oA rA T.1 om, b_w cB cC cI cJ cZ oA rA T.1, b_c cB cC cI cJ cZ oA rA T.1, b_t cB cC cI cJ cZ oA rA T.1, b_d cB cC cI cJ cZ oA rA T.1, b_o cB cC cI cJ cZ oA rA T.1, b_p cB cC cI cJ cZ oA rA T.1, b_k cB cC cI cJ cZ oA rA T.1, b_e cB cC cI cJ cZ oA rA T.1, b_s cB cC cI cJ cZ (fun r => oA (dN r)) (fun r => rA (dN r)) T.2.1, b_c cB cC cI cJ cZ (fun r => oA (dN r)) (fun r => rA (dN r)) T.2.1, b_t cB cC cI cJ cZ (fun r => oA (dN r)) (fun r => rA (dN r)) T.2.1, b_d cB cC cI cJ cZ (fun r => oA (dN r)) (fun r => rA (dN r)) T.2.1, b_p cB cC cI cJ cZ (fun r => oA (pN 18 r)) (fun r => rA (pN 18 r)) (fun _ => T.2.2.1 0), b_p cB cC cI cJ cZ (fun r => oA (pN 19 r)) (fun r => rA (pN 19 r)) (fun _ => T.2.2.1 1), b_p cB cC cI cJ cZ (fun r => oA (pN 20 r)) (fun r => rA (pN 20 r)) (fun _ => T.2.2.1 2), b_p cB cC cI cJ cZ (fun r => oA (pN 21 r)) (fun r => rA (pN 21 r)) (fun _ => T.2.2.1 3), b_p cB cC cI cJ cZ (fun r => oA (pN 22 r)) (fun r => rA (pN 22 r)) (fun _ => T.2.2.2 0), b_p cB cC cI cJ cZ (fun r => oA (pN 23 r)) (fun r => rA (pN 23 r)) (fun _ => T.2.2.2 1), b_p cB cC cI cJ cZ (fun r => oA (pN 24 r)) (fun r => rA (pN 24 r)) (fun _ => T.2.2.2 2), b_p cB cC cI cJ cZ (fun r => oA (pN 25 r)) (fun r => rA (pN 25 r)) (fun _ => T.2.2.2 3), b_p cB cC cI cJ cZ (fun r => oA (pN 26 r)) (fun r => rA (pN 26 r)) (fun _ => T.2.2.2 4), b_p cB cC cI cJ cZ (fun r => oA (pN 27 r)) (fun r => rA (pN 27 r)) (fun _ => T.2.2.2 5)] ++ [b_h cB cC cI cJ cZ cP oA rA u_1.2.1, b_s cB cC cI cJ cZ oA rA u_1.2.1]) (bs' := (b_HL cB cC cI cJ cZ cP oA rA ((mrg (fun j => j == 0 || j == 4) T.1 u_1.2.1, T.2) : TS) og om)) hP' (fl_a fl_25 fl_2) fl_H [25, 0, 1, 2, 3, 26, 4, 5, 6, 7, 8, 9, 10, 11, 12, 13, 14, 15, 16, 17, 18, 19, 20, 21, 22, 23, 24] rfl
  clear hP' hD' hPc hDc hFc
  refine W.widen (k := 1) (n := 6) (Nat.le_of_ble_eq_true rfl) (Nat.le_of_ble_eq_true rfl) ?_
  refine lv_iload_n hx hb dX11_has_5 rfl (lv_at hl 2 rfl) ?_
  obtain ⟨j_9, ej_9, hF_10⟩ := bnd_e hF_7
  clear hF_7
  have Jj_9 : ∀  (σ_8 : TS), j_9  σ_8 = some res → ∀ (H : Heap) (locs : List Loc), va_P (dC, dI) vwCl (b_H cB cC cI cJ cZ cP oA rA σ_8 og om) H → va_S A s.heap H locs → ∀ ls : Array Slot, lv_has ls 3 [] → W p l e (headSpec (g_ws yX11_has cX11_has 3 (some .boolean)) { frames := 7, cells := 2, slots := 12, locals := 111 }).room s m ([.ref (oA 0), .int p0, .int p1] : List Value).toArray below meth c H locs 1 6 (vx_MQ below (va_Qi (fun r (_ : Unit) => res.1.1 = 0 ∧ r = res.1.2) (g_Bo (dC, dI) A (fun (_ : Unit) => (b_H cB cC cI cJ cZ cP oA rA res.2 og om))) A) (g_X (dC, dI) A (b_H cB cC cI cJ cZ cP oA rA res.2 og om) (fun E : String => XN res.1.1 E)) ([.ref (oA 0), .int p0, .int p1] : List Value).toArray s 2 12 A) (F0 m 15 ls []) := by
    intro  σ_8 hF0 H locs hP hS ls hl
    subst ej_9
    have hF_11 := hF0
    clear hF0
    have h9 := Option.some.inj hF_11
    subst h9
    obtain ⟨q_12, vq_12, hRq_12, hSq_12⟩ := hE.2.2.2.2 _ (List.mem_of_getElem? (i := 74) rfl)
    exact vx_throwS hx hb hfl (own := RX11) (cls := "java/lang/IllegalArgumentException") (text := "there is no such attribute") (names := ["java/lang/RuntimeException", "java/lang/Exception"]) (A := A) hown (by decide +kernel) (by decide +kernel) (hts (.classLink RX11 95 "java/lang/IllegalArgumentException") wq_925) (hts (.initialized "java/lang/IllegalArgumentException") wq_17) hRq_12 (g_bad hN (fun w h => hts w (wx_99 w h)) (by decide +kernel) (g_badB hN (List.mem_of_getElem? (i := 0) rfl))) (by decide +kernel) hE.2.1 hE.2.2.1 hS (hl.1.trans hml.symm) dX11_has_15 dX11_has_18 dX11_has_19 dX11_has_21 dX11_has_24 (fun x hx => (htab x hx).elim) (by decide) (by decide) (Nat.le_of_ble_eq_true rfl) (Nat.le_of_ble_eq_true rfl) hlocks (g_thr hP (hDD _) hS XN_1) hS.2.2 (Nat.le_of_ble_eq_true rfl) (Nat.le_of_ble_eq_true rfl)
  refine lv_if_lt (tgt := 15) hx hb dX11_has_6 (by decide) (fun c_13 => ?_) (fun c_13 => ?_)
  · have hF_14 := ipos c_13 hF_10
    clear hF_10
    exact Jj_9  σ_4 hF_14 _ _ hP hS ls (lv_sub hl [] rfl)
  · have hF_15 := ineg c_13 hF_10
    clear hF_10
    refine lv_iload_n hx hb dX11_has_9 rfl (lv_at hl 2 rfl) ?_
    refine lv_bipush (v := 6) hx hb dX11_has_10 (by decide +kernel) ?_
    refine lv_icmp_le (tgt := 25) hx hb dX11_has_12 (by decide) (fun c_16 => ?_) (fun c_16 => ?_)
    · have hF_17 := ipos c_16 hF_15
      clear hF_15
      refine lv_aload_n hx hb dX11_has_25 rfl (lv_at hl 0 rfl) ?_
      obtain ⟨u_18, hu_18, hF_19⟩ := Option.bind_eq_some_iff.mp hF_17
      clear hF_17
      have hPc := bx_P (bs := (b_HL cB cC cI cJ cZ cP oA rA σ_4 og om)) (bs' := [b_h cB cC cI cJ cZ cP oA rA σ_4.1]) (ws' := (b_h cB cC cI cJ cZ cP oA rA σ_4.1)) hP fl_H fl_1 [0] rfl
      have hDc := bx_D (bs := (b_HL cB cC cI cJ cZ cP oA rA σ_4 og om)) (bs' := [b_h cB cC cI cJ cZ cP oA rA σ_4.1]) (ws' := (b_h cB cC cI cJ cZ cP oA rA σ_4.1)) (hDD σ_4) fl_H fl_1 [0] (by decide +kernel) rfl
      have hFc := bx_F (bs := (b_HL cB cC cI cJ cZ cP oA rA σ_4 og om)) (bs' := [b_h cB cC cI cJ cZ cP oA rA σ_4.1]) (wc := (b_h cB cC cI cJ cZ cP oA rA σ_4.1)) (hDD σ_4) hS hA fl_H fl_1 [0] rfl
      obtain ⟨σ_21, eσ_21, hF_22⟩ := bnd_e hF_19
      clear hF_19
      refine g_oxv (wc := (b_h cB cC cI cJ cZ cP oA rA σ_4.1)) (wr := (b_b cB cC cI cJ cZ oA rA σ_4.1 ++ b_ga cB cC cI cJ cZ oA rA σ_4.1 og ++ b_ma cB cC cI cJ cZ oA rA σ_4.1 om ++ b_w cB cC cI cJ cZ oA rA σ_4.1 ++ b_s cB cC cI cJ cZ oA rA σ_4.1 ++ b_c cB cC cI cJ cZ oA rA σ_4.1 ++ b_t cB cC cI cJ cZ oA rA σ_4.1 ++ b_d cB cC cI cJ cZ oA rA σ_4.1 ++ b_o cB cC cI cJ cZ oA rA σ_4.1 ++ b_p cB cC cI cJ cZ oA rA σ_4.1 ++ b_k cB cC cI cJ cZ oA rA σ_4.1 ++ b_e cB cC cI cJ cZ oA rA σ_4.1 ++ b_s cB cC cI cJ cZ (fun r => oA (dN r)) (fun r => rA (dN r)) σ_4.2.1 ++ b_c cB cC cI cJ cZ (fun r => oA (dN r)) (fun r => rA (dN r)) σ_4.2.1 ++ b_t cB cC cI cJ cZ (fun r => oA (dN r)) (fun r => rA (dN r)) σ_4.2.1 ++ b_d cB cC cI cJ cZ (fun r => oA (dN r)) (fun r => rA (dN r)) σ_4.2.1 ++ b_p cB cC cI cJ cZ (fun r => oA (pN 18 r)) (fun r => rA (pN 18 r)) (fun _ => σ_4.2.2.1 0) ++ b_p cB cC cI cJ cZ (fun r => oA (pN 19 r)) (fun r => rA (pN 19 r)) (fun _ => σ_4.2.2.1 1) ++ b_p cB cC cI cJ cZ (fun r => oA (pN 20 r)) (fun r => rA (pN 20 r)) (fun _ => σ_4.2.2.1 2) ++ b_p cB cC cI cJ cZ (fun r => oA (pN 21 r)) (fun r => rA (pN 21 r)) (fun _ => σ_4.2.2.1 3) ++ b_p cB cC cI cJ cZ (fun r => oA (pN 22 r)) (fun r => rA (pN 22 r)) (fun _ => σ_4.2.2.2 0) ++ b_p cB cC cI cJ cZ (fun r => oA (pN 23 r)) (fun r => rA (pN 23 r)) (fun _ => σ_4.2.2.2 1) ++ b_p cB cC cI cJ cZ (fun r => oA (pN 24 r)) (fun r => rA (pN 24 r)) (fun _ => σ_4.2.2.2 2) ++ b_p cB cC cI cJ cZ (fun r => oA (pN 25 r)) (fun r => rA (pN 25 r)) (fun _ => σ_4.2.2.2 3) ++ b_p cB cC cI cJ cZ (fun r => oA (pN 26 r)) (fun r => rA (pN 26 r)) (fun _ => σ_4.2.2.2 4) ++ b_p cB cC cI cJ cZ (fun r => oA (pN 27 r)) (fun r => rA (pN 27 r)) (fun _ => σ_4.2.2.2 5))) hP (hDD σ_4) hS hFc (bx_ix (b_HL cB cC cI cJ cZ cP oA rA σ_4 og om) [0]) (bx_ix (b_HL cB cC cI cJ cZ cP oA rA σ_4 og om) [1, 2, 3, 4, 5, 6, 7, 8, 9, 10, 11, 12, 13, 14, 15, 16, 17, 18, 19, 20, 21, 22, 23, 24, 25, 26]) (bx_C (bs := (b_HL cB cC cI cJ cZ cP oA rA σ_4 og om)) (bs' := [b_h cB cC cI cJ cZ cP oA rA σ_4.1]) (is := [0]) fl_H fl_1 rfl) (bx_C (bs := (b_HL cB cC cI cJ cZ cP oA rA σ_4 og om)) (bs' := [b_b cB cC cI cJ cZ oA rA σ_4.1, b_ga cB cC cI cJ cZ oA rA σ_4.1 og, b_ma cB cC cI cJ cZ oA rA σ_4.1 om, b_w cB cC cI cJ cZ oA rA σ_4.1, b_s cB cC cI cJ cZ oA rA σ_4.1, b_c cB cC cI cJ cZ oA rA σ_4.1, b_t cB cC cI cJ cZ oA rA σ_4.1, b_d cB cC cI cJ cZ oA rA σ_4.1, b_o cB cC cI cJ cZ oA rA σ_4.1, b_p cB cC cI cJ cZ oA rA σ_4.1, b_k cB cC cI cJ cZ oA rA σ_4.1, b_e cB cC cI cJ cZ oA rA σ_4.1, b_s cB cC cI cJ cZ (fun r => oA (dN r)) (fun r => rA (dN r)) σ_4.2.1, b_c cB cC cI cJ cZ (fun r => oA (dN r)) (fun r => rA (dN r)) σ_4.2.1, b_t cB cC cI cJ cZ (fun r => oA (dN r)) (fun r => rA (dN r)) σ_4.2.1, b_d cB cC cI cJ cZ (fun r => oA (dN r)) (fun r => rA (dN r)) σ_4.2.1, b_p cB cC cI cJ cZ (fun r => oA (pN 18 r)) (fun r => rA (pN 18 r)) (fun _ => σ_4.2.2.1 0), b_p cB cC cI cJ cZ (fun r => oA (pN 19 r)) (fun r => rA (pN 19 r)) (fun _ => σ_4.2.2.1 1), b_p cB cC cI cJ cZ (fun r => oA (pN 20 r)) (fun r => rA (pN 20 r)) (fun _ => σ_4.2.2.1 2), b_p cB cC cI cJ cZ (fun r => oA (pN 21 r)) (fun r => rA (pN 21 r)) (fun _ => σ_4.2.2.1 3), b_p cB cC cI cJ cZ (fun r => oA (pN 22 r)) (fun r => rA (pN 22 r)) (fun _ => σ_4.2.2.2 0), b_p cB cC cI cJ cZ (fun r => oA (pN 23 r)) (fun r => rA (pN 23 r)) (fun _ => σ_4.2.2.2 1), b_p cB cC cI cJ cZ (fun r => oA (pN 24 r)) (fun r => rA (pN 24 r)) (fun _ => σ_4.2.2.2 2), b_p cB cC cI cJ cZ (fun r => oA (pN 25 r)) (fun r => rA (pN 25 r)) (fun _ => σ_4.2.2.2 3), b_p cB cC cI cJ cZ (fun r => oA (pN 26 r)) (fun r => rA (pN 26 r)) (fun _ => σ_4.2.2.2 4), b_p cB cC cI cJ cZ (fun r => oA (pN 27 r)) (fun r => rA (pN 27 r)) (fun _ => σ_4.2.2.2 5)]) (is := [1, 2, 3, 4, 5, 6, 7, 8, 9, 10, 11, 12, 13, 14, 15, 16, 17, 18, 19, 20, 21, 22, 23, 24, 25, 26]) fl_H fl_26 rfl) (bx_n (by decide +kernel)) (bx_d (by decide +kernel)) (vx_runV (As := []) (rest := []) ⟨hx, hb, hml, hown, hts⟩ (h_X11_needPlay l dC dI cB cC cI cJ cZ cP oA rA hfl H.size σ_4 _ hu_18) (cwV 0 hts (g_gV wq_1043 wq_1044 wq_2070 wq_1 wq_1045) rfl rfl rfl (by decide +kernel) ⟨Nat.le_of_ble_eq_true rfl, Nat.le_of_ble_eq_true rfl⟩) (g_preV g_bl0 hK hPc hDc hS hE hFc g_to0 (q0 := 0) (ci := 11) rfl rfl) rfl rfl hl.1 rfl (lv_room (Nat.le_of_ble_eq_true rfl)) dX11_has_26 ⟨Nat.le_of_ble_eq_true rfl, Nat.le_of_ble_eq_true rfl⟩) (fun E ce q9 H1 locs1 hXP hP1 hD1 hS1 hce hcv hcl => ?_) (fun u9 H locs hw9 hP' hD' hS => ?_)
      · have hF_23 := hif_n (XN_ne hXP) hF_22
        have h9 := Option.some.inj hF_23
        subst h9
        exact vx_out (fun x hx => (htab x hx).elim) hlocks hce hcv hcl (g_passed (ws := (b_H cB cC cI cJ cZ cP oA rA σ_21 og om)) (by rw [eσ_21]; exact bx_P (bs := [b_b cB cC cI cJ cZ oA rA σ_4.1, b_ga cB cC cI cJ cZ oA rA σ_4.1 og, b_ma cB cC cI cJ cZ oA rA σ_4.1 om, b_w cB cC cI cJ cZ oA rA σ_4.1, b_s cB cC cI cJ cZ oA rA σ_4.1, b_c cB cC cI cJ cZ oA rA σ_4.1, b_t cB cC cI cJ cZ oA rA σ_4.1, b_d cB cC cI cJ cZ oA rA σ_4.1, b_o cB cC cI cJ cZ oA rA σ_4.1, b_p cB cC cI cJ cZ oA rA σ_4.1, b_k cB cC cI cJ cZ oA rA σ_4.1, b_e cB cC cI cJ cZ oA rA σ_4.1, b_s cB cC cI cJ cZ (fun r => oA (dN r)) (fun r => rA (dN r)) σ_4.2.1, b_c cB cC cI cJ cZ (fun r => oA (dN r)) (fun r => rA (dN r)) σ_4.2.1, b_t cB cC cI cJ cZ (fun r => oA (dN r)) (fun r => rA (dN r)) σ_4.2.1, b_d cB cC cI cJ cZ (fun r => oA (dN r)) (fun r => rA (dN r)) σ_4.2.1, b_p cB cC cI cJ cZ (fun r => oA (pN 18 r)) (fun r => rA (pN 18 r)) (fun _ => σ_4.2.2.1 0), b_p cB cC cI cJ cZ (fun r => oA (pN 19 r)) (fun r => rA (pN 19 r)) (fun _ => σ_4.2.2.1 1), b_p cB cC cI cJ cZ (fun r => oA (pN 20 r)) (fun r => rA (pN 20 r)) (fun _ => σ_4.2.2.1 2), b_p cB cC cI cJ cZ (fun r => oA (pN 21 r)) (fun r => rA (pN 21 r)) (fun _ => σ_4.2.2.1 3), b_p cB cC cI cJ cZ (fun r => oA (pN 22 r)) (fun r => rA (pN 22 r)) (fun _ => σ_4.2.2.2 0), b_p cB cC cI cJ cZ (fun r => oA (pN 23 r)) (fun r => rA (pN 23 r)) (fun _ => σ_4.2.2.2 1), b_p cB cC cI cJ cZ (fun r => oA (pN 24 r)) (fun r => rA (pN 24 r)) (fun _ => σ_4.2.2.2 2), b_p cB cC cI cJ cZ (fun r => oA (pN 25 r)) (fun r => rA (pN 25 r)) (fun _ => σ_4.2.2.2 3), b_p cB cC cI cJ cZ (fun r => oA (pN 26 r)) (fun r => rA (pN 26 r)) (fun _ => σ_4.2.2.2 4), b_p cB cC cI cJ cZ (fun r => oA (pN 27 r)) (fun r => rA (pN 27 r)) (fun _ => σ_4.2.2.2 5)] ++ [b_h cB cC cI cJ cZ cP oA rA u_18.2.1]) (bs' := (b_HL cB cC cI cJ cZ cP oA rA ((mrg (fun j => j == 0) σ_4.1 u_18.2.1, σ_4.2) : TS) og om)) hP1 (fl_a fl_26 fl_1) fl_H [26, 0, 1, 2, 3, 4, 5, 6, 7, 8, 9, 10, 11, 12, 13, 14, 15, 16, 17, 18, 19, 20, 21, 22, 23, 24, 25] rfl) (hDD _) hS1 hXP) hS1.2.2 (Nat.le_of_ble_eq_true rfl) (Nat.le_of_ble_eq_true rfl)
      have hF_24 := hif_p hw9 hF_22
      clear hF_22
      have hP : va_P (dC, dI) vwCl (b_H cB cC cI cJ cZ cP oA rA σ_21 og om) H := by rw [eσ_21]; exact bx_P (bs := [b_b cB cC cI cJ cZ oA rA σ_4.1, b_ga cB cC cI cJ cZ oA rA σ_4.1 og, b_ma cB cC cI cJ cZ oA rA σ_4.1 om, b_w cB cC cI cJ cZ oA rA σ_4.1, b_s cB cC cI cJ cZ oA rA σ_4.1, b_c cB cC cI cJ cZ oA rA σ_4.1, b_t cB cC cI cJ cZ oA rA σ_4.1, b_d cB cC cI cJ cZ oA rA σ_4.1, b_o cB cC cI cJ cZ oA rA σ_4.1, b_p cB cC cI cJ cZ oA rA σ_4.1, b_k cB cC cI cJ cZ oA rA σ_4.1, b_e cB cC cI cJ cZ oA rA σ_4.1, b_s cB cC cI cJ cZ (fun r => oA (dN r)) (fun r => rA (dN r)) σ_4.2.1, b_c cB cC cI cJ cZ (fun r => oA (dN r)) (fun r => rA (dN r)) σ_4.2.1, b_t cB cC cI cJ cZ (fun r => oA (dN r)) (fun r => rA (dN r)) σ_4.2.1, b_d cB cC cI cJ cZ (fun r => oA (dN r)) (fun r => rA (dN r)) σ_4.2.1, b_p cB cC cI cJ cZ (fun r => oA (pN 18 r)) (fun r => rA (pN 18 r)) (fun _ => σ_4.2.2.1 0), b_p cB cC cI cJ cZ (fun r => oA (pN 19 r)) (fun r => rA (pN 19 r)) (fun _ => σ_4.2.2.1 1), b_p cB cC cI cJ cZ (fun r => oA (pN 20 r)) (fun r => rA (pN 20 r)) (fun _ => σ_4.2.2.1 2), b_p cB cC cI cJ cZ (fun r => oA (pN 21 r)) (fun r => rA (pN 21 r)) (fun _ => σ_4.2.2.1 3), b_p cB cC cI cJ cZ (fun r => oA (pN 22 r)) (fun r => rA (pN 22 r)) (fun _ => σ_4.2.2.2 0), b_p cB cC cI cJ cZ (fun r => oA (pN 23 r)) (fun r => rA (pN 23 r)) (fun _ => σ_4.2.2.2 1), b_p cB cC cI cJ cZ (fun r => oA (pN 24 r)) (fun r => rA (pN 24 r)) (fun _ => σ_4.2.2.2 2), b_p cB cC cI cJ cZ (fun r => oA (pN 25 r)) (fun r => rA (pN 25 r)) (fun _ => σ_4.2.2.2 3), b_p cB cC cI cJ cZ (fun r => oA (pN 26 r)) (fun r => rA (pN 26 r)) (fun _ => σ_4.2.2.2 4), b_p cB cC cI cJ cZ (fun r => oA (pN 27 r)) (fun r => rA (pN 27 r)) (fun _ => σ_4.2.2.2 5)] ++ [b_h cB cC cI cJ cZ cP oA rA u_18.2.1]) (bs' := (b_HL cB cC cI cJ cZ cP oA rA ((mrg (fun j => j == 0) σ_4.1 u_18.2.1, σ_4.2) : TS) og om)) hP' (fl_a fl_26 fl_1) fl_H [26, 0, 1, 2, 3, 4, 5, 6, 7, 8, 9, 10, 11, 12, 13, 14, 15, 16, 17, 18, 19, 20, 21, 22, 23, 24, 25] rfl
      clear hP' hD' hPc hDc hFc
      refine W.widen (k := 2) (n := 12) (Nat.le_of_ble_eq_true rfl) (Nat.le_of_ble_eq_true rfl) ?_
      refine lv_aload_n hx hb dX11_has_29 rfl (lv_at hl 0 rfl) ?_
      refine va_get (D := (dC, dI)) (ci := 11) (v := .ref (oA 9)) (C := RX11) (T := TX11) (N := 19) hx hb hts ii_X11 hown hK hP 0 rfl rfl 11 (by decide) (hts (.fieldLink RX11 60 "StoryHouse" "play" "LStoryHouse$Play;") wq_314) (fun _ h9 => h9) rfl dX11_has_30 ?_
      refine lv_iload_n hx hb dX11_has_33 rfl (lv_at hl 1 rfl) ?_
      refine lv_iload_n hx hb dX11_has_34 rfl (lv_at hl 2 rfl) ?_
      obtain ⟨u_25, hu_25, hF_26⟩ := Option.bind_eq_some_iff.mp hF_24
      clear hF_24
      have hPc := bx_P (bs := (b_HL cB cC cI cJ cZ cP oA rA σ_21 og om)) (bs' := [b_p cB cC cI cJ cZ oA rA σ_21.1]) (ws' := (b_p cB cC cI cJ cZ oA rA σ_21.1)) hP fl_H fl_1 [10] rfl
      have hDc := bx_D (bs := (b_HL cB cC cI cJ cZ cP oA rA σ_21 og om)) (bs' := [b_p cB cC cI cJ cZ oA rA σ_21.1]) (ws' := (b_p cB cC cI cJ cZ oA rA σ_21.1)) (hDD σ_21) fl_H fl_1 [10] (by decide +kernel) rfl
      have hFc := bx_F (bs := (b_HL cB cC cI cJ cZ cP oA rA σ_21 og om)) (bs' := [b_p cB cC cI cJ cZ oA rA σ_21.1]) (wc := (b_p cB cC cI cJ cZ oA rA σ_21.1)) (hDD σ_21) hS hA fl_H fl_1 [10] rfl
      refine g_ofi (wc := (b_p cB cC cI cJ cZ oA rA σ_21.1)) (wr := (b_h cB cC cI cJ cZ cP oA rA σ_21.1 ++ b_b cB cC cI cJ cZ oA rA σ_21.1 ++ b_ga cB cC cI cJ cZ oA rA σ_21.1 og ++ b_ma cB cC cI cJ cZ oA rA σ_21.1 om ++ b_w cB cC cI cJ cZ oA rA σ_21.1 ++ b_s cB cC cI cJ cZ oA rA σ_21.1 ++ b_c cB cC cI cJ cZ oA rA σ_21.1 ++ b_t cB cC cI cJ cZ oA rA σ_21.1 ++ b_d cB cC cI cJ cZ oA rA σ_21.1 ++ b_o cB cC cI cJ cZ oA rA σ_21.1 ++ b_k cB cC cI cJ cZ oA rA σ_21.1 ++ b_e cB cC cI cJ cZ oA rA σ_21.1 ++ b_s cB cC cI cJ cZ (fun r => oA (dN r)) (fun r => rA (dN r)) σ_21.2.1 ++ b_c cB cC cI cJ cZ (fun r => oA (dN r)) (fun r => rA (dN r)) σ_21.2.1 ++ b_t cB cC cI cJ cZ (fun r => oA (dN r)) (fun r => rA (dN r)) σ_21.2.1 ++ b_d cB cC cI cJ cZ (fun r => oA (dN r)) (fun r => rA (dN r)) σ_21.2.1 ++ b_p cB cC cI cJ cZ (fun r => oA (pN 18 r)) (fun r => rA (pN 18 r)) (fun _ => σ_21.2.2.1 0) ++ b_p cB cC cI cJ cZ (fun r => oA (pN 19 r)) (fun r => rA (pN 19 r)) (fun _ => σ_21.2.2.1 1) ++ b_p cB cC cI cJ cZ (fun r => oA (pN 20 r)) (fun r => rA (pN 20 r)) (fun _ => σ_21.2.2.1 2) ++ b_p cB cC cI cJ cZ (fun r => oA (pN 21 r)) (fun r => rA (pN 21 r)) (fun _ => σ_21.2.2.1 3) ++ b_p cB cC cI cJ cZ (fun r => oA (pN 22 r)) (fun r => rA (pN 22 r)) (fun _ => σ_21.2.2.2 0) ++ b_p cB cC cI cJ cZ (fun r => oA (pN 23 r)) (fun r => rA (pN 23 r)) (fun _ => σ_21.2.2.2 1) ++ b_p cB cC cI cJ cZ (fun r => oA (pN 24 r)) (fun r => rA (pN 24 r)) (fun _ => σ_21.2.2.2 2) ++ b_p cB cC cI cJ cZ (fun r => oA (pN 25 r)) (fun r => rA (pN 25 r)) (fun _ => σ_21.2.2.2 3) ++ b_p cB cC cI cJ cZ (fun r => oA (pN 26 r)) (fun r => rA (pN 26 r)) (fun _ => σ_21.2.2.2 4) ++ b_p cB cC cI cJ cZ (fun r => oA (pN 27 r)) (fun r => rA (pN 27 r)) (fun _ => σ_21.2.2.2 5))) hP (hDD σ_21) hS hFc (bx_ix (b_HL cB cC cI cJ cZ cP oA rA σ_21 og om) [10]) (bx_ix (b_HL cB cC cI cJ cZ cP oA rA σ_21 og om) [0, 1, 2, 3, 4, 5, 6, 7, 8, 9, 11, 12, 13, 14, 15, 16, 17, 18, 19, 20, 21, 22, 23, 24, 25, 26]) (bx_C (bs := (b_HL cB cC cI cJ cZ cP oA rA σ_21 og om)) (bs' := [b_p cB cC cI cJ cZ oA rA σ_21.1]) (is := [10]) fl_H fl_1 rfl) (bx_C (bs := (b_HL cB cC cI cJ cZ cP oA rA σ_21 og om)) (bs' := [b_h cB cC cI cJ cZ cP oA rA σ_21.1, b_b cB cC cI cJ cZ oA rA σ_21.1, b_ga cB cC cI cJ cZ oA rA σ_21.1 og, b_ma cB cC cI cJ cZ oA rA σ_21.1 om, b_w cB cC cI cJ cZ oA rA σ_21.1, b_s cB cC cI cJ cZ oA rA σ_21.1, b_c cB cC cI cJ cZ oA rA σ_21.1, b_t cB cC cI cJ cZ oA rA σ_21.1, b_d cB cC cI cJ cZ oA rA σ_21.1, b_o cB cC cI cJ cZ oA rA σ_21.1, b_k cB cC cI cJ cZ oA rA σ_21.1, b_e cB cC cI cJ cZ oA rA σ_21.1, b_s cB cC cI cJ cZ (fun r => oA (dN r)) (fun r => rA (dN r)) σ_21.2.1, b_c cB cC cI cJ cZ (fun r => oA (dN r)) (fun r => rA (dN r)) σ_21.2.1, b_t cB cC cI cJ cZ (fun r => oA (dN r)) (fun r => rA (dN r)) σ_21.2.1, b_d cB cC cI cJ cZ (fun r => oA (dN r)) (fun r => rA (dN r)) σ_21.2.1, b_p cB cC cI cJ cZ (fun r => oA (pN 18 r)) (fun r => rA (pN 18 r)) (fun _ => σ_21.2.2.1 0), b_p cB cC cI cJ cZ (fun r => oA (pN 19 r)) (fun r => rA (pN 19 r)) (fun _ => σ_21.2.2.1 1), b_p cB cC cI cJ cZ (fun r => oA (pN 20 r)) (fun r => rA (pN 20 r)) (fun _ => σ_21.2.2.1 2), b_p cB cC cI cJ cZ (fun r => oA (pN 21 r)) (fun r => rA (pN 21 r)) (fun _ => σ_21.2.2.1 3), b_p cB cC cI cJ cZ (fun r => oA (pN 22 r)) (fun r => rA (pN 22 r)) (fun _ => σ_21.2.2.2 0), b_p cB cC cI cJ cZ (fun r => oA (pN 23 r)) (fun r => rA (pN 23 r)) (fun _ => σ_21.2.2.2 1), b_p cB cC cI cJ cZ (fun r => oA (pN 24 r)) (fun r => rA (pN 24 r)) (fun _ => σ_21.2.2.2 2), b_p cB cC cI cJ cZ (fun r => oA (pN 25 r)) (fun r => rA (pN 25 r)) (fun _ => σ_21.2.2.2 3), b_p cB cC cI cJ cZ (fun r => oA (pN 26 r)) (fun r => rA (pN 26 r)) (fun _ => σ_21.2.2.2 4), b_p cB cC cI cJ cZ (fun r => oA (pN 27 r)) (fun r => rA (pN 27 r)) (fun _ => σ_21.2.2.2 5)]) (is := [0, 1, 2, 3, 4, 5, 6, 7, 8, 9, 11, 12, 13, 14, 15, 16, 17, 18, 19, 20, 21, 22, 23, 24, 25, 26]) fl_H fl_26 rfl) (bx_n (by decide +kernel)) (bx_d (by decide +kernel)) (va_runV (As := [.int p0, .int p1]) (rest := []) ⟨hx, hb, hml, hown, hts⟩ (k_X6_bears l dC dI cB cC cI cJ cZ cP oA rA H.size p0 p1 σ_21.1 _ hu_25) (cwV 2 hts (g_gV wq_1324 wq_987 wq_988 wq_10 wq_989) rfl rfl rfl (by decide +kernel) ⟨Nat.le_of_ble_eq_true rfl, Nat.le_of_ble_eq_true rfl⟩) (g_preV g_bl0 hK hPc hDc hS hE hFc g_to0 (q0 := 0) (ci := 6) rfl rfl) rfl rfl hl.1 rfl (lv_room (Nat.le_of_ble_eq_true rfl)) dX11_has_35 ⟨Nat.le_of_ble_eq_true rfl, Nat.le_of_ble_eq_true rfl⟩) (fun r9 u9 H locs hw9 hP' hD' hS => ?_)
      clear hPc hDc hFc
      subst hw9
      obtain ⟨σ_27, eσ_27, hF_28⟩ := bnd_e hF_26
      clear hF_26
      have hP : va_P (dC, dI) vwCl (b_H cB cC cI cJ cZ cP oA rA σ_27 og om) H := by rw [eσ_27]; exact bx_P (bs := [b_h cB cC cI cJ cZ cP oA rA σ_21.1, b_b cB cC cI cJ cZ oA rA σ_21.1, b_ga cB cC cI cJ cZ oA rA σ_21.1 og, b_ma cB cC cI cJ cZ oA rA σ_21.1 om, b_w cB cC cI cJ cZ oA rA σ_21.1, b_s cB cC cI cJ cZ oA rA σ_21.1, b_c cB cC cI cJ cZ oA rA σ_21.1, b_t cB cC cI cJ cZ oA rA σ_21.1, b_d cB cC cI cJ cZ oA rA σ_21.1, b_o cB cC cI cJ cZ oA rA σ_21.1, b_k cB cC cI cJ cZ oA rA σ_21.1, b_e cB cC cI cJ cZ oA rA σ_21.1, b_s cB cC cI cJ cZ (fun r => oA (dN r)) (fun r => rA (dN r)) σ_21.2.1, b_c cB cC cI cJ cZ (fun r => oA (dN r)) (fun r => rA (dN r)) σ_21.2.1, b_t cB cC cI cJ cZ (fun r => oA (dN r)) (fun r => rA (dN r)) σ_21.2.1, b_d cB cC cI cJ cZ (fun r => oA (dN r)) (fun r => rA (dN r)) σ_21.2.1, b_p cB cC cI cJ cZ (fun r => oA (pN 18 r)) (fun r => rA (pN 18 r)) (fun _ => σ_21.2.2.1 0), b_p cB cC cI cJ cZ (fun r => oA (pN 19 r)) (fun r => rA (pN 19 r)) (fun _ => σ_21.2.2.1 1), b_p cB cC cI cJ cZ (fun r => oA (pN 20 r)) (fun r => rA (pN 20 r)) (fun _ => σ_21.2.2.1 2), b_p cB cC cI cJ cZ (fun r => oA (pN 21 r)) (fun r => rA (pN 21 r)) (fun _ => σ_21.2.2.1 3), b_p cB cC cI cJ cZ (fun r => oA (pN 22 r)) (fun r => rA (pN 22 r)) (fun _ => σ_21.2.2.2 0), b_p cB cC cI cJ cZ (fun r => oA (pN 23 r)) (fun r => rA (pN 23 r)) (fun _ => σ_21.2.2.2 1), b_p cB cC cI cJ cZ (fun r => oA (pN 24 r)) (fun r => rA (pN 24 r)) (fun _ => σ_21.2.2.2 2), b_p cB cC cI cJ cZ (fun r => oA (pN 25 r)) (fun r => rA (pN 25 r)) (fun _ => σ_21.2.2.2 3), b_p cB cC cI cJ cZ (fun r => oA (pN 26 r)) (fun r => rA (pN 26 r)) (fun _ => σ_21.2.2.2 4), b_p cB cC cI cJ cZ (fun r => oA (pN 27 r)) (fun r => rA (pN 27 r)) (fun _ => σ_21.2.2.2 5)] ++ [b_p cB cC cI cJ cZ oA rA u_25.2]) (bs' := (b_HL cB cC cI cJ cZ cP oA rA ((mrg (fun j => j == 9) σ_21.1 u_25.2, σ_21.2) : TS) og om)) hP' (fl_a fl_26 fl_1) fl_H [0, 1, 2, 3, 4, 5, 6, 7, 8, 9, 26, 10, 11, 12, 13, 14, 15, 16, 17, 18, 19, 20, 21, 22, 23, 24, 25] rfl
      clear hP' hD'
      refine W.widen (k := 2) (n := 12) (Nat.le_of_ble_eq_true rfl) (Nat.le_of_ble_eq_true rfl) ?_
      obtain ⟨g_29, hF_30⟩ := nif_e hF_28
      clear hF_28
      have h9 := Option.some.inj hF_30
      subst h9
      refine W.widen (k := 2) (n := 12) (Nat.le_of_ble_eq_true rfl) (Nat.le_of_ble_eq_true rfl) ?_
      refine vx_ret ?_
      exact W.zret (v := u_25.1) hx hb hr (m_bool (Classical.not_not.mp g_29)).1 (fun t ht hW => ⟨⟨u_25.1, (), rfl, ⟨rfl, rfl⟩, m_end ht hP, hDD _⟩, hS.F ht⟩) hS.2.2 dX11_has_38
    · have hF_31 := ineg c_16 hF_15
      clear hF_15
      exact Jj_9  σ_4 hF_31 _ _ hP hS ls (lv_sub hl [] rfl)

theorem dX11_value_0 : decode cX11_value 0 = .ok (.aload_n 0, 1) := by decide +kernel
theorem dX11_value_1 : decode cX11_value 1 = .ok (.getfield 162, 3) := by decide +kernel
theorem dX11_value_4 : decode cX11_value 4 = .ok (.ifCond .eq 20, 3) := by decide +kernel
theorem dX11_value_7 : decode cX11_value 7 = .ok (.iload_n 1, 1) := by decide +kernel
theorem dX11_value_8 : decode cX11_value 8 = .ok (.ifCond .lt 16, 3) := by decide +kernel
theorem dX11_value_11 : decode cX11_value 11 = .ok (.iload_n 1, 1) := by decide +kernel
theorem dX11_value_12 : decode cX11_value 12 = .ok (.aload_n 0, 1) := by decide +kernel
theorem dX11_value_13 : decode cX11_value 13 = .ok (.getfield 39, 3) := by decide +kernel
theorem dX11_value_16 : decode cX11_value 16 = .ok (.getfield 158, 3) := by decide +kernel
theorem dX11_value_19 : decode cX11_value 19 = .ok (.iconst 2, 1) := by decide +kernel
theorem dX11_value_20 : decode cX11_value 20 = .ok (.iaload, 1) := by decide +kernel
theorem dX11_value_21 : decode cX11_value 21 = .ok (.if_icmp .lt 14, 3) := by decide +kernel
theorem dX11_value_24 : decode cX11_value 24 = .ok (.new 223, 3) := by decide +kernel
theorem dX11_value_27 : decode cX11_value 27 = .ok (.dup, 1) := by decide +kernel
theorem dX11_value_28 : decode cX11_value 28 = .ok (.ldc_w 259, 3) := by decide +kernel
theorem dX11_value_31 : decode cX11_value 31 = .ok (.invokespecial 227, 3) := by decide +kernel
theorem dX11_value_34 : decode cX11_value 34 = .ok (.athrow, 1) := by decide +kernel
theorem dX11_value_35 : decode cX11_value 35 = .ok (.aload_n 0, 1) := by decide +kernel
theorem dX11_value_36 : decode cX11_value 36 = .ok (.invokevirtual 184, 3) := by decide +kernel
theorem dX11_value_39 : decode cX11_value 39 = .ok (.aload_n 0, 1) := by decide +kernel
theorem dX11_value_40 : decode cX11_value 40 = .ok (.getfield 60, 3) := by decide +kernel
theorem dX11_value_43 : decode cX11_value 43 = .ok (.getfield 261, 3) := by decide +kernel
theorem dX11_value_46 : decode cX11_value 46 = .ok (.iload_n 1, 1) := by decide +kernel
theorem dX11_value_47 : decode cX11_value 47 = .ok (.invokestatic 243, 3) := by decide +kernel
theorem dX11_value_50 : decode cX11_value 50 = .ok (.ireturn, 1) := by decide +kernel
def F_X11_value (p0 : Int32) (T : TS) : HA :=
  bnd (fun  (σ_1 : TS) => (
    some ((3, 0), σ_1)
  ) : TS → HA) fun j_2 =>
  if ((T.1 0).1 7) = 0 then (
    j_2  T
  ) else (
    if p0 < 0 then (
      j_2  T
    ) else (
      if p0 < ((T.1 4).2.1 0 (2 : Int32).toNatClampNeg) then (
        (F_X11_needPlay T).bind fun u_14 =>
        bnd (((mrg (fun j => j == 0) T.1 u_14.2.1, T.2) : TS)) fun σ_17 =>
        if ¬ u_14.1.1 = 0 then some ((u_14.1.1, 0), σ_17) else
        bnd ((g_at 100 ((σ_17.1 9).2.1 4) p0)) fun (x_21 : Int32) =>
        some ((0, x_21), σ_17)
      ) else (
        j_2  T
      )
    )
  )
set_option maxHeartbeats 8000000 in
set_option maxRecDepth 100000 in
theorem h_X11_value (l : Launch) (dC : Nat → ClassId) (dI : Nat → Nat → Nat) (cB cC cI cJ cZ cP : ClassId) (oA : Nat → Nat) (rA : Nat → Nat → Nat) (hfl : l.stackTraces = false) (og om : Option Nat) (sz : Nat) (p0 : Int32) (T : TS) (res : (Int32 × Int32) × TS) (hF : F_X11_value p0 T = some res) : vx_Met l yX11_value (g_ws yX11_value cX11_value 2 (some .int)) ({ frames := 7, cells := 1, slots := 6, locals := 110 }) (va_Pc [.ref (oA 0), .int p0] (g_B (dC, dI) [(cB, .byte), (cC, .char), (cI, .int), (cJ, .long), (cZ, .boolean), (cP, .object "StoryHouse$Play")] sz (b_H cB cC cI cJ cZ cP oA rA T og om) g_0)) (va_Qi (fun r (_ : Unit) => res.1.1 = 0 ∧ r = res.1.2) (g_Bo (dC, dI) (va_A (b_H cB cC cI cJ cZ cP oA rA T og om) sz) (fun (_ : Unit) => (b_H cB cC cI cJ cZ cP oA rA res.2 og om))) (va_A (b_H cB cC cI cJ cZ cP oA rA T og om) sz)) (g_X (dC, dI) (va_A (b_H cB cC cI cJ cZ cP oA rA T og om) sz) (b_H cB cC cI cJ cZ cP oA rA res.2 og om) (fun E : String => XN res.1.1 E)) 1 6 (va_A (b_H cB cC cI cJ cZ cP oA rA T og om) sz) := by
  refine vx_ofW (cc := cX11_value) (maxL := 2) (ret := (some .int)) (by decide) rfl ?_
  intro p e s m args below meth c s₁ B hml htab hv
  obtain ⟨rfl, hsz, hP, hK, hD0, hE, hX⟩ := hv
  have hx := B.exec
  have hb := B.bytes
  have hr := B.returns
  have hts0 := atoms_spec (ws := g_ws yX11_value cX11_value 2 (some .int)) B.pre
  have hts : ∀ w ∈ lw_good, w.before ([.ref (oA 0), .int p0] : List Value).toArray s = true := fun w z => hts0 w (List.mem_cons_of_mem _ z)
  have hown : s.vm.findClass RX11 = some m.cls := findClass_of_methodNamed B.named
  have hlocks := B.notSynchronized
  subst hsz
  have hD1 := hD0.self (sz := s.heap.size)
  generalize hAe : va_A (b_H cB cC cI cJ cZ cP oA rA T og om) s.heap.size = A at hD1 hE hX ⊢
  have hA : ∀ q : Nat, s.heap.size ≤ q → A q := fun q z => by rw [← hAe]; exact Or.inr z
  have hDD : ∀ T : TS, va_D A (b_H cB cC cI cJ cZ cP oA rA T og om) := fun T9 => va_D_fst bH_fst hD1
  have hN := hE.1
  have hS : va_S A s.heap s.heap [] := va_S.rf
  have hl := lv_entry ([.ref (oA 0), .int p0]) (n := 2) (Nat.le_of_ble_eq_true rfl)
  rw [lg_entry_eq]
  generalize (lg_sl ([.ref (oA 0), .int p0]) ++ List.replicate (2 - (lg_sl ([.ref (oA 0), .int p0])).length) Slot.unset).toArray = ls at hl ⊢
  have hl : lv_has ls 2 [(0, .ref (oA 0)), (1, .int p0)] := hl
  unfold F_X11_value at hF
  refine lv_aload_n hx hb dX11_value_0 rfl (lv_at hl 0 rfl) ?_
  refine va_get (D := (dC, dI)) (ci := 11) (v := .int ((T.1 0).1 7)) (C := RX11) (T := TX11) (N := 19) hx hb hts ii_X11 hown hK hP 0 rfl rfl 7 (by decide) (hts (.fieldLink RX11 162 "StoryHouse" "built" "Z") wq_310) (fun _ h9 => h9) rfl dX11_value_1 ?_
  obtain ⟨j_2, ej_2, hF_3⟩ := bnd_e hF
  clear hF
  have Jj_2 : ∀  (σ_1 : TS), j_2  σ_1 = some res → ∀ (H : Heap) (locs : List Loc), va_P (dC, dI) vwCl (b_H cB cC cI cJ cZ cP oA rA σ_1 og om) H → va_S A s.heap H locs → ∀ ls : Array Slot, lv_has ls 2 [] → W p l e (headSpec (g_ws yX11_value cX11_value 2 (some .int)) { frames := 7, cells := 1, slots := 6, locals := 110 }).room s m ([.ref (oA 0), .int p0] : List Value).toArray below meth c H locs 0 0 (vx_MQ below (va_Qi (fun r (_ : Unit) => res.1.1 = 0 ∧ r = res.1.2) (g_Bo (dC, dI) A (fun (_ : Unit) => (b_H cB cC cI cJ cZ cP oA rA res.2 og om))) A) (g_X (dC, dI) A (b_H cB cC cI cJ cZ cP oA rA res.2 og om) (fun E : String => XN res.1.1 E)) ([.ref (oA 0), .int p0] : List Value).toArray s 1 6 A) (F0 m 24 ls []) := by
    intro  σ_1 hF0 H locs hP hS ls hl
    subst ej_2
    have hF_4 := hF0
    clear hF0
    have h9 := Option.some.inj hF_4
    subst h9
    obtain ⟨q_5, vq_5, hRq_5, hSq_5⟩ := hE.2.2.2.2 _ (List.mem_of_getElem? (i := 75) rfl)
    exact vx_throwSW hx hb hfl (own := RX11) (cls := "java/lang/IndexOutOfBoundsException") (text := "there is no such var") (names := ["java/lang/RuntimeException", "java/lang/Exception"]) (A := A) hown (by decide +kernel) (by decide +kernel) (hts (.classLink RX11 223 "java/lang/IndexOutOfBoundsException") wq_1273) (hts (.initialized "java/lang/IndexOutOfBoundsException") wq_27) hRq_5 (g_bad hN (fun w h => hts w (wx_227 w h)) (by decide +kernel) (g_badB hN (List.mem_of_getElem? (i := 2) rfl))) (by decide +kernel) hE.2.1 hE.2.2.1 hS (hl.1.trans hml.symm) dX11_value_24 dX11_value_27 dX11_value_28 dX11_value_31 dX11_value_34 (fun x hx => (htab x hx).elim) (by decide) (by decide) (Nat.le_of_ble_eq_true rfl) (Nat.le_of_ble_eq_true rfl) hlocks (g_thr hP (hDD _) hS XN_3) hS.2.2 (Nat.le_of_ble_eq_true rfl) (Nat.le_of_ble_eq_true rfl)
  refine lv_if_eq (tgt := 24) hx hb dX11_value_4 (by decide) (fun c_6 => ?_) (fun c_6 => ?_)
  · have hF_7 := ipos c_6 hF_3
    clear hF_3
    exact Jj_2  T hF_7 _ _ hP hS ls (lv_sub hl [] rfl)
  · have hF_8 := ineg c_6 hF_3
    clear hF_3
    refine lv_iload_n hx hb dX11_value_7 rfl (lv_at hl 1 rfl) ?_
    refine lv_if_lt (tgt := 24) hx hb dX11_value_8 (by decide) (fun c_9 => ?_) (fun c_9 => ?_)
    · have hF_10 := ipos c_9 hF_8
      clear hF_8
      exact Jj_2  T hF_10 _ _ hP hS ls (lv_sub hl [] rfl)
    · have hF_11 := ineg c_9 hF_8
      clear hF_8
      refine lv_iload_n hx hb dX11_value_11 rfl (lv_at hl 1 rfl) ?_
      refine lv_aload_n hx hb dX11_value_12 rfl (lv_at hl 0 rfl) ?_
      refine va_get (D := (dC, dI)) (ci := 11) (v := .ref (oA 4)) (C := RX11) (T := TX11) (N := 19) hx hb hts ii_X11 hown hK hP 0 rfl rfl 5 (by decide) (hts (.fieldLink RX11 39 "StoryHouse" "story" "LStoryHouse$Story;") wq_308) (fun _ h9 => h9) rfl dX11_value_13 ?_
      refine va_get (D := (dC, dI)) (ci := 7) (v := .ref (rA 4 0)) (C := RX7) (T := TX7) (N := 19) hx hb hts ii_X7 hown hK hP 22 rfl rfl 0 (by decide) (hts (.fieldLink RX11 158 "StoryHouse$Story" "counts" "[I") wq_153) (fun _ h9 => h9) rfl dX11_value_16 ?_
      refine lv_iconst (v := 2) hx hb dX11_value_19 (by decide +kernel) ?_
      refine va_iald (f := (T.1 4).2.1 0) hx hb hK hP 23 2 rfl rfl (vp_in_iff.mpr (by decide +kernel)) dX11_value_20 ?_
      refine lv_icmp_lt (tgt := 35) hx hb dX11_value_21 (by decide) (fun c_12 => ?_) (fun c_12 => ?_)
      · have hF_13 := ipos c_12 hF_11
        clear hF_11
        refine lv_aload_n hx hb dX11_value_35 rfl (lv_at hl 0 rfl) ?_
        obtain ⟨u_14, hu_14, hF_15⟩ := Option.bind_eq_some_iff.mp hF_13
        clear hF_13
        have hPc := bx_P (bs := (b_HL cB cC cI cJ cZ cP oA rA T og om)) (bs' := [b_h cB cC cI cJ cZ cP oA rA T.1]) (ws' := (b_h cB cC cI cJ cZ cP oA rA T.1)) hP fl_H fl_1 [0] rfl
        have hDc := bx_D (bs := (b_HL cB cC cI cJ cZ cP oA rA T og om)) (bs' := [b_h cB cC cI cJ cZ cP oA rA T.1]) (ws' := (b_h cB cC cI cJ cZ cP oA rA T.1)) (hDD T) fl_H fl_1 [0] (by decide +kernel) rfl
        have hFc := bx_F (bs := (b_HL cB cC cI cJ cZ cP oA rA T og om)) (bs' := [b_h cB cC cI cJ cZ cP oA rA T.1]) (wc := (b_h cB cC cI cJ cZ cP oA rA T.1)) (hDD T) hS hA fl_H fl_1 [0] rfl
        obtain ⟨σ_17, eσ_17, hF_18⟩ := bnd_e hF_15
        clear hF_15
        refine g_oxv (wc := (b_h cB cC cI cJ cZ cP oA rA T.1)) (wr := (b_b cB cC cI cJ cZ oA rA T.1 ++ b_ga cB cC cI cJ cZ oA rA T.1 og ++ b_ma cB cC cI cJ cZ oA rA T.1 om ++ b_w cB cC cI cJ cZ oA rA T.1 ++ b_s cB cC cI cJ cZ oA rA T.1 ++ b_c cB cC cI cJ cZ oA rA T.1 ++ b_t cB cC cI cJ cZ oA rA T.1 ++ b_d cB cC cI cJ cZ oA rA T.1 ++ b_o cB cC cI cJ cZ oA rA T.1 ++ b_p cB cC cI cJ cZ oA rA T.1 ++ b_k cB cC cI cJ cZ oA rA T.1 ++ b_e cB cC cI cJ cZ oA rA T.1 ++ b_s cB cC cI cJ cZ (fun r => oA (dN r)) (fun r => rA (dN r)) T.2.1 ++ b_c cB cC cI cJ cZ (fun r => oA (dN r)) (fun r => rA (dN r)) T.2.1 ++ b_t cB cC cI cJ cZ (fun r => oA (dN r)) (fun r => rA (dN r)) T.2.1 ++ b_d cB cC cI cJ cZ (fun r => oA (dN r)) (fun r => rA (dN r)) T.2.1 ++ b_p cB cC cI cJ cZ (fun r => oA (pN 18 r)) (fun r => rA (pN 18 r)) (fun _ => T.2.2.1 0) ++ b_p cB cC cI cJ cZ (fun r => oA (pN 19 r)) (fun r => rA (pN 19 r)) (fun _ => T.2.2.1 1) ++ b_p cB cC cI cJ cZ (fun r => oA (pN 20 r)) (fun r => rA (pN 20 r)) (fun _ => T.2.2.1 2) ++ b_p cB cC cI cJ cZ (fun r => oA (pN 21 r)) (fun r => rA (pN 21 r)) (fun _ => T.2.2.1 3) ++ b_p cB cC cI cJ cZ (fun r => oA (pN 22 r)) (fun r => rA (pN 22 r)) (fun _ => T.2.2.2 0) ++ b_p cB cC cI cJ cZ (fun r => oA (pN 23 r)) (fun r => rA (pN 23 r)) (fun _ => T.2.2.2 1) ++ b_p cB cC cI cJ cZ (fun r => oA (pN 24 r)) (fun r => rA (pN 24 r)) (fun _ => T.2.2.2 2) ++ b_p cB cC cI cJ cZ (fun r => oA (pN 25 r)) (fun r => rA (pN 25 r)) (fun _ => T.2.2.2 3) ++ b_p cB cC cI cJ cZ (fun r => oA (pN 26 r)) (fun r => rA (pN 26 r)) (fun _ => T.2.2.2 4) ++ b_p cB cC cI cJ cZ (fun r => oA (pN 27 r)) (fun r => rA (pN 27 r)) (fun _ => T.2.2.2 5))) hP (hDD T) hS hFc (bx_ix (b_HL cB cC cI cJ cZ cP oA rA T og om) [0]) (bx_ix (b_HL cB cC cI cJ cZ cP oA rA T og om) [1, 2, 3, 4, 5, 6, 7, 8, 9, 10, 11, 12, 13, 14, 15, 16, 17, 18, 19, 20, 21, 22, 23, 24, 25, 26]) (bx_C (bs := (b_HL cB cC cI cJ cZ cP oA rA T og om)) (bs' := [b_h cB cC cI cJ cZ cP oA rA T.1]) (is := [0]) fl_H fl_1 rfl) (bx_C (bs := (b_HL cB cC cI cJ cZ cP oA rA T og om)) (bs' := [b_b cB cC cI cJ cZ oA rA T.1, b_ga cB cC cI cJ cZ oA rA T.1 og, b_ma cB cC cI cJ cZ oA rA T.1 om, b_w cB cC cI cJ cZ oA rA T.1, b_s cB cC cI cJ cZ oA rA T.1, b_c cB cC cI cJ cZ oA rA T.1, b_t cB cC cI cJ cZ oA rA T.1, b_d cB cC cI cJ cZ oA rA T.1, b_o cB cC cI cJ cZ oA rA T.1, b_p cB cC cI cJ cZ oA rA T.1, b_k cB cC cI cJ cZ oA rA T.1, b_e cB cC cI cJ cZ oA rA T.1, b_s cB cC cI cJ cZ (fun r => oA (dN r)) (fun r => rA (dN r)) T.2.1, b_c cB cC cI cJ cZ (fun r => oA (dN r)) (fun r => rA (dN r)) T.2.1, b_t cB cC cI cJ cZ (fun r => oA (dN r)) (fun r => rA (dN r)) T.2.1, b_d cB cC cI cJ cZ (fun r => oA (dN r)) (fun r => rA (dN r)) T.2.1, b_p cB cC cI cJ cZ (fun r => oA (pN 18 r)) (fun r => rA (pN 18 r)) (fun _ => T.2.2.1 0), b_p cB cC cI cJ cZ (fun r => oA (pN 19 r)) (fun r => rA (pN 19 r)) (fun _ => T.2.2.1 1), b_p cB cC cI cJ cZ (fun r => oA (pN 20 r)) (fun r => rA (pN 20 r)) (fun _ => T.2.2.1 2), b_p cB cC cI cJ cZ (fun r => oA (pN 21 r)) (fun r => rA (pN 21 r)) (fun _ => T.2.2.1 3), b_p cB cC cI cJ cZ (fun r => oA (pN 22 r)) (fun r => rA (pN 22 r)) (fun _ => T.2.2.2 0), b_p cB cC cI cJ cZ (fun r => oA (pN 23 r)) (fun r => rA (pN 23 r)) (fun _ => T.2.2.2 1), b_p cB cC cI cJ cZ (fun r => oA (pN 24 r)) (fun r => rA (pN 24 r)) (fun _ => T.2.2.2 2), b_p cB cC cI cJ cZ (fun r => oA (pN 25 r)) (fun r => rA (pN 25 r)) (fun _ => T.2.2.2 3), b_p cB cC cI cJ cZ (fun r => oA (pN 26 r)) (fun r => rA (pN 26 r)) (fun _ => T.2.2.2 4), b_p cB cC cI cJ cZ (fun r => oA (pN 27 r)) (fun r => rA (pN 27 r)) (fun _ => T.2.2.2 5)]) (is := [1, 2, 3, 4, 5, 6, 7, 8, 9, 10, 11, 12, 13, 14, 15, 16, 17, 18, 19, 20, 21, 22, 23, 24, 25, 26]) fl_H fl_26 rfl) (bx_n (by decide +kernel)) (bx_d (by decide +kernel)) (vx_runV (As := []) (rest := []) ⟨hx, hb, hml, hown, hts⟩ (h_X11_needPlay l dC dI cB cC cI cJ cZ cP oA rA hfl s.heap.size T _ hu_14) (cwV 0 hts (g_gV wq_1043 wq_1044 wq_2070 wq_1 wq_1045) rfl rfl rfl (by decide +kernel) ⟨Nat.le_of_ble_eq_true rfl, Nat.le_of_ble_eq_true rfl⟩) (g_preV g_bl0 hK hPc hDc hS hE hFc g_to0 (q0 := 0) (ci := 11) rfl rfl) rfl rfl hl.1 rfl (lv_room (Nat.le_of_ble_eq_true rfl)) dX11_value_36 ⟨Nat.le_of_ble_eq_true rfl, Nat.le_of_ble_eq_true rfl⟩) (fun E ce q9 H1 locs1 hXP hP1 hD1 hS1 hce hcv hcl => ?_) (fun u9 H locs hw9 hP' hD' hS => ?_)
        · have hF_19 := hif_n (XN_ne hXP) hF_18
          have h9 := Option.some.inj hF_19
          subst h9
          exact vx_out (fun x hx => (htab x hx).elim) hlocks hce hcv hcl (g_passed (ws := (b_H cB cC cI cJ cZ cP oA rA σ_17 og om)) (by rw [eσ_17]; exact bx_P (bs := [b_b cB cC cI cJ cZ oA rA T.1, b_ga cB cC cI cJ cZ oA rA T.1 og, b_ma cB cC cI cJ cZ oA rA T.1 om, b_w cB cC cI cJ cZ oA rA T.1, b_s cB cC cI cJ cZ oA rA T.1, b_c cB cC cI cJ cZ oA rA T.1, b_t cB cC cI cJ cZ oA rA T.1, b_d cB cC cI cJ cZ oA rA T.1, b_o cB cC cI cJ cZ oA rA T.1, b_p cB cC cI cJ cZ oA rA T.1, b_k cB cC cI cJ cZ oA rA T.1, b_e cB cC cI cJ cZ oA rA T.1, b_s cB cC cI cJ cZ (fun r => oA (dN r)) (fun r => rA (dN r)) T.2.1, b_c cB cC cI cJ cZ (fun r => oA (dN r)) (fun r => rA (dN r)) T.2.1, b_t cB cC cI cJ cZ (fun r => oA (dN r)) (fun r => rA (dN r)) T.2.1, b_d cB cC cI cJ cZ (fun r => oA (dN r)) (fun r => rA (dN r)) T.2.1, b_p cB cC cI cJ cZ (fun r => oA (pN 18 r)) (fun r => rA (pN 18 r)) (fun _ => T.2.2.1 0), b_p cB cC cI cJ cZ (fun r => oA (pN 19 r)) (fun r => rA (pN 19 r)) (fun _ => T.2.2.1 1), b_p cB cC cI cJ cZ (fun r => oA (pN 20 r)) (fun r => rA (pN 20 r)) (fun _ => T.2.2.1 2), b_p cB cC cI cJ cZ (fun r => oA (pN 21 r)) (fun r => rA (pN 21 r)) (fun _ => T.2.2.1 3), b_p cB cC cI cJ cZ (fun r => oA (pN 22 r)) (fun r => rA (pN 22 r)) (fun _ => T.2.2.2 0), b_p cB cC cI cJ cZ (fun r => oA (pN 23 r)) (fun r => rA (pN 23 r)) (fun _ => T.2.2.2 1), b_p cB cC cI cJ cZ (fun r => oA (pN 24 r)) (fun r => rA (pN 24 r)) (fun _ => T.2.2.2 2), b_p cB cC cI cJ cZ (fun r => oA (pN 25 r)) (fun r => rA (pN 25 r)) (fun _ => T.2.2.2 3), b_p cB cC cI cJ cZ (fun r => oA (pN 26 r)) (fun r => rA (pN 26 r)) (fun _ => T.2.2.2 4), b_p cB cC cI cJ cZ (fun r => oA (pN 27 r)) (fun r => rA (pN 27 r)) (fun _ => T.2.2.2 5)] ++ [b_h cB cC cI cJ cZ cP oA rA u_14.2.1]) (bs' := (b_HL cB cC cI cJ cZ cP oA rA ((mrg (fun j => j == 0) T.1 u_14.2.1, T.2) : TS) og om)) hP1 (fl_a fl_26 fl_1) fl_H [26, 0, 1, 2, 3, 4, 5, 6, 7, 8, 9, 10, 11, 12, 13, 14, 15, 16, 17, 18, 19, 20, 21, 22, 23, 24, 25] rfl) (hDD _) hS1 hXP) hS1.2.2 (Nat.le_of_ble_eq_true rfl) (Nat.le_of_ble_eq_true rfl)
        have hF_20 := hif_p hw9 hF_18
        clear hF_18
        have hP : va_P (dC, dI) vwCl (b_H cB cC cI cJ cZ cP oA rA σ_17 og om) H := by rw [eσ_17]; exact bx_P (bs := [b_b cB cC cI cJ cZ oA rA T.1, b_ga cB cC cI cJ cZ oA rA T.1 og, b_ma cB cC cI cJ cZ oA rA T.1 om, b_w cB cC cI cJ cZ oA rA T.1, b_s cB cC cI cJ cZ oA rA T.1, b_c cB cC cI cJ cZ oA rA T.1, b_t cB cC cI cJ cZ oA rA T.1, b_d cB cC cI cJ cZ oA rA T.1, b_o cB cC cI cJ cZ oA rA T.1, b_p cB cC cI cJ cZ oA rA T.1, b_k cB cC cI cJ cZ oA rA T.1, b_e cB cC cI cJ cZ oA rA T.1, b_s cB cC cI cJ cZ (fun r => oA (dN r)) (fun r => rA (dN r)) T.2.1, b_c cB cC cI cJ cZ (fun r => oA (dN r)) (fun r => rA (dN r)) T.2.1, b_t cB cC cI cJ cZ (fun r => oA (dN r)) (fun r => rA (dN r)) T.2.1, b_d cB cC cI cJ cZ (fun r => oA (dN r)) (fun r => rA (dN r)) T.2.1, b_p cB cC cI cJ cZ (fun r => oA (pN 18 r)) (fun r => rA (pN 18 r)) (fun _ => T.2.2.1 0), b_p cB cC cI cJ cZ (fun r => oA (pN 19 r)) (fun r => rA (pN 19 r)) (fun _ => T.2.2.1 1), b_p cB cC cI cJ cZ (fun r => oA (pN 20 r)) (fun r => rA (pN 20 r)) (fun _ => T.2.2.1 2), b_p cB cC cI cJ cZ (fun r => oA (pN 21 r)) (fun r => rA (pN 21 r)) (fun _ => T.2.2.1 3), b_p cB cC cI cJ cZ (fun r => oA (pN 22 r)) (fun r => rA (pN 22 r)) (fun _ => T.2.2.2 0), b_p cB cC cI cJ cZ (fun r => oA (pN 23 r)) (fun r => rA (pN 23 r)) (fun _ => T.2.2.2 1), b_p cB cC cI cJ cZ (fun r => oA (pN 24 r)) (fun r => rA (pN 24 r)) (fun _ => T.2.2.2 2), b_p cB cC cI cJ cZ (fun r => oA (pN 25 r)) (fun r => rA (pN 25 r)) (fun _ => T.2.2.2 3), b_p cB cC cI cJ cZ (fun r => oA (pN 26 r)) (fun r => rA (pN 26 r)) (fun _ => T.2.2.2 4), b_p cB cC cI cJ cZ (fun r => oA (pN 27 r)) (fun r => rA (pN 27 r)) (fun _ => T.2.2.2 5)] ++ [b_h cB cC cI cJ cZ cP oA rA u_14.2.1]) (bs' := (b_HL cB cC cI cJ cZ cP oA rA ((mrg (fun j => j == 0) T.1 u_14.2.1, T.2) : TS) og om)) hP' (fl_a fl_26 fl_1) fl_H [26, 0, 1, 2, 3, 4, 5, 6, 7, 8, 9, 10, 11, 12, 13, 14, 15, 16, 17, 18, 19, 20, 21, 22, 23, 24, 25] rfl
        clear hP' hD' hPc hDc hFc
        refine W.widen (k := 1) (n := 6) (Nat.le_of_ble_eq_true rfl) (Nat.le_of_ble_eq_true rfl) ?_
        refine lv_aload_n hx hb dX11_value_39 rfl (lv_at hl 0 rfl) ?_
        refine va_get (D := (dC, dI)) (ci := 11) (v := .ref (oA 9)) (C := RX11) (T := TX11) (N := 19) hx hb hts ii_X11 hown hK hP 0 rfl rfl 11 (by decide) (hts (.fieldLink RX11 60 "StoryHouse" "play" "LStoryHouse$Play;") wq_314) (fun _ h9 => h9) rfl dX11_value_40 ?_
        refine va_get (D := (dC, dI)) (ci := 6) (v := .ref (rA 9 4)) (C := RX6) (T := TX6) (N := 12) hx hb hts ii_X6 hown hK hP 55 rfl rfl 4 (by decide) (hts (.fieldLink RX11 261 "StoryHouse$Play" "vars" "[I") wq_232) (fun _ h9 => h9) rfl dX11_value_43 ?_
        refine lv_iload_n hx hb dX11_value_46 rfl (lv_at hl 1 rfl) ?_
        have hq9 : ((b_H cB cC cI cJ cZ cP oA rA σ_17 og om))[60]? = some (rA 9 4, .inl (cI, 100, .inl ((σ_17.1 9).2.1 4))) := rfl
        have hPc := hP.sub (ws' := [(rA 9 4, .inl (cI, 100, .inl ((σ_17.1 9).2.1 4)))]) [60] (pk_fm (er_C hq9))
        have hDc := (hDD σ_17).sub (ws' := [(rA 9 4, .inl (cI, 100, .inl ((σ_17.1 9).2.1 4)))]) [60] (by decide +kernel) (er_C hq9)
        have hFc := va_free (wc := [(rA 9 4, .inl (cI, 100, .inl ((σ_17.1 9).2.1 4)))]) (hDD σ_17) hS hA [60] (er_C hq9)
        refine g_ofi (wc := [(rA 9 4, .inl (cI, 100, .inl ((σ_17.1 9).2.1 4)))]) (wr := (((b_H cB cC cI cJ cZ cP oA rA σ_17 og om)).eraseIdx 60)) hP (hDD σ_17) hS hFc [60] ((List.range ((b_H cB cC cI cJ cZ cP oA rA σ_17 og om)).length).eraseIdx 60) (er_C hq9) er_R er_n er_d (va_runS (As := [.ref (rA 9 4), .int p0]) (rest := []) ⟨hx, hb, hml, hown, hts⟩ (c_X11_at l dC dI cB cC cI cJ cZ cP H.size (rA 9 4) p0 100 ((σ_17.1 9).2.1 4) (by decide)) (va_cwS 2 hts (g_gS wq_1309 wq_406 wq_1 wq_407) rfl rfl rfl (by decide +kernel) ⟨Nat.le_of_ble_eq_true rfl, Nat.le_of_ble_eq_true rfl⟩) (g_preS g_bl0 hK hPc hDc hS hE hFc g_to0) rfl rfl hl.1 rfl (lv_room (Nat.le_of_ble_eq_true rfl)) dX11_value_47 ⟨Nat.le_of_ble_eq_true rfl, Nat.le_of_ble_eq_true rfl⟩) (fun r9 u9 H locs hw9 hP' hD' hS => ?_)
        clear hPc hDc hFc hD'
        have hP : va_P (dC, dI) vwCl (b_H cB cC cI cJ cZ cP oA rA σ_17 og om) H := er_I hP' hq9
        clear hP' hq9
        subst hw9
        obtain ⟨x_21, ex_21, hF_22⟩ := bnd_e hF_20
        clear hF_20
        refine m_top ex_21 ?_
        refine W.widen (k := 1) (n := 6) (Nat.le_of_ble_eq_true rfl) (Nat.le_of_ble_eq_true rfl) ?_
        have h9 := Option.some.inj hF_22
        subst h9
        refine W.widen (k := 1) (n := 6) (Nat.le_of_ble_eq_true rfl) (Nat.le_of_ble_eq_true rfl) ?_
        refine vx_ret ?_
        exact W.iret (v := x_21) hx hb hr (fun t ht hW => ⟨⟨x_21, (), rfl, ⟨rfl, rfl⟩, m_end ht hP, hDD _⟩, hS.F ht⟩) hS.2.2 dX11_value_50
      · have hF_23 := ineg c_12 hF_11
        clear hF_11
        exact Jj_2  T hF_23 _ _ hP hS ls (lv_sub hl [] rfl)

theorem dX11_cell_0 : decode cX11_cell 0 = .ok (.aload_n 0, 1) := by decide +kernel
theorem dX11_cell_1 : decode cX11_cell 1 = .ok (.getfield 162, 3) := by decide +kernel
theorem dX11_cell_4 : decode cX11_cell 4 = .ok (.ifCond .eq 33, 3) := by decide +kernel
theorem dX11_cell_7 : decode cX11_cell 7 = .ok (.iload_n 1, 1) := by decide +kernel
theorem dX11_cell_8 : decode cX11_cell 8 = .ok (.ifCond .lt 29, 3) := by decide +kernel
theorem dX11_cell_11 : decode cX11_cell 11 = .ok (.iload_n 1, 1) := by decide +kernel
theorem dX11_cell_12 : decode cX11_cell 12 = .ok (.aload_n 0, 1) := by decide +kernel
theorem dX11_cell_13 : decode cX11_cell 13 = .ok (.getfield 39, 3) := by decide +kernel
theorem dX11_cell_16 : decode cX11_cell 16 = .ok (.getfield 158, 3) := by decide +kernel
theorem dX11_cell_19 : decode cX11_cell 19 = .ok (.iconst 3, 1) := by decide +kernel
theorem dX11_cell_20 : decode cX11_cell 20 = .ok (.iaload, 1) := by decide +kernel
theorem dX11_cell_21 : decode cX11_cell 21 = .ok (.if_icmp .ge 16, 3) := by decide +kernel
theorem dX11_cell_24 : decode cX11_cell 24 = .ok (.aload_n 0, 1) := by decide +kernel
theorem dX11_cell_25 : decode cX11_cell 25 = .ok (.getfield 39, 3) := by decide +kernel
theorem dX11_cell_28 : decode cX11_cell 28 = .ok (.iload_n 1, 1) := by decide +kernel
theorem dX11_cell_29 : decode cX11_cell 29 = .ok (.iload_n 2, 1) := by decide +kernel
theorem dX11_cell_30 : decode cX11_cell 30 = .ok (.invokevirtual 264, 3) := by decide +kernel
theorem dX11_cell_33 : decode cX11_cell 33 = .ok (.iconst (-1), 1) := by decide +kernel
theorem dX11_cell_34 : decode cX11_cell 34 = .ok (.if_icmp .ne 14, 3) := by decide +kernel
theorem dX11_cell_37 : decode cX11_cell 37 = .ok (.new 223, 3) := by decide +kernel
theorem dX11_cell_40 : decode cX11_cell 40 = .ok (.dup, 1) := by decide +kernel
theorem dX11_cell_41 : decode cX11_cell 41 = .ok (.ldc_w 267, 3) := by decide +kernel
theorem dX11_cell_44 : decode cX11_cell 44 = .ok (.invokespecial 227, 3) := by decide +kernel
theorem dX11_cell_47 : decode cX11_cell 47 = .ok (.athrow, 1) := by decide +kernel
theorem dX11_cell_48 : decode cX11_cell 48 = .ok (.aload_n 0, 1) := by decide +kernel
theorem dX11_cell_49 : decode cX11_cell 49 = .ok (.invokevirtual 184, 3) := by decide +kernel
theorem dX11_cell_52 : decode cX11_cell 52 = .ok (.aload_n 0, 1) := by decide +kernel
theorem dX11_cell_53 : decode cX11_cell 53 = .ok (.getfield 60, 3) := by decide +kernel
theorem dX11_cell_56 : decode cX11_cell 56 = .ok (.getfield 269, 3) := by decide +kernel
theorem dX11_cell_59 : decode cX11_cell 59 = .ok (.aload_n 0, 1) := by decide +kernel
theorem dX11_cell_60 : decode cX11_cell 60 = .ok (.getfield 39, 3) := by decide +kernel
theorem dX11_cell_63 : decode cX11_cell 63 = .ok (.iload_n 1, 1) := by decide +kernel
theorem dX11_cell_64 : decode cX11_cell 64 = .ok (.iload_n 2, 1) := by decide +kernel
theorem dX11_cell_65 : decode cX11_cell 65 = .ok (.invokevirtual 264, 3) := by decide +kernel
theorem dX11_cell_68 : decode cX11_cell 68 = .ok (.invokestatic 243, 3) := by decide +kernel
theorem dX11_cell_71 : decode cX11_cell 71 = .ok (.ireturn, 1) := by decide +kernel
def F_X11_cell (p0 : Int32) (p1 : Int32) (T : TS) : HA :=
  bnd (fun  (σ_1 : TS) => (
    some ((3, 0), σ_1)
  ) : TS → HA) fun j_2 =>
  if ((T.1 0).1 7) = 0 then (
    j_2  T
  ) else (
    if p0 < 0 then (
      j_2  T
    ) else (
      if ((T.1 4).2.1 0 (3 : Int32).toNatClampNeg) ≤ p0 then (
        j_2  T
      ) else (
        (F_X7_cellOf p0 p1 T.1).bind fun u_15 =>
        bnd (((mrg (fun j => j == 4 || j == 5 || j == 6 || j == 7) T.1 u_15.2, T.2) : TS)) fun σ_17 =>
        if u_15.1 = (-1) then (
          j_2  σ_17
        ) else (
          (F_X11_needPlay σ_17).bind fun u_22 =>
          bnd (((mrg (fun j => j == 0) σ_17.1 u_22.2.1, σ_17.2) : TS)) fun σ_25 =>
          if ¬ u_22.1.1 = 0 then some ((u_22.1.1, 0), σ_25) else
          (F_X7_cellOf p0 p1 σ_25.1).bind fun u_29 =>
          bnd (((mrg (fun j => j == 4 || j == 5 || j == 6 || j == 7) σ_25.1 u_29.2, σ_25.2) : TS)) fun σ_31 =>
          bnd ((g_at 1000 ((σ_31.1 9).2.1 5) u_29.1)) fun (x_33 : Int32) =>
          some ((0, x_33), σ_31)
        )
      )
    )
  )
set_option maxHeartbeats 8000000 in
set_option maxRecDepth 100000 in
theorem h_X11_cell (l : Launch) (dC : Nat → ClassId) (dI : Nat → Nat → Nat) (cB cC cI cJ cZ cP : ClassId) (oA : Nat → Nat) (rA : Nat → Nat → Nat) (hfl : l.stackTraces = false) (og om : Option Nat) (sz : Nat) (p0 : Int32) (p1 : Int32) (T : TS) (res : (Int32 × Int32) × TS) (hF : F_X11_cell p0 p1 T = some res) : vx_Met l yX11_cell (g_ws yX11_cell cX11_cell 3 (some .int)) ({ frames := 7, cells := 1, slots := 6, locals := 110 }) (va_Pc [.ref (oA 0), .int p0, .int p1] (g_B (dC, dI) [(cB, .byte), (cC, .char), (cI, .int), (cJ, .long), (cZ, .boolean), (cP, .object "StoryHouse$Play")] sz (b_H cB cC cI cJ cZ cP oA rA T og om) g_0)) (va_Qi (fun r (_ : Unit) => res.1.1 = 0 ∧ r = res.1.2) (g_Bo (dC, dI) (va_A (b_H cB cC cI cJ cZ cP oA rA T og om) sz) (fun (_ : Unit) => (b_H cB cC cI cJ cZ cP oA rA res.2 og om))) (va_A (b_H cB cC cI cJ cZ cP oA rA T og om) sz)) (g_X (dC, dI) (va_A (b_H cB cC cI cJ cZ cP oA rA T og om) sz) (b_H cB cC cI cJ cZ cP oA rA res.2 og om) (fun E : String => XN res.1.1 E)) 1 6 (va_A (b_H cB cC cI cJ cZ cP oA rA T og om) sz) := by
  refine vx_ofW (cc := cX11_cell) (maxL := 3) (ret := (some .int)) (by decide) rfl ?_
  intro p e s m args below meth c s₁ B hml htab hv
  obtain ⟨rfl, hsz, hP, hK, hD0, hE, hX⟩ := hv
  have hx := B.exec
  have hb := B.bytes
  have hr := B.returns
  have hts0 := atoms_spec (ws := g_ws yX11_cell cX11_cell 3 (some .int)) B.pre
  have hts : ∀ w ∈ lw_good, w.before ([.ref (oA 0), .int p0, .int p1] : List Value).toArray s = true := fun w z => hts0 w (List.mem_cons_of_mem _ z)
  have hown : s.vm.findClass RX11 = some m.cls := findClass_of_methodNamed B.named
  have hlocks := B.notSynchronized
  subst hsz
  have hD1 := hD0.self (sz := s.heap.size)
  generalize hAe : va_A (b_H cB cC cI cJ cZ cP oA rA T og om) s.heap.size = A at hD1 hE hX ⊢
  have hA : ∀ q : Nat, s.heap.size ≤ q → A q := fun q z => by rw [← hAe]; exact Or.inr z
  have hDD : ∀ T : TS, va_D A (b_H cB cC cI cJ cZ cP oA rA T og om) := fun T9 => va_D_fst bH_fst hD1
  have hN := hE.1
  have hS : va_S A s.heap s.heap [] := va_S.rf
  have hl := lv_entry ([.ref (oA 0), .int p0, .int p1]) (n := 3) (Nat.le_of_ble_eq_true rfl)
  rw [lg_entry_eq]
  generalize (lg_sl ([.ref (oA 0), .int p0, .int p1]) ++ List.replicate (3 - (lg_sl ([.ref (oA 0), .int p0, .int p1])).length) Slot.unset).toArray = ls at hl ⊢
  have hl : lv_has ls 3 [(0, .ref (oA 0)), (1, .int p0), (2, .int p1)] := hl
  unfold F_X11_cell at hF
  refine lv_aload_n hx hb dX11_cell_0 rfl (lv_at hl 0 rfl) ?_
  refine va_get (D := (dC, dI)) (ci := 11) (v := .int ((T.1 0).1 7)) (C := RX11) (T := TX11) (N := 19) hx hb hts ii_X11 hown hK hP 0 rfl rfl 7 (by decide) (hts (.fieldLink RX11 162 "StoryHouse" "built" "Z") wq_310) (fun _ h9 => h9) rfl dX11_cell_1 ?_
  obtain ⟨j_2, ej_2, hF_3⟩ := bnd_e hF
  clear hF
  have Jj_2 : ∀  (σ_1 : TS), j_2  σ_1 = some res → ∀ (H : Heap) (locs : List Loc), va_P (dC, dI) vwCl (b_H cB cC cI cJ cZ cP oA rA σ_1 og om) H → va_S A s.heap H locs → ∀ ls : Array Slot, lv_has ls 3 [] → W p l e (headSpec (g_ws yX11_cell cX11_cell 3 (some .int)) { frames := 7, cells := 1, slots := 6, locals := 110 }).room s m ([.ref (oA 0), .int p0, .int p1] : List Value).toArray below meth c H locs 0 0 (vx_MQ below (va_Qi (fun r (_ : Unit) => res.1.1 = 0 ∧ r = res.1.2) (g_Bo (dC, dI) A (fun (_ : Unit) => (b_H cB cC cI cJ cZ cP oA rA res.2 og om))) A) (g_X (dC, dI) A (b_H cB cC cI cJ cZ cP oA rA res.2 og om) (fun E : String => XN res.1.1 E)) ([.ref (oA 0), .int p0, .int p1] : List Value).toArray s 1 6 A) (F0 m 37 ls []) := by
    intro  σ_1 hF0 H locs hP hS ls hl
    subst ej_2
    have hF_4 := hF0
    clear hF0
    have h9 := Option.some.inj hF_4
    subst h9
    obtain ⟨q_5, vq_5, hRq_5, hSq_5⟩ := hE.2.2.2.2 _ (List.mem_of_getElem? (i := 76) rfl)
    exact vx_throwSW hx hb hfl (own := RX11) (cls := "java/lang/IndexOutOfBoundsException") (text := "there is no such cell") (names := ["java/lang/RuntimeException", "java/lang/Exception"]) (A := A) hown (by decide +kernel) (by decide +kernel) (hts (.classLink RX11 223 "java/lang/IndexOutOfBoundsException") wq_1273) (hts (.initialized "java/lang/IndexOutOfBoundsException") wq_27) hRq_5 (g_bad hN (fun w h => hts w (wx_227 w h)) (by decide +kernel) (g_badB hN (List.mem_of_getElem? (i := 2) rfl))) (by decide +kernel) hE.2.1 hE.2.2.1 hS (hl.1.trans hml.symm) dX11_cell_37 dX11_cell_40 dX11_cell_41 dX11_cell_44 dX11_cell_47 (fun x hx => (htab x hx).elim) (by decide) (by decide) (Nat.le_of_ble_eq_true rfl) (Nat.le_of_ble_eq_true rfl) hlocks (g_thr hP (hDD _) hS XN_3) hS.2.2 (Nat.le_of_ble_eq_true rfl) (Nat.le_of_ble_eq_true rfl)
  refine lv_if_eq (tgt := 37) hx hb dX11_cell_4 (by decide) (fun c_6 => ?_) (fun c_6 => ?_)
  · have hF_7 := ipos c_6 hF_3
    clear hF_3
    exact Jj_2  T hF_7 _ _ hP hS ls (lv_sub hl [] rfl)
  · have hF_8 := ineg c_6 hF_3
    clear hF_3
    refine lv_iload_n hx hb dX11_cell_7 rfl (lv_at hl 1 rfl) ?_
    refine lv_if_lt (tgt := 37) hx hb dX11_cell_8 (by decide) (fun c_9 => ?_) (fun c_9 => ?_)
    · have hF_10 := ipos c_9 hF_8
      clear hF_8
      exact Jj_2  T hF_10 _ _ hP hS ls (lv_sub hl [] rfl)
    · have hF_11 := ineg c_9 hF_8
      clear hF_8
      refine lv_iload_n hx hb dX11_cell_11 rfl (lv_at hl 1 rfl) ?_
      refine lv_aload_n hx hb dX11_cell_12 rfl (lv_at hl 0 rfl) ?_
      refine va_get (D := (dC, dI)) (ci := 11) (v := .ref (oA 4)) (C := RX11) (T := TX11) (N := 19) hx hb hts ii_X11 hown hK hP 0 rfl rfl 5 (by decide) (hts (.fieldLink RX11 39 "StoryHouse" "story" "LStoryHouse$Story;") wq_308) (fun _ h9 => h9) rfl dX11_cell_13 ?_
      refine va_get (D := (dC, dI)) (ci := 7) (v := .ref (rA 4 0)) (C := RX7) (T := TX7) (N := 19) hx hb hts ii_X7 hown hK hP 22 rfl rfl 0 (by decide) (hts (.fieldLink RX11 158 "StoryHouse$Story" "counts" "[I") wq_153) (fun _ h9 => h9) rfl dX11_cell_16 ?_
      refine lv_iconst (v := 3) hx hb dX11_cell_19 (by decide +kernel) ?_
      refine va_iald (f := (T.1 4).2.1 0) hx hb hK hP 23 2 rfl rfl (vp_in_iff.mpr (by decide +kernel)) dX11_cell_20 ?_
      refine lv_icmp_ge (tgt := 37) hx hb dX11_cell_21 (by decide) (fun c_12 => ?_) (fun c_12 => ?_)
      · have hF_13 := ipos c_12 hF_11
        clear hF_11
        exact Jj_2  T hF_13 _ _ hP hS ls (lv_sub hl [] rfl)
      · have hF_14 := ineg c_12 hF_11
        clear hF_11
        refine lv_aload_n hx hb dX11_cell_24 rfl (lv_at hl 0 rfl) ?_
        refine va_get (D := (dC, dI)) (ci := 11) (v := .ref (oA 4)) (C := RX11) (T := TX11) (N := 19) hx hb hts ii_X11 hown hK hP 0 rfl rfl 5 (by decide) (hts (.fieldLink RX11 39 "StoryHouse" "story" "LStoryHouse$Story;") wq_308) (fun _ h9 => h9) rfl dX11_cell_25 ?_
        refine lv_iload_n hx hb dX11_cell_28 rfl (lv_at hl 1 rfl) ?_
        refine lv_iload_n hx hb dX11_cell_29 rfl (lv_at hl 2 rfl) ?_
        obtain ⟨u_15, hu_15, hF_16⟩ := Option.bind_eq_some_iff.mp hF_14
        clear hF_14
        have hPc := bx_P (bs := (b_HL cB cC cI cJ cZ cP oA rA T og om)) (bs' := [b_s cB cC cI cJ cZ oA rA T.1, b_c cB cC cI cJ cZ oA rA T.1, b_t cB cC cI cJ cZ oA rA T.1, b_d cB cC cI cJ cZ oA rA T.1]) (ws' := (b_s cB cC cI cJ cZ oA rA T.1 ++ b_c cB cC cI cJ cZ oA rA T.1 ++ b_t cB cC cI cJ cZ oA rA T.1 ++ b_d cB cC cI cJ cZ oA rA T.1)) hP fl_H fl_4 [5, 6, 7, 8] rfl
        have hDc := bx_D (bs := (b_HL cB cC cI cJ cZ cP oA rA T og om)) (bs' := [b_s cB cC cI cJ cZ oA rA T.1, b_c cB cC cI cJ cZ oA rA T.1, b_t cB cC cI cJ cZ oA rA T.1, b_d cB cC cI cJ cZ oA rA T.1]) (ws' := (b_s cB cC cI cJ cZ oA rA T.1 ++ b_c cB cC cI cJ cZ oA rA T.1 ++ b_t cB cC cI cJ cZ oA rA T.1 ++ b_d cB cC cI cJ cZ oA rA T.1)) (hDD T) fl_H fl_4 [5, 6, 7, 8] (by decide +kernel) rfl
        have hFc := bx_F (bs := (b_HL cB cC cI cJ cZ cP oA rA T og om)) (bs' := [b_s cB cC cI cJ cZ oA rA T.1, b_c cB cC cI cJ cZ oA rA T.1, b_t cB cC cI cJ cZ oA rA T.1, b_d cB cC cI cJ cZ oA rA T.1]) (wc := (b_s cB cC cI cJ cZ oA rA T.1 ++ b_c cB cC cI cJ cZ oA rA T.1 ++ b_t cB cC cI cJ cZ oA rA T.1 ++ b_d cB cC cI cJ cZ oA rA T.1)) (hDD T) hS hA fl_H fl_4 [5, 6, 7, 8] rfl
        refine g_ofi (wc := (b_s cB cC cI cJ cZ oA rA T.1 ++ b_c cB cC cI cJ cZ oA rA T.1 ++ b_t cB cC cI cJ cZ oA rA T.1 ++ b_d cB cC cI cJ cZ oA rA T.1)) (wr := (b_h cB cC cI cJ cZ cP oA rA T.1 ++ b_b cB cC cI cJ cZ oA rA T.1 ++ b_ga cB cC cI cJ cZ oA rA T.1 og ++ b_ma cB cC cI cJ cZ oA rA T.1 om ++ b_w cB cC cI cJ cZ oA rA T.1 ++ b_o cB cC cI cJ cZ oA rA T.1 ++ b_p cB cC cI cJ cZ oA rA T.1 ++ b_k cB cC cI cJ cZ oA rA T.1 ++ b_e cB cC cI cJ cZ oA rA T.1 ++ b_s cB cC cI cJ cZ (fun r => oA (dN r)) (fun r => rA (dN r)) T.2.1 ++ b_c cB cC cI cJ cZ (fun r => oA (dN r)) (fun r => rA (dN r)) T.2.1 ++ b_t cB cC cI cJ cZ (fun r => oA (dN r)) (fun r => rA (dN r)) T.2.1 ++ b_d cB cC cI cJ cZ (fun r => oA (dN r)) (fun r => rA (dN r)) T.2.1 ++ b_p cB cC cI cJ cZ (fun r => oA (pN 18 r)) (fun r => rA (pN 18 r)) (fun _ => T.2.2.1 0) ++ b_p cB cC cI cJ cZ (fun r => oA (pN 19 r)) (fun r => rA (pN 19 r)) (fun _ => T.2.2.1 1) ++ b_p cB cC cI cJ cZ (fun r => oA (pN 20 r)) (fun r => rA (pN 20 r)) (fun _ => T.2.2.1 2) ++ b_p cB cC cI cJ cZ (fun r => oA (pN 21 r)) (fun r => rA (pN 21 r)) (fun _ => T.2.2.1 3) ++ b_p cB cC cI cJ cZ (fun r => oA (pN 22 r)) (fun r => rA (pN 22 r)) (fun _ => T.2.2.2 0) ++ b_p cB cC cI cJ cZ (fun r => oA (pN 23 r)) (fun r => rA (pN 23 r)) (fun _ => T.2.2.2 1) ++ b_p cB cC cI cJ cZ (fun r => oA (pN 24 r)) (fun r => rA (pN 24 r)) (fun _ => T.2.2.2 2) ++ b_p cB cC cI cJ cZ (fun r => oA (pN 25 r)) (fun r => rA (pN 25 r)) (fun _ => T.2.2.2 3) ++ b_p cB cC cI cJ cZ (fun r => oA (pN 26 r)) (fun r => rA (pN 26 r)) (fun _ => T.2.2.2 4) ++ b_p cB cC cI cJ cZ (fun r => oA (pN 27 r)) (fun r => rA (pN 27 r)) (fun _ => T.2.2.2 5))) hP (hDD T) hS hFc (bx_ix (b_HL cB cC cI cJ cZ cP oA rA T og om) [5, 6, 7, 8]) (bx_ix (b_HL cB cC cI cJ cZ cP oA rA T og om) [0, 1, 2, 3, 4, 9, 10, 11, 12, 13, 14, 15, 16, 17, 18, 19, 20, 21, 22, 23, 24, 25, 26]) (bx_C (bs := (b_HL cB cC cI cJ cZ cP oA rA T og om)) (bs' := [b_s cB cC cI cJ cZ oA rA T.1, b_c cB cC cI cJ cZ oA rA T.1, b_t cB cC cI cJ cZ oA rA T.1, b_d cB cC cI cJ cZ oA rA T.1]) (is := [5, 6, 7, 8]) fl_H fl_4 rfl) (bx_C (bs := (b_HL cB cC cI cJ cZ cP oA rA T og om)) (bs' := [b_h cB cC cI cJ cZ cP oA rA T.1, b_b cB cC cI cJ cZ oA rA T.1, b_ga cB cC cI cJ cZ oA rA T.1 og, b_ma cB cC cI cJ cZ oA rA T.1 om, b_w cB cC cI cJ cZ oA rA T.1, b_o cB cC cI cJ cZ oA rA T.1, b_p cB cC cI cJ cZ oA rA T.1, b_k cB cC cI cJ cZ oA rA T.1, b_e cB cC cI cJ cZ oA rA T.1, b_s cB cC cI cJ cZ (fun r => oA (dN r)) (fun r => rA (dN r)) T.2.1, b_c cB cC cI cJ cZ (fun r => oA (dN r)) (fun r => rA (dN r)) T.2.1, b_t cB cC cI cJ cZ (fun r => oA (dN r)) (fun r => rA (dN r)) T.2.1, b_d cB cC cI cJ cZ (fun r => oA (dN r)) (fun r => rA (dN r)) T.2.1, b_p cB cC cI cJ cZ (fun r => oA (pN 18 r)) (fun r => rA (pN 18 r)) (fun _ => T.2.2.1 0), b_p cB cC cI cJ cZ (fun r => oA (pN 19 r)) (fun r => rA (pN 19 r)) (fun _ => T.2.2.1 1), b_p cB cC cI cJ cZ (fun r => oA (pN 20 r)) (fun r => rA (pN 20 r)) (fun _ => T.2.2.1 2), b_p cB cC cI cJ cZ (fun r => oA (pN 21 r)) (fun r => rA (pN 21 r)) (fun _ => T.2.2.1 3), b_p cB cC cI cJ cZ (fun r => oA (pN 22 r)) (fun r => rA (pN 22 r)) (fun _ => T.2.2.2 0), b_p cB cC cI cJ cZ (fun r => oA (pN 23 r)) (fun r => rA (pN 23 r)) (fun _ => T.2.2.2 1), b_p cB cC cI cJ cZ (fun r => oA (pN 24 r)) (fun r => rA (pN 24 r)) (fun _ => T.2.2.2 2), b_p cB cC cI cJ cZ (fun r => oA (pN 25 r)) (fun r => rA (pN 25 r)) (fun _ => T.2.2.2 3), b_p cB cC cI cJ cZ (fun r => oA (pN 26 r)) (fun r => rA (pN 26 r)) (fun _ => T.2.2.2 4), b_p cB cC cI cJ cZ (fun r => oA (pN 27 r)) (fun r => rA (pN 27 r)) (fun _ => T.2.2.2 5)]) (is := [0, 1, 2, 3, 4, 9, 10, 11, 12, 13, 14, 15, 16, 17, 18, 19, 20, 21, 22, 23, 24, 25, 26]) fl_H fl_23 rfl) (bx_n (by decide +kernel)) (bx_d (by decide +kernel)) (va_runV (As := [.int p0, .int p1]) (rest := []) ⟨hx, hb, hml, hown, hts⟩ (k_X7_cellOf l dC dI cB cC cI cJ cZ cP oA rA s.heap.size p0 p1 T.1 _ hu_15) (cwV 2 hts (g_gV wq_1339 wq_1151 wq_1152 wq_5 wq_1153) rfl rfl rfl (by decide +kernel) ⟨Nat.le_of_ble_eq_true rfl, Nat.le_of_ble_eq_true rfl⟩) (g_preV g_bl0 hK hPc hDc hS hE hFc g_to0 (q0 := 0) (ci := 7) rfl rfl) rfl rfl hl.1 rfl (lv_room (Nat.le_of_ble_eq_true rfl)) dX11_cell_30 ⟨Nat.le_of_ble_eq_true rfl, Nat.le_of_ble_eq_true rfl⟩) (fun r9 u9 H locs hw9 hP' hD' hS => ?_)
        clear hPc hDc hFc
        subst hw9
        obtain ⟨σ_17, eσ_17, hF_18⟩ := bnd_e hF_16
        clear hF_16
        have hP : va_P (dC, dI) vwCl (b_H cB cC cI cJ cZ cP oA rA σ_17 og om) H := by rw [eσ_17]; exact bx_P (bs := [b_h cB cC cI cJ cZ cP oA rA T.1, b_b cB cC cI cJ cZ oA rA T.1, b_ga cB cC cI cJ cZ oA rA T.1 og, b_ma cB cC cI cJ cZ oA rA T.1 om, b_w cB cC cI cJ cZ oA rA T.1, b_o cB cC cI cJ cZ oA rA T.1, b_p cB cC cI cJ cZ oA rA T.1, b_k cB cC cI cJ cZ oA rA T.1, b_e cB cC cI cJ cZ oA rA T.1, b_s cB cC cI cJ cZ (fun r => oA (dN r)) (fun r => rA (dN r)) T.2.1, b_c cB cC cI cJ cZ (fun r => oA (dN r)) (fun r => rA (dN r)) T.2.1, b_t cB cC cI cJ cZ (fun r => oA (dN r)) (fun r => rA (dN r)) T.2.1, b_d cB cC cI cJ cZ (fun r => oA (dN r)) (fun r => rA (dN r)) T.2.1, b_p cB cC cI cJ cZ (fun r => oA (pN 18 r)) (fun r => rA (pN 18 r)) (fun _ => T.2.2.1 0), b_p cB cC cI cJ cZ (fun r => oA (pN 19 r)) (fun r => rA (pN 19 r)) (fun _ => T.2.2.1 1), b_p cB cC cI cJ cZ (fun r => oA (pN 20 r)) (fun r => rA (pN 20 r)) (fun _ => T.2.2.1 2), b_p cB cC cI cJ cZ (fun r => oA (pN 21 r)) (fun r => rA (pN 21 r)) (fun _ => T.2.2.1 3), b_p cB cC cI cJ cZ (fun r => oA (pN 22 r)) (fun r => rA (pN 22 r)) (fun _ => T.2.2.2 0), b_p cB cC cI cJ cZ (fun r => oA (pN 23 r)) (fun r => rA (pN 23 r)) (fun _ => T.2.2.2 1), b_p cB cC cI cJ cZ (fun r => oA (pN 24 r)) (fun r => rA (pN 24 r)) (fun _ => T.2.2.2 2), b_p cB cC cI cJ cZ (fun r => oA (pN 25 r)) (fun r => rA (pN 25 r)) (fun _ => T.2.2.2 3), b_p cB cC cI cJ cZ (fun r => oA (pN 26 r)) (fun r => rA (pN 26 r)) (fun _ => T.2.2.2 4), b_p cB cC cI cJ cZ (fun r => oA (pN 27 r)) (fun r => rA (pN 27 r)) (fun _ => T.2.2.2 5)] ++ [b_s cB cC cI cJ cZ oA rA u_15.2, b_c cB cC cI cJ cZ oA rA u_15.2, b_t cB cC cI cJ cZ oA rA u_15.2, b_d cB cC cI cJ cZ oA rA u_15.2]) (bs' := (b_HL cB cC cI cJ cZ cP oA rA ((mrg (fun j => j == 4 || j == 5 || j == 6 || j == 7) T.1 u_15.2, T.2) : TS) og om)) hP' (fl_a fl_23 fl_4) fl_H [0, 1, 2, 3, 4, 23, 24, 25, 26, 5, 6, 7, 8, 9, 10, 11, 12, 13, 14, 15, 16, 17, 18, 19, 20, 21, 22] rfl
        clear hP' hD'
        refine lv_iconst (v := (-1)) hx hb dX11_cell_33 (by decide +kernel) ?_
        refine lv_icmp_ne (tgt := 48) hx hb dX11_cell_34 (by decide) (fun c_19 => ?_) (fun c_19 => ?_)
        · have hF_21 := ineg c_19 hF_18
          clear hF_18
          refine lv_aload_n hx hb dX11_cell_48 rfl (lv_at hl 0 rfl) ?_
          obtain ⟨u_22, hu_22, hF_23⟩ := Option.bind_eq_some_iff.mp hF_21
          clear hF_21
          have hPc := bx_P (bs := (b_HL cB cC cI cJ cZ cP oA rA σ_17 og om)) (bs' := [b_h cB cC cI cJ cZ cP oA rA σ_17.1]) (ws' := (b_h cB cC cI cJ cZ cP oA rA σ_17.1)) hP fl_H fl_1 [0] rfl
          have hDc := bx_D (bs := (b_HL cB cC cI cJ cZ cP oA rA σ_17 og om)) (bs' := [b_h cB cC cI cJ cZ cP oA rA σ_17.1]) (ws' := (b_h cB cC cI cJ cZ cP oA rA σ_17.1)) (hDD σ_17) fl_H fl_1 [0] (by decide +kernel) rfl
          have hFc := bx_F (bs := (b_HL cB cC cI cJ cZ cP oA rA σ_17 og om)) (bs' := [b_h cB cC cI cJ cZ cP oA rA σ_17.1]) (wc := (b_h cB cC cI cJ cZ cP oA rA σ_17.1)) (hDD σ_17) hS hA fl_H fl_1 [0] rfl
          obtain ⟨σ_25, eσ_25, hF_26⟩ := bnd_e hF_23
          clear hF_23
          refine g_oxv (wc := (b_h cB cC cI cJ cZ cP oA rA σ_17.1)) (wr := (b_b cB cC cI cJ cZ oA rA σ_17.1 ++ b_ga cB cC cI cJ cZ oA rA σ_17.1 og ++ b_ma cB cC cI cJ cZ oA rA σ_17.1 om ++ b_w cB cC cI cJ cZ oA rA σ_17.1 ++ b_s cB cC cI cJ cZ oA rA σ_17.1 ++ b_c cB cC cI cJ cZ oA rA σ_17.1 ++ b_t cB cC cI cJ cZ oA rA σ_17.1 ++ b_d cB cC cI cJ cZ oA rA σ_17.1 ++ b_o cB cC cI cJ cZ oA rA σ_17.1 ++ b_p cB cC cI cJ cZ oA rA σ_17.1 ++ b_k cB cC cI cJ cZ oA rA σ_17.1 ++ b_e cB cC cI cJ cZ oA rA σ_17.1 ++ b_s cB cC cI cJ cZ (fun r => oA (dN r)) (fun r => rA (dN r)) σ_17.2.1 ++ b_c cB cC cI cJ cZ (fun r => oA (dN r)) (fun r => rA (dN r)) σ_17.2.1 ++ b_t cB cC cI cJ cZ (fun r => oA (dN r)) (fun r => rA (dN r)) σ_17.2.1 ++ b_d cB cC cI cJ cZ (fun r => oA (dN r)) (fun r => rA (dN r)) σ_17.2.1 ++ b_p cB cC cI cJ cZ (fun r => oA (pN 18 r)) (fun r => rA (pN 18 r)) (fun _ => σ_17.2.2.1 0) ++ b_p cB cC cI cJ cZ (fun r => oA (pN 19 r)) (fun r => rA (pN 19 r)) (fun _ => σ_17.2.2.1 1) ++ b_p cB cC cI cJ cZ (fun r => oA (pN 20 r)) (fun r => rA (pN 20 r)) (fun _ => σ_17.2.2.1 2) ++ b_p cB cC cI cJ cZ (fun r => oA (pN 21 r)) (fun r => rA (pN 21 r)) (fun _ => σ_17.2.2.1 3) ++ b_p cB cC cI cJ cZ (fun r => oA (pN 22 r)) (fun r => rA (pN 22 r)) (fun _ => σ_17.2.2.2 0) ++ b_p cB cC cI cJ cZ (fun r => oA (pN 23 r)) (fun r => rA (pN 23 r)) (fun _ => σ_17.2.2.2 1) ++ b_p cB cC cI cJ cZ (fun r => oA (pN 24 r)) (fun r => rA (pN 24 r)) (fun _ => σ_17.2.2.2 2) ++ b_p cB cC cI cJ cZ (fun r => oA (pN 25 r)) (fun r => rA (pN 25 r)) (fun _ => σ_17.2.2.2 3) ++ b_p cB cC cI cJ cZ (fun r => oA (pN 26 r)) (fun r => rA (pN 26 r)) (fun _ => σ_17.2.2.2 4) ++ b_p cB cC cI cJ cZ (fun r => oA (pN 27 r)) (fun r => rA (pN 27 r)) (fun _ => σ_17.2.2.2 5))) hP (hDD σ_17) hS hFc (bx_ix (b_HL cB cC cI cJ cZ cP oA rA σ_17 og om) [0]) (bx_ix (b_HL cB cC cI cJ cZ cP oA rA σ_17 og om) [1, 2, 3, 4, 5, 6, 7, 8, 9, 10, 11, 12, 13, 14, 15, 16, 17, 18, 19, 20, 21, 22, 23, 24, 25, 26]) (bx_C (bs := (b_HL cB cC cI cJ cZ cP oA rA σ_17 og om)) (bs' := [b_h cB cC cI cJ cZ cP oA rA σ_17.1]) (is := [0]) fl_H fl_1 rfl) (bx_C (bs := (b_HL cB cC cI cJ cZ cP oA rA σ_17 og om)) (bs' := [b_b cB cC cI cJ cZ oA rA σ_17.1, b_ga cB cC cI cJ cZ oA rA σ_17.1 og, b_ma cB cC cI cJ cZ oA rA σ_17.1 om, b_w cB cC cI cJ cZ oA rA σ_17.1, b_s cB cC cI cJ cZ oA rA σ_17.1, b_c cB cC cI cJ cZ oA rA σ_17.1, b_t cB cC cI cJ cZ oA rA σ_17.1, b_d cB cC cI cJ cZ oA rA σ_17.1, b_o cB cC cI cJ cZ oA rA σ_17.1, b_p cB cC cI cJ cZ oA rA σ_17.1, b_k cB cC cI cJ cZ oA rA σ_17.1, b_e cB cC cI cJ cZ oA rA σ_17.1, b_s cB cC cI cJ cZ (fun r => oA (dN r)) (fun r => rA (dN r)) σ_17.2.1, b_c cB cC cI cJ cZ (fun r => oA (dN r)) (fun r => rA (dN r)) σ_17.2.1, b_t cB cC cI cJ cZ (fun r => oA (dN r)) (fun r => rA (dN r)) σ_17.2.1, b_d cB cC cI cJ cZ (fun r => oA (dN r)) (fun r => rA (dN r)) σ_17.2.1, b_p cB cC cI cJ cZ (fun r => oA (pN 18 r)) (fun r => rA (pN 18 r)) (fun _ => σ_17.2.2.1 0), b_p cB cC cI cJ cZ (fun r => oA (pN 19 r)) (fun r => rA (pN 19 r)) (fun _ => σ_17.2.2.1 1), b_p cB cC cI cJ cZ (fun r => oA (pN 20 r)) (fun r => rA (pN 20 r)) (fun _ => σ_17.2.2.1 2), b_p cB cC cI cJ cZ (fun r => oA (pN 21 r)) (fun r => rA (pN 21 r)) (fun _ => σ_17.2.2.1 3), b_p cB cC cI cJ cZ (fun r => oA (pN 22 r)) (fun r => rA (pN 22 r)) (fun _ => σ_17.2.2.2 0), b_p cB cC cI cJ cZ (fun r => oA (pN 23 r)) (fun r => rA (pN 23 r)) (fun _ => σ_17.2.2.2 1), b_p cB cC cI cJ cZ (fun r => oA (pN 24 r)) (fun r => rA (pN 24 r)) (fun _ => σ_17.2.2.2 2), b_p cB cC cI cJ cZ (fun r => oA (pN 25 r)) (fun r => rA (pN 25 r)) (fun _ => σ_17.2.2.2 3), b_p cB cC cI cJ cZ (fun r => oA (pN 26 r)) (fun r => rA (pN 26 r)) (fun _ => σ_17.2.2.2 4), b_p cB cC cI cJ cZ (fun r => oA (pN 27 r)) (fun r => rA (pN 27 r)) (fun _ => σ_17.2.2.2 5)]) (is := [1, 2, 3, 4, 5, 6, 7, 8, 9, 10, 11, 12, 13, 14, 15, 16, 17, 18, 19, 20, 21, 22, 23, 24, 25, 26]) fl_H fl_26 rfl) (bx_n (by decide +kernel)) (bx_d (by decide +kernel)) (vx_runV (As := []) (rest := []) ⟨hx, hb, hml, hown, hts⟩ (h_X11_needPlay l dC dI cB cC cI cJ cZ cP oA rA hfl H.size σ_17 _ hu_22) (cwV 0 hts (g_gV wq_1043 wq_1044 wq_2070 wq_1 wq_1045) rfl rfl rfl (by decide +kernel) ⟨Nat.le_of_ble_eq_true rfl, Nat.le_of_ble_eq_true rfl⟩) (g_preV g_bl0 hK hPc hDc hS hE hFc g_to0 (q0 := 0) (ci := 11) rfl rfl) rfl rfl hl.1 rfl (lv_room (Nat.le_of_ble_eq_true rfl)) dX11_cell_49 ⟨Nat.le_of_ble_eq_true rfl, Nat.le_of_ble_eq_true rfl⟩) (fun E ce q9 H1 locs1 hXP hP1 hD1 hS1 hce hcv hcl => ?_) (fun u9 H locs hw9 hP' hD' hS => ?_)
          · have hF_27 := hif_n (XN_ne hXP) hF_26
            have h9 := Option.some.inj hF_27
            subst h9
            exact vx_out (fun x hx => (htab x hx).elim) hlocks hce hcv hcl (g_passed (ws := (b_H cB cC cI cJ cZ cP oA rA σ_25 og om)) (by rw [eσ_25]; exact bx_P (bs := [b_b cB cC cI cJ cZ oA rA σ_17.1, b_ga cB cC cI cJ cZ oA rA σ_17.1 og, b_ma cB cC cI cJ cZ oA rA σ_17.1 om, b_w cB cC cI cJ cZ oA rA σ_17.1, b_s cB cC cI cJ cZ oA rA σ_17.1, b_c cB cC cI cJ cZ oA rA σ_17.1, b_t cB cC cI cJ cZ oA rA σ_17.1, b_d cB cC cI cJ cZ oA rA σ_17.1, b_o cB cC cI cJ cZ oA rA σ_17.1, b_p cB cC cI cJ cZ oA rA σ_17.1, b_k cB cC cI cJ cZ oA rA σ_17.1, b_e cB cC cI cJ cZ oA rA σ_17.1, b_s cB cC cI cJ cZ (fun r => oA (dN r)) (fun r => rA (dN r)) σ_17.2.1, b_c cB cC cI cJ cZ (fun r => oA (dN r)) (fun r => rA (dN r)) σ_17.2.1, b_t cB cC cI cJ cZ (fun r => oA (dN r)) (fun r => rA (dN r)) σ_17.2.1, b_d cB cC cI cJ cZ (fun r => oA (dN r)) (fun r => rA (dN r)) σ_17.2.1, b_p cB cC cI cJ cZ (fun r => oA (pN 18 r)) (fun r => rA (pN 18 r)) (fun _ => σ_17.2.2.1 0), b_p cB cC cI cJ cZ (fun r => oA (pN 19 r)) (fun r => rA (pN 19 r)) (fun _ => σ_17.2.2.1 1), b_p cB cC cI cJ cZ (fun r => oA (pN 20 r)) (fun r => rA (pN 20 r)) (fun _ => σ_17.2.2.1 2), b_p cB cC cI cJ cZ (fun r => oA (pN 21 r)) (fun r => rA (pN 21 r)) (fun _ => σ_17.2.2.1 3), b_p cB cC cI cJ cZ (fun r => oA (pN 22 r)) (fun r => rA (pN 22 r)) (fun _ => σ_17.2.2.2 0), b_p cB cC cI cJ cZ (fun r => oA (pN 23 r)) (fun r => rA (pN 23 r)) (fun _ => σ_17.2.2.2 1), b_p cB cC cI cJ cZ (fun r => oA (pN 24 r)) (fun r => rA (pN 24 r)) (fun _ => σ_17.2.2.2 2), b_p cB cC cI cJ cZ (fun r => oA (pN 25 r)) (fun r => rA (pN 25 r)) (fun _ => σ_17.2.2.2 3), b_p cB cC cI cJ cZ (fun r => oA (pN 26 r)) (fun r => rA (pN 26 r)) (fun _ => σ_17.2.2.2 4), b_p cB cC cI cJ cZ (fun r => oA (pN 27 r)) (fun r => rA (pN 27 r)) (fun _ => σ_17.2.2.2 5)] ++ [b_h cB cC cI cJ cZ cP oA rA u_22.2.1]) (bs' := (b_HL cB cC cI cJ cZ cP oA rA ((mrg (fun j => j == 0) σ_17.1 u_22.2.1, σ_17.2) : TS) og om)) hP1 (fl_a fl_26 fl_1) fl_H [26, 0, 1, 2, 3, 4, 5, 6, 7, 8, 9, 10, 11, 12, 13, 14, 15, 16, 17, 18, 19, 20, 21, 22, 23, 24, 25] rfl) (hDD _) hS1 hXP) hS1.2.2 (Nat.le_of_ble_eq_true rfl) (Nat.le_of_ble_eq_true rfl)
          have hF_28 := hif_p hw9 hF_26
          clear hF_26
          have hP : va_P (dC, dI) vwCl (b_H cB cC cI cJ cZ cP oA rA σ_25 og om) H := by rw [eσ_25]; exact bx_P (bs := [b_b cB cC cI cJ cZ oA rA σ_17.1, b_ga cB cC cI cJ cZ oA rA σ_17.1 og, b_ma cB cC cI cJ cZ oA rA σ_17.1 om, b_w cB cC cI cJ cZ oA rA σ_17.1, b_s cB cC cI cJ cZ oA rA σ_17.1, b_c cB cC cI cJ cZ oA rA σ_17.1, b_t cB cC cI cJ cZ oA rA σ_17.1, b_d cB cC cI cJ cZ oA rA σ_17.1, b_o cB cC cI cJ cZ oA rA σ_17.1, b_p cB cC cI cJ cZ oA rA σ_17.1, b_k cB cC cI cJ cZ oA rA σ_17.1, b_e cB cC cI cJ cZ oA rA σ_17.1, b_s cB cC cI cJ cZ (fun r => oA (dN r)) (fun r => rA (dN r)) σ_17.2.1, b_c cB cC cI cJ cZ (fun r => oA (dN r)) (fun r => rA (dN r)) σ_17.2.1, b_t cB cC cI cJ cZ (fun r => oA (dN r)) (fun r => rA (dN r)) σ_17.2.1, b_d cB cC cI cJ cZ (fun r => oA (dN r)) (fun r => rA (dN r)) σ_17.2.1, b_p cB cC cI cJ cZ (fun r => oA (pN 18 r)) (fun r => rA (pN 18 r)) (fun _ => σ_17.2.2.1 0), b_p cB cC cI cJ cZ (fun r => oA (pN 19 r)) (fun r => rA (pN 19 r)) (fun _ => σ_17.2.2.1 1), b_p cB cC cI cJ cZ (fun r => oA (pN 20 r)) (fun r => rA (pN 20 r)) (fun _ => σ_17.2.2.1 2), b_p cB cC cI cJ cZ (fun r => oA (pN 21 r)) (fun r => rA (pN 21 r)) (fun _ => σ_17.2.2.1 3), b_p cB cC cI cJ cZ (fun r => oA (pN 22 r)) (fun r => rA (pN 22 r)) (fun _ => σ_17.2.2.2 0), b_p cB cC cI cJ cZ (fun r => oA (pN 23 r)) (fun r => rA (pN 23 r)) (fun _ => σ_17.2.2.2 1), b_p cB cC cI cJ cZ (fun r => oA (pN 24 r)) (fun r => rA (pN 24 r)) (fun _ => σ_17.2.2.2 2), b_p cB cC cI cJ cZ (fun r => oA (pN 25 r)) (fun r => rA (pN 25 r)) (fun _ => σ_17.2.2.2 3), b_p cB cC cI cJ cZ (fun r => oA (pN 26 r)) (fun r => rA (pN 26 r)) (fun _ => σ_17.2.2.2 4), b_p cB cC cI cJ cZ (fun r => oA (pN 27 r)) (fun r => rA (pN 27 r)) (fun _ => σ_17.2.2.2 5)] ++ [b_h cB cC cI cJ cZ cP oA rA u_22.2.1]) (bs' := (b_HL cB cC cI cJ cZ cP oA rA ((mrg (fun j => j == 0) σ_17.1 u_22.2.1, σ_17.2) : TS) og om)) hP' (fl_a fl_26 fl_1) fl_H [26, 0, 1, 2, 3, 4, 5, 6, 7, 8, 9, 10, 11, 12, 13, 14, 15, 16, 17, 18, 19, 20, 21, 22, 23, 24, 25] rfl
          clear hP' hD' hPc hDc hFc
          refine W.widen (k := 1) (n := 6) (Nat.le_of_ble_eq_true rfl) (Nat.le_of_ble_eq_true rfl) ?_
          refine lv_aload_n hx hb dX11_cell_52 rfl (lv_at hl 0 rfl) ?_
          refine va_get (D := (dC, dI)) (ci := 11) (v := .ref (oA 9)) (C := RX11) (T := TX11) (N := 19) hx hb hts ii_X11 hown hK hP 0 rfl rfl 11 (by decide) (hts (.fieldLink RX11 60 "StoryHouse" "play" "LStoryHouse$Play;") wq_314) (fun _ h9 => h9) rfl dX11_cell_53 ?_
          refine va_get (D := (dC, dI)) (ci := 6) (v := .ref (rA 9 5)) (C := RX6) (T := TX6) (N := 12) hx hb hts ii_X6 hown hK hP 55 rfl rfl 5 (by decide) (hts (.fieldLink RX11 269 "StoryHouse$Play" "cells" "[I") wq_235) (fun _ h9 => h9) rfl dX11_cell_56 ?_
          refine lv_aload_n hx hb dX11_cell_59 rfl (lv_at hl 0 rfl) ?_
          refine va_get (D := (dC, dI)) (ci := 11) (v := .ref (oA 4)) (C := RX11) (T := TX11) (N := 19) hx hb hts ii_X11 hown hK hP 0 rfl rfl 5 (by decide) (hts (.fieldLink RX11 39 "StoryHouse" "story" "LStoryHouse$Story;") wq_308) (fun _ h9 => h9) rfl dX11_cell_60 ?_
          refine lv_iload_n hx hb dX11_cell_63 rfl (lv_at hl 1 rfl) ?_
          refine lv_iload_n hx hb dX11_cell_64 rfl (lv_at hl 2 rfl) ?_
          obtain ⟨u_29, hu_29, hF_30⟩ := Option.bind_eq_some_iff.mp hF_28
          clear hF_28
          have hPc := bx_P (bs := (b_HL cB cC cI cJ cZ cP oA rA σ_25 og om)) (bs' := [b_s cB cC cI cJ cZ oA rA σ_25.1, b_c cB cC cI cJ cZ oA rA σ_25.1, b_t cB cC cI cJ cZ oA rA σ_25.1, b_d cB cC cI cJ cZ oA rA σ_25.1]) (ws' := (b_s cB cC cI cJ cZ oA rA σ_25.1 ++ b_c cB cC cI cJ cZ oA rA σ_25.1 ++ b_t cB cC cI cJ cZ oA rA σ_25.1 ++ b_d cB cC cI cJ cZ oA rA σ_25.1)) hP fl_H fl_4 [5, 6, 7, 8] rfl
          have hDc := bx_D (bs := (b_HL cB cC cI cJ cZ cP oA rA σ_25 og om)) (bs' := [b_s cB cC cI cJ cZ oA rA σ_25.1, b_c cB cC cI cJ cZ oA rA σ_25.1, b_t cB cC cI cJ cZ oA rA σ_25.1, b_d cB cC cI cJ cZ oA rA σ_25.1]) (ws' := (b_s cB cC cI cJ cZ oA rA σ_25.1 ++ b_c cB cC cI cJ cZ oA rA σ_25.1 ++ b_t cB cC cI cJ cZ oA rA σ_25.1 ++ b_d cB cC cI cJ cZ oA rA σ_25.1)) (hDD σ_25) fl_H fl_4 [5, 6, 7, 8] (by decide +kernel) rfl
          have hFc := bx_F (bs := (b_HL cB cC cI cJ cZ cP oA rA σ_25 og om)) (bs' := [b_s cB cC cI cJ cZ oA rA σ_25.1, b_c cB cC cI cJ cZ oA rA σ_25.1, b_t cB cC cI cJ cZ oA rA σ_25.1, b_d cB cC cI cJ cZ oA rA σ_25.1]) (wc := (b_s cB cC cI cJ cZ oA rA σ_25.1 ++ b_c cB cC cI cJ cZ oA rA σ_25.1 ++ b_t cB cC cI cJ cZ oA rA σ_25.1 ++ b_d cB cC cI cJ cZ oA rA σ_25.1)) (hDD σ_25) hS hA fl_H fl_4 [5, 6, 7, 8] rfl
          refine g_ofi (wc := (b_s cB cC cI cJ cZ oA rA σ_25.1 ++ b_c cB cC cI cJ cZ oA rA σ_25.1 ++ b_t cB cC cI cJ cZ oA rA σ_25.1 ++ b_d cB cC cI cJ cZ oA rA σ_25.1)) (wr := (b_h cB cC cI cJ cZ cP oA rA σ_25.1 ++ b_b cB cC cI cJ cZ oA rA σ_25.1 ++ b_ga cB cC cI cJ cZ oA rA σ_25.1 og ++ b_ma cB cC cI cJ cZ oA rA σ_25.1 om ++ b_w cB cC cI cJ cZ oA rA σ_25.1 ++ b_o cB cC cI cJ cZ oA rA σ_25.1 ++ b_p cB cC cI cJ cZ oA rA σ_25.1 ++ b_k cB cC cI cJ cZ oA rA σ_25.1 ++ b_e cB cC cI cJ cZ oA rA σ_25.1 ++ b_s cB cC cI cJ cZ (fun r => oA (dN r)) (fun r => rA (dN r)) σ_25.2.1 ++ b_c cB cC cI cJ cZ (fun r => oA (dN r)) (fun r => rA (dN r)) σ_25.2.1 ++ b_t cB cC cI cJ cZ (fun r => oA (dN r)) (fun r => rA (dN r)) σ_25.2.1 ++ b_d cB cC cI cJ cZ (fun r => oA (dN r)) (fun r => rA (dN r)) σ_25.2.1 ++ b_p cB cC cI cJ cZ (fun r => oA (pN 18 r)) (fun r => rA (pN 18 r)) (fun _ => σ_25.2.2.1 0) ++ b_p cB cC cI cJ cZ (fun r => oA (pN 19 r)) (fun r => rA (pN 19 r)) (fun _ => σ_25.2.2.1 1) ++ b_p cB cC cI cJ cZ (fun r => oA (pN 20 r)) (fun r => rA (pN 20 r)) (fun _ => σ_25.2.2.1 2) ++ b_p cB cC cI cJ cZ (fun r => oA (pN 21 r)) (fun r => rA (pN 21 r)) (fun _ => σ_25.2.2.1 3) ++ b_p cB cC cI cJ cZ (fun r => oA (pN 22 r)) (fun r => rA (pN 22 r)) (fun _ => σ_25.2.2.2 0) ++ b_p cB cC cI cJ cZ (fun r => oA (pN 23 r)) (fun r => rA (pN 23 r)) (fun _ => σ_25.2.2.2 1) ++ b_p cB cC cI cJ cZ (fun r => oA (pN 24 r)) (fun r => rA (pN 24 r)) (fun _ => σ_25.2.2.2 2) ++ b_p cB cC cI cJ cZ (fun r => oA (pN 25 r)) (fun r => rA (pN 25 r)) (fun _ => σ_25.2.2.2 3) ++ b_p cB cC cI cJ cZ (fun r => oA (pN 26 r)) (fun r => rA (pN 26 r)) (fun _ => σ_25.2.2.2 4) ++ b_p cB cC cI cJ cZ (fun r => oA (pN 27 r)) (fun r => rA (pN 27 r)) (fun _ => σ_25.2.2.2 5))) hP (hDD σ_25) hS hFc (bx_ix (b_HL cB cC cI cJ cZ cP oA rA σ_25 og om) [5, 6, 7, 8]) (bx_ix (b_HL cB cC cI cJ cZ cP oA rA σ_25 og om) [0, 1, 2, 3, 4, 9, 10, 11, 12, 13, 14, 15, 16, 17, 18, 19, 20, 21, 22, 23, 24, 25, 26]) (bx_C (bs := (b_HL cB cC cI cJ cZ cP oA rA σ_25 og om)) (bs' := [b_s cB cC cI cJ cZ oA rA σ_25.1, b_c cB cC cI cJ cZ oA rA σ_25.1, b_t cB cC cI cJ cZ oA rA σ_25.1, b_d cB cC cI cJ cZ oA rA σ_25.1]) (is := [5, 6, 7, 8]) fl_H fl_4 rfl) (bx_C (bs := (b_HL cB cC cI cJ cZ cP oA rA σ_25 og om)) (bs' := [b_h cB cC cI cJ cZ cP oA rA σ_25.1, b_b cB cC cI cJ cZ oA rA σ_25.1, b_ga cB cC cI cJ cZ oA rA σ_25.1 og, b_ma cB cC cI cJ cZ oA rA σ_25.1 om, b_w cB cC cI cJ cZ oA rA σ_25.1, b_o cB cC cI cJ cZ oA rA σ_25.1, b_p cB cC cI cJ cZ oA rA σ_25.1, b_k cB cC cI cJ cZ oA rA σ_25.1, b_e cB cC cI cJ cZ oA rA σ_25.1, b_s cB cC cI cJ cZ (fun r => oA (dN r)) (fun r => rA (dN r)) σ_25.2.1, b_c cB cC cI cJ cZ (fun r => oA (dN r)) (fun r => rA (dN r)) σ_25.2.1, b_t cB cC cI cJ cZ (fun r => oA (dN r)) (fun r => rA (dN r)) σ_25.2.1, b_d cB cC cI cJ cZ (fun r => oA (dN r)) (fun r => rA (dN r)) σ_25.2.1, b_p cB cC cI cJ cZ (fun r => oA (pN 18 r)) (fun r => rA (pN 18 r)) (fun _ => σ_25.2.2.1 0), b_p cB cC cI cJ cZ (fun r => oA (pN 19 r)) (fun r => rA (pN 19 r)) (fun _ => σ_25.2.2.1 1), b_p cB cC cI cJ cZ (fun r => oA (pN 20 r)) (fun r => rA (pN 20 r)) (fun _ => σ_25.2.2.1 2), b_p cB cC cI cJ cZ (fun r => oA (pN 21 r)) (fun r => rA (pN 21 r)) (fun _ => σ_25.2.2.1 3), b_p cB cC cI cJ cZ (fun r => oA (pN 22 r)) (fun r => rA (pN 22 r)) (fun _ => σ_25.2.2.2 0), b_p cB cC cI cJ cZ (fun r => oA (pN 23 r)) (fun r => rA (pN 23 r)) (fun _ => σ_25.2.2.2 1), b_p cB cC cI cJ cZ (fun r => oA (pN 24 r)) (fun r => rA (pN 24 r)) (fun _ => σ_25.2.2.2 2), b_p cB cC cI cJ cZ (fun r => oA (pN 25 r)) (fun r => rA (pN 25 r)) (fun _ => σ_25.2.2.2 3), b_p cB cC cI cJ cZ (fun r => oA (pN 26 r)) (fun r => rA (pN 26 r)) (fun _ => σ_25.2.2.2 4), b_p cB cC cI cJ cZ (fun r => oA (pN 27 r)) (fun r => rA (pN 27 r)) (fun _ => σ_25.2.2.2 5)]) (is := [0, 1, 2, 3, 4, 9, 10, 11, 12, 13, 14, 15, 16, 17, 18, 19, 20, 21, 22, 23, 24, 25, 26]) fl_H fl_23 rfl) (bx_n (by decide +kernel)) (bx_d (by decide +kernel)) (va_runV (As := [.int p0, .int p1]) (rest := [.ref (rA 9 5)]) ⟨hx, hb, hml, hown, hts⟩ (k_X7_cellOf l dC dI cB cC cI cJ cZ cP oA rA H.size p0 p1 σ_25.1 _ hu_29) (cwV 2 hts (g_gV wq_1339 wq_1151 wq_1152 wq_5 wq_1153) rfl rfl rfl (by decide +kernel) ⟨Nat.le_of_ble_eq_true rfl, Nat.le_of_ble_eq_true rfl⟩) (g_preV g_bl0 hK hPc hDc hS hE hFc g_to0 (q0 := 0) (ci := 7) rfl rfl) rfl rfl hl.1 rfl (lv_room (Nat.le_of_ble_eq_true rfl)) dX11_cell_65 ⟨Nat.le_of_ble_eq_true rfl, Nat.le_of_ble_eq_true rfl⟩) (fun r9 u9 H locs hw9 hP' hD' hS => ?_)
          clear hPc hDc hFc
          subst hw9
          obtain ⟨σ_31, eσ_31, hF_32⟩ := bnd_e hF_30
          clear hF_30
          have hP : va_P (dC, dI) vwCl (b_H cB cC cI cJ cZ cP oA rA σ_31 og om) H := by rw [eσ_31]; exact bx_P (bs := [b_h cB cC cI cJ cZ cP oA rA σ_25.1, b_b cB cC cI cJ cZ oA rA σ_25.1, b_ga cB cC cI cJ cZ oA rA σ_25.1 og, b_ma cB cC cI cJ cZ oA rA σ_25.1 om, b_w cB cC cI cJ cZ oA rA σ_25.1, b_o cB cC cI cJ cZ oA rA σ_25.1, b_p cB cC cI cJ cZ oA rA σ_25.1, b_k cB cC cI cJ cZ oA rA σ_25.1, b_e cB cC cI cJ cZ oA rA σ_25.1, b_s cB cC cI cJ cZ (fun r => oA (dN r)) (fun r => rA (dN r)) σ_25.2.1, b_c cB cC cI cJ cZ (fun r => oA (dN r)) (fun r => rA (dN r)) σ_25.2.1, b_t cB cC cI cJ cZ (fun r => oA (dN r)) (fun r => rA (dN r)) σ_25.2.1, b_d cB cC cI cJ cZ (fun r => oA (dN r)) (fun r => rA (dN r)) σ_25.2.1, b_p cB cC cI cJ cZ (fun r => oA (pN 18 r)) (fun r => rA (pN 18 r)) (fun _ => σ_25.2.2.1 0), b_p cB cC cI cJ cZ (fun r => oA (pN 19 r)) (fun r => rA (pN 19 r)) (fun _ => σ_25.2.2.1 1), b_p cB cC cI cJ cZ (fun r => oA (pN 20 r)) (fun r => rA (pN 20 r)) (fun _ => σ_25.2.2.1 2), b_p cB cC cI cJ cZ (fun r => oA (pN 21 r)) (fun r => rA (pN 21 r)) (fun _ => σ_25.2.2.1 3), b_p cB cC cI cJ cZ (fun r => oA (pN 22 r)) (fun r => rA (pN 22 r)) (fun _ => σ_25.2.2.2 0), b_p cB cC cI cJ cZ (fun r => oA (pN 23 r)) (fun r => rA (pN 23 r)) (fun _ => σ_25.2.2.2 1), b_p cB cC cI cJ cZ (fun r => oA (pN 24 r)) (fun r => rA (pN 24 r)) (fun _ => σ_25.2.2.2 2), b_p cB cC cI cJ cZ (fun r => oA (pN 25 r)) (fun r => rA (pN 25 r)) (fun _ => σ_25.2.2.2 3), b_p cB cC cI cJ cZ (fun r => oA (pN 26 r)) (fun r => rA (pN 26 r)) (fun _ => σ_25.2.2.2 4), b_p cB cC cI cJ cZ (fun r => oA (pN 27 r)) (fun r => rA (pN 27 r)) (fun _ => σ_25.2.2.2 5)] ++ [b_s cB cC cI cJ cZ oA rA u_29.2, b_c cB cC cI cJ cZ oA rA u_29.2, b_t cB cC cI cJ cZ oA rA u_29.2, b_d cB cC cI cJ cZ oA rA u_29.2]) (bs' := (b_HL cB cC cI cJ cZ cP oA rA ((mrg (fun j => j == 4 || j == 5 || j == 6 || j == 7) σ_25.1 u_29.2, σ_25.2) : TS) og om)) hP' (fl_a fl_23 fl_4) fl_H [0, 1, 2, 3, 4, 23, 24, 25, 26, 5, 6, 7, 8, 9, 10, 11, 12, 13, 14, 15, 16, 17, 18, 19, 20, 21, 22] rfl
          clear hP' hD'
          refine W.widen (k := 1) (n := 6) (Nat.le_of_ble_eq_true rfl) (Nat.le_of_ble_eq_true rfl) ?_
          have hq9 : ((b_H cB cC cI cJ cZ cP oA rA σ_31 og om))[61]? = some (rA 9 5, .inl (cI, 1000, .inl ((σ_31.1 9).2.1 5))) := rfl
          have hPc := hP.sub (ws' := [(rA 9 5, .inl (cI, 1000, .inl ((σ_31.1 9).2.1 5)))]) [61] (pk_fm (er_C hq9))
          have hDc := (hDD σ_31).sub (ws' := [(rA 9 5, .inl (cI, 1000, .inl ((σ_31.1 9).2.1 5)))]) [61] (by decide +kernel) (er_C hq9)
          have hFc := va_free (wc := [(rA 9 5, .inl (cI, 1000, .inl ((σ_31.1 9).2.1 5)))]) (hDD σ_31) hS hA [61] (er_C hq9)
          refine g_ofi (wc := [(rA 9 5, .inl (cI, 1000, .inl ((σ_31.1 9).2.1 5)))]) (wr := (((b_H cB cC cI cJ cZ cP oA rA σ_31 og om)).eraseIdx 61)) hP (hDD σ_31) hS hFc [61] ((List.range ((b_H cB cC cI cJ cZ cP oA rA σ_31 og om)).length).eraseIdx 61) (er_C hq9) er_R er_n er_d (va_runS (As := [.ref (rA 9 5), .int u_29.1]) (rest := []) ⟨hx, hb, hml, hown, hts⟩ (c_X11_at l dC dI cB cC cI cJ cZ cP H.size (rA 9 5) u_29.1 1000 ((σ_31.1 9).2.1 5) (by decide)) (va_cwS 2 hts (g_gS wq_1309 wq_406 wq_1 wq_407) rfl rfl rfl (by decide +kernel) ⟨Nat.le_of_ble_eq_true rfl, Nat.le_of_ble_eq_true rfl⟩) (g_preS g_bl0 hK hPc hDc hS hE hFc g_to0) rfl rfl hl.1 rfl (lv_room (Nat.le_of_ble_eq_true rfl)) dX11_cell_68 ⟨Nat.le_of_ble_eq_true rfl, Nat.le_of_ble_eq_true rfl⟩) (fun r9 u9 H locs hw9 hP' hD' hS => ?_)
          clear hPc hDc hFc hD'
          have hP : va_P (dC, dI) vwCl (b_H cB cC cI cJ cZ cP oA rA σ_31 og om) H := er_I hP' hq9
          clear hP' hq9
          subst hw9
          obtain ⟨x_33, ex_33, hF_34⟩ := bnd_e hF_32
          clear hF_32
          refine m_top ex_33 ?_
          refine W.widen (k := 1) (n := 6) (Nat.le_of_ble_eq_true rfl) (Nat.le_of_ble_eq_true rfl) ?_
          have h9 := Option.some.inj hF_34
          subst h9
          refine W.widen (k := 1) (n := 6) (Nat.le_of_ble_eq_true rfl) (Nat.le_of_ble_eq_true rfl) ?_
          refine vx_ret ?_
          exact W.iret (v := x_33) hx hb hr (fun t ht hW => ⟨⟨x_33, (), rfl, ⟨rfl, rfl⟩, m_end ht hP, hDD _⟩, hS.F ht⟩) hS.2.2 dX11_cell_71
        · have hF_20 := ipos c_19 hF_18
          clear hF_18
          exact Jj_2  σ_17 hF_20 _ _ hP hS ls (lv_sub hl [] rfl)

theorem dX11_told_0 : decode cX11_told 0 = .ok (.iload_n 1, 1) := by decide +kernel
theorem dX11_told_1 : decode cX11_told 1 = .ok (.ifCond .lt 9, 3) := by decide +kernel
theorem dX11_told_4 : decode cX11_told 4 = .ok (.iload_n 1, 1) := by decide +kernel
theorem dX11_told_5 : decode cX11_told 5 = .ok (.bipush 11, 2) := by decide +kernel
theorem dX11_told_7 : decode cX11_told 7 = .ok (.if_icmp .le 14, 3) := by decide +kernel
theorem dX11_told_10 : decode cX11_told 10 = .ok (.new 95, 3) := by decide +kernel
theorem dX11_told_13 : decode cX11_told 13 = .ok (.dup, 1) := by decide +kernel
theorem dX11_told_14 : decode cX11_told 14 = .ok (.ldc_w 272, 3) := by decide +kernel
theorem dX11_told_17 : decode cX11_told 17 = .ok (.invokespecial 99, 3) := by decide +kernel
theorem dX11_told_20 : decode cX11_told 20 = .ok (.athrow, 1) := by decide +kernel
theorem dX11_told_21 : decode cX11_told 21 = .ok (.aload_n 0, 1) := by decide +kernel
theorem dX11_told_22 : decode cX11_told 22 = .ok (.getfield 162, 3) := by decide +kernel
theorem dX11_told_25 : decode cX11_told 25 = .ok (.ifCond .ne 5, 3) := by decide +kernel
theorem dX11_told_28 : decode cX11_told 28 = .ok (.iconst 0, 1) := by decide +kernel
theorem dX11_told_29 : decode cX11_told 29 = .ok (.ireturn, 1) := by decide +kernel
theorem dX11_told_30 : decode cX11_told 30 = .ok (.iload_n 1, 1) := by decide +kernel
theorem dX11_told_31 : decode cX11_told 31 = .ok (.bipush 7, 2) := by decide +kernel
theorem dX11_told_33 : decode cX11_told 33 = .ok (.if_icmp .ge 15, 3) := by decide +kernel
theorem dX11_told_36 : decode cX11_told 36 = .ok (.aload_n 0, 1) := by decide +kernel
theorem dX11_told_37 : decode cX11_told 37 = .ok (.getfield 39, 3) := by decide +kernel
theorem dX11_told_40 : decode cX11_told 40 = .ok (.getfield 158, 3) := by decide +kernel
theorem dX11_told_43 : decode cX11_told 43 = .ok (.iload_n 1, 1) := by decide +kernel
theorem dX11_told_44 : decode cX11_told 44 = .ok (.invokestatic 243, 3) := by decide +kernel
theorem dX11_told_47 : decode cX11_told 47 = .ok (.ireturn, 1) := by decide +kernel
theorem dX11_told_48 : decode cX11_told 48 = .ok (.aload_n 0, 1) := by decide +kernel
theorem dX11_told_49 : decode cX11_told 49 = .ok (.getfield 178, 3) := by decide +kernel
theorem dX11_told_52 : decode cX11_told 52 = .ok (.ifCond .ne 5, 3) := by decide +kernel
theorem dX11_told_55 : decode cX11_told 55 = .ok (.iconst 0, 1) := by decide +kernel
theorem dX11_told_56 : decode cX11_told 56 = .ok (.ireturn, 1) := by decide +kernel
theorem dX11_told_57 : decode cX11_told 57 = .ok (.iload_n 1, 1) := by decide +kernel
theorem dX11_told_58 : decode cX11_told 58 = .ok (.tableswitch 59 7 10 #[30, 38, 46, 54], 30) := by decide +kernel
theorem dX11_told_88 : decode cX11_told 88 = .ok (.aload_n 0, 1) := by decide +kernel
theorem dX11_told_89 : decode cX11_told 89 = .ok (.getfield 60, 3) := by decide +kernel
theorem dX11_told_92 : decode cX11_told 92 = .ok (.getfield 274, 3) := by decide +kernel
theorem dX11_told_95 : decode cX11_told 95 = .ok (.ireturn, 1) := by decide +kernel
theorem dX11_told_96 : decode cX11_told 96 = .ok (.aload_n 0, 1) := by decide +kernel
theorem dX11_told_97 : decode cX11_told 97 = .ok (.getfield 60, 3) := by decide +kernel
theorem dX11_told_100 : decode cX11_told 100 = .ok (.getfield 195, 3) := by decide +kernel
theorem dX11_told_103 : decode cX11_told 103 = .ok (.ireturn, 1) := by decide +kernel
theorem dX11_told_104 : decode cX11_told 104 = .ok (.aload_n 0, 1) := by decide +kernel
theorem dX11_told_105 : decode cX11_told 105 = .ok (.getfield 60, 3) := by decide +kernel
theorem dX11_told_108 : decode cX11_told 108 = .ok (.getfield 277, 3) := by decide +kernel
theorem dX11_told_111 : decode cX11_told 111 = .ok (.ireturn, 1) := by decide +kernel
theorem dX11_told_112 : decode cX11_told 112 = .ok (.aload_n 0, 1) := by decide +kernel
theorem dX11_told_113 : decode cX11_told 113 = .ok (.getfield 171, 3) := by decide +kernel
theorem dX11_told_116 : decode cX11_told 116 = .ok (.ireturn, 1) := by decide +kernel
theorem dX11_told_117 : decode cX11_told 117 = .ok (.aload_n 0, 1) := by decide +kernel
theorem dX11_told_118 : decode cX11_told 118 = .ok (.getfield 60, 3) := by decide +kernel
theorem dX11_told_121 : decode cX11_told 121 = .ok (.getfield 280, 3) := by decide +kernel
theorem dX11_told_124 : decode cX11_told 124 = .ok (.ireturn, 1) := by decide +kernel
def F_X11_told (p0 : Int32) (T : TS) : HA :=
  bnd (fun  (σ_1 : TS) => (
    some ((1, 0), σ_1)
  ) : TS → HA) fun j_2 =>
  if p0 < 0 then (
    j_2  T
  ) else (
    if p0 ≤ 11 then (
      if ((T.1 0).1 7) = 0 then (
        some ((0, 0), T)
      ) else (
        if 7 ≤ p0 then (
          if ((T.1 0).1 8) = 0 then (
            some ((0, 0), T)
          ) else (
            if p0 = 7 then (
              some ((0, ((T.1 9).1 9)), T)
            ) else
            if p0 = 8 then (
              some ((0, ((T.1 9).1 10)), T)
            ) else
            if p0 = 9 then (
              some ((0, ((T.1 9).1 11)), T)
            ) else
            if p0 = 10 then (
              some ((0, ((T.1 0).1 18)), T)
            ) else
            (
              some ((0, ((T.1 9).1 8)), T)
            )
          )
        ) else (
          bnd ((g_at 7 ((T.1 4).2.1 0) p0)) fun (x_32 : Int32) =>
          some ((0, x_32), T)
        )
      )
    ) else (
      j_2  T
    )
  )
set_option maxHeartbeats 8000000 in
set_option maxRecDepth 100000 in
theorem h_X11_told (l : Launch) (dC : Nat → ClassId) (dI : Nat → Nat → Nat) (cB cC cI cJ cZ cP : ClassId) (oA : Nat → Nat) (rA : Nat → Nat → Nat) (hfl : l.stackTraces = false) (og om : Option Nat) (sz : Nat) (p0 : Int32) (T : TS) (res : (Int32 × Int32) × TS) (hF : F_X11_told p0 T = some res) : vx_Met l yX11_told (g_ws yX11_told cX11_told 2 (some .int)) ({ frames := 6, cells := 1, slots := 6, locals := 90 }) (va_Pc [.ref (oA 0), .int p0] (g_B (dC, dI) [(cB, .byte), (cC, .char), (cI, .int), (cJ, .long), (cZ, .boolean), (cP, .object "StoryHouse$Play")] sz (b_H cB cC cI cJ cZ cP oA rA T og om) g_0)) (va_Qi (fun r (_ : Unit) => res.1.1 = 0 ∧ r = res.1.2) (g_Bo (dC, dI) (va_A (b_H cB cC cI cJ cZ cP oA rA T og om) sz) (fun (_ : Unit) => (b_H cB cC cI cJ cZ cP oA rA res.2 og om))) (va_A (b_H cB cC cI cJ cZ cP oA rA T og om) sz)) (g_X (dC, dI) (va_A (b_H cB cC cI cJ cZ cP oA rA T og om) sz) (b_H cB cC cI cJ cZ cP oA rA res.2 og om) (fun E : String => XN res.1.1 E)) 1 6 (va_A (b_H cB cC cI cJ cZ cP oA rA T og om) sz) := by
  refine vx_ofW (cc := cX11_told) (maxL := 2) (ret := (some .int)) (by decide) rfl ?_
  intro p e s m args below meth c s₁ B hml htab hv
  obtain ⟨rfl, hsz, hP, hK, hD0, hE, hX⟩ := hv
  have hx := B.exec
  have hb := B.bytes
  have hr := B.returns
  have hts0 := atoms_spec (ws := g_ws yX11_told cX11_told 2 (some .int)) B.pre
  have hts : ∀ w ∈ lw_good, w.before ([.ref (oA 0), .int p0] : List Value).toArray s = true := fun w z => hts0 w (List.mem_cons_of_mem _ z)
  have hown : s.vm.findClass RX11 = some m.cls := findClass_of_methodNamed B.named
  have hlocks := B.notSynchronized
  subst hsz
  have hD1 := hD0.self (sz := s.heap.size)
  generalize hAe : va_A (b_H cB cC cI cJ cZ cP oA rA T og om) s.heap.size = A at hD1 hE hX ⊢
  have hA : ∀ q : Nat, s.heap.size ≤ q → A q := fun q z => by rw [← hAe]; exact Or.inr z
  have hDD : ∀ T : TS, va_D A (b_H cB cC cI cJ cZ cP oA rA T og om) := fun T9 => va_D_fst bH_fst hD1
  have hN := hE.1
  have hS : va_S A s.heap s.heap [] := va_S.rf
  have hl := lv_entry ([.ref (oA 0), .int p0]) (n := 2) (Nat.le_of_ble_eq_true rfl)
  rw [lg_entry_eq]
  generalize (lg_sl ([.ref (oA 0), .int p0]) ++ List.replicate (2 - (lg_sl ([.ref (oA 0), .int p0])).length) Slot.unset).toArray = ls at hl ⊢
  have hl : lv_has ls 2 [(0, .ref (oA 0)), (1, .int p0)] := hl
  unfold F_X11_told at hF
  refine lv_iload_n hx hb dX11_told_0 rfl (lv_at hl 1 rfl) ?_
  obtain ⟨j_2, ej_2, hF_3⟩ := bnd_e hF
  clear hF
  have Jj_2 : ∀  (σ_1 : TS), j_2  σ_1 = some res → ∀ (H : Heap) (locs : List Loc), va_P (dC, dI) vwCl (b_H cB cC cI cJ cZ cP oA rA σ_1 og om) H → va_S A s.heap H locs → ∀ ls : Array Slot, lv_has ls 2 [] → W p l e (headSpec (g_ws yX11_told cX11_told 2 (some .int)) { frames := 6, cells := 1, slots := 6, locals := 90 }).room s m ([.ref (oA 0), .int p0] : List Value).toArray below meth c H locs 0 0 (vx_MQ below (va_Qi (fun r (_ : Unit) => res.1.1 = 0 ∧ r = res.1.2) (g_Bo (dC, dI) A (fun (_ : Unit) => (b_H cB cC cI cJ cZ cP oA rA res.2 og om))) A) (g_X (dC, dI) A (b_H cB cC cI cJ cZ cP oA rA res.2 og om) (fun E : String => XN res.1.1 E)) ([.ref (oA 0), .int p0] : List Value).toArray s 1 6 A) (F0 m 10 ls []) := by
    intro  σ_1 hF0 H locs hP hS ls hl
    subst ej_2
    have hF_4 := hF0
    clear hF0
    have h9 := Option.some.inj hF_4
    subst h9
    obtain ⟨q_5, vq_5, hRq_5, hSq_5⟩ := hE.2.2.2.2 _ (List.mem_of_getElem? (i := 77) rfl)
    exact vx_throwSW hx hb hfl (own := RX11) (cls := "java/lang/IllegalArgumentException") (text := "what is not 0 .. 11") (names := ["java/lang/RuntimeException", "java/lang/Exception"]) (A := A) hown (by decide +kernel) (by decide +kernel) (hts (.classLink RX11 95 "java/lang/IllegalArgumentException") wq_925) (hts (.initialized "java/lang/IllegalArgumentException") wq_17) hRq_5 (g_bad hN (fun w h => hts w (wx_99 w h)) (by decide +kernel) (g_badB hN (List.mem_of_getElem? (i := 0) rfl))) (by decide +kernel) hE.2.1 hE.2.2.1 hS (hl.1.trans hml.symm) dX11_told_10 dX11_told_13 dX11_told_14 dX11_told_17 dX11_told_20 (fun x hx => (htab x hx).elim) (by decide) (by decide) (Nat.le_of_ble_eq_true rfl) (Nat.le_of_ble_eq_true rfl) hlocks (g_thr hP (hDD _) hS XN_1) hS.2.2 (Nat.le_of_ble_eq_true rfl) (Nat.le_of_ble_eq_true rfl)
  refine lv_if_lt (tgt := 10) hx hb dX11_told_1 (by decide) (fun c_6 => ?_) (fun c_6 => ?_)
  · have hF_7 := ipos c_6 hF_3
    clear hF_3
    exact Jj_2  T hF_7 _ _ hP hS ls (lv_sub hl [] rfl)
  · have hF_8 := ineg c_6 hF_3
    clear hF_3
    refine lv_iload_n hx hb dX11_told_4 rfl (lv_at hl 1 rfl) ?_
    refine lv_bipush (v := 11) hx hb dX11_told_5 (by decide +kernel) ?_
    refine lv_icmp_le (tgt := 21) hx hb dX11_told_7 (by decide) (fun c_9 => ?_) (fun c_9 => ?_)
    · have hF_10 := ipos c_9 hF_8
      clear hF_8
      refine lv_aload_n hx hb dX11_told_21 rfl (lv_at hl 0 rfl) ?_
      refine va_get (D := (dC, dI)) (ci := 11) (v := .int ((T.1 0).1 7)) (C := RX11) (T := TX11) (N := 19) hx hb hts ii_X11 hown hK hP 0 rfl rfl 7 (by decide) (hts (.fieldLink RX11 162 "StoryHouse" "built" "Z") wq_310) (fun _ h9 => h9) rfl dX11_told_22 ?_
      refine lv_if_ne (tgt := 30) hx hb dX11_told_25 (by decide) (fun c_11 => ?_) (fun c_11 => ?_)
      · have hF_13 := ineg c_11 hF_10
        clear hF_10
        refine lv_iload_n hx hb dX11_told_30 rfl (lv_at hl 1 rfl) ?_
        refine lv_bipush (v := 7) hx hb dX11_told_31 (by decide +kernel) ?_
        refine lv_icmp_ge (tgt := 48) hx hb dX11_told_33 (by decide) (fun c_14 => ?_) (fun c_14 => ?_)
        · have hF_15 := ipos c_14 hF_13
          clear hF_13
          refine lv_aload_n hx hb dX11_told_48 rfl (lv_at hl 0 rfl) ?_
          refine va_get (D := (dC, dI)) (ci := 11) (v := .int ((T.1 0).1 8)) (C := RX11) (T := TX11) (N := 19) hx hb hts ii_X11 hown hK hP 0 rfl rfl 8 (by decide) (hts (.fieldLink RX11 178 "StoryHouse" "playing" "Z") wq_311) (fun _ h9 => h9) rfl dX11_told_49 ?_
          refine lv_if_ne (tgt := 57) hx hb dX11_told_52 (by decide) (fun c_16 => ?_) (fun c_16 => ?_)
          · have hF_18 := ineg c_16 hF_15
            clear hF_15
            refine lv_iload_n hx hb dX11_told_57 rfl (lv_at hl 1 rfl) ?_
            by_cases c_19 : p0 = 7
            · have hF_20 := ipos c_19 hF_18
              clear hF_18
              refine lv_tableIn (off := 30) (tgt := 88) hx hb dX11_told_58 (by rw [c_19]; decide +kernel) (by rw [c_19]; decide +kernel) (by rw [c_19]; decide +kernel) (by decide) ?_
              refine lv_aload_n hx hb dX11_told_88 rfl (lv_at hl 0 rfl) ?_
              refine va_get (D := (dC, dI)) (ci := 11) (v := .ref (oA 9)) (C := RX11) (T := TX11) (N := 19) hx hb hts ii_X11 hown hK hP 0 rfl rfl 11 (by decide) (hts (.fieldLink RX11 60 "StoryHouse" "play" "LStoryHouse$Play;") wq_314) (fun _ h9 => h9) rfl dX11_told_89 ?_
              refine va_get (D := (dC, dI)) (ci := 6) (v := .int ((T.1 9).1 9)) (C := RX6) (T := TX6) (N := 12) hx hb hts ii_X6 hown hK hP 55 rfl rfl 9 (by decide) (hts (.fieldLink RX11 274 "StoryHouse$Play" "turns" "I") wq_244) (fun _ h9 => h9) rfl dX11_told_92 ?_
              have h9 := Option.some.inj hF_20
              subst h9
              refine W.widen (k := 1) (n := 6) (Nat.le_of_ble_eq_true rfl) (Nat.le_of_ble_eq_true rfl) ?_
              refine vx_ret ?_
              exact W.iret (v := ((T.1 9).1 9)) hx hb hr (fun t ht hW => ⟨⟨((T.1 9).1 9), (), rfl, ⟨rfl, rfl⟩, m_end ht hP, hDD _⟩, hS.F ht⟩) hS.2.2 dX11_told_95
            have hF_21 := ineg c_19 hF_18
            clear hF_18
            by_cases c_22 : p0 = 8
            · have hF_23 := ipos c_22 hF_21
              clear hF_21
              refine lv_tableIn (off := 38) (tgt := 96) hx hb dX11_told_58 (by rw [c_22]; decide +kernel) (by rw [c_22]; decide +kernel) (by rw [c_22]; decide +kernel) (by decide) ?_
              refine lv_aload_n hx hb dX11_told_96 rfl (lv_at hl 0 rfl) ?_
              refine va_get (D := (dC, dI)) (ci := 11) (v := .ref (oA 9)) (C := RX11) (T := TX11) (N := 19) hx hb hts ii_X11 hown hK hP 0 rfl rfl 11 (by decide) (hts (.fieldLink RX11 60 "StoryHouse" "play" "LStoryHouse$Play;") wq_314) (fun _ h9 => h9) rfl dX11_told_97 ?_
              refine va_get (D := (dC, dI)) (ci := 6) (v := .int ((T.1 9).1 10)) (C := RX6) (T := TX6) (N := 12) hx hb hts ii_X6 hown hK hP 55 rfl rfl 10 (by decide) (hts (.fieldLink RX11 195 "StoryHouse$Play" "ended" "I") wq_248) (fun _ h9 => h9) rfl dX11_told_100 ?_
              have h9 := Option.some.inj hF_23
              subst h9
              refine W.widen (k := 1) (n := 6) (Nat.le_of_ble_eq_true rfl) (Nat.le_of_ble_eq_true rfl) ?_
              refine vx_ret ?_
              exact W.iret (v := ((T.1 9).1 10)) hx hb hr (fun t ht hW => ⟨⟨((T.1 9).1 10), (), rfl, ⟨rfl, rfl⟩, m_end ht hP, hDD _⟩, hS.F ht⟩) hS.2.2 dX11_told_103
            have hF_24 := ineg c_22 hF_21
            clear hF_21
            by_cases c_25 : p0 = 9
            · have hF_26 := ipos c_25 hF_24
              clear hF_24
              refine lv_tableIn (off := 46) (tgt := 104) hx hb dX11_told_58 (by rw [c_25]; decide +kernel) (by rw [c_25]; decide +kernel) (by rw [c_25]; decide +kernel) (by decide) ?_
              refine lv_aload_n hx hb dX11_told_104 rfl (lv_at hl 0 rfl) ?_
              refine va_get (D := (dC, dI)) (ci := 11) (v := .ref (oA 9)) (C := RX11) (T := TX11) (N := 19) hx hb hts ii_X11 hown hK hP 0 rfl rfl 11 (by decide) (hts (.fieldLink RX11 60 "StoryHouse" "play" "LStoryHouse$Play;") wq_314) (fun _ h9 => h9) rfl dX11_told_105 ?_
              refine va_get (D := (dC, dI)) (ci := 6) (v := .int ((T.1 9).1 11)) (C := RX6) (T := TX6) (N := 12) hx hb hts ii_X6 hown hK hP 55 rfl rfl 11 (by decide) (hts (.fieldLink RX11 277 "StoryHouse$Play" "it" "I") wq_252) (fun _ h9 => h9) rfl dX11_told_108 ?_
              have h9 := Option.some.inj hF_26
              subst h9
              refine W.widen (k := 1) (n := 6) (Nat.le_of_ble_eq_true rfl) (Nat.le_of_ble_eq_true rfl) ?_
              refine vx_ret ?_
              exact W.iret (v := ((T.1 9).1 11)) hx hb hr (fun t ht hW => ⟨⟨((T.1 9).1 11), (), rfl, ⟨rfl, rfl⟩, m_end ht hP, hDD _⟩, hS.F ht⟩) hS.2.2 dX11_told_111
            have hF_27 := ineg c_25 hF_24
            clear hF_24
            by_cases c_28 : p0 = 10
            · have hF_29 := ipos c_28 hF_27
              clear hF_27
              refine lv_tableIn (off := 54) (tgt := 112) hx hb dX11_told_58 (by rw [c_28]; decide +kernel) (by rw [c_28]; decide +kernel) (by rw [c_28]; decide +kernel) (by decide) ?_
              refine lv_aload_n hx hb dX11_told_112 rfl (lv_at hl 0 rfl) ?_
              refine va_get (D := (dC, dI)) (ci := 11) (v := .int ((T.1 0).1 18)) (C := RX11) (T := TX11) (N := 19) hx hb hts ii_X11 hown hK hP 0 rfl rfl 18 (by decide) (hts (.fieldLink RX11 171 "StoryHouse" "undoable" "I") wq_321) (fun _ h9 => h9) rfl dX11_told_113 ?_
              have h9 := Option.some.inj hF_29
              subst h9
              refine W.widen (k := 1) (n := 6) (Nat.le_of_ble_eq_true rfl) (Nat.le_of_ble_eq_true rfl) ?_
              refine vx_ret ?_
              exact W.iret (v := ((T.1 0).1 18)) hx hb hr (fun t ht hW => ⟨⟨((T.1 0).1 18), (), rfl, ⟨rfl, rfl⟩, m_end ht hP, hDD _⟩, hS.F ht⟩) hS.2.2 dX11_told_116
            have hF_30 := ineg c_28 hF_27
            clear hF_27
            refine m_tabD (lo := 7) (n := 4) (tgt := 117) hx hb dX11_told_58 (by decide +kernel) (by decide) (fun j9 h9 e9 => by
                match j9, h9 with
                | 0, _ => exact absurd ((by rw [e9]; decide +kernel)) c_19
                | 1, _ => exact absurd ((by rw [e9]; decide +kernel)) c_22
                | 2, _ => exact absurd ((by rw [e9]; decide +kernel)) c_25
                | 3, _ => exact absurd ((by rw [e9]; decide +kernel)) c_28
                | n9 + 4, h9 => exact absurd h9 (by omega)) ?_
            refine lv_aload_n hx hb dX11_told_117 rfl (lv_at hl 0 rfl) ?_
            refine va_get (D := (dC, dI)) (ci := 11) (v := .ref (oA 9)) (C := RX11) (T := TX11) (N := 19) hx hb hts ii_X11 hown hK hP 0 rfl rfl 11 (by decide) (hts (.fieldLink RX11 60 "StoryHouse" "play" "LStoryHouse$Play;") wq_314) (fun _ h9 => h9) rfl dX11_told_118 ?_
            refine va_get (D := (dC, dI)) (ci := 6) (v := .int ((T.1 9).1 8)) (C := RX6) (T := TX6) (N := 12) hx hb hts ii_X6 hown hK hP 55 rfl rfl 8 (by decide) (hts (.fieldLink RX11 280 "StoryHouse$Play" "seed" "I") wq_241) (fun _ h9 => h9) rfl dX11_told_121 ?_
            have h9 := Option.some.inj hF_30
            subst h9
            refine W.widen (k := 1) (n := 6) (Nat.le_of_ble_eq_true rfl) (Nat.le_of_ble_eq_true rfl) ?_
            refine vx_ret ?_
            exact W.iret (v := ((T.1 9).1 8)) hx hb hr (fun t ht hW => ⟨⟨((T.1 9).1 8), (), rfl, ⟨rfl, rfl⟩, m_end ht hP, hDD _⟩, hS.F ht⟩) hS.2.2 dX11_told_124
          · have hF_17 := ipos c_16 hF_15
            clear hF_15
            refine lv_iconst (v := 0) hx hb dX11_told_55 (by decide +kernel) ?_
            have h9 := Option.some.inj hF_17
            subst h9
            refine W.widen (k := 1) (n := 6) (Nat.le_of_ble_eq_true rfl) (Nat.le_of_ble_eq_true rfl) ?_
            refine vx_ret ?_
            exact W.iret (v := 0) hx hb hr (fun t ht hW => ⟨⟨0, (), rfl, ⟨rfl, rfl⟩, m_end ht hP, hDD _⟩, hS.F ht⟩) hS.2.2 dX11_told_56
        · have hF_31 := ineg c_14 hF_13
          clear hF_13
          refine lv_aload_n hx hb dX11_told_36 rfl (lv_at hl 0 rfl) ?_
          refine va_get (D := (dC, dI)) (ci := 11) (v := .ref (oA 4)) (C := RX11) (T := TX11) (N := 19) hx hb hts ii_X11 hown hK hP 0 rfl rfl 5 (by decide) (hts (.fieldLink RX11 39 "StoryHouse" "story" "LStoryHouse$Story;") wq_308) (fun _ h9 => h9) rfl dX11_told_37 ?_
          refine va_get (D := (dC, dI)) (ci := 7) (v := .ref (rA 4 0)) (C := RX7) (T := TX7) (N := 19) hx hb hts ii_X7 hown hK hP 22 rfl rfl 0 (by decide) (hts (.fieldLink RX11 158 "StoryHouse$Story" "counts" "[I") wq_153) (fun _ h9 => h9) rfl dX11_told_40 ?_
          refine lv_iload_n hx hb dX11_told_43 rfl (lv_at hl 1 rfl) ?_
          have hq9 : ((b_H cB cC cI cJ cZ cP oA rA T og om))[23]? = some (rA 4 0, .inl (cI, 7, .inl ((T.1 4).2.1 0))) := rfl
          have hPc := hP.sub (ws' := [(rA 4 0, .inl (cI, 7, .inl ((T.1 4).2.1 0)))]) [23] (pk_fm (er_C hq9))
          have hDc := (hDD T).sub (ws' := [(rA 4 0, .inl (cI, 7, .inl ((T.1 4).2.1 0)))]) [23] (by decide +kernel) (er_C hq9)
          have hFc := va_free (wc := [(rA 4 0, .inl (cI, 7, .inl ((T.1 4).2.1 0)))]) (hDD T) hS hA [23] (er_C hq9)
          refine g_ofi (wc := [(rA 4 0, .inl (cI, 7, .inl ((T.1 4).2.1 0)))]) (wr := (((b_H cB cC cI cJ cZ cP oA rA T og om)).eraseIdx 23)) hP (hDD T) hS hFc [23] ((List.range ((b_H cB cC cI cJ cZ cP oA rA T og om)).length).eraseIdx 23) (er_C hq9) er_R er_n er_d (va_runS (As := [.ref (rA 4 0), .int p0]) (rest := []) ⟨hx, hb, hml, hown, hts⟩ (c_X11_at l dC dI cB cC cI cJ cZ cP s.heap.size (rA 4 0) p0 7 ((T.1 4).2.1 0) (by decide)) (va_cwS 2 hts (g_gS wq_1309 wq_406 wq_1 wq_407) rfl rfl rfl (by decide +kernel) ⟨Nat.le_of_ble_eq_true rfl, Nat.le_of_ble_eq_true rfl⟩) (g_preS g_bl0 hK hPc hDc hS hE hFc g_to0) rfl rfl hl.1 rfl (lv_room (Nat.le_of_ble_eq_true rfl)) dX11_told_44 ⟨Nat.le_of_ble_eq_true rfl, Nat.le_of_ble_eq_true rfl⟩) (fun r9 u9 H locs hw9 hP' hD' hS => ?_)
          clear hPc hDc hFc hD'
          have hP : va_P (dC, dI) vwCl (b_H cB cC cI cJ cZ cP oA rA T og om) H := er_I hP' hq9
          clear hP' hq9
          subst hw9
          obtain ⟨x_32, ex_32, hF_33⟩ := bnd_e hF_31
          clear hF_31
          refine m_top ex_32 ?_
          have h9 := Option.some.inj hF_33
          subst h9
          refine W.widen (k := 1) (n := 6) (Nat.le_of_ble_eq_true rfl) (Nat.le_of_ble_eq_true rfl) ?_
          refine vx_ret ?_
          exact W.iret (v := x_32) hx hb hr (fun t ht hW => ⟨⟨x_32, (), rfl, ⟨rfl, rfl⟩, m_end ht hP, hDD _⟩, hS.F ht⟩) hS.2.2 dX11_told_47
      · have hF_12 := ipos c_11 hF_10
        clear hF_10
        refine lv_iconst (v := 0) hx hb dX11_told_28 (by decide +kernel) ?_
        have h9 := Option.some.inj hF_12
        subst h9
        refine W.widen (k := 1) (n := 6) (Nat.le_of_ble_eq_true rfl) (Nat.le_of_ble_eq_true rfl) ?_
        refine vx_ret ?_
        exact W.iret (v := 0) hx hb hr (fun t ht hW => ⟨⟨0, (), rfl, ⟨rfl, rfl⟩, m_end ht hP, hDD _⟩, hS.F ht⟩) hS.2.2 dX11_told_29
    · have hF_34 := ineg c_9 hF_8
      clear hF_8
      exact Jj_2  T hF_34 _ _ hP hS ls (lv_sub hl [] rfl)
