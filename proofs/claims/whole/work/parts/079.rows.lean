/-! rows of ints: at, put, fill -/
/-- what at() answers of a row of n places -/
def g_at (n : Nat) (f : Nat → Int32) (i : Int32) : Int32 := if i < 0 ∨ n ≤ i.toNatClampNeg then 0 else f i.toNatClampNeg
/-- what put() makes of a row -/
def g_put (n : Nat) (f : Nat → Int32) (i x : Int32) : Nat → Int32 := if i < 0 ∨ n ≤ i.toNatClampNeg then f else upd f i.toNatClampNeg x
theorem g_at_in {n : Nat} {f : Nat → Int32} {i : Int32} (h : vp_in i n) : g_at n f i = f i.toNatClampNeg := if_neg h
theorem g_put_in {n : Nat} {f : Nat → Int32} {i x : Int32} (h : vp_in i n) : g_put n f i x = upd f i.toNatClampNeg x := if_neg h
theorem g_nle {i : Int32} {n : Nat} (hn : n < 2 ^ 31) (h : Int32.ofNat n ≤ i) : n ≤ i.toNatClampNeg := by
  rw [Int32.le_iff_toInt_le, show (Int32.ofNat n).toInt = n from nI_toInt hn] at h
  show n ≤ i.toInt.toNat
  omega
theorem g_at_out {n : Nat} {f : Nat → Int32} {i : Int32} (hn : n < 2 ^ 31) (h : i < 0 ∨ Int32.ofNat n ≤ i) : g_at n f i = 0 := if_pos (h.elim Or.inl (fun q => Or.inr (g_nle hn q)))
theorem g_put_out {n : Nat} {f : Nat → Int32} {i x : Int32} (hn : n < 2 ^ 31) (h : i < 0 ∨ Int32.ofNat n ≤ i) : g_put n f i x = f := if_pos (h.elim Or.inl (fun q => Or.inr (g_nle hn q)))
/-- one step more of a loop that counts up -/
theorem g_mu {i n x : Int32} (hi : ¬ n ≤ i) (e : x = i + 1) : (n.toInt - x.toInt).toNat < (n.toInt - i.toInt).toNat := by
  rw [Int32.le_iff_toInt_le] at hi
  have h1 := Int32.toInt_lt n
  have h2 := Int32.le_toInt i
  rw [e, Int32.toInt_add]
  have e1 : (1 : Int32).toInt = 1 := by decide +kernel
  rw [e1, Int.bmod_eq_of_le (by omega) (by omega)]
  omega
theorem g_up {i n x : Int32} (h0 : ¬ i < 0) (hi : ¬ n ≤ i) (e : x = i + 1) : ¬ x < 0 := by
  rw [Int32.le_iff_toInt_le] at hi
  have e0 : (0 : Int32).toInt = 0 := by decide +kernel
  rw [Int32.lt_iff_toInt_lt, e0] at h0 ⊢
  have h1 := Int32.toInt_lt n
  have e1 : (1 : Int32).toInt = 1 := by decide +kernel
  rw [e, Int32.toInt_add, e1, Int.bmod_eq_of_le (by omega) (by omega)]
  omega
theorem g_max0 (x : Int32) : ¬ (if (0 : Int32) < x then x else 0) < 0 := by
  split
  · intro h; exact absurd (Int32.lt_trans ‹0 < x› h) (by decide +kernel)
  · decide +kernel
/-- what fill() makes of a row's first n places -/
def g_fill (n : Nat) (f : Nat → Int32) (x : Int32) : Nat → Int32 := fun j => if j < n then x else f j
theorem g_fill0 {f : Nat → Int32} {x : Int32} : f = g_fill 0 f x := funext fun j => (if_neg (Nat.not_lt_zero j)).symm
theorem g_fillS {f : Nat → Int32} {x : Int32} {k : Nat} (hk : k < 2 ^ 31) : upd (g_fill k f x) (nI k).toNatClampNeg x = g_fill (k + 1) f x := by
  funext j
  rw [nI_clamp hk]
  unfold g_fill
  by_cases h : j = k
  · rw [h, pk_us, if_pos (Nat.lt_succ_self k)]
  · rw [pk_un h]
    by_cases h2 : j < k
    · rw [if_pos h2, if_pos (by omega)]
    · rw [if_neg h2, if_neg (by omega)]
theorem g_fl {x : Int32} {k n : Nat} (ex : x = nI k) (hk : k ≤ n) (hn : n < 2 ^ 31) (h : ¬ Int32.ofNat n ≤ x) : k + 1 ≤ n := by
  rw [ex, Int32.le_iff_toInt_le, show (Int32.ofNat n).toInt = n from nI_toInt hn, nI_toInt (by omega)] at h
  omega
theorem g_fe {x : Int32} {k n : Nat} (ex : x = nI k) (hk : k ≤ n) (hn : n < 2 ^ 31) (h : Int32.ofNat n ≤ x) : k = n := by
  rw [ex, Int32.le_iff_toInt_le, show (Int32.ofNat n).toInt = n from nI_toInt hn, nI_toInt (by omega)] at h
  omega
theorem dX11_at_0 : decode cX11_at 0 = .ok (.iload_n 1, 1) := by decide +kernel
theorem dX11_at_1 : decode cX11_at 1 = .ok (.ifCond .lt 15, 3) := by decide +kernel
theorem dX11_at_4 : decode cX11_at 4 = .ok (.iload_n 1, 1) := by decide +kernel
theorem dX11_at_5 : decode cX11_at 5 = .ok (.aload_n 0, 1) := by decide +kernel
theorem dX11_at_6 : decode cX11_at 6 = .ok (.arraylength, 1) := by decide +kernel
theorem dX11_at_7 : decode cX11_at 7 = .ok (.if_icmp .ge 9, 3) := by decide +kernel
theorem dX11_at_10 : decode cX11_at 10 = .ok (.aload_n 0, 1) := by decide +kernel
theorem dX11_at_11 : decode cX11_at 11 = .ok (.iload_n 1, 1) := by decide +kernel
theorem dX11_at_12 : decode cX11_at 12 = .ok (.iaload, 1) := by decide +kernel
theorem dX11_at_13 : decode cX11_at 13 = .ok (.goto 4, 3) := by decide +kernel
theorem dX11_at_16 : decode cX11_at 16 = .ok (.iconst 0, 1) := by decide +kernel
theorem dX11_at_17 : decode cX11_at 17 = .ok (.ireturn, 1) := by decide +kernel
theorem dX11_put_0 : decode cX11_put 0 = .ok (.iload_n 1, 1) := by decide +kernel
theorem dX11_put_1 : decode cX11_put 1 = .ok (.ifCond .lt 13, 3) := by decide +kernel
theorem dX11_put_4 : decode cX11_put 4 = .ok (.iload_n 1, 1) := by decide +kernel
theorem dX11_put_5 : decode cX11_put 5 = .ok (.aload_n 0, 1) := by decide +kernel
theorem dX11_put_6 : decode cX11_put 6 = .ok (.arraylength, 1) := by decide +kernel
theorem dX11_put_7 : decode cX11_put 7 = .ok (.if_icmp .ge 7, 3) := by decide +kernel
theorem dX11_put_10 : decode cX11_put 10 = .ok (.aload_n 0, 1) := by decide +kernel
theorem dX11_put_11 : decode cX11_put 11 = .ok (.iload_n 1, 1) := by decide +kernel
theorem dX11_put_12 : decode cX11_put 12 = .ok (.iload_n 2, 1) := by decide +kernel
theorem dX11_put_13 : decode cX11_put 13 = .ok (.iastore, 1) := by decide +kernel
theorem dX11_put_14 : decode cX11_put 14 = .ok (.return_, 1) := by decide +kernel
theorem dJ7_fill_53178_0 : decode cJ7_fill_53178 0 = .ok (.iconst 0, 1) := by decide +kernel
theorem dJ7_fill_53178_1 : decode cJ7_fill_53178 1 = .ok (.istore_n 2, 1) := by decide +kernel
theorem dJ7_fill_53178_2 : decode cJ7_fill_53178 2 = .ok (.aload_n 0, 1) := by decide +kernel
theorem dJ7_fill_53178_3 : decode cJ7_fill_53178 3 = .ok (.arraylength, 1) := by decide +kernel
theorem dJ7_fill_53178_4 : decode cJ7_fill_53178 4 = .ok (.istore_n 3, 1) := by decide +kernel
theorem dJ7_fill_53178_5 : decode cJ7_fill_53178 5 = .ok (.iload_n 2, 1) := by decide +kernel
theorem dJ7_fill_53178_6 : decode cJ7_fill_53178 6 = .ok (.iload_n 3, 1) := by decide +kernel
theorem dJ7_fill_53178_7 : decode cJ7_fill_53178 7 = .ok (.if_icmp .ge 13, 3) := by decide +kernel
theorem dJ7_fill_53178_10 : decode cJ7_fill_53178 10 = .ok (.aload_n 0, 1) := by decide +kernel
theorem dJ7_fill_53178_11 : decode cJ7_fill_53178 11 = .ok (.iload_n 2, 1) := by decide +kernel
theorem dJ7_fill_53178_12 : decode cJ7_fill_53178 12 = .ok (.iload_n 1, 1) := by decide +kernel
theorem dJ7_fill_53178_13 : decode cJ7_fill_53178 13 = .ok (.iastore, 1) := by decide +kernel
theorem dJ7_fill_53178_14 : decode cJ7_fill_53178 14 = .ok (.iinc 2 1, 3) := by decide +kernel
theorem dJ7_fill_53178_17 : decode cJ7_fill_53178 17 = .ok (.goto (-12), 3) := by decide +kernel
theorem dJ7_fill_53178_20 : decode cJ7_fill_53178 20 = .ok (.return_, 1) := by decide +kernel
abbrev ww_X11_at (cB cC cI cJ cZ cP : ClassId) (ra : Nat) (i : Int32) (rn : Nat) (rf : Nat → Int32) : va_W := [(ra, .inl (cI, rn, .inl rf))]
abbrev q_X11_at (dC : Nat → ClassId) (dI : Nat → Nat → Nat) (cB cC cI cJ cZ cP : ClassId) (ra : Nat) (i : Int32) (rn : Nat) (rf : Nat → Int32) (A : Nat → Prop) : Array Value → State → Outcome → State → Prop := va_Qi (fun (r : Int32) (_ : Unit) => r = g_at rn rf i) (g_Bo (dC, dI) A (fun (_ : Unit) => [(ra, .inl (cI, rn, .inl rf))])) A
set_option maxHeartbeats 4000000 in
set_option maxRecDepth 100000 in
theorem c_X11_at (l : Launch) (dC : Nat → ClassId) (dI : Nat → Nat → Nat) (cB cC cI cJ cZ cP : ClassId) (sz : Nat) (ra : Nat) (i : Int32) (rn : Nat) (rf : Nat → Int32) (hrn : rn < 2 ^ 31) : Met l yX11_at (g_ws yX11_at cX11_at 2 (some .int)) ({ frames := 1, cells := 0, slots := 0, locals := 40 }) (va_Pc [.ref ra, .int i] (g_B (dC, dI) [(cB, .byte), (cC, .char), (cI, .int), (cJ, .long), (cZ, .boolean), (cP, .object "StoryHouse$Play")] sz (ww_X11_at cB cC cI cJ cZ cP ra i rn rf) g_0)) (q_X11_at dC dI cB cC cI cJ cZ cP ra i rn rf (va_A (ww_X11_at cB cC cI cJ cZ cP ra i rn rf) sz)) 0 0 (va_A (ww_X11_at cB cC cI cJ cZ cP ra i rn rf) sz) := by
  refine Met.ofW (cc := cX11_at) (maxL := 2) (ret := (some .int)) (by decide) rfl ?_
  intro p e s m args below meth c s₁ B hml hv
  obtain ⟨rfl, hsz, hP, hK, hD0, hE, hX⟩ := hv
  have hx := B.exec
  have hb := B.bytes
  have hr := B.returns
  have hts0 := atoms_spec (ws := (g_ws yX11_at cX11_at 2 (some .int))) B.pre
  have hts : ∀ w ∈ lw_good, w.before ([.ref ra, .int i] : List Value).toArray s = true := fun w h => hts0 w (List.mem_cons_of_mem _ h)
  have hown : s.vm.findClass RX11 = some m.cls := findClass_of_methodNamed B.named
  have hlocks := B.notSynchronized
  subst hsz
  have hD := hD0.self (sz := s.heap.size)
  generalize hAe : va_A (ww_X11_at cB cC cI cJ cZ cP ra i rn rf) s.heap.size = A at hD hE hX ⊢
  have hA : ∀ q : Nat, s.heap.size ≤ q → A q := fun q h => by rw [← hAe]; exact Or.inr h
  have hN := hE.1
  have hS : va_S A s.heap s.heap [] := va_S.rf
  have hP : va_P (dC, dI) vwCl [(ra, .inl (cI, rn, .inl rf))] s.heap := hP
  have hl := lv_entry ([.ref ra, .int i]) (n := 2) (Nat.le_of_ble_eq_true rfl)
  rw [lg_entry_eq]
  generalize (lg_sl ([.ref ra, .int i]) ++ List.replicate (2 - (lg_sl ([.ref ra, .int i])).length) Slot.unset).toArray = ls at hl ⊢
  have hl : lv_has ls 2 [(0, .ref ra), (1, .int i)] := hl
  refine lv_iload_n hx hb dX11_at_0 rfl (lv_at hl 1 rfl) ?_
  refine lv_if_lt (tgt := 16) hx hb dX11_at_1 (by decide) (fun c_1 => ?_) (fun c_1 => ?_)
  · refine lv_iconst (v := 0) hx hb dX11_at_16 (by decide +kernel) ?_
    have hP9 := hP.sub (ws' := [(ra, .inl (cI, rn, .inl rf))]) [0] rfl
    have hD9 := hD.sub (ws' := [(ra, .inl (cI, rn, .inl rf))]) [0] (by decide +kernel) rfl
    refine W.widen (k := 0) (n := 0) (Nat.le_of_ble_eq_true rfl) (Nat.le_of_ble_eq_true rfl) ?_
    exact W.iret (v := 0) hx hb hr (fun t ht hW => ⟨⟨0, (), rfl, ((g_at_out hrn (by first | exact Or.inl (by assumption) | exact Or.inr (by assumption))).symm), by rw [ht]; exact hP9, hD9⟩, hS.F ht⟩) hS.2.2 dX11_at_17
  · refine lv_iload_n hx hb dX11_at_4 rfl (lv_at hl 1 rfl) ?_
    refine lv_aload_n hx hb dX11_at_5 rfl (lv_at hl 0 rfl) ?_
    refine va_alen (v := Int32.ofNat rn) hx hb hK hP 0 2 rfl rfl rfl dX11_at_6 ?_
    refine lv_icmp_ge (tgt := 16) hx hb dX11_at_7 (by decide) (fun c_2 => ?_) (fun c_2 => ?_)
    · refine lv_iconst (v := 0) hx hb dX11_at_16 (by decide +kernel) ?_
      have hP9 := hP.sub (ws' := [(ra, .inl (cI, rn, .inl rf))]) [0] rfl
      have hD9 := hD.sub (ws' := [(ra, .inl (cI, rn, .inl rf))]) [0] (by decide +kernel) rfl
      refine W.widen (k := 0) (n := 0) (Nat.le_of_ble_eq_true rfl) (Nat.le_of_ble_eq_true rfl) ?_
      exact W.iret (v := 0) hx hb hr (fun t ht hW => ⟨⟨0, (), rfl, ((g_at_out hrn (by first | exact Or.inl (by assumption) | exact Or.inr (by assumption))).symm), by rw [ht]; exact hP9, hD9⟩, hS.F ht⟩) hS.2.2 dX11_at_17
    · refine lv_aload_n hx hb dX11_at_10 rfl (lv_at hl 0 rfl) ?_
      refine lv_iload_n hx hb dX11_at_11 rfl (lv_at hl 1 rfl) ?_
      refine va_iald hx hb hK hP 0 2 rfl rfl (g_inr hrn (by assumption) (by assumption)) dX11_at_12 ?_
      refine lv_topi (fun x_3 ex_3 => ?_)
      refine lv_goto (tgt := 17) hx hb dX11_at_13 (by decide) ?_
      have hP9 := hP.sub (ws' := [(ra, .inl (cI, rn, .inl rf))]) [0] rfl
      have hD9 := hD.sub (ws' := [(ra, .inl (cI, rn, .inl rf))]) [0] (by decide +kernel) rfl
      refine W.widen (k := 0) (n := 0) (Nat.le_of_ble_eq_true rfl) (Nat.le_of_ble_eq_true rfl) ?_
      exact W.iret (v := x_3) hx hb hr (fun t ht hW => ⟨⟨x_3, (), rfl, (by rw [ex_3]; exact (g_at_in (g_inr hrn (by assumption) (by assumption))).symm), by rw [ht]; exact hP9, hD9⟩, hS.F ht⟩) hS.2.2 dX11_at_17

abbrev ww_X11_put (cB cC cI cJ cZ cP : ClassId) (ra : Nat) (i : Int32) (x : Int32) (rn : Nat) (rf : Nat → Int32) : va_W := [(ra, .inl (cI, rn, .inl rf))]
abbrev q_X11_put (dC : Nat → ClassId) (dI : Nat → Nat → Nat) (cB cC cI cJ cZ cP : ClassId) (ra : Nat) (i : Int32) (x : Int32) (rn : Nat) (rf : Nat → Int32) (A : Nat → Prop) : Array Value → State → Outcome → State → Prop := va_Qv (fun (pf : Nat → Int32) => pf = g_put rn rf i x) (g_Bo (dC, dI) A (fun (pf : Nat → Int32) => [(ra, .inl (cI, rn, .inl pf))])) A
set_option maxHeartbeats 4000000 in
set_option maxRecDepth 100000 in
theorem c_X11_put (l : Launch) (dC : Nat → ClassId) (dI : Nat → Nat → Nat) (cB cC cI cJ cZ cP : ClassId) (sz : Nat) (ra : Nat) (i : Int32) (x : Int32) (rn : Nat) (rf : Nat → Int32) (hrn : rn < 2 ^ 31) : Met l yX11_put (g_ws yX11_put cX11_put 3 none) ({ frames := 1, cells := 0, slots := 0, locals := 40 }) (va_Pc [.ref ra, .int i, .int x] (g_B (dC, dI) [(cB, .byte), (cC, .char), (cI, .int), (cJ, .long), (cZ, .boolean), (cP, .object "StoryHouse$Play")] sz (ww_X11_put cB cC cI cJ cZ cP ra i x rn rf) g_0)) (q_X11_put dC dI cB cC cI cJ cZ cP ra i x rn rf (va_A (ww_X11_put cB cC cI cJ cZ cP ra i x rn rf) sz)) 0 0 (va_A (ww_X11_put cB cC cI cJ cZ cP ra i x rn rf) sz) := by
  refine Met.ofW (cc := cX11_put) (maxL := 3) (ret := none) (by decide) rfl ?_
  intro p e s m args below meth c s₁ B hml hv
  obtain ⟨rfl, hsz, hP, hK, hD0, hE, hX⟩ := hv
  have hx := B.exec
  have hb := B.bytes
  have hr := B.returns
  have hts0 := atoms_spec (ws := (g_ws yX11_put cX11_put 3 none)) B.pre
  have hts : ∀ w ∈ lw_good, w.before ([.ref ra, .int i, .int x] : List Value).toArray s = true := fun w h => hts0 w (List.mem_cons_of_mem _ h)
  have hown : s.vm.findClass RX11 = some m.cls := findClass_of_methodNamed B.named
  have hlocks := B.notSynchronized
  subst hsz
  have hD := hD0.self (sz := s.heap.size)
  generalize hAe : va_A (ww_X11_put cB cC cI cJ cZ cP ra i x rn rf) s.heap.size = A at hD hE hX ⊢
  have hA : ∀ q : Nat, s.heap.size ≤ q → A q := fun q h => by rw [← hAe]; exact Or.inr h
  have hN := hE.1
  have hS : va_S A s.heap s.heap [] := va_S.rf
  have hP : va_P (dC, dI) vwCl [(ra, .inl (cI, rn, .inl rf))] s.heap := hP
  have hl := lv_entry ([.ref ra, .int i, .int x]) (n := 3) (Nat.le_of_ble_eq_true rfl)
  rw [lg_entry_eq]
  generalize (lg_sl ([.ref ra, .int i, .int x]) ++ List.replicate (3 - (lg_sl ([.ref ra, .int i, .int x])).length) Slot.unset).toArray = ls at hl ⊢
  have hl : lv_has ls 3 [(0, .ref ra), (1, .int i), (2, .int x)] := hl
  refine lv_iload_n hx hb dX11_put_0 rfl (lv_at hl 1 rfl) ?_
  refine lv_if_lt (tgt := 14) hx hb dX11_put_1 (by decide) (fun c_1 => ?_) (fun c_1 => ?_)
  · have hP9 := hP.sub (ws' := [(ra, .inl (cI, rn, .inl rf))]) [0] rfl
    have hD9 := hD.sub (ws' := [(ra, .inl (cI, rn, .inl rf))]) [0] (by decide +kernel) rfl
    refine W.widen (k := 0) (n := 0) (Nat.le_of_ble_eq_true rfl) (Nat.le_of_ble_eq_true rfl) ?_
    exact W.vret hx hb hr (fun t ht hW => ⟨⟨rf, rfl, ((g_put_out hrn (by first | exact Or.inl (by assumption) | exact Or.inr (by assumption))).symm), by rw [ht]; exact hP9, hD9⟩, hS.F ht⟩) hS.2.2 dX11_put_14
  · refine lv_iload_n hx hb dX11_put_4 rfl (lv_at hl 1 rfl) ?_
    refine lv_aload_n hx hb dX11_put_5 rfl (lv_at hl 0 rfl) ?_
    refine va_alen (v := Int32.ofNat rn) hx hb hK hP 0 2 rfl rfl rfl dX11_put_6 ?_
    refine lv_icmp_ge (tgt := 14) hx hb dX11_put_7 (by decide) (fun c_2 => ?_) (fun c_2 => ?_)
    · have hP9 := hP.sub (ws' := [(ra, .inl (cI, rn, .inl rf))]) [0] rfl
      have hD9 := hD.sub (ws' := [(ra, .inl (cI, rn, .inl rf))]) [0] (by decide +kernel) rfl
      refine W.widen (k := 0) (n := 0) (Nat.le_of_ble_eq_true rfl) (Nat.le_of_ble_eq_true rfl) ?_
      exact W.vret hx hb hr (fun t ht hW => ⟨⟨rf, rfl, ((g_put_out hrn (by first | exact Or.inl (by assumption) | exact Or.inr (by assumption))).symm), by rw [ht]; exact hP9, hD9⟩, hS.F ht⟩) hS.2.2 dX11_put_14
    · refine lv_aload_n hx hb dX11_put_10 rfl (lv_at hl 0 rfl) ?_
      refine lv_iload_n hx hb dX11_put_11 rfl (lv_at hl 1 rfl) ?_
      refine lv_iload_n hx hb dX11_put_12 rfl (lv_at hl 2 rfl) ?_
      refine va_iast hx hb hK hP hD hS 0 2 rfl rfl (g_inr hrn (by assumption) (by assumption)) dX11_put_13 (fun H_3 locs hP' hD' hS' => ?_)
      obtain ⟨f_4, ef_4⟩ : ∃ g9 : Nat → Int32, g9 = (upd rf i.toNatClampNeg x) := ⟨_, rfl⟩
      replace hP : va_P (dC, dI) vwCl [(ra, .inl (cI, rn, .inl f_4))] H_3 := by rw [ef_4]; exact hP'
      replace hD : va_D A [(ra, .inl (cI, rn, .inl f_4))] := by rw [ef_4]; exact hD'
      replace hS := hS'
      clear hP' hD' hS'
      have hP9 := hP.sub (ws' := [(ra, .inl (cI, rn, .inl f_4))]) [0] rfl
      have hD9 := hD.sub (ws' := [(ra, .inl (cI, rn, .inl f_4))]) [0] (by decide +kernel) rfl
      refine W.widen (k := 0) (n := 0) (Nat.le_of_ble_eq_true rfl) (Nat.le_of_ble_eq_true rfl) ?_
      exact W.vret hx hb hr (fun t ht hW => ⟨⟨f_4, rfl, (by rw [ef_4]; exact (g_put_in (g_inr hrn (by assumption) (by assumption))).symm), by rw [ht]; exact hP9, hD9⟩, hS.F ht⟩) hS.2.2 dX11_put_14

abbrev ww_fill (cB cC cI cJ cZ cP : ClassId) (ra : Nat) (x : Int32) (rn : Nat) (rf : Nat → Int32) : va_W := [(ra, .inl (cI, rn, .inl rf))]
abbrev q_fill (dC : Nat → ClassId) (dI : Nat → Nat → Nat) (cB cC cI cJ cZ cP : ClassId) (ra : Nat) (x : Int32) (rn : Nat) (rf : Nat → Int32) (A : Nat → Prop) : Array Value → State → Outcome → State → Prop := va_Qv (fun (pf : Nat → Int32) => pf = g_fill rn rf x) (g_Bo (dC, dI) A (fun (pf : Nat → Int32) => [(ra, .inl (cI, rn, .inl pf))])) A
set_option maxHeartbeats 4000000 in
set_option maxRecDepth 100000 in
theorem c_fill (l : Launch) (dC : Nat → ClassId) (dI : Nat → Nat → Nat) (cB cC cI cJ cZ cP : ClassId) (sz : Nat) (ra : Nat) (x : Int32) (rn : Nat) (rf : Nat → Int32) (hrn : rn < 2 ^ 31) : Met l yJ7_fill_53178 (g_ws yJ7_fill_53178 cJ7_fill_53178 4 none) ({ frames := 1, cells := 0, slots := 0, locals := 40 }) (va_Pc [.ref ra, .int x] (g_B (dC, dI) [(cB, .byte), (cC, .char), (cI, .int), (cJ, .long), (cZ, .boolean), (cP, .object "StoryHouse$Play")] sz (ww_fill cB cC cI cJ cZ cP ra x rn rf) g_0)) (q_fill dC dI cB cC cI cJ cZ cP ra x rn rf (va_A (ww_fill cB cC cI cJ cZ cP ra x rn rf) sz)) 0 0 (va_A (ww_fill cB cC cI cJ cZ cP ra x rn rf) sz) := by
  refine Met.ofW (cc := cJ7_fill_53178) (maxL := 4) (ret := none) (by decide) rfl ?_
  intro p e s m args below meth c s₁ B hml hv
  obtain ⟨rfl, hsz, hP, hK, hD0, hE, hX⟩ := hv
  have hx := B.exec
  have hb := B.bytes
  have hr := B.returns
  have hts0 := atoms_spec (ws := (g_ws yJ7_fill_53178 cJ7_fill_53178 4 none)) B.pre
  have hts : ∀ w ∈ lw_good, w.before ([.ref ra, .int x] : List Value).toArray s = true := fun w h => hts0 w (List.mem_cons_of_mem _ h)
  have hown : s.vm.findClass RJ7 = some m.cls := findClass_of_methodNamed B.named
  have hlocks := B.notSynchronized
  subst hsz
  have hD := hD0.self (sz := s.heap.size)
  generalize hAe : va_A (ww_fill cB cC cI cJ cZ cP ra x rn rf) s.heap.size = A at hD hE hX ⊢
  have hA : ∀ q : Nat, s.heap.size ≤ q → A q := fun q h => by rw [← hAe]; exact Or.inr h
  have hN := hE.1
  have hS : va_S A s.heap s.heap [] := va_S.rf
  have hP : va_P (dC, dI) vwCl [(ra, .inl (cI, rn, .inl rf))] s.heap := hP
  have hl := lv_entry ([.ref ra, .int x]) (n := 4) (Nat.le_of_ble_eq_true rfl)
  rw [lg_entry_eq]
  generalize (lg_sl ([.ref ra, .int x]) ++ List.replicate (4 - (lg_sl ([.ref ra, .int x])).length) Slot.unset).toArray = ls at hl ⊢
  have hl : lv_has ls 4 [(0, .ref ra), (1, .int x)] := hl
  refine lv_iconst (v := 0) hx hb dJ7_fill_53178_0 (by decide +kernel) ?_
  refine lv_istore_n (lv' := [(2, .int 0), (0, .ref ra), (1, .int x)]) hx hb dJ7_fill_53178_1 rfl hl (by decide) rfl (fun ls hl => ?_)
  refine lv_aload_n hx hb dJ7_fill_53178_2 rfl (lv_at hl 1 rfl) ?_
  refine va_alen (v := Int32.ofNat rn) hx hb hK hP 0 2 rfl rfl rfl dJ7_fill_53178_3 ?_
  refine lv_istore_n (lv' := [(3, .int (Int32.ofNat rn)), (2, .int 0), (0, .ref ra), (1, .int x)]) hx hb dJ7_fill_53178_4 rfl hl (by decide) rfl (fun ls hl => ?_)
  have LOOP_1 : ∀ (fu : Nat) (k : Nat) (x2 : Int32) (g : Nat → Int32) (ex2 : x2 = nI k) (hk : k ≤ rn) (hg : g = g_fill k rf x) (hfu : rn - k < fu) (H : Heap) (locs : List Loc), va_P (dC, dI) vwCl [(ra, .inl (cI, rn, .inl g))] H → va_D A [(ra, .inl (cI, rn, .inl g))] → va_S A s.heap H locs → ∀ ls : Array Slot, lv_has ls 4 [(0, .ref ra), (1, .int x), (2, .int x2), (3, .int (Int32.ofNat rn))] → W p l e ({ frames := 1, cells := 0, slots := 0, locals := 40 }) s m ([.ref ra, .int x] : List Value).toArray below meth c H locs 0 0 (MQ below (q_fill dC dI cB cC cI cJ cZ cP ra x rn rf A) ([.ref ra, .int x] : List Value).toArray s 0 0 A) (F0 m 5 ls []) := by
    intro fu
    induction fu with
    | zero => intro k x2 g ex2 hk hg hfu; exact absurd hfu (Nat.not_lt_zero _)
    | succ fu ih =>
      intro k x2 g ex2 hk hg hfu H locs hP hD hS ls hl
      refine lv_iload_n hx hb dJ7_fill_53178_5 rfl (lv_at hl 2 rfl) ?_
      refine lv_iload_n hx hb dJ7_fill_53178_6 rfl (lv_at hl 3 rfl) ?_
      refine lv_icmp_ge (tgt := 20) hx hb dJ7_fill_53178_7 (by decide) (fun c_2 => ?_) (fun c_2 => ?_)
      · have hP9 := hP.sub (ws' := [(ra, .inl (cI, rn, .inl g))]) [0] rfl
        have hD9 := hD.sub (ws' := [(ra, .inl (cI, rn, .inl g))]) [0] (by decide +kernel) rfl
        refine W.widen (k := 0) (n := 0) (Nat.le_of_ble_eq_true rfl) (Nat.le_of_ble_eq_true rfl) ?_
        exact W.vret hx hb hr (fun t ht hW => ⟨⟨g, rfl, ((by rw [hg, g_fe ex2 hk hrn (by assumption)])), by rw [ht]; exact hP9, hD9⟩, hS.F ht⟩) hS.2.2 dJ7_fill_53178_20
      · refine lv_aload_n hx hb dJ7_fill_53178_10 rfl (lv_at hl 0 rfl) ?_
        refine lv_iload_n hx hb dJ7_fill_53178_11 rfl (lv_at hl 2 rfl) ?_
        refine lv_iload_n hx hb dJ7_fill_53178_12 rfl (lv_at hl 1 rfl) ?_
        refine va_iast hx hb hK hP hD hS 0 2 rfl rfl (by rw [ex2]; exact vp_in_nI (by have := g_fl ex2 hk hrn (by assumption); omega) hrn) dJ7_fill_53178_13 (fun H_3 locs hP' hD' hS' => ?_)
        obtain ⟨f_4, ef_4⟩ : ∃ g9 : Nat → Int32, g9 = (upd g x2.toNatClampNeg x) := ⟨_, rfl⟩
        replace hP : va_P (dC, dI) vwCl [(ra, .inl (cI, rn, .inl f_4))] H_3 := by rw [ef_4]; exact hP'
        replace hD : va_D A [(ra, .inl (cI, rn, .inl f_4))] := by rw [ef_4]; exact hD'
        replace hS := hS'
        clear hP' hD' hS'
        obtain ⟨x_5, ex_5⟩ : ∃ y : Int32, y = x2 + 1 := ⟨_, rfl⟩
        refine lv_iinc (v := x_5) (lv' := [(2, .int x_5), (0, .ref ra), (1, .int x), (3, .int (Int32.ofNat rn))]) hx hb dJ7_fill_53178_14 hl (k := 2) rfl (by rw [ex_5]; rfl) (by decide) rfl (fun ls hl => ?_)
        refine lv_goto (tgt := 5) hx hb dJ7_fill_53178_17 (by decide) ?_
        exact ih (k + 1) x_5 f_4 (by rw [ex_5, ex2]; exact (nI_succ k).symm) (g_fl ex2 hk hrn (by assumption)) (by rw [ef_4, ex2, hg]; exact g_fillS (by omega)) (by have := g_fl ex2 hk hrn (by assumption); omega) _ _ hP hD hS ls (lv_sub hl [1, 2, 0, 3] rfl)
  exact LOOP_1 _ 0 0 rf nI_0.symm (Nat.zero_le _) g_fill0 (Nat.lt_succ_self _) _ _ hP hD hS ls (lv_sub hl [2, 3, 1, 0] rfl)
