/-! routines are opened; what an item became -/
variable {T N : Nat} {kd vl rv : Nat → Int} {pl : Nat → Nat}
def rti (k : Int) (nd no ne : Nat) : Nat := if k = 235 then (if nd < 100 then nd else 400) else if k = 236 then (if no < 200 then 100 + no else 400) else if k = 237 then (if ne < 20 then 300 + ne else 400) else 400
def rtj (k : Int) (nd no ne : Nat) : Int := if rti k nd no ne = 400 then -1 else rti k nd no ne
def CNT (Γ : HS) (nd no ne : Nat) : Prop := (Γ 5).1 5 = J (nd : Nat) ∧ (Γ 5).1 6 = J (no : Nat) ∧ (Γ 5).1 7 = J (ne : Nat)
def tbQ (R : Nat) (Γ Δ : HS) : Prop := ∀ m, m ≠ R → (Δ 5).2.1 2 m = (Γ 5).2.1 2 m ∧ (Δ 5).2.1 3 m = (Γ 5).2.1 3 m ∧ (Δ 5).2.1 4 m = (Γ 5).2.1 4 m
theorem tbQ_rfl {R : Nat} {Γ : HS} : tbQ R Γ Γ := fun _ _ => ⟨rfl, rfl, rfl⟩
theorem tbQ_trans {R : Nat} {Γ Δ Θ : HS} (h : tbQ R Γ Δ) (i : tbQ R Δ Θ) : tbQ R Γ Θ := fun m hm => ⟨by rw [(i m hm).1, (h m hm).1], by rw [(i m hm).2.1, (h m hm).2.1], by rw [(i m hm).2.2, (h m hm).2.2]⟩
theorem tbQ_fr {R : Nat} {Γ Δ : HS} (h : fr5 Γ Δ) : tbQ R Γ Δ := fun m _ => ⟨by rw [h.2.1 2 (by omega)], by rw [h.2.1 3 (by omega)], by rw [h.2.1 4 (by omega)]⟩
theorem CNT_fr {Γ Δ : HS} {nd no ne : Nat} (h : CNT Γ nd no ne) (i : fr5 Γ Δ) : CNT Δ nd no ne := ⟨by rw [i.1 5 (by omega)]; exact h.1, by rw [i.1 6 (by omega)]; exact h.2.1, by rw [i.1 7 (by omega)]; exact h.2.2⟩
theorem rti_lt (k : Int) (nd no ne : Nat) : rti k nd no ne = 400 ∨ rti k nd no ne < 320 := by
  unfold rti
  repeat' split
  all_goals omega
theorem rtj_rng (k : Int) (nd no ne : Nat) : -1 ≤ rtj k nd no ne ∧ rtj k nd no ne < 320 := by
  have := rti_lt k nd no ne
  unfold rtj; split <;> omega
theorem rtj_d (nd no ne : Nat) : rtj 235 nd no ne = if nd < 100 then (nd : Int) else -1 := by
  unfold rtj rti
  repeat' split
  all_goals omega
theorem rtj_o (nd no ne : Nat) : rtj 236 nd no ne = if no < 200 then ((100 + no : Nat) : Int) else -1 := by
  unfold rtj rti
  repeat' split
  all_goals omega
theorem rtj_e (nd no ne : Nat) : rtj 237 nd no ne = if ne < 20 then ((300 + ne : Nat) : Int) else -1 := by
  unfold rtj rti
  repeat' split
  all_goals omega
/-- a routine is opened: its number, the count's field and what it is then -/
def opR (Γ : HS) (R : Int) (k : Nat) (n : Int) : HS := cI' (cA' (cI' Γ 5 8 (J R)) 5 2 (g_put 320 ((Γ 5).2.1 2) (J R) ((Γ 5).1 1))) 5 k (J n)
theorem opR_r {Γ : HS} {R : Int} {k : Nat} {n : Int} {r : Nat} (h : r ≠ 5) : opR Γ R k n r = Γ r := by unfold opR; rw [cI_r, if_neg h, cA_r, if_neg h, cI_r, if_neg h]
theorem opR_i {Γ : HS} {R : Int} {k : Nat} {n : Int} {j : Nat} : (opR Γ R k n 5).1 j = if j = k then J n else if j = 8 then J R else (Γ 5).1 j := rfl
theorem opR_2 {Γ : HS} {R : Int} {k : Nat} {n : Int} : (opR Γ R k n 5).2.1 2 = g_put 320 ((Γ 5).2.1 2) (J R) ((Γ 5).1 1) := rfl
theorem opR_a {Γ : HS} {R : Int} {k : Nat} {n : Int} {j : Nat} (h : j ≠ 2) : (opR Γ R k n 5).2.1 j = (Γ 5).2.1 j := by
  show updA ((Γ 5).2.1) 2 _ j = _; rw [updA_s, if_neg h]
theorem opR_CN {Γ : HS} {a dp ln : Nat} {R : Int} {k : Nat} {n : Int} (h : CN T N kd vl pl Γ a dp ln) (hk : 5 ≤ k) : CN T N kd vl pl (opR Γ R k n) a dp ln := by
  obtain ⟨a1, a2, a3, a4, a5, a6, a7, a8, a9⟩ := h
  refine ⟨⟨by rw [opR_r (by omega)]; exact a1.1, fun i hi => by rw [opR_r (by omega)]; exact a1.2 i hi⟩, by rw [opR_r (by omega)]; exact a2, by rw [opR_r (by omega)]; exact a3, by rw [opR_r (by omega)]; exact a4, by rw [opR_r (by omega)]; exact a5, ?_, a7, a8, a9⟩
  rw [opR_i, if_neg (by omega), if_neg (by omega)]; exact a6
theorem opR_cfQ {Γ : HS} {R : Int} {k : Nat} {n : Int} : cfQ Γ (opR Γ R k n) := cfQ_5 (fun r hr => opR_r hr)
theorem opR_cXt {Γ : HS} {R : Int} {k : Nat} {n : Int} {ln a : Nat} : cXt ln a Γ (opR Γ R k n) := ⟨fun r hr => by rw [opR_a (by omega)], fun t ht => by rw [opR_r (by omega)]⟩
theorem opR_tbQ {Γ : HS} {R : Int} {k : Nat} {n : Int} {r : Nat} (hR : -1 ≤ R ∧ R < 320) (h : R = (r : Int) ∨ R = -1) : tbQ r Γ (opR Γ R k n) := fun m hm => by
  refine ⟨?_, by rw [opR_a (by omega)], by rw [opR_a (by omega)]⟩
  rw [opR_2]
  rcases h with h | h
  · subst h; rw [q_g_put_in (by omega) (by omega) (by omega), upd_s, if_neg (by omega)]
  · subst h; rw [q_g_put_out (by omega) (by omega) (by omega)]
theorem opR_mrg {Γ Δ : HS} {R : Int} {k : Nat} {n : Int} (h : ∀ r, r ≠ 5 → Δ r = Γ r) : mrg (fun j => j == 5) Γ (opR Δ R k n) = opR Δ R k n := mrgE (fun r hr => by
  have h5 : r ≠ 5 := by rintro rfl; exact absurd hr (by decide)
  rw [opR_r h5, h r h5])
theorem c_open5 {Γ : HS} {R : Int} (k : Nat) (hk : 5 ≤ k ∧ k ≠ 8) {n : Nat} (hn : (Γ 5).1 k = J (n : Nat)) : ((F_X0_open (J R) Γ).bind fun u_8 => bnd (cI' u_8.2 5 k (((u_8.2 5).1 k) + 1)) fun σ_10 => some ((0 : Int32), σ_10)) = some (J 0, opR Γ R k (n + 1 : Nat)) := by
  unfold F_X0_open
  show some ((0 : Int32), cI' (cA' (cI' Γ 5 8 (J R)) 5 2 _) 5 k ((upd (Γ 5).1 8 (J R) k) + 1)) = _
  rw [upd_s, if_neg hk.2, hn, show J (n : Nat) + 1 = J (n + 1 : Nat) by rw [J_lit, J_add]; rfl]
  rfl
theorem c_openDef {Γ : HS} {nd no ne : Nat} (h : CNT Γ nd no ne) (hn : nd ≤ 5000) {c : Int} : F_X0_openDef (J c) Γ = some (J 0, opR (cA' Γ 5 4 (g_put 100 ((Γ 5).2.1 4) (J (nd : Nat)) (J c))) (rtj 235 nd no ne) 5 (nd + 1 : Nat)) := by
  unfold F_X0_openDef
  rw [h.1]
  have e5 : ((cA' Γ 5 4 (g_put 100 ((Γ 5).2.1 4) (J (nd : Nat)) (J c))) 5).1 5 = J (nd : Nat) := h.1
  simp only [bnd]
  rw [e5]
  have e := fun R : Int => c_open5 (Γ := cA' Γ 5 4 (g_put 100 ((Γ 5).2.1 4) (J (nd : Nat)) (J c))) (R := R) 5 (by omega) e5
  simp only [bnd] at e
  by_cases q : 100 ≤ nd
  · rw [if_pos (by rw [show (100 : Int32) = J 100 from rfl, J_le (by omega) (by omega) (by omega) (by omega)]; omega), show (-1 : Int32) = J (-1) from rfl, e, rtj_d, if_neg (by omega)]
  · rw [if_neg (by rw [show (100 : Int32) = J 100 from rfl, J_le (by omega) (by omega) (by omega) (by omega)]; omega), e, rtj_d, if_pos (by omega)]
theorem c_openOn {Γ : HS} {nd no ne : Nat} (h : CNT Γ nd no ne) (hn : no ≤ 5000) : F_X0_openOn Γ = some (J 0, opR Γ (rtj 236 nd no ne) 6 (no + 1 : Nat)) := by
  unfold F_X0_openOn
  rw [h.2.1]
  have e := fun R : Int => c_open5 (Γ := Γ) (R := R) 6 (by omega) h.2.1
  simp only [bnd] at e ⊢
  by_cases q : 200 ≤ no
  · rw [if_pos (by rw [show (200 : Int32) = J 200 from rfl, J_le (by omega) (by omega) (by omega) (by omega)]; omega), show (-1 : Int32) = J (-1) from rfl, e, rtj_o, if_neg (by omega)]
  · rw [if_neg (by rw [show (200 : Int32) = J 200 from rfl, J_le (by omega) (by omega) (by omega) (by omega)]; omega), show (100 : Int32) = J 100 from rfl, J_add, e, rtj_o, if_pos (by omega)]; rfl
theorem c_openEach {Γ : HS} {nd no ne : Nat} (h : CNT Γ nd no ne) (hn : ne ≤ 5000) : F_X0_openEach Γ = some (J 0, opR Γ (rtj 237 nd no ne) 7 (ne + 1 : Nat)) := by
  unfold F_X0_openEach
  rw [h.2.2]
  have e := fun R : Int => c_open5 (Γ := Γ) (R := R) 7 (by omega) h.2.2
  simp only [bnd] at e ⊢
  by_cases q : 20 ≤ ne
  · rw [if_pos (by rw [show (20 : Int32) = J 20 from rfl, J_le (by omega) (by omega) (by omega) (by omega)]; omega), show (-1 : Int32) = J (-1) from rfl, e, rtj_e, if_neg (by omega)]
  · rw [if_neg (by rw [show (20 : Int32) = J 20 from rfl, J_le (by omega) (by omega) (by omega) (by omega)]; omega), show (300 : Int32) = J 300 from rfl, J_add, e, rtj_e, if_pos (by omega)]; rfl
theorem CX_5q {Γ Δ : HS} {f : Int} {w : Nat} (h : CX N kd vl pl Γ f w) (h5 : ∀ r, r ≠ 5 → Δ r = Γ r) (hl : (Δ 5).1 1 = (Γ 5).1 1) : CX N kd vl pl Δ f w := by
  obtain ⟨a1, a2, a3, a4, a5, a6, l, l1, l2⟩ := h
  exact ⟨⟨by rw [h5 1 (by omega)]; exact a1.1, fun i hi => by rw [h5 1 (by omega)]; exact a1.2 i hi⟩, by rw [h5 2 (by omega)]; exact a2, by rw [h5 2 (by omega)]; exact a3, a4, by rw [h5 2 (by omega)]; exact a5, by rw [h5 2 (by omega)]; exact a6, l, l1, by rw [hl]; exact l2⟩
theorem y_open5 (x : Int32) (Γ : HS) (k : Nat) (hk : 5 ≤ k) : Ok ((F_X0_open x Γ).bind fun u_8 => bnd (cI' u_8.2 5 k (((u_8.2 5).1 k) + 1)) fun σ_10 => some ((0 : Int32), σ_10)) fun u => (∀ r, r ≠ 5 → u.2 r = Γ r) ∧ (u.2 5).1 1 = (Γ 5).1 1 := by
  unfold F_X0_open
  refine ⟨_, rfl, fun r hr => ?_, ?_⟩
  · show cI' (cA' (cI' Γ 5 8 x) 5 2 _) 5 k _ r = _
    rw [cI_r, if_neg hr, cA_r, if_neg hr, cI_r, if_neg hr]
  · show upd (upd (Γ 5).1 8 x) k _ 1 = _
    rw [upd_s, if_neg (by omega), upd_s, if_neg (by omega)]
theorem y_openDef {Γ : HS} {f : Int} {w : Nat} (h : CX N kd vl pl Γ f w) (c : Int32) : Ok (F_X0_openDef c Γ) fun u => CX N kd vl pl u.2 f w ∧ ∀ r, r ≠ 5 → u.2 r = Γ r := by
  unfold F_X0_openDef
  have key : ∀ (x : Int32) (g : Nat → Int32), Ok ((F_X0_open x (cA' Γ 5 4 g)).bind fun u_8 => bnd (cI' u_8.2 5 5 (((u_8.2 5).1 5) + 1)) fun σ_10 => some ((0 : Int32), σ_10)) fun u => CX N kd vl pl u.2 f w ∧ ∀ r, r ≠ 5 → u.2 r = Γ r := fun x g => Ok_mono (y_open5 x (cA' Γ 5 4 g) 5 (by omega)) (fun u hu => by
    have hr : ∀ r, r ≠ 5 → u.2 r = Γ r := fun r hr => by rw [hu.1 r hr, cA_r, if_neg hr]
    exact ⟨CX_5q h hr hu.2, hr⟩)
  exact Ok_bnd (Ok_bnd (Ok_ite (fun _ => key _ _) (fun _ => key _ _)))
theorem y_openOn {Γ : HS} {f : Int} {w : Nat} (h : CX N kd vl pl Γ f w) : Ok (F_X0_openOn Γ) fun u => CX N kd vl pl u.2 f w ∧ ∀ r, r ≠ 5 → u.2 r = Γ r := by
  unfold F_X0_openOn
  exact Ok_bnd (Ok_ite (fun _ => Ok_mono (y_open5 _ Γ 6 (by omega)) (fun u hu => ⟨CX_5q h hu.1 hu.2, hu.1⟩)) (fun _ => Ok_mono (y_open5 _ Γ 6 (by omega)) (fun u hu => ⟨CX_5q h hu.1 hu.2, hu.1⟩)))
theorem mrg5' {Γ Δ : HS} (h : ∀ r, r ≠ 5 → Δ r = Γ r) : mrg (fun j => j == 5) Γ Δ = Δ := mrgE (fun r hr => h r (by rintro rfl; exact absurd hr (by decide)))
def TBL (Γ : HS) (R p q : Nat) : Prop := R < 400 → (Γ 5).2.1 2 R = J (p : Nat) ∧ (Γ 5).2.1 3 R = J (q : Nat)
/-- a def -/
def DFD (kd vl rv : Nat → Int) (pl : Nat → Nat) (σ : MS) (Γ : HS) (x hi i j p q nd : Nat) : Prop := kd i = 235 ∧ kd (i + 1) = 2 ∧ kd (i + 2) = 40 ∧ σ.2 17 x = J 6 ∧ σ.2 18 x = J (pl i) ∧ σ.2 19 x = J (x + 1 : Nat) ∧ NMN rv pl σ (x + 1) (i + 1) ∧ ∃ c b : Nat, kd (b - 1) = 41 ∧ ((c = 0 ∧ b = i + 4 ∧ σ.2 20 x = J (-1)) ∨ (1 ≤ c ∧ b = i + 3 + 2 * c ∧ σ.2 20 x = J (x + 2 : Nat) ∧ NMS kd rv pl σ (x + 2) c (i + 3))) ∧ RTN kd vl rv pl σ Γ i x (x + 2 + c) hi b j p q ∧ TBL Γ (rti 235 nd 0 0) p q ∧ (nd < 100 → (Γ 5).2.1 4 nd = J (c : Nat))
/-- a WHAT at word t: node y -/
def WHT (kd rv : Nat → Int) (pl : Nat → Nat) (σ : MS) (y t : Nat) : Prop := σ.2 17 y = J 16 ∧ σ.2 18 y = J (pl t) ∧ ((200 ≤ kd t ∧ kd t ≤ 205 ∧ σ.2 19 y = J 3 ∧ σ.2 20 y = J (kd t - 199)) ∨ (kd t = 255 ∧ σ.2 19 y = J 0) ∨ (kd t = 228 ∧ σ.2 19 y = J 2) ∨ (kd t = 2 ∧ σ.2 19 y = J 1 ∧ σ.2 20 y = J (rv t)))
def WHS (kd rv : Nat → Int) (pl : Nat → Nat) (σ : MS) (n c i : Nat) : Prop := ∀ k, k < c → WHT kd rv pl σ (n + k) (i + k) ∧ σ.2 22 (n + k) = if k + 1 < c then J (n + k + 1 : Nat) else J (-1)
def OND (kd vl rv : Nat → Int) (pl : Nat → Nat) (σ : MS) (Γ : HS) (x hi i j p q no : Nat) : Prop := kd i = 236 ∧ kd (i + 1) = 2 ∧ σ.2 17 x = J 7 ∧ σ.2 18 x = J (pl i) ∧ σ.2 19 x = J (x + 1 : Nat) ∧ NMN rv pl σ (x + 1) (i + 1) ∧ ∃ c : Nat, c ≤ 2 ∧ σ.2 20 x = (if c = 0 then J (-1) else J (x + 2 : Nat)) ∧ WHS kd rv pl σ (x + 2) c (i + 2) ∧ RTN kd vl rv pl σ Γ i x (x + 2 + c) hi (i + 2 + c) j p q ∧ TBL Γ (rti 236 0 no 0) p q
def EAD (kd vl rv : Nat → Int) (pl : Nat → Nat) (σ : MS) (Γ : HS) (x hi i j p q ne : Nat) : Prop := kd i = 237 ∧ σ.2 17 x = J 8 ∧ σ.2 18 x = J (pl i) ∧ RTN kd vl rv pl σ Γ i x (x + 1) hi (i + 1) j p q ∧ TBL Γ (rti 237 0 0 ne) p q ∧ σ.2 19 x = J (-1)
def ITM (kd vl rv : Nat → Int) (pl : Nat → Nat) (σ : MS) (Γ : HS) (x hi i j p q nd no ne : Nat) : Prop := (kd i = 230 ∧ q = p ∧ PLC kd rv pl 1 σ x hi i j) ∨ (kd i = 231 ∧ q = p ∧ PLC kd rv pl 2 σ x hi i j) ∨ (q = p ∧ VRB kd rv pl σ x hi i j) ∨ (q = p ∧ VRD kd vl rv pl σ x hi i j) ∨ (q = p ∧ ARD kd vl rv pl σ x hi i j) ∨ DFD kd vl rv pl σ Γ x hi i j p q nd ∨ OND kd vl rv pl σ Γ x hi i j p q no ∨ EAD kd vl rv pl σ Γ x hi i j p q ne
def ItR (T N : Nat) (kd vl rv : Nat → Int) (pl : Nat → Nat) (B : Nat) (σ : MS) (Γ : HS) (a dp ln nn nd no ne : Nat) (u : Int32 × MS) (v : Int32 × HS) : Prop :=
  u.1 = J (nn : Nat) ∧ ((∃ a' nn' ln', RN T kd vl rv pl u.2 a' dp nn' ∧ CN T N kd vl pl v.2 a' dp ln' ∧ ITM kd vl rv pl u.2 v.2 nn nn' a a' ln ln' nd no ne ∧ u.2.2 22 nn = J (-1) ∧ a < a' ∧ nn < nn' ∧ ln ≤ ln' ∧ nn' ≤ nn + 3 * (a' - a) ∧ ln' ≤ ln + 7 * (a' - a) ∧ rX nn σ u.2 ∧ cXt ln a Γ v.2 ∧ rfP σ u.2 ∧ cfQ Γ v.2 ∧ CNT v.2 (if kd a = 235 then nd + 1 else nd) (if kd a = 236 then no + 1 else no) (if kd a = 237 then ne + 1 else ne) ∧ tbQ (rti (kd a) nd no ne) Γ v.2)
  ∨ ∃ f f' w, rXX T kd vl rv pl B σ f w u.2 ∧ CX N kd vl pl v.2 f' w ∧ cfQ Γ v.2 ∧ f = fxO kd f' w ∧ w ≤ T)
/-- what a routine's block and end give -/
theorem rt_fin {B a b dp ln nn m nd no ne : Nat} {cu : Int} {σ0 τ : MS} {Γ0 Δ : HS} {k : Nat} (hk : 235 ≤ kd a ∧ kd a ≤ 237) (hnm : nn < m) (hab : a + 1 ≤ b) (hmb : m ≤ nn + 3 * (b - a) - 1) (h22 : τ.2 22 nn = J (-1)) (x1 : rX nn σ0 τ) (x2 : cXt ln a Γ0 Δ) (x3 : rfP σ0 τ) (x4 : cfQ Γ0 Δ) (x5 : CNT Δ (if kd a = 235 then nd + 1 else nd) (if kd a = 236 then no + 1 else no) (if kd a = 237 then ne + 1 else ne)) (x6 : tbQ (rti (kd a) nd no ne) Γ0 Δ) (hcu : cu = rtj (kd a) nd no ne) (h2 : (Δ 5).2.1 2 = g_put 320 ((Γ0 5).2.1 2) (J cu) (J (ln : Nat))) (hI : ∀ (u2 : MS) (v2 : HS) (a' m' ln' : Nat), rD nn m τ u2 → RTN kd vl rv pl u2 v2 a nn m m' b a' ln ln' → TBL v2 (rti (kd a) nd no ne) ln ln' → (v2 5).2.1 4 = (Δ 5).2.1 4 → ITM kd vl rv pl u2 v2 nn m' a a' ln ln' nd no ne) {u : Int32 × MS} {v : Int32 × HS} (h : RtR T N kd vl rv pl B τ Δ a nn b dp ln m cu u v) : ItR T N kd vl rv pl B σ0 Γ0 a dp ln nn nd no ne u v := by
  obtain ⟨e1, h⟩ := h
  refine ⟨e1, ?_⟩
  rcases h with ⟨a', m', ln', t1, t2, t3, t4, t5, t6, t7, t8, t9, t10, t11, t12, t13, t14, t15⟩ | ⟨f, f', w, y1, y2, y3, y4, y5⟩
  · have hr := rtj_rng (kd a) nd no ne
    have hl := rti_lt (kd a) nd no ne
    have tb : tbQ (rti (kd a) nd no ne) Δ v.2 := fun j hj => by
      refine ⟨by rw [t14 2 (by omega) (by omega)], ?_, by rw [t14 4 (by omega) (by omega)]⟩
      rw [t15, hcu]
      by_cases q : rti (kd a) nd no ne = 400
      · rw [show rtj (kd a) nd no ne = -1 by unfold rtj; rw [if_pos q], q_g_put_out (by omega) (by omega) (by omega)]
      · rw [show rtj (kd a) nd no ne = rti (kd a) nd no ne by unfold rtj; rw [if_neg q], q_g_put_in (by omega) (by omega) (by omega), upd_s, if_neg (by omega)]
    refine Or.inl ⟨a', m', ln', t1, t2, hI u.2 v.2 a' m' ln' t9 t3 (fun hR => ?_) (t14 4 (by omega) (by omega)), ?_, by omega, by omega, by omega, by omega, by omega, ?_, cXt_trans x2 t10 (Nat.le_refl _) (Nat.le_refl _), rfP_trans x3 t11, cfQ_trans x4 t12, ⟨by rw [t13 5 (by omega)]; exact x5.1, by rw [t13 6 (by omega)]; exact x5.2.1, by rw [t13 7 (by omega)]; exact x5.2.2⟩, tbQ_trans x6 tb⟩
    · have e : cu = (rti (kd a) nd no ne : Nat) := by rw [hcu]; unfold rtj; rw [if_neg (by omega)]
      refine ⟨?_, ?_⟩
      · rw [t14 2 (by omega) (by omega), h2, e, q_g_put_in (by omega) (by omega) (by omega), upd_s, if_pos (by omega)]
      · rw [t15, e, q_g_put_in (by omega) (by omega) (by omega), upd_s, if_pos (by omega)]
    · rw [t9 22 (by omega) (by omega) nn hnm (by omega)]; exact h22
    · exact fun j j1 j2 y hy => (t9 j j1 j2 y (by omega) (by omega)).trans (x1 j j1 j2 y hy)
  · obtain ⟨y1a, y1b⟩ := y1
    exact Or.inr ⟨f, f', w, ⟨y1a, rfP_trans x3 y1b⟩, y2, cfQ_trans x4 y3, y4, y5⟩
theorem itR_stop {B a dp ln nn nd no ne : Nat} {σ0 : MS} {Γ0 : HS} {f f' : Int} {w : Nat} {m : MR} {n : HR} (h1 : Ok m fun u => rXX T kd vl rv pl B σ0 f w u.2 ∧ u.1 = J (nn : Nat)) (h2 : Ok n fun u => CX N kd vl pl u.2 f' w ∧ cfQ Γ0 u.2) (x3 : f = fxO kd f' w) (x4 : w ≤ T) : Ok2 m n (ItR T N kd vl rv pl B σ0 Γ0 a dp ln nn nd no ne) := Ok2_sep h1 h2 (fun u v b c => ⟨b.2, Or.inr ⟨f, f', w, b.1, c.1, c.2, x3, x4⟩⟩)
