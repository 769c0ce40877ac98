/-! the reference's declaring: its head -/
def Dhd (s : MS) : MR := (F_X12_own ([108, 111, 111, 107] : List Int32) 1 s).bind fun u_0 => (F_X12_own ([105, 110, 118, 101, 110, 116, 111, 114, 121] : List Int32) 2 u_0.2).bind fun u_1 => (F_X12_own ([119, 97, 105, 116] : List Int32) 3 u_1.2).bind fun u_2 => (F_X12_own ([116, 97, 107, 101] : List Int32) 4 u_2.2).bind fun u_3 => (F_X12_own ([100, 114, 111, 112] : List Int32) 5 u_3.2).bind fun u_4 => (F_X12_own ([101, 120, 97, 109, 105, 110, 101] : List Int32) 6 u_4.2).bind fun u_5 => (F_X12_own ([99, 108, 111, 115, 101] : List Int32) 8 u_5.2).bind fun u_6 => (F_X12_own ([112, 117, 116, 105, 110] : List Int32) 9 u_6.2).bind fun u_7 => (F_X12_own ([112, 117, 116, 111, 110] : List Int32) 10 u_7.2).bind fun u_8 => (F_X12_own ([103, 111] : List Int32) 11 u_8.2).bind fun u_9 => bnd (mI u_9.2 35 1) fun σ_37 => bnd (mI σ_37 36 11) fun σ_39 => bnd (mI σ_39 37 0) fun σ_41 => bnd (mI σ_41 38 0) fun σ_43 => bnd (mI σ_43 39 0) fun σ_45 => bnd (mI σ_45 40 0) fun σ_47 => bnd (mI σ_47 41 0) fun σ_49 => bnd (mI σ_49 42 0) fun σ_51 => bnd ((σ_51.1 24)) fun (x_53 : Int32) => loopF Dc1 FU (x_53, σ_51)
def Dz1 : ((Int32 × MS) → MR) → Int32 × MS → MR := fun again_2 s_1 => if (s_1.2.1 13) ≤ s_1.1 then Dhd s_1.2 else if s_1.1 < 0 ∨ 8000 ≤ s_1.1.toNatClampNeg then none else bnd (mA s_1.2 28 (upd (s_1.2.2 28) s_1.1.toNatClampNeg 0)) fun σ_71 => bnd (s_1.1 + 1) fun (x_73 : Int32) => again_2 (x_73, σ_71)
theorem declare_eq (σ : MS) : F_X12_declare σ = loopF Dz1 FU (0, σ) := rfl
theorem Dz1_s (n : Nat) (l : Int32) (σ : MS) : loopF Dz1 (n + 1) (l, σ) = if (σ.1 13) ≤ l then Dhd σ else if l < 0 ∨ 8000 ≤ l.toNatClampNeg then none else bnd (mA σ 28 (upd (σ.2 28) l.toNatClampNeg 0)) fun σ_71 => bnd (l + 1) fun (x_73 : Int32) => loopF Dz1 n (x_73, σ_71) := rfl
theorem dz_loop {m : Nat} (hm : m < 7000) : ∀ (d k n : Nat) (σ : MS) (f : Nat → Int32), σ.1 13 = J (m : Nat) → k + d = m → d < n → (∀ r, r < k → f r = 0) → ∃ g : Nat → Int32, loopF Dz1 n (J (k : Nat), mA σ 28 f) = Dhd (mA σ 28 g) ∧ ∀ r, r < m → g r = 0 := by
  intro d
  induction d with
  | zero =>
    intro k n σ f h13 hk hn hf
    obtain ⟨n, rfl⟩ : ∃ e, n = e + 1 := ⟨n - 1, by omega⟩
    refine ⟨f, ?_, fun r hr => hf r (by omega)⟩
    rw [Dz1_s, if_pos (by show σ.1 13 ≤ _; rw [h13, J_le (by omega) (by omega) (by omega) (by omega)]; omega)]
  | succ d ih =>
    intro k n σ f h13 hk hn hf
    obtain ⟨n, rfl⟩ : ∃ e, n = e + 1 := ⟨n - 1, by omega⟩
    rw [Dz1_s, if_neg (by show ¬ σ.1 13 ≤ _; rw [h13, J_le (by omega) (by omega) (by omega) (by omega)]; omega), if_neg (by rw [J_natN (by omega)]; rintro (h | h); exact J_nlt0 (by omega) (by omega) h; omega), bndE, bndE, J_natN (by omega), mA_mA, show J (k : Nat) + 1 = J (k + 1 : Nat) by rw [J_lit, J_add]; rfl]
    refine ih (k + 1) n σ _ h13 (by omega) (by omega) (fun r hr => ?_)
    show upd f k 0 r = 0
    rw [upd_s]
    split
    · rfl
    · exact hf r (by omega)
/-- which names the reference knows as own verbs so far -/
def KW (v : Nat) : List Int := KWC.getD (vnm v) []
def OWI (m : Nat) (nm : Nat → List Int) (vs : List Nat) (σ : MS) : Prop := ∀ r, r < m → (∀ v, v ∈ vs → nm r = KW v → σ.2 28 r = J 3 ∧ σ.2 29 r = J (v : Nat) ∧ σ.2 30 r = J (-1)) ∧ ((∀ v, v ∈ vs → nm r ≠ KW v) → σ.2 28 r = 0)
theorem OWI_s {m : Nat} {nm : Nat → List Int} {vs : List Nat} {σ : MS} {x : Int} {v : Nat} (hinj : ∀ r s, r < m → s < m → nm r = nm s → r = s) (h : OWI m nm vs σ) (hv : ∀ v', v' ∈ vs → KW v ≠ KW v') (hx : (∃ q : Nat, q < m ∧ nm q = KW v ∧ x = q) ∨ ((∀ q, q < m → nm q ≠ KW v) ∧ x = -1)) : OWI m nm (v :: vs) (ownS σ x v) := by
  intro r hr
  obtain ⟨h1, h2⟩ := h r hr
  rcases hx with ⟨q, q1, q2, q3⟩ | ⟨q1, q2⟩
  · have e : ownS σ x v = mA (mA (mA σ 28 (upd (σ.2 28) q 3)) 29 (upd (σ.2 29) q (J (v : Nat)))) 30 (upd (σ.2 30) q (-1)) := by
      unfold ownS; rw [if_pos (by omega), q3]; rfl
    have e28 : (ownS σ x v).2 28 r = upd (σ.2 28) q 3 r := by rw [e]; rfl
    have e29 : (ownS σ x v).2 29 r = upd (σ.2 29) q (J (v : Nat)) r := by rw [e]; rfl
    have e30 : (ownS σ x v).2 30 r = upd (σ.2 30) q (-1) r := by rw [e]; rfl
    rw [e28, e29, e30, upd_s, upd_s, upd_s]
    by_cases qr : r = q
    · rw [if_pos qr, if_pos qr, if_pos qr]
      refine ⟨fun v' hv' hn => ?_, fun hn => absurd (by rw [qr]; exact q2) (hn v (List.mem_cons_self ..))⟩
      rcases List.mem_cons.mp hv' with e | e
      · rw [e]; exact ⟨rfl, rfl, rfl⟩
      · exact absurd (by rw [← q2, ← qr]; exact hn) (hv v' e)
    · rw [if_neg qr, if_neg qr, if_neg qr]
      refine ⟨fun v' hv' hn => ?_, fun hn => h2 (fun v' hv' => hn v' (List.mem_cons_of_mem _ hv'))⟩
      rcases List.mem_cons.mp hv' with e | e
      · exact absurd (hinj r q hr q1 (by rw [hn, q2, e])) qr
      · exact h1 v' e hn
  · have e : ownS σ x v = σ := by unfold ownS; rw [if_neg (by omega)]
    rw [e]
    refine ⟨fun v' hv' hn => ?_, fun hn => h2 (fun v' hv' => hn v' (List.mem_cons_of_mem _ hv'))⟩
    rcases List.mem_cons.mp hv' with e | e
    · exact absurd (by rw [hn, e]) (q1 r hr)
    · exact h1 v' e hn
theorem ownS_rD0 {σ : MS} {x : Int} {v : Nat} : rD0 σ (ownS σ x v) := by
  unfold ownS
  split
  · exact rD0_trans (rD0_mA (by omega)) (rD0_trans (rD0_mA (by omega)) (rD0_mA (by omega)))
  · exact rD0_rfl
theorem ownS_flt {σ : MS} {x : Int} {v : Nat} : flt (ownS σ x v) = flt σ := by
  unfold ownS
  split <;> rfl
def OWL : List Nat := [11, 10, 9, 8, 6, 5, 4, 3, 2, 1]
theorem tx_1 : txW ([108, 111, 111, 107] : List Int32) (KW 1) := by unfold txW KW; decide +kernel
theorem tx_2 : txW ([105, 110, 118, 101, 110, 116, 111, 114, 121] : List Int32) (KW 2) := by unfold txW KW; decide +kernel
theorem tx_3 : txW ([119, 97, 105, 116] : List Int32) (KW 3) := by unfold txW KW; decide +kernel
theorem tx_4 : txW ([116, 97, 107, 101] : List Int32) (KW 4) := by unfold txW KW; decide +kernel
theorem tx_5 : txW ([100, 114, 111, 112] : List Int32) (KW 5) := by unfold txW KW; decide +kernel
theorem tx_6 : txW ([101, 120, 97, 109, 105, 110, 101] : List Int32) (KW 6) := by unfold txW KW; decide +kernel
theorem tx_8 : txW ([99, 108, 111, 115, 101] : List Int32) (KW 8) := by unfold txW KW; decide +kernel
theorem tx_9 : txW ([112, 117, 116, 105, 110] : List Int32) (KW 9) := by unfold txW KW; decide +kernel
theorem tx_10 : txW ([112, 117, 116, 111, 110] : List Int32) (KW 10) := by unfold txW KW; decide +kernel
theorem tx_11 : txW ([103, 111] : List Int32) (KW 11) := by unfold txW KW; decide +kernel
/-- what declaring begins with -/
def dcS (σ : MS) : MS := mI (mI (mI (mI (mI (mI (mI (mI σ 35 1) 36 11) 37 0) 38 0) 39 0) 40 0) 41 0) 42 0
theorem r_Dhd {m : Nat} {nm : Nat → List Int} {σ : MS} (hn : rnam m nm σ) (hm : m < 7000) (h0 : ∀ r, r < m → σ.2 28 r = 0) : ∃ υ, Dhd σ = loopF Dc1 FU ((dcS υ).1 24, dcS υ) ∧ OWI m nm OWL υ ∧ rD0 σ υ ∧ flt υ = flt σ := by
  have i0 : OWI m nm [] σ := fun r hr => ⟨fun v hv => absurd hv (by simp), fun _ => h0 r hr⟩
  have inj := hn.2.2
  obtain ⟨x0, e0, f0⟩ := r_own tx_1 hn hm 1
  have n0 : rnam m nm (ownS σ x0 1) := ownS_rnam hn
  have p0 := OWI_s (v := 1) inj i0 (by decide +kernel) f0
  have d0 : rD0 σ (ownS σ x0 1) := ownS_rD0
  have g0 : flt (ownS σ x0 1) = flt σ := by rw [ownS_flt]
  generalize ownS σ x0 1 = s0 at *
  obtain ⟨x1, e1, f1⟩ := r_own tx_2 n0 hm 2
  have n1 : rnam m nm (ownS s0 x1 2) := ownS_rnam n0
  have p1 := OWI_s (v := 2) inj p0 (by decide +kernel) f1
  have d1 : rD0 σ (ownS s0 x1 2) := rD0_trans d0 ownS_rD0
  have g1 : flt (ownS s0 x1 2) = flt σ := by rw [ownS_flt, g0]
  generalize ownS s0 x1 2 = s1 at *
  obtain ⟨x2, e2, f2⟩ := r_own tx_3 n1 hm 3
  have n2 : rnam m nm (ownS s1 x2 3) := ownS_rnam n1
  have p2 := OWI_s (v := 3) inj p1 (by decide +kernel) f2
  have d2 : rD0 σ (ownS s1 x2 3) := rD0_trans d1 ownS_rD0
  have g2 : flt (ownS s1 x2 3) = flt σ := by rw [ownS_flt, g1]
  generalize ownS s1 x2 3 = s2 at *
  obtain ⟨x3, e3, f3⟩ := r_own tx_4 n2 hm 4
  have n3 : rnam m nm (ownS s2 x3 4) := ownS_rnam n2
  have p3 := OWI_s (v := 4) inj p2 (by decide +kernel) f3
  have d3 : rD0 σ (ownS s2 x3 4) := rD0_trans d2 ownS_rD0
  have g3 : flt (ownS s2 x3 4) = flt σ := by rw [ownS_flt, g2]
  generalize ownS s2 x3 4 = s3 at *
  obtain ⟨x4, e4, f4⟩ := r_own tx_5 n3 hm 5
  have n4 : rnam m nm (ownS s3 x4 5) := ownS_rnam n3
  have p4 := OWI_s (v := 5) inj p3 (by decide +kernel) f4
  have d4 : rD0 σ (ownS s3 x4 5) := rD0_trans d3 ownS_rD0
  have g4 : flt (ownS s3 x4 5) = flt σ := by rw [ownS_flt, g3]
  generalize ownS s3 x4 5 = s4 at *
  obtain ⟨x5, e5, f5⟩ := r_own tx_6 n4 hm 6
  have n5 : rnam m nm (ownS s4 x5 6) := ownS_rnam n4
  have p5 := OWI_s (v := 6) inj p4 (by decide +kernel) f5
  have d5 : rD0 σ (ownS s4 x5 6) := rD0_trans d4 ownS_rD0
  have g5 : flt (ownS s4 x5 6) = flt σ := by rw [ownS_flt, g4]
  generalize ownS s4 x5 6 = s5 at *
  obtain ⟨x6, e6, f6⟩ := r_own tx_8 n5 hm 8
  have n6 : rnam m nm (ownS s5 x6 8) := ownS_rnam n5
  have p6 := OWI_s (v := 8) inj p5 (by decide +kernel) f6
  have d6 : rD0 σ (ownS s5 x6 8) := rD0_trans d5 ownS_rD0
  have g6 : flt (ownS s5 x6 8) = flt σ := by rw [ownS_flt, g5]
  generalize ownS s5 x6 8 = s6 at *
  obtain ⟨x7, e7, f7⟩ := r_own tx_9 n6 hm 9
  have n7 : rnam m nm (ownS s6 x7 9) := ownS_rnam n6
  have p7 := OWI_s (v := 9) inj p6 (by decide +kernel) f7
  have d7 : rD0 σ (ownS s6 x7 9) := rD0_trans d6 ownS_rD0
  have g7 : flt (ownS s6 x7 9) = flt σ := by rw [ownS_flt, g6]
  generalize ownS s6 x7 9 = s7 at *
  obtain ⟨x8, e8, f8⟩ := r_own tx_10 n7 hm 10
  have n8 : rnam m nm (ownS s7 x8 10) := ownS_rnam n7
  have p8 := OWI_s (v := 10) inj p7 (by decide +kernel) f8
  have d8 : rD0 σ (ownS s7 x8 10) := rD0_trans d7 ownS_rD0
  have g8 : flt (ownS s7 x8 10) = flt σ := by rw [ownS_flt, g7]
  generalize ownS s7 x8 10 = s8 at *
  obtain ⟨x9, e9, f9⟩ := r_own tx_11 n8 hm 11
  have n9 : rnam m nm (ownS s8 x9 11) := ownS_rnam n8
  have p9 := OWI_s (v := 11) inj p8 (by decide +kernel) f9
  have d9 : rD0 σ (ownS s8 x9 11) := rD0_trans d8 ownS_rD0
  have g9 : flt (ownS s8 x9 11) = flt σ := by rw [ownS_flt, g8]
  generalize ownS s8 x9 11 = s9 at *
  refine ⟨s9, ?_, p9, d9, g9⟩
  unfold Dhd
  rw [show F_X12_own ([108, 111, 111, 107] : List Int32) 1 σ = _ from e0, Option.bind_some, show F_X12_own ([105, 110, 118, 101, 110, 116, 111, 114, 121] : List Int32) 2 _ = _ from e1, Option.bind_some, show F_X12_own ([119, 97, 105, 116] : List Int32) 3 _ = _ from e2, Option.bind_some, show F_X12_own ([116, 97, 107, 101] : List Int32) 4 _ = _ from e3, Option.bind_some, show F_X12_own ([100, 114, 111, 112] : List Int32) 5 _ = _ from e4, Option.bind_some, show F_X12_own ([101, 120, 97, 109, 105, 110, 101] : List Int32) 6 _ = _ from e5, Option.bind_some, show F_X12_own ([99, 108, 111, 115, 101] : List Int32) 8 _ = _ from e6, Option.bind_some, show F_X12_own ([112, 117, 116, 105, 110] : List Int32) 9 _ = _ from e7, Option.bind_some, show F_X12_own ([112, 117, 116, 111, 110] : List Int32) 10 _ = _ from e8, Option.bind_some, show F_X12_own ([103, 111] : List Int32) 11 _ = _ from e9, Option.bind_some]
  rfl
