/-! a line is listened to, by both -/
variable {nO nV nC : Nat} {room : Nat → Bool}
/-- what hearing leaves alone in the reference -/
def rEn (σ τ : MS) : Prop := (∀ k, k ≠ 117 → k ≠ 120 → τ.1 k = σ.1 k) ∧ ∀ k, k ≠ 116 → k ≠ 118 → k ≠ 119 → τ.2 k = σ.2 k
theorem rEn_rfl {σ : MS} : rEn σ σ := ⟨fun _ _ _ => rfl, fun _ _ _ _ => rfl⟩
theorem rEn_trans {σ τ υ : MS} (h : rEn σ τ) (g : rEn τ υ) : rEn σ υ := ⟨fun k a b => by rw [g.1 k a b, h.1 k a b], fun k a b c => by rw [g.2 k a b c, h.2 k a b c]⟩
theorem rEn_R {σ τ : MS} (h : rRd σ τ) : rEn σ τ := ⟨fun k a b => h.1 k b, fun k a b c => h.2 k b c⟩
theorem rEn_i {σ : MS} {k : Nat} {v : Int32} (hk : k = 117 ∨ k = 120) : rEn σ (mI σ k v) := ⟨fun j a b => by rw [mI_1, if_neg (by omega)], fun _ _ _ _ => rfl⟩
theorem rEn_a {σ : MS} {g : Nat → Int32} : rEn σ (mA σ 116 g) := ⟨fun _ _ _ => rfl, fun j a b c => by rw [mA_2, if_neg a]⟩
theorem EtB_go {b : Nat → Int} {n : Nat} (hn : n ≤ 120) (K : MS → MR) : ∀ (d i m : Nat) (σ : MS), i + d = n → d < m → σ.1 117 = J (n : Nat) → (∀ j, j < n → σ.2 3 j = J (b j) ∧ (b j = 10 ∨ (32 ≤ b j ∧ b j ≤ 126))) → (∀ j, j < i → σ.2 116 j = J (lnC (b j))) → ∃ τ, loopF (EtB K) m (J (i : Nat), σ) = K τ ∧ LIN τ (fun j => lnC (b j)) n ∧ rEn σ τ := by
  intro d
  induction d with
  | zero =>
    intro i m σ hi hm h7 hb hd
    obtain ⟨m, rfl⟩ : ∃ k, m = k + 1 := ⟨m - 1, by omega⟩
    refine ⟨σ, ?_, ⟨hn, h7, fun j hj => ⟨hd j (by omega), ?_⟩⟩, rEn_rfl⟩
    · rw [EtB_s, h7, if_pos (by rw [J_le (by omega) (by omega) (by omega) (by omega)]; omega)]
    · have := lnC_rng (hb j hj).2; show 0 ≤ lnC (b j) ∧ lnC (b j) ≤ 126; omega
  | succ d ih =>
    intro i m σ hi hm h7 hb hd
    obtain ⟨m, rfl⟩ : ∃ k, m = k + 1 := ⟨m - 1, by omega⟩
    obtain ⟨b1, b2⟩ := hb i (by omega)
    have r := lnC_rng b2
    obtain ⟨τ, y1, y2, y3⟩ := ih (i + 1) m (mA σ 116 (upd (σ.2 116) i (J (lnC (b i))))) (by omega) (by omega) h7 hb (fun j hj => by
      show upd (σ.2 116) i (J (lnC (b i))) j = _
      rw [upd_s]
      by_cases q : j = i
      · rw [if_pos q, q]
      · rw [if_neg q]; exact hd j (by omega))
    refine ⟨τ, ?_, y2, rEn_trans rEn_a y3⟩
    have s := EtB_s K m (J (i : Nat)) σ
    rw [h7, if_neg (by rw [J_le (by omega) (by omega) (by omega) (by omega)]; omega), if_neg (gNn (by omega) (by omega)), bndE, J_natN (by omega), b1, bndE, bndE] at s
    have fin : ∀ v : Int, v = lnC (b i) → (bnd ((J v).toInt8.toInt32) fun (x_100 : Int32) => if J (i : Nat) < 0 ∨ 120 ≤ i then none else bnd (mA σ 116 (upd (σ.2 116) i (vp_nar .byte x_100))) fun σ_104 => bnd (J (i : Nat) + 1) fun (x_106 : Int32) => loopF (EtB K) m (x_106, σ_104)) = loopF (EtB K) m (J (i + 1 : Nat), mA σ 116 (upd (σ.2 116) i (J (lnC (b i))))) := fun v hv => by
      have g := gNn (k := i) (n := 120) (by omega) (by omega)
      rw [J_natN (by omega)] at g
      subst hv
      rw [J_i8 (by omega) (by omega), bndE, if_neg g, bndE, bndE, J_suc, J_byte (by omega) (by omega)]
    rw [s]
    refine Eq.trans ?_ y1
    by_cases q2 : b i = 10
    · rw [if_pos (by rw [q2]; rfl)]
      exact fin 32 (by unfold lnC; rw [if_pos q2])
    · rw [if_neg (by rw [show (10 : Int32) = J 10 from rfl, J_eq (by omega) (by omega) (by omega) (by omega)]; exact q2)]
      by_cases q1 : b i < 65
      · rw [if_pos (by rw [show (65 : Int32) = J 65 from rfl, J_lt (by omega) (by omega) (by omega) (by omega)]; exact q1)]
        exact fin (b i) (by unfold lnC; rw [if_neg q2, if_neg (by omega)])
      · rw [if_neg (by rw [show (65 : Int32) = J 65 from rfl, J_lt (by omega) (by omega) (by omega) (by omega)]; exact q1)]
        by_cases q3 : 90 < b i
        · rw [if_pos (by rw [show (90 : Int32) = J 90 from rfl, J_lt (by omega) (by omega) (by omega) (by omega)]; exact q3)]
          exact fin (b i) (by unfold lnC; rw [if_neg q2, if_neg (by omega)])
        · rw [if_neg (by rw [show (90 : Int32) = J 90 from rfl, J_lt (by omega) (by omega) (by omega) (by omega)]; exact q3), show (32 : Int32) = J 32 from rfl, J_add]
          exact fin (b i + 32) (by unfold lnC; rw [if_neg q2, if_pos (by omega)])
theorem EtP_go {b : Nat → Int} {n : Nat} (hn : n ≤ 120) (K : MS → MR) : ∀ (d i m : Nat) (σ : MS), i + d = n → d < m → σ.1 117 = J (n : Nat) → (∀ j, j < n → σ.2 97 j = J (b j) ∧ 32 ≤ b j ∧ b j ≤ 126) → (∀ j, j < i → σ.2 116 j = J (b j)) → ∃ τ, loopF (EtP K) m (J (i : Nat), σ) = K τ ∧ LIN τ b n ∧ rEn σ τ := by
  intro d
  induction d with
  | zero =>
    intro i m σ hi hm h7 hb hd
    obtain ⟨m, rfl⟩ : ∃ k, m = k + 1 := ⟨m - 1, by omega⟩
    refine ⟨σ, ?_, ⟨hn, h7, fun j hj => ⟨hd j (by omega), ?_⟩⟩, rEn_rfl⟩
    · rw [EtP_s, h7, if_pos (by rw [J_le (by omega) (by omega) (by omega) (by omega)]; omega)]
    · have := hb j hj; omega
  | succ d ih =>
    intro i m σ hi hm h7 hb hd
    obtain ⟨m, rfl⟩ : ∃ k, m = k + 1 := ⟨m - 1, by omega⟩
    obtain ⟨b1, b2, b3⟩ := hb i (by omega)
    obtain ⟨τ, y1, y2, y3⟩ := ih (i + 1) m (mA σ 116 (upd (σ.2 116) i (J (b i)))) (by omega) (by omega) h7 hb (fun j hj => by
      show upd (σ.2 116) i (J (b i)) j = _
      rw [upd_s]
      by_cases q : j = i
      · rw [if_pos q, q]
      · rw [if_neg q]; exact hd j (by omega))
    refine ⟨τ, ?_, y2, rEn_trans rEn_a y3⟩
    rw [EtP_s, h7, if_neg (by rw [J_le (by omega) (by omega) (by omega) (by omega)]; omega), if_neg (gNn (by omega) (by omega)), bndE, if_neg (gNn (by omega) (by omega)), J_natN (by omega), b1, bndE, bndE, J_suc, J_byte (by omega) (by omega)]
    exact y1
theorem txl_over : TXL [84, 104, 101, 32, 115, 116, 111, 114, 121, 32, 105, 115, 32, 111, 118, 101, 114, 46] [84, 104, 101, 32, 115, 116, 111, 114, 121, 32, 105, 115, 32, 111, 118, 101, 114, 46] := by unfold TXL; decide +kernel
theorem txl_beg : TXL [73, 32, 98, 101, 103, 32, 121, 111, 117, 114, 32, 112, 97, 114, 100, 111, 110, 63] [73, 32, 98, 101, 103, 32, 121, 111, 117, 114, 32, 112, 97, 114, 100, 111, 110, 63] := by unfold TXL; decide +kernel
theorem txl_repeat : TXL [84, 104, 101, 114, 101, 32, 105, 115, 32, 110, 111, 116, 104, 105, 110, 103, 32, 116, 111, 32, 114, 101, 112, 101, 97, 116, 46] [84, 104, 101, 114, 101, 32, 105, 115, 32, 110, 111, 116, 104, 105, 110, 103, 32, 116, 111, 32, 114, 101, 112, 101, 97, 116, 46] := by unfold TXL; decide +kernel
/-- what listening comes to -/
def LSO (W : List Int) (e : Nat) (σ : MS) (Γ : HS) (mR : MR) (mC : HR) : Prop := (∃ σ' τ Γ' Δ, mR = some (if e = 0 then 0 else 3, τ) ∧ mC = some (0, Δ) ∧ rEn (mI σ 4 0) σ' ∧ cHr Γ Γ' ∧ TLS σ' Γ' τ Δ) ∨ ∃ (σ' : MS) (Δ : HS) (ws : List (List Int)) (n : Nat), e = 0 ∧ mR = F_X12_understand σ' ∧ mC = some (1, Δ) ∧ rEn (mI σ 4 0) σ' ∧ cHr Γ Δ ∧ TRr σ' ws ∧ TRc Δ W ws ∧ 0 < ws.length ∧ LNE σ' Δ n
theorem tmg_ne {L : Nat → Int} {n : Nat} : ∀ d k f, k + d = n → f ≤ k → (f < k ∨ ∃ i, k ≤ i ∧ i < n ∧ isLt (L i) = true) → 0 < (tmg L d k f).length := by
  intro d
  induction d with
  | zero =>
    intro k f hk hf h
    have h1 : f < k := by
      rcases h with h | ⟨i, i1, i2, -⟩
      · exact h
      · omega
    unfold tmg
    rw [if_pos h1]; exact Nat.one_pos
  | succ d ih =>
    intro k f hk hf h
    unfold tmg
    by_cases q : isLt (L k) = true
    · rw [if_pos q]
      exact ih (k + 1) f (by omega) (by omega) (Or.inl (by omega))
    · rw [if_neg q, List.length_append]
      rcases h with h | ⟨i, i1, i2, i3⟩
      · rw [if_pos h]; show 0 < 1 + _; omega
      · have : i ≠ k := by rintro rfl; exact q i3
        have := ih (k + 1) (k + 1) (by omega) (Nat.le_refl _) (Or.inr ⟨i, by omega, i2, i3⟩)
        omega
theorem tk_pos {l : List (Nat × Nat)} (h : 0 < l.length) : 0 < (l.take 12).length := by rw [List.length_take]; omega
/-- a term is there: so is a letter -/
theorem tmg_lt {L : Nat → Int} {n : Nat} (h : 0 < ((tmg L n 0 0).take 12).length) : ∃ i, i < n ∧ 97 ≤ L i ∧ L i ≤ 122 := by
  have hm : ((tmg L n 0 0).take 12)[0] ∈ (tmg L n 0 0).take 12 := List.getElem_mem h
  obtain ⟨k1, k2, k3⟩ := tmg_ok n 0 0 (Nat.zero_add _) (Nat.le_refl _) (fun x x1 x2 => by omega) _ (List.mem_of_mem_take hm)
  exact ⟨_, by omega, isLt_iff.mp (k3 _ (Nat.le_refl _) k1)⟩
theorem LNE_of {σ : MS} {Γ : HS} {L : Nat → Int} {n : Nat} (h : LIN σ L n) (g : CLN Γ L n) (h1 : 1 ≤ n) (hb : ∀ i, i < n → 32 ≤ L i ∧ L i ≤ 126 ∧ ¬ (65 ≤ L i ∧ L i ≤ 90)) (hl : ∃ i, i < n ∧ 97 ≤ L i ∧ L i ≤ 122) : LNE σ Γ n := by
  obtain ⟨i0, j1, j2⟩ := hl
  exact ⟨h1, h.1, h.2.1, g.2.1, fun i hi => ⟨L i, (h.2.2 i hi).1, (g.2.2 i hi).1, (hb i hi).1, (hb i hi).2.1, (hb i hi).2.2⟩, i0, j1, L i0, (h.2.2 i0 j1).1, j2⟩
theorem tmg_0 {L : Nat → Int} : tmg L 0 0 0 = [] := by unfold tmg; rw [if_neg (by omega)]
theorem W_hear {W : List Int} {σ : MS} {Γ : HS} {L : Nat → Int} {n : Nat} {P : List (Nat × Nat)} (h : RTS σ P) (hL : LIN σ L n) (hc : CTS L W Γ P) (hP : P = (tmg L n 0 0).take 12) : TRr σ (P.map (twd L)) ∧ TRc Γ W (P.map (twd L)) ∧ (0 < P.length → 1 ≤ n) := by
  refine ⟨TRr_of h hL (fun p hp => ?_), TRc_of hc, fun h0 => ?_⟩
  · rw [hP] at hp
    exact tmg_ok n 0 0 (Nat.zero_add _) (Nat.le_refl _) (fun x x1 x2 => by omega) p (List.mem_of_mem_take hp)
  · rcases Nat.eq_zero_or_pos n with q | q
    · rw [hP, q, tmg_0] at h0; exact absurd h0 (by decide)
    · exact q
/-- the class's listening, a line heard -/
theorem W_listen {W : List Int} {σ : MS} {Γ : HS} {b : Nat → Int} {len e : Nat} (hP : PL nO room nV nC σ Γ) (hO : OUT σ Γ) (hF : FXW Γ W) (hl : len ≤ 16000) (hb : ∀ j, j < len → (Γ 13).2.1 0 j = J (b j) ∧ (b j = 10 ∨ (32 ≤ b j ∧ b j ≤ 126))) (hL : LIN σ (fun j => lnC (b j)) (if len < 120 then len else 120)) (he : e ≤ 2) (h95 : σ.1 95 = J (e : Nat)) : LSO W e σ Γ (entK σ) (F_X8_listen (J (len : Nat)) Γ) := by
  have c10 : (Γ 9).1 10 = J (e : Nat) := by
    obtain ⟨pa, fi, nx, ch, tr, P⟩ := hP
    exact P.2.2.2.2.2.2.1.2.2.1.trans h95
  have hLA : LAT σ Γ := by
    obtain ⟨pa, fi, nx, ch, tr, P⟩ := hP
    exact P.2.2.2.2.2.2.2.2.2.2.2.1
  have hO4 : OUT (mI σ 4 0) Γ := by
    obtain ⟨w, o1, o2⟩ := hO
    exact ⟨w, OL_congr o1 rfl rfl, o2⟩
  have tl : ∀ {σ τ : MS} {Γ Δ : HS}, TLS σ Γ τ Δ → mrg (fun j => j == 11 || j == 10 || j == 9 || j == 8 || j == 4 || j == 5 || j == 6 || j == 7) Γ Δ = Δ := fun {σ τ Γ Δ} h => mrgE (fun r hr => h.2.1.1 r (by rintro rfl; exact absurd hr (by decide)) (by rintro rfl; exact absurd hr (by decide)))
  unfold entK F_X8_listen
  rw [bndE, c10, show (mI σ 4 0).1 95 = J (e : Nat) from h95]
  by_cases q0 : e = 0
  rotate_left
  · -- it is over
    obtain ⟨τ, Δ, a1, a2, a3⟩ := W_no txl_over hO4
    unfold F_X12_no at a1
    refine Or.inl ⟨mI σ 4 0, τ, Γ, Δ, ?_, ?_, rEn_rfl, cHr_rfl, a3⟩
    · rw [if_neg (by rw [show (0 : Int32) = J ((0 : Nat) : Int) from rfl, J_le (by omega) (by omega) (by omega) (by omega)]; omega), if_neg q0]
      cases hm : F_X12_line [84, 104, 101, 32, 115, 116, 111, 114, 121, 32, 105, 115, 32, 111, 118, 101, 114, 46] (mI σ 4 0) with
      | none => rw [hm] at a1; cases a1
      | some u => rw [hm] at a1; rw [Option.bind_some] at a1 ⊢; cases a1; rfl
    · rw [if_neg (by rw [J_z0 (by omega)]; exact q0), a2, Option.bind_some]
      dsimp only
      rw [tl a3, bndE, if_neg (by decide)]
  rw [if_pos (by rw [q0]; decide), if_pos (by rw [q0]; rfl)]
  obtain ⟨τ1, r1, r2, r3⟩ := r_readTerms (σ := mI σ 4 0) (show LIN (mI σ 4 0) _ _ from hL)
  obtain ⟨Δ1, c1, c2, c3, c4⟩ := c_hear_b hl hb hF.1
  have L1 := LIN_rd (show LIN (mI σ 4 0) _ _ from hL) r3
  obtain ⟨t1, t2, t3⟩ := W_hear r2 L1 c3 rfl
  have fr : rEn (mI σ 4 0) τ1 := rEn_R r3
  have F1 : FXW Δ1 W := FXW_r hF (c4.1 7 (by omega))
  have O1 : OUT τ1 Δ1 := by
    obtain ⟨w, o1, o2⟩ := hO
    exact ⟨w, OL_congr o1 (fr.2 102 (by omega) (by omega) (by omega)) (fr.1 103 (by omega) (by omega)), OL_congr o2 (by rw [c4.1 8 (by omega)]) (by rw [c4.1 8 (by omega)])⟩
  rw [r1, Option.bind_some, c1, Option.bind_some]
  dsimp only
  rw [r2.1, c3.1]
  have p12 := r2.2.1
  have bnd120 : (if len < 120 then len else 120) ≤ 120 := by split <;> omega
  have lne : 0 < ((tmg (fun j => lnC (b j)) (if len < 120 then len else 120) 0 0).take 12).length → LNE τ1 Δ1 (if len < 120 then len else 120) := fun h0 => LNE_of L1 c2 (t3 h0) (fun i hi => lnC_rng (hb i (by split at hi <;> omega)).2) (tmg_lt h0)
  generalize hQ : (tmg (fun j => lnC (b j)) (if len < 120 then len else 120) 0 0).take 12 = Q at *
  by_cases q1 : Q.length = 0
  · -- no term
    obtain ⟨τ, Δ, a1, a2, a3⟩ := W_no txl_beg O1
    unfold F_X12_no at a1
    refine Or.inl ⟨τ1, τ, Δ1, Δ, ?_, ?_, fr, c4, a3⟩
    · rw [if_pos (by rw [q1]; rfl), if_pos q0, a1]
    · rw [if_pos (by rw [q1]; rfl), a2, Option.bind_some]
      dsimp only
      rw [tl a3, bndE, if_neg (by decide)]
  have n0 : ¬ J (Q.length : Nat) = 0 := by rw [J_z0 (by omega)]; exact q1
  rw [if_neg n0, if_neg n0, bndE]
  have lenW : (Q.map (twd fun j => lnC (b j))).length = Q.length := List.length_map ..
  have und : LSO W e σ Γ ((F_X12_understand τ1).bind fun u_38 => some (u_38.1, u_38.2)) (some (1, Δ1)) := by
    rw [bind_id]
    exact Or.inr ⟨τ1, Δ1, _, _, q0, rfl, rfl, fr, c4, t1, t2, by rw [lenW]; omega, lne (by omega)⟩
  by_cases q2 : Q.length = 1
  rotate_left
  · have n1 : ¬ J (Q.length : Nat) = 1 := by rw [show (1 : Int32) = J ((1 : Nat) : Int) from rfl, J_eqN (by omega) (by omega)]; exact q2
    rw [if_neg n1, if_neg n1]
    exact und
  have i1 : J (Q.length : Nat) = 1 := by rw [q2]; rfl
  rw [if_pos i1, if_pos i1]
  have hw0 := (t1.2.2 0 (by rw [lenW]; omega)).1
  obtain ⟨z, z1, z2⟩ := c_term t2 (by rw [lenW]; omega) (t := 0) (by rw [lenW]; omega)
  have z1 : F_X8_term 0 Δ1 = some (J z, Δ1) := z1
  have ea := fx_J F1 z2 hw0 (j := 0) (by omega)
  have eg := fx_J F1 z2 hw0 (j := 1) (by omega)
  rw [show F_X12_isTerm 0 [97, 103, 97, 105, 110] τ1 = _ from r_isL t1 (t := 0) (by rw [lenW]; omega) lts_0, Option.bind_some, z1, Option.bind_some]
  dsimp only
  rw [mrgS, bndE, bndE, bndE]
  generalize hw : (Q.map (twd fun j => lnC (b j))).getD 0 [] = w at hw0 z2 ea eg ⊢
  -- again
  have again : LSO W e σ Γ (if 0 ≤ (τ1.1 98) then ( bnd (mI τ1 117 (τ1.1 98)) fun σ_51 => loopF (EtP (fun (σ_z : MS) => (F_X12_readTerms σ_z).bind fun u_59 => (F_X12_understand u_59.2).bind fun u_38 => some (u_38.1, u_38.2))) FU (0, σ_51) ) else ( (F_X12_line ([84, 104, 101, 114, 101, 32, 105, 115, 32, 110, 111, 116, 104, 105, 110, 103, 32, 116, 111, 32, 114, 101, 112, 101, 97, 116, 46] : List Int32) τ1).bind fun u_74 => some (0, u_74.2) )) (if ((Δ1 9).1 7) = 0 then ( (F_X8_refuse ([84, 104, 101, 114, 101, 32, 105, 115, 32, 110, 111, 116, 104, 105, 110, 103, 32, 116, 111, 32, 114, 101, 112, 101, 97, 116, 46] : List Int32) Δ1).bind fun u_28 => bnd (mrg (fun j => j == 11 || j == 10 || j == 9 || j == 8 || j == 4 || j == 5 || j == 6 || j == 7) Δ1 u_28.2) fun σ_30 => if ¬ (u_28.1 = 0 ∨ u_28.1 = 1) then none else some (u_28.1, σ_30) ) else ( (F_X8_hear_p ((Δ1 9).1 7) Δ1).bind fun u_35 => bnd (mrg (fun j => j == 11 || j == 10 || j == 9 || j == 8 || j == 4 || j == 5 || j == 6 || j == 7) Δ1 u_35.2) fun σ_37 => some (1, σ_37) )) := by
    have LA1 : LAT τ1 Δ1 := by
      unfold LAT at hLA ⊢
      rw [fr.1 98 (by omega) (by omega), fr.2 97 (by omega) (by omega) (by omega), c4.1 9 (by omega)]; exact hLA
    rcases LA1 with ⟨l1, l2⟩ | ⟨m, m1, m2, m3, m4, m5, i0, k1, c0, k2, k3⟩
    · obtain ⟨τ, Δ, a1, a2, a3⟩ := W_no txl_repeat O1
      unfold F_X12_no at a1
      refine Or.inl ⟨τ1, τ, Δ1, Δ, ?_, ?_, fr, c4, a3⟩
      · rw [l1, if_neg (by decide), if_pos q0, a1]
      · rw [l2, if_pos (show J 0 = 0 from rfl), a2, Option.bind_some]
        dsimp only
        rw [tl a3, bndE, if_neg (by decide)]
    · have hb' : ∀ j, j < m → ∃ c : Int, c = (τ1.2 97 j).toInt ∧ τ1.2 97 j = J c ∧ (Δ1 9).2.1 6 j = J c ∧ 32 ≤ c ∧ c ≤ 126 ∧ ¬ (65 ≤ c ∧ c ≤ 90) := fun j hj => by
        obtain ⟨c, d1, d2, d3, d4, d5⟩ := m5 j hj
        exact ⟨c, by rw [d1, J_toInt (by omega) (by omega)], d1, d2, d3, d4, d5⟩
      obtain ⟨τ2, p1, p2, p3⟩ := EtP_go (b := fun j => (τ1.2 97 j).toInt) m2 (fun (σ_z : MS) => (F_X12_readTerms σ_z).bind fun u_59 => (F_X12_understand u_59.2).bind fun u_38 => some (u_38.1, u_38.2)) m 0 FU (mI τ1 117 (J (m : Nat))) (Nat.zero_add _) (FU_gt (by omega)) rfl (fun j hj => by
        obtain ⟨c, rfl, d1, d2, d3, d4, d5⟩ := hb' j hj
        exact ⟨d1, d3, d4⟩) (fun j hj => absurd hj (Nat.not_lt_zero _))
      obtain ⟨τ3, s1, s2, s3⟩ := r_readTerms p2
      obtain ⟨Δ2, g1, g2, g3, g4⟩ := c_hear_p (Γ := Δ1) (W := W) (b := fun j => (τ1.2 97 j).toInt) m2 (fun j hj => by
        obtain ⟨c, rfl, d1, d2, d3⟩ := hb' j hj
        exact ⟨d2, d3⟩) F1.1
      obtain ⟨u1, u2, u3⟩ := W_hear s2 (LIN_rd p2 s3) g3 rfl
      have hpos : 0 < ((tmg (fun j => (τ1.2 97 j).toInt) m 0 0).take 12).length := by
        refine tk_pos (tmg_ne m 0 0 (Nat.zero_add _) (Nat.le_refl _) (Or.inr ⟨i0, Nat.zero_le _, k1, ?_⟩))
        rw [isLt_iff, k2, J_toInt (by omega) (by omega)]; exact k3
      refine Or.inr ⟨τ3, Δ2, _, m, q0, ?_, ?_, rEn_trans fr (rEn_trans (rEn_i (by omega)) (rEn_trans p3 (rEn_R s3))), cHr_trans c4 g4, u1, u2, by rw [List.length_map]; exact hpos, LNE_of (LIN_rd p2 s3) g2 m1 (fun i hi => ?_) (tmg_lt hpos)⟩
      · rw [m3, if_pos (by rw [show (0 : Int32) = J ((0 : Nat) : Int) from rfl, J_le (by omega) (by omega) (by omega) (by omega)]; omega), bndE]
        refine (show loopF (EtP (fun (σ_z : MS) => (F_X12_readTerms σ_z).bind fun u_59 => (F_X12_understand u_59.2).bind fun u_38 => some (u_38.1, u_38.2))) FU (0, mI τ1 117 (J (m : Nat))) = _ from p1).trans ?_
        rw [s1, Option.bind_some, bind_id]
      · rw [m4, if_neg (by rw [J_z0 (by omega)]; omega), g1, Option.bind_some]
        dsimp only
        rw [mrgE (fun r hr => g4.1 r (by rintro rfl; exact absurd hr (by decide))), bndE]
      · obtain ⟨c, rfl, d1, d2, d3⟩ := hb' i hi
        exact d3
  by_cases qa : w = [97, 103, 97, 105, 110]
  · rw [if_pos qa, if_neg (by decide), if_pos (show J z = 0 from by rw [show (0 : Int32) = J ((0 : Nat) : Int) from rfl, ea]; exact qa)]
    exact again
  · rw [if_neg qa, if_pos rfl, if_neg (show ¬ J z = 0 from by rw [show (0 : Int32) = J ((0 : Nat) : Int) from rfl, ea]; exact qa), show F_X12_isTerm 0 [103] τ1 = _ from r_isL t1 (t := 0) (by rw [lenW]; omega) lts_1, Option.bind_some, z1, Option.bind_some]
    dsimp only
    rw [mrgS, hw, bndE Δ1]
    by_cases qg : w = [103]
    · rw [if_pos qg, if_neg (by decide), if_pos (show J z = 1 from by rw [show (1 : Int32) = J ((1 : Nat) : Int) from rfl, eg]; exact qg)]
      exact again
    · rw [if_neg qg, if_pos rfl, if_neg (show ¬ J z = 1 from by rw [show (1 : Int32) = J ((1 : Nat) : Int) from rfl, eg]; exact qg)]
      exact und
