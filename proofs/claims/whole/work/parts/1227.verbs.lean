/-! the verb is found, by both -/
variable {nO nV nC : Nat} {room : Nat → Bool}
/-- only what is understood changed -/
def cUn (Γ Δ : HS) : Prop := (∀ r, r ≠ 11 → Δ r = Γ r) ∧ (∀ k, ¬ (8 ≤ k ∧ k ≤ 13) → k ≠ 15 → (Δ 11).1 k = (Γ 11).1 k) ∧ ∀ k, k ≠ 14 → (Δ 11).2.1 k = (Γ 11).2.1 k
theorem cUn_rfl {Γ : HS} : cUn Γ Γ := ⟨fun _ _ => rfl, fun _ _ _ => rfl, fun _ _ => rfl⟩
theorem cUn_trans {Γ Δ Θ : HS} (h : cUn Γ Δ) (g : cUn Δ Θ) : cUn Γ Θ := ⟨fun r a => by rw [g.1 r a, h.1 r a], fun k a b => by rw [g.2.1 k a b, h.2.1 k a b], fun k a => by rw [g.2.2 k a, h.2.2 k a]⟩
theorem cUn_i {Γ : HS} {k : Nat} {v : Int32} (hk : (8 ≤ k ∧ k ≤ 13) ∨ k = 15) : cUn Γ (cI' Γ 11 k v) := ⟨fun r hr => by rw [cI_r, if_neg hr], fun j h1 h2 => if_neg (by omega), fun _ _ => rfl⟩
theorem TRc_un {Γ Δ : HS} {W : List Int} {ws : List (List Int)} (h : TRc Γ W ws) (g : cUn Γ Δ) : TRc Δ W ws := by
  unfold TRc
  rw [g.2.1 7 (by omega) (by omega), g.2.2 6 (by omega)]; exact h
theorem WSO_r {Γ Δ : HS} {W : List Int} {ow : Nat → List (List Int)} (h : WSO Γ W ow) (e4 : Δ 4 = Γ 4) (e7 : Δ 7 = Γ 7) : WSO Δ W ow := ⟨WST_m3 h.1 e4 e7, h.2⟩
theorem FXW_r {Γ Δ : HS} {W : List Int} (h : FXW Γ W) (e7 : Δ 7 = Γ 7) : FXW Δ W := ⟨DOK_r h.1 e7, h.2⟩
theorem OUT_r {σ : MS} {Γ Δ : HS} (h : OUT σ Γ) (e8 : Δ 8 = Γ 8) : OUT σ Δ := by
  obtain ⟨w, o1, o2⟩ := h
  exact ⟨w, o1, by unfold OC; rw [e8]; exact o2⟩
theorem NCX_un {ow : Nat → List (List Int)} {W : List Int} {ws : List (List Int)} {σ : MS} {Γ Δ : HS} (h : NCX nO room nV nC ow W ws σ Γ) (g : cUn Γ Δ) : NCX nO room nV nC ow W ws σ Δ := by
  obtain ⟨h1, h2, h3, h4, h5, h6, h7, h8, h9, h10, h11⟩ := h
  have e4 := g.1 4 (by omega)
  have e7 := g.1 7 (by omega)
  exact ⟨PL_keep h1 (fun _ _ => rfl) (fun _ _ => rfl) (g.1 9 (by omega)), OUT_r h2 (g.1 8 (by omega)), h3, h4, by rw [e4]; exact h5, h6, WSO_r h7 e4 e7, FXW_r h8 e7, h9, h10, TRc_un h11 g⟩
/-- the verbs, in both -/
def VRBB (ow : Nat → List (List Int)) (W : List Int) (F : Nat → Nat) (nv : Nat) (σ : MS) (Γ : HS) : Prop := σ.1 79 = J (nv : Nat) ∧ (Γ 4).2.1 0 1 = J (nv : Nat) ∧ nv ≤ 60 ∧ ow 131 = [] ∧ ∀ v, 1 ≤ v → v ≤ nv → v ≠ 11 → VWR σ v (ow (120 + v)) ∧ F v ≤ 2 ∧ σ.2 60 v = J (F v : Nat) ∧ (Γ 4).2.1 7 v = J (F v : Nat) ∧ (F v = 2 → ∃ (jw : List Int) (m : Nat), nmW jw ∧ σ.2 62 v = J (wsz jw) ∧ (∀ k, k < wmn jw → σ.2 61 (9 * v + k) = J (jw.getD k 0)) ∧ m < W.length ∧ (Γ 4).2.1 8 v = J (m : Nat) ∧ W.getD m 0 = tm9 jw)
theorem VRBB_un {ow : Nat → List (List Int)} {W : List Int} {F : Nat → Nat} {nv : Nat} {σ : MS} {Γ Δ : HS} (h : VRBB ow W F nv σ Γ) (g : cUn Γ Δ) : VRBB ow W F nv σ Δ := by
  unfold VRBB
  rw [g.1 4 (by omega)]; exact h
theorem bind_id {α : Type} (m : Option (Int32 × α)) : (m.bind fun u => some (u.1, u.2)) = m := by cases m <;> rfl
/-- where the first noun of two ends -/
theorem W_joint {W : List Int} {ws : List (List Int)} {σ : MS} {X : HS} {v m : Nat} {jw : List Int} (hD : DOK X W) (hT : TRr σ ws) (hTc : TRc X W ws) (hv : v ≤ 60) (hj : nmW jw) (h62 : σ.2 62 v = J (wsz jw)) (h61 : ∀ k, k < wmn jw → σ.2 61 (9 * v + k) = J (jw.getD k 0)) (hm : m < W.length) (h8 : (X 4).2.1 8 v = J (m : Nat)) (hW : W.getD m 0 = tm9 jw) : ∀ (d p n : Nat), (p + d + 1 = ws.length ∨ (d = 0 ∧ ws.length ≤ p + 1)) → p ≤ 100 → d < n → (∃ p0 : Nat, p ≤ p0 ∧ p0 + 1 < ws.length ∧ (∀ K, loopF (UpB (J (v : Nat)) K) n (J (p : Nat), σ) = F_X12_two_ (J (v : Nat)) (J (p0 : Nat)) σ) ∧ loopF (FtC (J (v : Nat))) n (J (p : Nat), X) = some (1, cI' X 11 9 (J (p0 : Nat)))) ∨ ((∀ K, loopF (UpB (J (v : Nat)) K) n (J (p : Nat), σ) = K 1 σ) ∧ loopF (FtC (J (v : Nat))) n (J (p : Nat), X) = some (0, X)) := by
  have h12 := hT.2.1
  have hWl := DOK_len hD
  intro d
  induction d with
  | zero =>
    intro p n hp hp1 hn
    obtain ⟨n, rfl⟩ : ∃ j, n = j + 1 := ⟨n - 1, by omega⟩
    refine Or.inr ⟨fun K => ?_, ?_⟩
    · rw [UpB_s, hT.1, show (1 : Int32) = J 1 from rfl, J_sub, if_pos (by rw [J_le (by omega) (by omega) (by omega) (by omega)]; omega)]
    · rw [FtC_s, hTc.1, show (1 : Int32) = J 1 from rfl, J_sub, if_pos (by rw [J_le (by omega) (by omega) (by omega) (by omega)]; omega)]
  | succ d ih =>
    intro p n hp hp1 hn
    obtain ⟨n, rfl⟩ : ∃ j, n = j + 1 := ⟨n - 1, by omega⟩
    have hpn : p < ws.length := by omega
    have hv2 := (hT.2.2 p hpn).1
    obtain ⟨z, z1, z2⟩ := c_term hTc h12 hpn
    have zr := TNO_rng z2 hWl
    have r := r_isW (p := 9 * v) hT hpn (by omega) h61
    have sR := fun K => UpB_s (J (v : Nat)) K n (J (p : Nat)) σ
    have sC := FtC_s (J (v : Nat)) n (J (p : Nat)) X
    have n1 : ¬ (J (ws.length : Nat) - 1 ≤ J (p : Nat)) := by
      rw [show (1 : Int32) = J 1 from rfl, J_sub, J_le (by omega) (by omega) (by omega) (by omega)]; omega
    have n2 := gNn (k := v) (n := 61) (by omega) (by omega)
    have sR2 : ∀ K, loopF (UpB (J (v : Nat)) K) (n + 1) (J (p : Nat), σ) = if eqT jw (ws.getD p []) = true then F_X12_two_ (J (v : Nat)) (J (p : Nat)) σ else loopF (UpB (J (v : Nat)) K) n (J (p + 1 : Nat), σ) := fun K => by
      rw [sR K, hT.1, if_neg n1, if_neg n2, J_natN (by omega), h62, show 9 * J (v : Nat) = J (9 * v : Nat) by rw [show (9 : Int32) = J 9 from rfl, J_mul]; rfl, r, Option.bind_some]
      dsimp only
      by_cases q : eqT jw (ws.getD p []) = true
      · rw [if_pos q, if_neg (by decide), if_pos q, bind_id]
      · rw [if_neg q, if_pos rfl, if_neg q, bndE, J_suc]
    have ek : (J z = J (m : Nat)) = (eqT jw (ws.getD p []) = true) := by
      rw [J_eq (by omega) (by omega) (by omega) (by omega)]
      apply propext
      rw [eqT_tm hj hv2, ← hW]
      exact TNO_eq hD z2 hm
    rw [hTc.1, if_neg n1, z1, Option.bind_some] at sC
    dsimp only at sC
    rw [q_g_at_in (by omega) (by omega) (by omega), Int.toNat_natCast, h8, bndE] at sC
    by_cases q : eqT jw (ws.getD p []) = true
    · refine Or.inl ⟨p, Nat.le_refl _, by omega, fun K => ?_, ?_⟩
      · rw [sR2 K, if_pos q]
      · rw [sC, if_pos (by rw [ek]; exact q), bndE]
    · have e1 : ∀ K, loopF (UpB (J (v : Nat)) K) (n + 1) (J (p : Nat), σ) = loopF (UpB (J (v : Nat)) K) n (J (p + 1 : Nat), σ) := fun K => by rw [sR2 K, if_neg q]
      have e2 : loopF (FtC (J (v : Nat))) (n + 1) (J (p : Nat), X) = loopF (FtC (J (v : Nat))) n (J (p + 1 : Nat), X) := by
        rw [sC, if_neg (by rw [ek]; exact q), bndE, J_suc]
      rcases ih (p + 1) n (by omega) (by omega) (by omega) with ⟨p0, a1, a2, a3, a4⟩ | ⟨a1, a2⟩
      · exact Or.inl ⟨p0, by omega, a2, fun K => (e1 K).trans (a3 K), e2.trans a4⟩
      · exact Or.inr ⟨fun K => (e1 K).trans (a1 K), e2.trans a2⟩
theorem txl_unknown : TXL [73, 32, 100, 111, 32, 110, 111, 116, 32, 107, 110, 111, 119, 32, 104, 111, 119, 32, 116, 111, 32, 100, 111, 32, 116, 104, 97, 116, 46] [73, 32, 100, 111, 32, 110, 111, 116, 32, 107, 110, 111, 119, 32, 104, 111, 119, 32, 116, 111, 32, 100, 111, 32, 116, 104, 97, 116, 46] := by unfold TXL; decide +kernel
theorem txl_notget : TXL [73, 32, 100, 105, 100, 32, 110, 111, 116, 32, 103, 101, 116, 32, 116, 104, 97, 116, 46] [73, 32, 100, 105, 100, 32, 110, 111, 116, 32, 103, 101, 116, 32, 116, 104, 97, 116, 46] := by unfold TXL; decide +kernel
/-- told that it is none, by both -/
theorem W_no {S : List Int32} {w : List Int} (hS : TXL S w) {σ : MS} {Γ : HS} (h : OUT σ Γ) : ∃ τ Δ, F_X12_no S σ = some ((0 : Int32), τ) ∧ F_X8_refuse S Γ = some ((0 : Int32), Δ) ∧ TLS σ Γ τ Δ := by
  obtain ⟨τ, Δ, a1, a2, a3, a4⟩ := W_line hS h
  refine ⟨τ, Δ, ?_, ?_, a4⟩
  · unfold F_X12_no; rw [a1]; rfl
  · unfold F_X8_refuse
    rw [a2, Option.bind_some]
    dsimp only
    rw [a3, bndE]
/-- only the verb and its joint changed -/
def cUj (Γ Δ : HS) : Prop := (∀ r, r ≠ 11 → Δ r = Γ r) ∧ (∀ k, k ≠ 8 → k ≠ 9 → (Δ 11).1 k = (Γ 11).1 k) ∧ (Δ 11).2.1 = (Γ 11).2.1
theorem cUj_un {Γ Δ : HS} (h : cUj Γ Δ) : cUn Γ Δ := ⟨h.1, fun k a b => h.2.1 k (by omega) (by omega), fun k _ => by rw [h.2.2]⟩
theorem cUj_rfl {Γ : HS} : cUj Γ Γ := ⟨fun _ _ => rfl, fun _ _ _ => rfl, rfl⟩
theorem cUj_trans {Γ Δ Θ : HS} (h : cUj Γ Δ) (g : cUj Δ Θ) : cUj Γ Θ := ⟨fun r a => by rw [g.1 r a, h.1 r a], fun k a b => by rw [g.2.1 k a b, h.2.1 k a b], by rw [g.2.2, h.2.2]⟩
theorem cUj_i {Γ : HS} {k : Nat} {v : Int32} (hk : k = 8 ∨ k = 9) : cUj Γ (cI' Γ 11 k v) := ⟨fun r hr => by rw [cI_r, if_neg hr], fun j h1 h2 => if_neg (by omega), rfl⟩
/-- a verb and its form are found, or it is told why not -/
def UVO (σ : MS) (Γ : HS) (F : Nat → Nat) (nv n : Nat) (mR : MR) (mC : HR) : Prop := (∃ τ Δ Γ', mR = some (0, τ) ∧ mC = some (0, Δ) ∧ cUj Γ Γ' ∧ TLS σ Γ' τ Δ) ∨ ∃ (u p : Nat) (Δ : HS), 1 ≤ u ∧ u ≤ nv ∧ u ≠ 11 ∧ mC = some (1, Δ) ∧ cUj Γ Δ ∧ (Δ 11).1 8 = J (u : Nat) ∧ (Δ 11).1 9 = J (p : Nat) ∧ ((F u = 0 ∧ n = 1 ∧ mR = F_X12_command (J (u : Nat)) 0 0 0 σ) ∨ (F u = 1 ∧ 1 < n ∧ p = n ∧ mR = F_X12_one (J (u : Nat)) σ) ∨ (F u = 2 ∧ 2 ≤ p ∧ p + 1 < n ∧ mR = F_X12_two_ (J (u : Nat)) (J (p : Nat)) σ))
theorem UVO_pre {σ : MS} {Γ : HS} {F : Nat → Nat} {nv n : Nat} {mR mR' : MR} {mC mC' : HR} (h : UVO σ Γ F nv n mR mC) (e1 : mR' = mR) (e2 : mC' = mC) : UVO σ Γ F nv n mR' mC' := by rw [e1, e2]; exact h
theorem c_fits {F : Nat → Nat} {ow : Nat → List (List Int)} {W : List Int} {ws : List (List Int)} {nv : Nat} {σ : MS} {X : HS} (hT : TRr σ ws) (hTc : TRc X W ws) (hD : DOK X W) (hn : 0 < ws.length) (hV : VRBB ow W F nv σ X) {v : Nat} (h1 : 1 ≤ v) (h2 : v ≤ nv) (h3 : v ≠ 11) : (F v = 0 ∧ F_X8_fits (J (v : Nat)) X = some (if ws.length = 1 then 1 else 0, cI' X 11 9 (J (ws.length : Nat)))) ∨ (F v = 1 ∧ F_X8_fits (J (v : Nat)) X = some (if 1 < ws.length then 1 else 0, cI' X 11 9 (J (ws.length : Nat)))) ∨ (F v = 2 ∧ ((∃ p : Nat, 2 ≤ p ∧ p + 1 < ws.length ∧ F_X8_fits (J (v : Nat)) X = some (1, cI' (cI' X 11 9 (J (ws.length : Nat))) 11 9 (J (p : Nat))) ∧ ∀ K, loopF (UpB (J (v : Nat)) K) FU (2, σ) = F_X12_two_ (J (v : Nat)) (J (p : Nat)) σ) ∨ (F_X8_fits (J (v : Nat)) X = some (0, cI' X 11 9 (J (ws.length : Nat))) ∧ ∀ K, loopF (UpB (J (v : Nat)) K) FU (2, σ) = K 1 σ))) := by
  obtain ⟨a1, a2, a3, a4, a5⟩ := hV
  obtain ⟨b1, b2, b3, b4, b5⟩ := a5 v h1 h2 h3
  have h12 := hT.2.1
  have e := fits_eq (J (v : Nat)) X
  rw [q_g_at_in (by omega) (by omega) (by omega), Int.toNat_natCast, b4, bndE, hTc.1, bndE] at e
  have n7 : ((cI' X 11 9 (J (ws.length : Nat))) 11).1 7 = J (ws.length : Nat) := hTc.1
  rcases Nat.lt_trichotomy (F v) 1 with g | g | g
  · have g : F v = 0 := by omega
    refine Or.inl ⟨g, ?_⟩
    rw [g, if_neg (by decide), if_pos (by rfl), n7] at e
    rw [e]
    by_cases q : ws.length = 1
    · rw [if_pos q, if_pos (by rw [q]; rfl)]
    · rw [if_neg q, if_neg (by rw [show (1 : Int32) = J ((1 : Nat) : Int) from rfl, J_eqN (by omega) (by omega)]; exact q)]
  · refine Or.inr (Or.inl ⟨g, ?_⟩)
    rw [g, if_neg (by decide), if_neg (by decide), n7] at e
    rw [e]
    by_cases q : 1 < ws.length
    · rw [if_pos q, if_neg (by rw [show (1 : Int32) = J ((1 : Nat) : Int) from rfl, J_le (by omega) (by omega) (by omega) (by omega)]; omega)]
    · rw [if_neg q, if_pos (by rw [show (1 : Int32) = J ((1 : Nat) : Int) from rfl, J_le (by omega) (by omega) (by omega) (by omega)]; omega)]
  · have g : F v = 2 := by omega
    refine Or.inr (Or.inr ⟨g, ?_⟩)
    obtain ⟨jw, m, c1, c2, c3, c4, c5, c6⟩ := b5 g
    rw [g, if_pos (by rfl)] at e
    rcases W_joint (X := cI' X 11 9 (J (ws.length : Nat))) (DOK_r hD (by rw [cI_r, if_neg (by omega)])) hT (show TRc (cI' X 11 9 (J (ws.length : Nat))) W ws from hTc) (by omega) c1 c2 c3 c4 c5 c6 (ws.length - 3) 2 FU (by omega) (by omega) (FU_gt (by omega)) with ⟨p, p1, p2, p3, p4⟩ | ⟨p3, p4⟩
    · exact Or.inl ⟨p, p1, p2, e.trans p4, p3⟩
    · exact Or.inr ⟨e.trans p4, p3⟩
theorem W_verbs {F : Nat → Nat} {ow : Nat → List (List Int)} {W : List Int} {ws : List (List Int)} {nv : Nat} {σ : MS} {Γ : HS} (hN : NCX nO room nV nC ow W ws σ Γ) (hn : 0 < ws.length) (hV : VRBB ow W F nv σ Γ) : ∀ (d v m : Nat) (kn : Bool) (X : HS), v + d = nv → d < m → cUj Γ X → UVO σ Γ F nv ws.length (loopF UvB m (if kn = true then 1 else 0, J (v + 1 : Nat), σ)) (loopF (FvC (J (nv : Nat))) m (if kn = true then 1 else 0, J (v + 1 : Nat), X)) := by
  have hV' := hV
  obtain ⟨v1, v2, v3, v4, v5⟩ := hV'
  intro d
  induction d with
  | zero =>
    intro v m kn X hd hm hX
    obtain ⟨m, rfl⟩ : ∃ j, m = j + 1 := ⟨m - 1, by omega⟩
    have hNX := NCX_un hN (cUj_un hX)
    have sR := UvB_s m (if kn = true then 1 else 0) (J (v + 1 : Nat)) σ
    have sC := FvC_s (J (nv : Nat)) m (if kn = true then 1 else 0) (J (v + 1 : Nat)) X
    rw [v1] at sR
    have lt : J (nv : Nat) < J (v + 1 : Nat) := by rw [J_lt (by omega) (by omega) (by omega) (by omega)]; omega
    rw [if_pos lt] at sR
    rw [bndE, if_pos lt] at sC
    dsimp only at sC
    left
    cases kn with
    | false =>
      obtain ⟨τ, Δ, a1, a2, a3⟩ := W_no txl_unknown hNX.2.1
      have e0 : (if false = true then (1 : Int32) else 0) = 0 := rfl
      rw [e0, if_pos rfl, a1] at sR
      rw [e0, if_pos rfl, a2, Option.bind_some] at sC
      dsimp only at sC
      rw [if_neg (by decide)] at sC
      exact ⟨τ, Δ, X, sR, sC, hX, a3⟩
    | true =>
      obtain ⟨τ, Δ, a1, a2, a3⟩ := W_no txl_notget hNX.2.1
      have e0 : (if true = true then (1 : Int32) else 0) = 1 := rfl
      rw [e0, if_neg (by decide), a1] at sR
      rw [e0, if_neg (by decide), a2, Option.bind_some] at sC
      dsimp only at sC
      rw [if_neg (by decide)] at sC
      exact ⟨τ, Δ, X, sR, sC, hX, a3⟩
  | succ d ih =>
    intro v m kn X hd hm hX
    obtain ⟨m, rfl⟩ : ∃ j, m = j + 1 := ⟨m - 1, by omega⟩
    have hNX := NCX_un hN (cUj_un hX)
    obtain ⟨x1, x2, x3, x4, x5, x6, x7, x8, x9, x10, x11⟩ := hNX
    have h12 := x10.2.1
    have hw := fun t ht => (x10.2.2 t ht).1
    obtain ⟨z, z1, z2⟩ := c_term x11 h12 hn
    have z1 : F_X8_term 0 X = some (J z, X) := z1
    have ge : ¬ J (nv : Nat) < J (v + 1 : Nat) := by rw [J_lt (by omega) (by omega) (by omega) (by omega)]; omega
    have sR := fun a : Int32 => UvB_s m a (J (v + 1 : Nat)) σ
    have sC := fun a : Int32 => FvC_s (J (nv : Nat)) m a (J (v + 1 : Nat)) X
    have sC2 : ∀ a : Int32, loopF (FvC (J (nv : Nat))) (m + 1) (a, J (v + 1 : Nat), X) = if anyT (ow (120 + (v + 1))) (ws.getD 0 []) = true then ((F_X8_fits (J (v + 1 : Nat)) X).bind fun u_46 => if u_46.1 = 0 then loopF (FvC (J (nv : Nat))) m (1, J (v + 1 + 1 : Nat), u_46.2) else bnd (cI' u_46.2 11 8 (J (v + 1 : Nat))) fun σ_51 => some (1, σ_51)) else loopF (FvC (J (nv : Nat))) m (a, J (v + 1 + 1 : Nat), X) := fun a => by
      rw [sC a, bndE, if_neg ge, if_neg (by rw [show (60 : Int32) = J ((60 : Nat) : Int) from rfl, J_lt (by omega) (by omega) (by omega) (by omega)]; omega), z1, Option.bind_some]
      dsimp only
      rw [show (120 : Int32) + J (v + 1 : Nat) = J (120 + (v + 1) : Nat) by rw [show (120 : Int32) = J 120 from rfl, J_add]; congr 1, c_owns x7 (by omega) (by omega) z2 (hw 0 hn), Option.bind_some]
      dsimp only
      rw [mrgS, bndE, bndE, J_suc]
      by_cases q : anyT (ow (120 + (v + 1))) (ws.getD 0 []) = true
      · rw [if_pos q, if_neg (by decide), if_pos q]
        congr 1
      · rw [if_neg q, if_pos rfl, if_neg q]
        dsimp only
        rw [bndE]
    by_cases q11 : v + 1 = 11
    · -- go is not looked at
      refine UVO_pre (ih (v + 1) m kn X (by omega) (by omega) hX) ?_ ?_
      · rw [sR, v1, if_neg ge, bndE, if_pos (by rw [q11]; rfl)]
        dsimp only
        rw [bndE, J_suc]
      · rw [sC2, if_neg]
        rw [show 120 + (v + 1) = 131 by omega, v4]
        show ¬ false = true
        decide
    have n11 : ¬ J (v + 1 : Nat) = 11 := by rw [show (11 : Int32) = J ((11 : Nat) : Int) from rfl, J_eqN (by omega) (by omega)]; exact q11
    obtain ⟨b1, b2, b3, b4, b5⟩ := v5 (v + 1) (by omega) (by omega) q11
    have g61 := gNn (k := v + 1) (n := 61) (by omega) (by omega)
    have h10 := (x7.1.2 (120 + (v + 1)) (by omega) (by omega)).1
    have sR2 : ∀ a : Int32, loopF UvB (m + 1) (a, J (v + 1 : Nat), σ) = if anyT (ow (120 + (v + 1))) (ws.getD 0 []) = true then (if F (v + 1) = 0 ∧ ws.length = 1 then F_X12_command (J (v + 1 : Nat)) 0 0 0 σ else if F (v + 1) = 1 ∧ 1 < ws.length then F_X12_one (J (v + 1 : Nat)) σ else if F (v + 1) = 2 then loopF (UpB (J (v + 1 : Nat)) (fun k σ => loopF UvB m (k, J (v + 1 + 1 : Nat), σ))) FU (2, σ) else loopF UvB m (1, J (v + 1 + 1 : Nat), σ)) else loopF UvB m (a, J (v + 1 + 1 : Nat), σ) := fun a => by
      rw [sR a, v1, if_neg ge, bndE, if_neg n11, r_verbHas b1 (by omega) x10 hn h10, Option.bind_some]
      dsimp only
      by_cases q : anyT (ow (120 + (v + 1))) (ws.getD 0 []) = true
      · rw [if_pos q, if_neg (by decide), if_neg g61, J_natN (by omega), b3, bndE, if_pos q]
        have g61' : ¬ (J (v + 1 : Nat) < 0 ∨ 61 ≤ v + 1) := by rw [J_natN (by omega)] at g61; exact g61
        have t53 : (bnd (fun  (σ_52 : MS) => ( if J (v + 1 : Nat) < 0 ∨ 61 ≤ v + 1 then none else if (σ_52.2 60 (v + 1)) = 2 then ( loopF (UpB (J (v + 1 : Nat)) (fun v2_29 σ_30 => bnd (J (v + 1 : Nat) + 1) fun (x_34 : Int32) => loopF UvB m (v2_29, x_34, σ_30))) FU (2, σ_52) ) else ( (fun v2_29 σ_30 => bnd (J (v + 1 : Nat) + 1) fun (x_34 : Int32) => loopF UvB m (v2_29, x_34, σ_30)) 1 σ_52 ) ) : MS → MR) fun j_53 => if (σ.2 60 (v + 1)) = 1 then ( if (σ.1 120) ≤ 1 then ( j_53  σ ) else ( (F_X12_one (J (v + 1 : Nat)) σ).bind fun u_84 => some (u_84.1, u_84.2) ) ) else ( j_53  σ )) = if F (v + 1) = 1 ∧ 1 < ws.length then F_X12_one (J (v + 1 : Nat)) σ else if F (v + 1) = 2 then loopF (UpB (J (v + 1 : Nat)) (fun k σ => loopF UvB m (k, J (v + 1 + 1 : Nat), σ))) FU (2, σ) else loopF UvB m (1, J (v + 1 + 1 : Nat), σ) := by
          have tail : (if J (v + 1 : Nat) < 0 ∨ 61 ≤ v + 1 then none else if (J (F (v + 1) : Nat)) = 2 then ( loopF (UpB (J (v + 1 : Nat)) (fun v2_29 σ_30 => bnd (J (v + 1 : Nat) + 1) fun (x_34 : Int32) => loopF UvB m (v2_29, x_34, σ_30))) FU (2, σ) ) else ( (fun v2_29 σ_30 => bnd (J (v + 1 : Nat) + 1) fun (x_34 : Int32) => loopF UvB m (v2_29, x_34, σ_30)) 1 σ )) = if F (v + 1) = 2 then loopF (UpB (J (v + 1 : Nat)) (fun k σ => loopF UvB m (k, J (v + 1 + 1 : Nat), σ))) FU (2, σ) else loopF UvB m (1, J (v + 1 + 1 : Nat), σ) := by
            rw [if_neg g61', J_suc]
            by_cases c : F (v + 1) = 2
            · rw [if_pos c, if_pos (by rw [c]; rfl)]; rfl
            · rw [if_neg c, if_neg (by rw [show (2 : Int32) = J ((2 : Nat) : Int) from rfl, J_eqN (by omega) (by omega)]; exact c)]; rfl
          rw [bndE, b3, x10.1]
          by_cases c : F (v + 1) = 1
          · rw [if_pos (by rw [c]; rfl)]
            by_cases c2 : 1 < ws.length
            · rw [if_neg (by rw [show (1 : Int32) = J ((1 : Nat) : Int) from rfl, J_le (by omega) (by omega) (by omega) (by omega)]; omega), if_pos ⟨c, c2⟩, bind_id]
            · rw [if_pos (by rw [show (1 : Int32) = J ((1 : Nat) : Int) from rfl, J_le (by omega) (by omega) (by omega) (by omega)]; omega), if_neg (fun h => c2 h.2)]
              dsimp only
              rw [b3]
              exact tail
          · rw [if_neg (by rw [show (1 : Int32) = J ((1 : Nat) : Int) from rfl, J_eqN (by omega) (by omega)]; exact c), if_neg (fun h => c h.1)]
            dsimp only
            rw [b3]
            exact tail
        by_cases c : F (v + 1) = 0
        · rw [if_pos (by rw [c]; rfl), x10.1]
          by_cases c2 : ws.length = 1
          · rw [if_pos (by rw [c2]; rfl), if_pos ⟨c, c2⟩, bind_id]
          · rw [if_neg (by rw [show (1 : Int32) = J ((1 : Nat) : Int) from rfl, J_eqN (by omega) (by omega)]; exact c2), if_neg (fun h => c2 h.2)]
            dsimp only
            rw [if_neg g61']
            rw [← t53, x10.1, b3]
        · rw [if_neg (by rw [J_z0 (by omega)]; exact c), if_neg (fun h => c h.1)]
          dsimp only
          rw [if_neg g61']
          rw [← t53, b3]
      · rw [if_neg q, if_pos rfl, if_neg q, bndE, J_suc]
    by_cases q : anyT (ow (120 + (v + 1))) (ws.getD 0 []) = true
    · have hfit := c_fits (F := F) (ow := ow) (nv := nv) (v := v + 1) x10 x11 x8.1 hn (VRBB_un hV (cUj_un hX)) (by omega) (by omega) q11
      have cJ : ∀ a : Int32, cUj Γ (cI' X 11 9 a) := fun a => cUj_trans hX (cUj_i (by omega))
      have fail : ∀ (Y : HS) (a : Int32), cUj Γ Y → F_X8_fits (J (v + 1 : Nat)) X = some (0, Y) → loopF UvB (m + 1) (a, J (v + 1 : Nat), σ) = loopF UvB m (1, J (v + 1 + 1 : Nat), σ) → UVO σ Γ F nv ws.length (loopF UvB (m + 1) (a, J (v + 1 : Nat), σ)) (loopF (FvC (J (nv : Nat))) (m + 1) (a, J (v + 1 : Nat), X)) := fun Y a hY hf e => by
        refine UVO_pre (ih (v + 1) m true Y (by omega) (by omega) hY) e ?_
        rw [sC2, if_pos q, hf, Option.bind_some]
        dsimp only
        rw [if_pos rfl]; rfl
      have yes : ∀ (Y : HS) (p : Nat) (a : Int32), cUj Γ Y → (Y 11).1 9 = J (p : Nat) → F_X8_fits (J (v + 1 : Nat)) X = some (1, Y) → ((F (v + 1) = 0 ∧ ws.length = 1 ∧ loopF UvB (m + 1) (a, J (v + 1 : Nat), σ) = F_X12_command (J (v + 1 : Nat)) 0 0 0 σ) ∨ (F (v + 1) = 1 ∧ 1 < ws.length ∧ p = ws.length ∧ loopF UvB (m + 1) (a, J (v + 1 : Nat), σ) = F_X12_one (J (v + 1 : Nat)) σ) ∨ (F (v + 1) = 2 ∧ 2 ≤ p ∧ p + 1 < ws.length ∧ loopF UvB (m + 1) (a, J (v + 1 : Nat), σ) = F_X12_two_ (J (v + 1 : Nat)) (J (p : Nat)) σ)) → UVO σ Γ F nv ws.length (loopF UvB (m + 1) (a, J (v + 1 : Nat), σ)) (loopF (FvC (J (nv : Nat))) (m + 1) (a, J (v + 1 : Nat), X)) := fun Y p a hY h9 hf ho => by
        refine Or.inr ⟨v + 1, p, cI' Y 11 8 (J (v + 1 : Nat)), by omega, by omega, q11, ?_, cUj_trans hY (cUj_i (by omega)), rfl, h9, ho⟩
        rw [sC2, if_pos q, hf, Option.bind_some]
        dsimp only
        rw [if_neg (by decide), bndE]
      rcases hfit with ⟨f0, hf⟩ | ⟨f0, hf⟩ | ⟨f0, ⟨p, p1, p2, hf, hK⟩ | ⟨hf, hK⟩⟩
      · by_cases c : ws.length = 1
        · rw [if_pos c] at hf
          exact yes _ ws.length _ (cJ _) rfl hf (Or.inl ⟨f0, c, by rw [sR2, if_pos q, if_pos ⟨f0, c⟩]⟩)
        · rw [if_neg c] at hf
          exact fail _ _ (cJ _) hf (by rw [sR2, if_pos q, if_neg (fun h => c h.2), if_neg (by omega), if_neg (by omega)])
      · by_cases c : 1 < ws.length
        · rw [if_pos c] at hf
          exact yes _ ws.length _ (cJ _) rfl hf (Or.inr (Or.inl ⟨f0, c, rfl, by rw [sR2, if_pos q, if_neg (by omega), if_pos ⟨f0, c⟩]⟩))
        · rw [if_neg c] at hf
          exact fail _ _ (cJ _) hf (by rw [sR2, if_pos q, if_neg (by omega), if_neg (fun h => c h.2), if_neg (by omega)])
      · exact yes _ p _ (cUj_trans (cJ _) (cUj_i (by omega))) rfl hf (Or.inr (Or.inr ⟨f0, p1, p2, by rw [sR2, if_pos q, if_neg (by omega), if_neg (by omega), if_pos f0, hK]⟩))
      · exact fail _ _ (cJ _) hf (by rw [sR2, if_pos q, if_neg (by omega), if_neg (by omega), if_pos f0, hK])
    · refine UVO_pre (ih (v + 1) m kn X (by omega) (by omega) hX) ?_ ?_
      · rw [sR2, if_neg q]
      · rw [sC2, if_neg q]
