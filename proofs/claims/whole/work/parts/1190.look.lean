/-! looking -/
variable {nO nV nC : Nat} {room : Nat → Bool}
/-- what is told of an object when it is looked at -/
def DSC (σ : MS) (Γ : HS) (nO : Nat) : Prop := ∀ x, 1 ≤ x → x ≤ nO → (σ.2 122 x = 0 ∧ (Γ 4).2.1 3 x = J (-1)) ∨ (σ.2 122 x = 1 ∧ ∃ (w : Nat) (r v : Int), TXR σ Γ w r v ∧ σ.2 48 x = J (w + 1 : Nat) ∧ σ.2 49 x = J r ∧ (Γ 4).2.1 3 x = J v)
theorem DSC_keep {σ τ : MS} {Γ Δ : HS} (h : DSC σ Γ nO) (hr : ∀ k, k = 45 ∨ k = 48 ∨ k = 49 ∨ k = 122 → τ.2 k = σ.2 k) (h4 : Δ 4 = Γ 4) (h6 : Δ 6 = Γ 6) : DSC τ Δ nO := by
  intro x x1 x2
  rw [hr 122 (by omega), hr 48 (by omega), hr 49 (by omega), h4]
  rcases h x x1 x2 with h | ⟨h1, w, r, v, h2, h3⟩
  · exact Or.inl h
  · exact Or.inr ⟨h1, w, r, v, TXR_keep h2 (hr 45 (by omega)) h6, h3⟩
theorem txl_dark : TXL [73, 116, 32, 105, 115, 32, 100, 97, 114, 107, 46] [73, 116, 32, 105, 115, 32, 100, 97, 114, 107, 46] := by unfold TXL; decide +kernel
theorem W_look {σ : MS} {Γ : HS} (hR : PL nO room nV nC σ Γ) (hO : OUT σ Γ) (hC : CAL σ Γ nO) (hD : DSC σ Γ nO) (hr : ∀ x, x ≤ 120 → σ.2 50 x = if room x = true then 1 else 0) (h78 : σ.1 78 = J (nO : Nat)) : ∃ τ Δ, F_X12_look σ = some ((0 : Int32), τ) ∧ F_X8_look Γ = some ((0 : Int32), Δ) ∧ TLS σ Γ τ Δ := by
  obtain ⟨pa, fi, nx, ch, tr, P⟩ := hR
  have t := P.1
  have tn := t.1
  have p1 := P.2.2.2.2.2.2.2.2.2.2.1
  have pn := t.2.2.2.1 1
  obtain ⟨b, l1, l2⟩ := W_light P hr h78
  have eR := look_eq σ
  have eC := clook_eq Γ
  cases b with
  | false =>
    have l1 : F_X12_isLight σ = some ((0 : Int32), σ) := l1
    have l2 : F_X6_isLight Γ = some ((0 : Int32), Γ) := l2
    obtain ⟨τ, Δ, a1, a2, a3, a4⟩ := W_line txl_dark hO
    rw [l1, Option.bind_some] at eR
    dsimp only at eR
    rw [if_pos rfl, a1] at eR
    rw [l2, Option.bind_some] at eC
    dsimp only at eC
    rw [mrgS, bndE, if_pos rfl, a2, Option.bind_some] at eC
    dsimp only at eC
    rw [a3, bndE] at eC
    exact ⟨τ, Δ, eR.trans rfl, eC, a4⟩
  | true =>
    have l1 : F_X12_isLight σ = some ((1 : Int32), σ) := l1
    have l2 : F_X6_isLight Γ = some ((1 : Int32), Γ) := l2
    have he : 1 ≤ pa 1 ∧ pa 1 ≤ nO := ⟨p1.2.2.2, pn⟩
    obtain ⟨τ1, Δ1, a1, a2, a3, a4⟩ := W_nm (by omega) hC he hO
    obtain ⟨τ2, Δ2, b1, b2, b3, b4⟩ := W_nl a4.2.2
    have t2 := TLS_trans a4 b4
    have P2 := TLS_PLT P t2
    obtain ⟨c1, c2, c3⟩ := ch_ok t he
    have g := g121 (x := pa 1) (by omega)
    have g' := g
    rw [J_natN (by omega)] at g'
    have hD2 : DSC τ2 Δ2 nO := DSC_keep hD (fun k hk => t2.1.2 k (by omega)) (t2.2.1.1 4 (by omega) (by omega)) (t2.2.1.1 6 (by omega) (by omega))
    have rest : ∀ (τ : MS) (Δ : HS), TLS σ Γ τ Δ → ∃ υ Θ, (if J (pa 1 : Nat) < 0 ∨ 121 ≤ pa 1 then none else bnd (τ.2 88 (pa 1)) fun (x_23 : Int32) => loopF LkB FU (x_23, τ)) = some ((0 : Int32), υ) ∧ (bnd (g_at 121 ((Δ 9).2.1 1) (J (pa 1 : Nat))) fun (x_32 : Int32) => loopF LkC FU (x_32, 0, Δ)) = some ((0 : Int32), Θ) ∧ TLS σ Γ υ Θ := fun τ Δ hT => by
      have P3 := TLS_PLT P hT
      obtain ⟨υ, Θ, e1, e2, e3⟩ := W_here (ch (pa 1)) (fi (pa 1)) 0 τ Δ P3 (TLS_CAL hC hT) hT.2.2 c1 c2 (by omega) FU (FU_gt (by omega))
      refine ⟨υ, Θ, ?_, ?_, TLS_trans hT e3⟩
      · rw [if_neg g', (P3.2.1 _ (by omega)).2.1, bndE]; exact e1
      · rw [q_g_at_in (by omega) (by omega) (by omega), Int.toNat_natCast, (P3.2.2.1 _ (by omega)).2.1, bndE]; exact e2
    rw [l1, Option.bind_some] at eR
    dsimp only at eR
    rw [if_neg (by decide), show (1 : Int32).toNatClampNeg = 1 from rfl, (P.2.1 1 (by omega)).1, bndE, a1, Option.bind_some] at eR
    dsimp only at eR
    rw [b1, Option.bind_some, if_neg g, J_natN (by omega), bndE] at eR
    dsimp only at eR
    rw [l2, Option.bind_some] at eC
    dsimp only at eC
    unfold F_X6_here at eC
    rw [mrgS, bndE, if_neg (by decide), show (1 : Int32).toNatClampNeg = 1 from rfl, (P.2.2.1 1 (by omega)).1, Option.bind_some] at eC
    dsimp only at eC
    rw [mrgS, bndE, a2, Option.bind_some] at eC
    dsimp only at eC
    rw [a3, bndE, b2, Option.bind_some] at eC
    dsimp only at eC
    rw [b3, bndE, q_g_at_in (f := (Δ2 4).2.1 3) (by omega) (by omega) (by omega), Int.toNat_natCast, bndE, bndE] at eC
    dsimp only at eC
    rcases hD2 (pa 1) he.1 he.2 with ⟨d1, d2⟩ | ⟨d1, w, r, v, d2, d3, d4, d5⟩
    · obtain ⟨υ, Θ, e1, e2, e3⟩ := rest τ2 Δ2 t2
      rw [d1, if_pos rfl] at eR
      rw [d2, if_pos (by decide)] at eC
      exact ⟨υ, Θ, eR.trans e1, eC.trans e2, e3⟩
    · obtain ⟨τ3, Δ3, f1, f2, f3, f4⟩ := W_st d2 t2.2.2
      have t3 := TLS_trans t2 f4
      obtain ⟨τ4, Δ4, g1, g2, g3, g4⟩ := W_nl t3.2.2
      have t4 := TLS_trans t3 g4
      obtain ⟨υ, Θ, e1, e2, e3⟩ := rest τ4 Δ4 t4
      obtain ⟨L, by_, -, hv, hv2, -⟩ := d2
      rw [d1, if_neg (by decide), if_neg g', if_neg g', d3, d4, f1, Option.bind_some] at eR
      dsimp only at eR
      rw [g1, Option.bind_some] at eR
      rw [d5, if_neg (by rw [show (-1 : Int32) = J (-1) from rfl, J_eq (by omega) (by omega) (by omega) (by omega)]; omega), bndE, f2, Option.bind_some] at eC
      dsimp only at eC
      rw [f3, bndE, g2, Option.bind_some] at eC
      dsimp only at eC
      rw [g3, bndE] at eC
      exact ⟨υ, Θ, eR.trans e1, eC.trans e2, e3⟩
