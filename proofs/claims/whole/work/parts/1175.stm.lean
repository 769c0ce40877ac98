/-! blocks and ifs -/
variable {R : Nat → Nat → Int32} {nO nV nC nA ln : Nat} {room : Nat → Bool} {en : Nat → Nat} {TX : Nat → Int → Int → Prop} {DN : Nat → Nat → Nat → Prop}
theorem R_blk {Γ0 : HS} {D : Nat → Nat → Prop} {Dq : Prop} {dep bC b0 q0 w wk e n lo hi x p q : Nat} (h : STQ (I1 Γ0 D) (I3 Γ0 D nV nA) R DN TX Dq (n + 1) 1 lo hi x p q) (hhi : hi ≤ 39990) (hq : q ≤ ln) (hEl : ∀ lo hi x p q, STQ (I1 Γ0 D) (I3 Γ0 D nV nA) R DN TX Dq n 0 lo hi x p q → hi ≤ 39990 → q ≤ ln → RunS R nO nV nC nA room en ln TX Γ0 D Dq dep bC b0 q0 w wk e x p q) : RunK R nO nV nC nA room en ln TX Γ0 D Dq dep bC b0 q0 w wk (e + 1) x p q := by
  obtain ⟨l1, l2, l3, h⟩ := h
  rcases h with ⟨g0, -⟩ | ⟨-, f, c, h17, h19, hc, xs, ls, ps, f1, f2, f3, f4, f5, f6, f7⟩ | ⟨g0, -⟩ | ⟨g', g0, -⟩
  · omega
  · refine ⟨h17, fun K m pw σ Γ hm hS => ?_⟩
    have lsm := LSQ_rng f5
    have lsr : ∀ i, i < c → ls (i + 1) ≤ x := fun i hi' => by
      have r2 := (lsm (c - (i + 1)) (i + 1) (by omega)).1
      rw [show i + 1 + (c - (i + 1)) = c by omega] at r2
      omega
    have psr : ∀ i, i < c → ps (i + 1) ≤ q := fun i hi' => by
      have r2 := (lsm (c - (i + 1)) (i + 1) (by omega)).2
      rw [show i + 1 + (c - (i + 1)) = c by omega] at r2
      omega
    subst f6
    obtain ⟨τ, t1, t2⟩ := L_go (rec := gR (e + 1)) (t := 3) (p1 := J (14 * dep : Nat)) (K := K) (xs := xs) (ps := ps) (c := c) (fun k hk σ' Γ' pw' hS' => by
      rw [q_gR_3]
      have h1 := lsr k hk
      have h2 := psr k hk
      exact hEl _ _ _ _ _ (f5 k hk).2.2.2 (by omega) (by omega) pw' σ' Γ' hS') f2 (fun k hk => by have := f5 k hk; have := lsr k hk; omega) (fun k hk => (f5 k hk).2.2.1) c 0 (by omega) m σ Γ pw (by omega) hS
    rw [f7] at t2
    refine ⟨τ, ?_, t2⟩
    have : (if 0 < c then (xs 0 : Int) else -1) = f := by rw [f1]; by_cases c0 : c = 0 <;> simp [c0] <;> omega
    rw [h19, ← t1, this]
  · omega
  · omega
/-- what is run behind an if -/
def IfT (rec : GF) (p1 t : Int32) (σ : MS) : MR := if t < 0 then some (0, σ) else if t < 0 ∨ 40000 ≤ t.toNatClampNeg then none else bnd ((σ.2 66 t.toNatClampNeg)) fun (x_196 : Int32) => loopF (LsB rec 3 p1 (fun σ => some (0, σ))) FU (x_196, σ)
def IfJ (rec : GF) (p1 t : Int32) (σ : MS) : MR := if t < 0 then IfT rec p1 t σ else if t < 0 ∨ 40000 ≤ t.toNatClampNeg then none else if (σ.2 64 t.toNatClampNeg) = 27 then (rec 3 t p1 0 σ).bind fun u_221 => some (0, u_221.2) else IfT rec p1 t σ
theorem stb_27' (rec : GF) (p0 p1 : Int32) (σ : MS) (g : ¬ (p0 < 0 ∨ 40000 ≤ p0.toNatClampNeg)) (h : σ.2 64 p0.toNatClampNeg = J 27) : F_X12_statement_ rec p0 p1 σ = (rec 0 (σ.2 66 p0.toNatClampNeg) p1 0 σ).bind fun u_178 => if (u_178.2.1 104) = 0 then (if u_178.1 = 0 then IfJ rec p1 (u_178.2.2 68 p0.toNatClampNeg) u_178.2 else IfJ rec p1 (u_178.2.2 67 p0.toNatClampNeg) u_178.2) else some (0, u_178.2) := by
  rw [stb_27 rec p0 p1 σ g h, if_neg g]
  simp only [if_neg g]
  rfl
theorem R_if {Γ0 : HS} {D : Nat → Nat → Prop} {Dq : Prop} {B d dep bC b0 q0 w wk n lo hi x p q : Nat} (hC : SCX R nO nV nC nA room en ln TX DN Γ0 B dep bC w wk) (hd : B ≤ d) (h : STQ (I1 Γ0 D) (I3 Γ0 D nV nA) R DN TX Dq (n + 1) 2 lo hi x p q) (hhi : hi ≤ 39990) (hq : q ≤ ln) (hK : ∀ lo hi x p q, STQ (I1 Γ0 D) (I3 Γ0 D nV nA) R DN TX Dq n 1 lo hi x p q → hi ≤ 39990 → q ≤ ln → RunK R nO nV nC nA room en ln TX Γ0 D Dq dep bC b0 q0 w wk (d + 2) x p q) (hI : ∀ lo hi x p q, STQ (I1 Γ0 D) (I3 Γ0 D nV nA) R DN TX Dq n 4 lo hi x p q → hi ≤ 39990 → q ≤ ln → RunS R nO nV nC nA room en ln TX Γ0 D Dq dep bC b0 q0 w wk (d + 1) x p q) : RunS R nO nV nC nA room en ln TX Γ0 D Dq dep bC b0 q0 w wk (d + 2) x p q := by
  have hC' := hC
  obtain ⟨C1, C2, C3, C4, C5, C6⟩ := hC'
  obtain ⟨l1, l2, l3, h⟩ := h
  rcases h with ⟨g0, -⟩ | ⟨g0, -⟩ | ⟨-, h17, e, b, m, m2, r, r2, t, h19, h20, ho, hm, hm1, hm2, ⟨lo', hlo, hE⟩, hB, hT⟩ | ⟨g', g0, -⟩
  · omega
  · omega
  · intro pw σ Γ hS
    have a2 := hS.1.2.1
    have en' := g_en (n := x) (by omega)
    obtain ⟨r1, r2', r3⟩ := EQx_rng hE
    have hBr : r + 3 ≤ r2 ∧ m ≤ b ∧ b < m2 := by
      cases n with
      | zero => exact absurd hB (by unfold STQ; exact id)
      | succ n => exact ⟨hB.2.2.1, hB.1, hB.2.1⟩
    have tq : t ≤ q ∧ r2 ≤ q := by
      rcases hT with ⟨h1, h2, -⟩ | ⟨h1, h2, y, -, hh⟩
      · omega
      · rcases hh with ⟨-, hh⟩ | ⟨-, hh⟩
        · cases n with
          | zero => exact absurd hh (by unfold STQ; exact id)
          | succ n => have := hh.2.2.1; omega
        · cases n with
          | zero => exact absurd hh (by unfold STQ; exact id)
          | succ n => have := hh.2.2.1; omega
    obtain ⟨v, τ1, e1, hv⟩ := S_ev (d := d) hC hd hE (by omega) (by omega) hS.1 (Nat.le_refl _) (by omega) (by omega)
    have e' := stb_27' (gR (d + 2)) (J (x : Nat)) (J (14 * dep : Nat)) σ en' (by rw [J_natN (by omega), STA_17 a2]; exact h17)
    rw [J_natN (by omega), show σ.2 66 x = J (e : Nat) from (STA_R (x := x) a2 (k := 19) (by omega) (by omega)).trans h19, e1, Option.bind_some] at e'
    dsimp only at e'
    rcases hv with ⟨Δ1, kc, pw', hG⟩ | ⟨-, hF⟩
    · have hG' := hG
      obtain ⟨g1, g2, g3, g4, g5, g6, g7, g8, g9, g10, g11⟩ := hG'
      have S1 : STA R nO nV nC nA room en ln TX τ1 Δ1 := STA_keep a2 g8.1 g9.1
      have hln := S1.2.2.2.2.2.1.2
      have h5 := (g9.1 5 (by omega) (by omega) (by omega)).trans hS.1.1
      obtain ⟨Δ2, d1, d2, d3, d4⟩ := m_jfalse (STA_MC S1 g3) (by omega) (by omega) (by omega) (op3_5 h5 ho.1)
      rw [g6] at d4
      have hc2 : CFR Δ1 Δ2 (bC + 14) dep := CFR_MK d2 (by omega)
      have fc := CFR_trans g9 hc2 (Nat.le_refl _) (Nat.le_refl _)
      have rr : RRl nO room nV nC τ1 Δ2 := RR_M g1 rMk_rfl (d2.1 8 (by omega)) (d2.1 9 (by omega)) (d2.2.1 3 (by omega) (by omega)) (d2.2.1 4 (by omega) (by omega)) (NBK_e (d2.2.1 5 (by omega) (by omega)) (d2.2.1 14 (by omega) (by omega)))
      have S2 : STA R nO nV nC nA room en ln TX τ1 Δ2 := STA_keep S1 rWk_rfl hc2.1
      have next : ∀ p1, (Δ2 10).1 9 = J (p1 : Nat) → (∀ u, D p1 u → D p u) → SSS R nO nV nC nA room en ln TX Γ0 D Dq dep bC b0 q0 p1 w wk pw' τ1 Δ2 := fun p1 h9 hD => ⟨⟨(hc2.1 5 (by omega) (by omega) (by omega)).trans h5, S2, rr, g2, CVw_MK g3 d2 d3 h9, AGL_fr hS.1.2.2.2.2.2.1 hD g8 fc (Nat.le_refl _) (Nat.le_refl _), g4⟩, RTF_fr hS.2 fc⟩
      have pre : ∀ {p1 : Nat} {τ : MS}, r + 3 ≤ p1 → p1 ≤ q → STO nO nV nC room D Dq dep bC w wk b0 q0 pw' p1 q τ1 Δ2 τ → STO nO nV nC room D Dq dep bC w wk b0 q0 pw p q σ Γ τ := fun hp1 hp2 hh => STO_pre (RFR_le g8 (by omega) (Nat.le_refl _) (Nat.le_refl _)) (CFR_le fc (by omega) (Nat.le_refl _)) (CSP_trans g10 d1) g7 (k1 := r + 1 - p) (by omega) (by omega) hh
      have Dr : ∀ u, D r u → D p u := EQx_D hE
      have D3 : ∀ u, D (r + 3) u → D p u := fun u hu => Dr u (by
        rcases ho.2.2.1 u hu with h | h
        · exact h
        · omega)
      have Dt : ∀ u, D t u → D p u := fun u hu => Dr u (ho.2.2.2.1 (by omega) (by omega) (by omega) u (by rwa [show ((t : Nat) : Int).toNat = t by omega]))
      -- a block is run
      have blk : ∀ (y p1 : Nat), y < 39990 → r + 3 ≤ p1 → p1 ≤ q → (Δ2 10).1 9 = J (p1 : Nat) → (∀ u, D p1 u → D p u) → RunK R nO nV nC nA room en ln TX Γ0 D Dq dep bC b0 q0 w wk (d + 2) y p1 q → ∃ τ, IfJ (gR (d + 2)) (J (14 * dep : Nat)) (J (y : Nat)) τ1 = some ((0 : Int32), τ) ∧ STO nO nV nC room D Dq dep bC w wk b0 q0 pw p q σ Γ τ := fun y p1 hy hp1 hp2 h9 hD ⟨k1, k2⟩ => by
        obtain ⟨τ, t1, t2⟩ := k2 (fun σ => some (0, σ)) FU pw' τ1 Δ2 (FU_gt (by omega)) (next p1 h9 hD)
        refine ⟨τ, ?_, pre hp1 hp2 t2⟩
        unfold IfJ IfT
        rw [if_neg (J_nlt0 (by omega) (by omega)), if_neg (g_en (by omega)), J_natN (by omega), STA_17 S2, k1, if_neg (by decide), if_neg (J_nlt0 (by omega) (by omega)), if_neg (by have := g_en (n := y) (by omega); rw [J_natN (by omega)] at this; exact this), bndE, show τ1.2 66 y = R 19 y from STA_R (x := y) S2 (k := 19) (by omega) (by omega)]
        exact t1
      rw [if_pos (show τ1.1 104 = 0 from g2.1)] at e'
      by_cases v0 : v = 0
      · rw [if_pos v0] at e' d4
        rcases hT with ⟨h1, h2, h21⟩ | ⟨h1, h2, y, h21, hh⟩
        · rw [show τ1.2 68 x = J (-1) from (STA_R (x := x) S1 (k := 21) (by omega) (by omega)).trans h21] at e'
          have eI : IfJ (gR (d + 2)) (J (14 * dep : Nat)) (J (-1)) τ1 = some ((0 : Int32), τ1) := by
            unfold IfJ IfT
            rw [if_pos (by decide), if_pos (by decide)]
          rw [eI] at e'
          have hn := next t d4 Dt
          have := STO_rfl hn
          rw [h2, ← h1] at this
          exact ⟨0, τ1, e', pre (by omega) (Nat.le_refl _) this⟩
        · rw [show τ1.2 68 x = J (y : Nat) from (STA_R (x := x) S1 (k := 21) (by omega) (by omega)).trans h21] at e'
          rcases hh with ⟨h27, hh⟩ | ⟨h34, hh⟩
          · have yl : y < 39990 := by
              cases n with
              | zero => exact absurd hh (by unfold STQ; exact id)
              | succ n => have := hh.2.1; omega
            rw [h1] at d4 Dt
            obtain ⟨v2, τ, t1, t2⟩ := hI _ _ _ _ _ hh hhi hq pw' τ1 Δ2 (next (r2 + 3) d4 Dt)
            refine ⟨0, τ, ?_, pre (by omega) (by omega) t2⟩
            rw [e']
            unfold IfJ
            rw [if_neg (J_nlt0 (by omega) (by omega)), if_neg (g_en (by omega)), J_natN (by omega), STA_17 S2, h27, if_pos (by decide), q_gR_3, t1]; rfl
          · have yl : y < 39990 := by
              cases n with
              | zero => exact absurd hh (by unfold STQ; exact id)
              | succ n => have := hh.2.1; omega
            rw [h1] at d4 Dt
            obtain ⟨τ, t1, t2⟩ := blk y (r2 + 3) yl (by omega) (by omega) d4 Dt (hK _ _ _ _ _ hh hhi hq)
            exact ⟨0, τ, by rw [e', t1], t2⟩
      · rw [if_neg v0] at e' d4
        rw [show τ1.2 67 x = J (b : Nat) from (STA_R (x := x) S1 (k := 20) (by omega) (by omega)).trans h20] at e'
        have k := hK _ _ _ _ _ hB (by omega) (by omega)
        have k' : RunK R nO nV nC nA room en ln TX Γ0 D Dq dep bC b0 q0 w wk (d + 2) b (r + 3) q := by
          rcases hT with ⟨h1, h2, -⟩ | ⟨h1, h2, -⟩
          · rw [h1]; exact k
          · refine ⟨k.1, fun K m pw σ Γ hm hS => ?_⟩
            obtain ⟨τ, t1, t2⟩ := k.2 K m pw σ Γ hm hS
            exact ⟨τ, t1, STO_jump hS t2 h2 (by omega) (by omega) hq (by omega)⟩
        obtain ⟨τ, t1, t2⟩ := blk b (r + 3) (by omega) (Nat.le_refl _) (by omega) d4 D3 k'
        exact ⟨0, τ, by rw [e', t1], t2⟩
    · rw [if_neg (EVF_104 hF)] at e'
      exact ⟨0, τ1, e', STO_fin hF hS.1.2.2.2.2.2.2 (by omega)⟩
  · omega
