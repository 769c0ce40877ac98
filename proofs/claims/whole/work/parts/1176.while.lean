/-! while -/
variable {R : Nat → Nat → Int32} {nO nV nC nA ln : Nat} {room : Nat → Bool} {en : Nat → Nat} {TX : Nat → Int → Int → Prop} {DN : Nat → Nat → Nat → Prop}
def WhB (rec : GF) (p0 p1 : Int32) : (MS → MR) → MS → MR := fun again s => if p0 < 0 ∨ 40000 ≤ p0.toNatClampNeg then none else (rec 0 (s.2 66 p0.toNatClampNeg) p1 0 s).bind fun u_241 => if u_241.1 = 0 then some (0, u_241.2) else (F_X12_passes u_241.2).bind fun u_246 => if u_246.1 = 0 then some (0, u_246.2) else if p0 < 0 ∨ 40000 ≤ p0.toNatClampNeg then none else bnd ((u_246.2.2 67 p0.toNatClampNeg)) fun (x_253 : Int32) => if x_253 < 0 ∨ 40000 ≤ x_253.toNatClampNeg then none else bnd ((u_246.2.2 66 x_253.toNatClampNeg)) fun (x_257 : Int32) => loopF (LsB rec 3 p1 again) FU (x_257, u_246.2)
theorem stb_28' (rec : GF) (p0 p1 : Int32) (σ : MS) (g : ¬ (p0 < 0 ∨ 40000 ≤ p0.toNatClampNeg)) (h : σ.2 64 p0.toNatClampNeg = J 28) : F_X12_statement_ rec p0 p1 σ = loopF (WhB rec p0 p1) FU σ := by
  rw [stb_28 rec p0 p1 σ g h]; rfl
theorem WhB_s (rec : GF) (p0 p1 : Int32) (n : Nat) (s : MS) : loopF (WhB rec p0 p1) (n + 1) s = if p0 < 0 ∨ 40000 ≤ p0.toNatClampNeg then none else (rec 0 (s.2 66 p0.toNatClampNeg) p1 0 s).bind fun u_241 => if u_241.1 = 0 then some (0, u_241.2) else (F_X12_passes u_241.2).bind fun u_246 => if u_246.1 = 0 then some (0, u_246.2) else if p0 < 0 ∨ 40000 ≤ p0.toNatClampNeg then none else bnd ((u_246.2.2 67 p0.toNatClampNeg)) fun (x_253 : Int32) => if x_253 < 0 ∨ 40000 ≤ x_253.toNatClampNeg then none else bnd ((u_246.2.2 66 x_253.toNatClampNeg)) fun (x_257 : Int32) => loopF (LsB rec 3 p1 (loopF (WhB rec p0 p1) n)) FU (x_257, u_246.2) := rfl
theorem r_passes {σ : MS} {pw : Nat} (h0 : σ.1 104 = J 0) (h6 : σ.1 106 = J (pw : Nat)) (hp : pw ≤ 20000) : F_X12_passes σ = if pw < 20000 then some ((1 : Int32), mI σ 106 (J (pw + 1 : Nat))) else some ((0 : Int32), bkS (mI σ 106 (J (pw + 1 : Nat))) 6) := by
  unfold F_X12_passes
  rw [h6, J_suc, bndE, bndE]
  have e0 : (mI σ 106 (J (pw + 1 : Nat))).1 104 = 0 := h0
  by_cases q : pw < 20000
  · rw [if_pos (by rw [show (20000 : Int32) = J 20000 from rfl, J_le (by omega) (by omega) (by omega) (by omega)]; omega), if_pos q]
    dsimp only
    rw [if_pos e0]
  · rw [if_neg (by rw [show (20000 : Int32) = J 20000 from rfl, J_le (by omega) (by omega) (by omega) (by omega)]; omega), if_neg q, show (6 : Int32) = J 6 from rfl, r_breaks (σ := mI σ 106 (J (pw + 1 : Nat))) h0, Option.bind_some]
    dsimp only
    rw [if_neg (show ¬ (bkS (mI σ 106 (J (pw + 1 : Nat))) 6).1 104 = 0 by show ¬ (J 3 : Int32) = 0; decide)]
theorem W_go {Γ0 : HS} {D : Nat → Nat → Prop} {Dq : Prop} {B d dep bC b0 q0 w wk x e b m hi p r q' : Nat} (hC : SCX R nO nV nC nA room en ln TX DN Γ0 B dep bC w wk) (hd : B ≤ d) (hx : x < 39990) (hhi : hi ≤ 39990) (hq : q' + 3 ≤ ln) (h19 : R 19 x = J (e : Nat)) (h20 : R 20 x = J (b : Nat)) (hb : b < 39990) (ho : I3 Γ0 D nV nA r 42 ((q' + 3 : Nat) : Int)) (ho3 : I1 Γ0 D (r + 3) 3) (ho41 : I3 Γ0 D nV nA q' 41 (p : Nat)) (hm : m ≤ hi) (hE : EQx (I1 Γ0 D) (I3 Γ0 D nV nA) R DN (x + 1) m e p r) (hrq : r + 4 ≤ q') (hK : RunK R nO nV nC nA room en ln TX Γ0 D Dq dep bC b0 q0 w wk (d + 2) b (r + 4) q') : ∀ (k pw : Nat), 20000 - pw < k → ∀ (n : Nat) (σ : MS) (Γ : HS), k + 1 < n → SSS R nO nV nC nA room en ln TX Γ0 D Dq dep bC b0 q0 p w wk pw σ Γ → ∃ τ : MS, loopF (WhB (gR (d + 2)) (J (x : Nat)) (J (14 * dep : Nat))) n σ = some ((0 : Int32), τ) ∧ STO nO nV nC room D Dq dep bC w wk b0 q0 pw p (q' + 3) σ Γ τ := by
  have hC' := hC
  obtain ⟨C1, C2, C3, C4, C5, C6⟩ := hC'
  have en' := g_en (n := x) (by omega)
  have en2 := en'
  rw [J_natN (by omega)] at en2
  obtain ⟨r1, r2', r3⟩ := EQx_rng hE
  intro k
  induction k with
  | zero => intro pw h; omega
  | succ k ih =>
    intro pw hk n σ Γ hn hS
    obtain ⟨n, rfl⟩ : ∃ m, n = m + 1 := ⟨n - 1, by omega⟩
    have a2 := hS.1.2.1
    have hpw := hS.1.2.2.2.2.2.2
    obtain ⟨v, τ1, e1, hv⟩ := S_ev (d := d) hC hd hE (by omega) (by omega) hS.1 (Nat.le_refl _) (by omega) (by omega)
    have e' := WhB_s (gR (d + 2)) (J (x : Nat)) (J (14 * dep : Nat)) n σ
    rw [if_neg en', J_natN (by omega), show σ.2 66 x = J (e : Nat) from (STA_R (x := x) a2 (k := 19) (by omega) (by omega)).trans h19, e1, Option.bind_some] at e'
    dsimp only at e'
    rcases hv with ⟨Δ1, kc, pw', hG⟩ | ⟨v0, hF⟩
    · have hG' := hG
      obtain ⟨g1, g2, g3, g4, g5, g6, g7, g8, g9, g10, g11⟩ := hG'
      have S1 : STA R nO nV nC nA room en ln TX τ1 Δ1 := STA_keep a2 g8.1 g9.1
      have hln := S1.2.2.2.2.2.1.2
      have h5 := (g9.1 5 (by omega) (by omega) (by omega)).trans hS.1.1
      obtain ⟨Δ2, d1, d2, d3, d4⟩ := m_jfalse (STA_MC S1 g3) (by omega) (by omega) (by omega) (op3_5 h5 ho.1)
      rw [g6] at d4
      have hc2 : CFR Δ1 Δ2 (bC + 14) dep := CFR_MK d2 (by omega)
      have fc := CFR_trans g9 hc2 (Nat.le_refl _) (Nat.le_refl _)
      have rr : RRl nO room nV nC τ1 Δ2 := RR_M g1 rMk_rfl (d2.1 8 (by omega)) (d2.1 9 (by omega)) (d2.2.1 3 (by omega) (by omega)) (d2.2.1 4 (by omega) (by omega)) (NBK_e (d2.2.1 5 (by omega) (by omega)) (d2.2.1 14 (by omega) (by omega)))
      have S2 : STA R nO nV nC nA room en ln TX τ1 Δ2 := STA_keep S1 rWk_rfl hc2.1
      have h52 := (hc2.1 5 (by omega) (by omega) (by omega)).trans h5
      have Dr : ∀ u, D r u → D p u := EQx_D hE
      by_cases v0 : v = 0
      · -- it ends
        rw [if_pos v0] at e' d4
        refine ⟨τ1, e', Δ2, kc + 1, pw', ⟨CSP_trans g10 d1, rr, g8.1, fc.1, g2.2.2.2.1, g2.2.2.2.2, g7, by omega⟩, Or.inl ⟨g2, CVw_MK g3 d2 d3 d4, AGL_fr hS.1.2.2.2.2.2.1 (fun u hu => Dr u (ho.2.2.2.1 (by omega) (by omega) (by omega) u (by rwa [show ((q' + 3 : Nat) : Int).toNat = q' + 3 by omega]))) g8 fc (Nat.le_refl _) (Nat.le_refl _), g4, RFR_le g8 (by omega) (Nat.le_refl _) (Nat.le_refl _), CFR_le fc (by omega) (Nat.le_refl _)⟩⟩
      · rw [if_neg v0] at e' d4
        have g3' : CVw Δ2 dep bC (bC + 14) (r + 3) pw' := CVw_MK g3 d2 d3 d4
        rw [r_passes g2.1 g2.2.2.1 g4] at e'
        obtain ⟨Δ3, p1, p2⟩ := m_pass (STA_MC S2 g3') (by omega) (op1_5 h52 ho3.1) g3'.2.2.1 g4
        rcases p2 with ⟨q1, p2⟩ | ⟨q1, p2⟩
        · rw [if_pos q1, Option.bind_some] at e'
          dsimp only at e'
          rw [if_neg (by decide), if_neg en2] at e'
          have fr : rMk τ1 (mI τ1 106 (J (pw' + 1 : Nat))) := rMk_mI rMk_rfl (by omega)
          have f2 : RFR τ1 (mI τ1 106 (J (pw' + 1 : Nat))) (14 * dep + 14) w wk := ⟨rWk_M fr, fun _ _ => rfl, fun _ _ => rfl, fun _ _ => rfl⟩
          have fc3 : CFR Δ2 Δ3 (bC + 14) dep := by
            rw [p2]
            refine ⟨fun r r8 r9 r10 => ?_, fun j hj => rfl, fun j _ => ⟨rfl, rfl⟩⟩
            unfold wkS pcS
            rw [cI_r, if_neg r10, cI_r, if_neg r10]
          have rr3 : RRl nO room nV nC (mI τ1 106 (J (pw' + 1 : Nat))) Δ3 := RR_M rr fr (by rw [p2]; rfl) (by rw [p2]; rfl) (by rw [p2]; rfl) (by rw [p2]; rfl) (by rw [p2]; exact fun h => h)
          have cv3 : CVw Δ3 dep bC (bC + 14) (r + 4) (pw' + 1) := by rw [p2]; exact ⟨g3'.1, g3'.2.1, rfl, g3'.2.2.2.1, g3'.2.2.2.2.1, rfl⟩
          have fr' := RFR_trans g8 f2 (Nat.le_refl _) (Nat.le_refl _) (Nat.le_refl _)
          have fc' := CFR_trans fc fc3 (Nat.le_refl _) (Nat.le_refl _)
          have hS3 : SSS R nO nV nC nA room en ln TX Γ0 D Dq dep bC b0 q0 (r + 4) w wk (pw' + 1) (mI τ1 106 (J (pw' + 1 : Nat))) Δ3 := ⟨⟨(fc'.1 5 (by omega) (by omega) (by omega)).trans hS.1.1, STA_keep a2 fr'.1 fc'.1, rr3, ⟨g2.1, g2.2.1, rfl, g2.2.2.2.1, g2.2.2.2.2⟩, cv3, AGL_fr hS.1.2.2.2.2.2.1 (fun u hu => Dr u (by
            rcases ho.2.2.1 u (ho3.2 (by omega) u hu) with h | h
            · exact h
            · omega)) fr' fc' (Nat.le_refl _) (Nat.le_refl _), by omega⟩, RTF_fr hS.2 fc'⟩
          obtain ⟨τ2, k1, k2⟩ := hK.2 (loopF (WhB (gR (d + 2)) (J (x : Nat)) (J (14 * dep : Nat))) n) FU (pw' + 1) _ Δ3 (FU_gt (by omega)) hS3
          have e67 : (mI τ1 106 (J (pw' + 1 : Nat))).2 67 x = J (b : Nat) := (STA_R (x := x) S1 (k := 20) (by omega) (by omega)).trans h20
          have e66 : (mI τ1 106 (J (pw' + 1 : Nat))).2 66 b = R 19 b := STA_R (x := b) S1 (k := 19) (by omega) (by omega)
          rw [e67, bndE, if_neg (g_en (by omega)), J_natN (by omega), e66, bndE, k1] at e'
          rcases STO_dec k2 with ⟨Δ4, kc4, pw4, ⟨b1, b2, b3, b4, b5, b6, b7, b8⟩, hN⟩ | h104
          · -- once more
            have hS4 := SSS_next hS3 b2 hN
            obtain ⟨n1, n2, n3, n4, n5, n6⟩ := hN
            have S4 := hS4.1.2.1
            obtain ⟨Δ5, m1, m2, m3, m4⟩ := m_jump (STA_MC S4 n2) (by omega) (by omega) (op3_5 hS4.1.1 ho41.1)
            have fc5 : CFR Δ4 Δ5 (bC + 14) dep := CFR_MK m2 (by omega)
            have hS5 : SSS R nO nV nC nA room en ln TX Γ0 D Dq dep bC b0 q0 p w wk pw4 τ2 Δ5 := ⟨⟨(fc5.1 5 (by omega) (by omega) (by omega)).trans hS4.1.1, STA_keep S4 rWk_rfl fc5.1, RR_M b2 rMk_rfl (m2.1 8 (by omega)) (m2.1 9 (by omega)) (m2.2.1 3 (by omega) (by omega)) (m2.2.1 4 (by omega) (by omega)) (NBK_e (m2.2.1 5 (by omega) (by omega)) (m2.2.1 14 (by omega) (by omega))), n1, CVw_MK n2 m2 m3 m4, AGL_fr n3 (fun u hu => ho41.2.2.2.1 (by omega) (by omega) (by omega) u (by rwa [show ((p : Nat) : Int).toNat = p by omega])) (RFR_rfl (b := 14 * dep + 14) (w := w) (wk := wk)) fc5 (Nat.le_refl _) (Nat.le_refl _), n4⟩, RTF_fr hS4.2 fc5⟩
            obtain ⟨τ3, t1, t2⟩ := ih pw4 (by omega) n τ2 Δ5 (by omega) hS5
            refine ⟨τ3, by rw [e', t1], STO_pre (p1 := p) (k0 := kc + 1 + 1 + kc4 + 1) (k1 := 0) (RFR_trans (RFR_le fr' (by omega) (Nat.le_refl _) (Nat.le_refl _) : RFR σ _ (14 * dep) w wk) n5 (Nat.le_refl _) (Nat.le_refl _) (Nat.le_refl _)) (CFR_trans (CFR_trans (CFR_le fc' (by omega) (Nat.le_refl _) : CFR Γ Δ3 bC dep) n6 (Nat.le_refl _) (Nat.le_refl _)) (CFR_le fc5 (by omega) (Nat.le_refl _) : CFR Δ4 Δ5 bC dep) (Nat.le_refl _) (Nat.le_refl _)) (CSP_trans (CSP_trans (CSP_trans (CSP_trans g10 d1) p1) b1) m1) (by omega) (by omega) (by omega) t2⟩
          · -- stopped inside
            obtain ⟨n, rfl⟩ : ∃ m, n = m + 1 := ⟨n - 1, by omega⟩
            have b5 : τ2.1 113 = J (wk : Nat) ∧ τ2.1 115 = J (w : Nat) ∧ rWk (mI τ1 106 (J (pw' + 1 : Nat))) τ2 := by
              obtain ⟨Δ4, kc4, pw4, ⟨b1, b2, b3, b4, b5, b6, b7, b8⟩, -⟩ := k2
              exact ⟨b5, b6, b3⟩
            have es := ev_stopped (rec := gR (d + 1)) (p1 := J (14 * dep : Nat)) (x := e) h104 b5.1 b5.2.1 (by omega) (by omega)
            have st := WhB_s (gR (d + 2)) (J (x : Nat)) (J (14 * dep : Nat)) n τ2
            rw [if_neg en', J_natN (by omega), show τ2.2 66 x = J (e : Nat) from (STA_W (j := 19) (x := x) hS3.1.2.1 b5.2.2 (by omega) (by omega)).trans h19, q_gR_0, es, Option.bind_some] at st
            dsimp only at st
            rw [if_pos rfl] at st
            refine ⟨_, by rw [e', st], ?_⟩
            exact STO_pre (p1 := r + 4) (k0 := kc + 1 + 1) (k1 := r + 2 - p) (RFR_le fr' (by omega) (Nat.le_refl _) (Nat.le_refl _)) (CFR_le fc' (by omega) (Nat.le_refl _)) (CSP_trans (CSP_trans g10 d1) p1) (by omega) (by omega) (by omega) (STO_stop (x := e) (q2 := q' + 3) k2 h104 (by omega)).1
        · rw [if_neg q1, Option.bind_some] at e'
          dsimp only at e'
          rw [if_pos rfl] at e'
          have fr : rMk τ1 (bkS (mI τ1 106 (J (pw' + 1 : Nat))) 6) := rMk_trans (rMk_mI rMk_rfl (by omega)) bkS_fr
          exact ⟨_, e', STO_ev (Γ0 := Γ0) hG (by omega) (by omega) (STO_brk (kc := 1 + 1) (FIN_pre rWk_rfl hc2.1 (FIN_brk rr fr p2 (by omega) rfl rfl)) g2.2.2.2.1 g2.2.2.2.2 (CSP_trans d1 p1) (by omega) g4)⟩
    · rw [if_pos v0] at e'
      exact ⟨τ1, e', STO_fin hF hpw (by omega)⟩
