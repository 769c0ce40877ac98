/-! say, part by part -/
variable {R : Nat → Nat → Int32} {nO nV nC nA ln : Nat} {room : Nat → Bool} {en : Nat → Nat} {TX : Nat → Int → Int → Prop} {DN : Nat → Nat → Nat → Prop}
theorem STO_one {D : Nat → Nat → Prop} {Dq : Prop} {dep bC b0 q0 p q w wk pw kc : Nat} {σ τ : MS} {Γ Δ : HS} (fr : RFR σ τ (14 * dep) w wk) (fc : CFR Γ Δ bC dep) (hc : CSP kc Γ Δ) (hk : kc ≤ q - p) (hR : RRl nO room nV nC τ Δ) (hτ : RVw τ dep w wk pw) (hΔ : CVw Δ dep bC (bC + 14) q pw) (ag : AGL D q dep bC τ Δ) (hpw : pw ≤ 20000) : STO nO nV nC room D Dq dep bC w wk b0 q0 pw p q σ Γ τ := ⟨Δ, kc, pw, ⟨hc, hR, fr.1, fc.1, hτ.2.2.2.1, hτ.2.2.2.2, Nat.le_refl _, by omega⟩, Or.inl ⟨hτ, hΔ, ag, hpw, fr, fc⟩⟩
/-- a break now -/
theorem STO_brk {D : Nat → Nat → Prop} {Dq : Prop} {dep bC b0 q0 p q w wk pw kc : Nat} {σ τ : MS} {Γ Δ : HS} (hf : FIN nO nV nC room σ τ Γ Δ) (h3 : τ.1 113 = J (wk : Nat)) (h5 : τ.1 115 = J (w : Nat)) (hc : CSP kc Γ Δ) (hk : kc ≤ 40000) (hpw : pw ≤ 20000) : STO nO nV nC room D Dq dep bC w wk b0 q0 pw p q σ Γ τ := STO_fin ⟨Δ, kc, hf, h3, h5, hc, Nat.le_refl _⟩ hpw (by omega)
theorem RFR_O {σ τ : MS} {b w wk : Nat} (h : oR3 σ τ) : RFR σ τ b w wk := ⟨rWk_O h, fun _ _ => by rw [h.2 111 (by omega)], fun _ _ => by rw [h.2 114 (by omega)], fun _ _ => by rw [h.2 112 (by omega)]⟩
theorem RVw_O {σ τ : MS} {dep w wk pw : Nat} (h : oR3 σ τ) (g : RVw σ dep w wk pw) : RVw τ dep w wk pw := RVw_fr g (h.1 104 (by omega)) (h.1 107 (by omega)) (h.1 106 (by omega)) (by rw [h.1 113 (by omega)]; exact g.2.2.2.1) (by rw [h.1 115 (by omega)]; exact g.2.2.2.2)
theorem SAYR_C {Γ Δ : HS} {t q d : Nat} {w : List Int} (h : SAYR Γ Δ t q w) : CFR Γ Δ t d := ⟨fun r r8 _ r10 => h.1 r r8 r10, fun j _ => by rw [h.2.2.1 6 (by omega)], fun j _ => by rw [h.2.2.1 10 (by omega), h.2.2.1 11 (by omega)]; exact ⟨rfl, rfl⟩⟩
theorem SAYR_V {Γ Δ : HS} {dep bC t q t0 p pw : Nat} {w : List Int} (h : SAYR Γ Δ t q w) (g : CVw Γ dep bC t0 p pw) : CVw Δ dep bC t q pw := ⟨by rw [h.2.1 14 (by omega) (by omega)]; exact g.1, by rw [h.2.1 12 (by omega) (by omega)]; exact g.2.1, by rw [h.2.1 13 (by omega) (by omega)]; exact g.2.2.1, h.2.2.2.1, by rw [h.2.1 8 (by omega) (by omega)]; exact g.2.2.2.2.1, h.2.2.2.2.1⟩
theorem SAYR_R {σ τ : MS} {Γ Δ : HS} {t q : Nat} {w : List Int} (h : SAYR Γ Δ t q w) (g : RRl nO room nV nC σ Γ) (o : oR3 σ τ) (hw : OR τ w) : RRl nO room nV nC τ Δ := RR_O (v := w) g o (h.1 9 (by omega) (by omega)) (h.2.1 3 (by omega) (by omega)) (h.2.1 4 (by omega) (by omega)) (NBK_e (h.2.1 5 (by omega) (by omega)) (h.2.1 14 (by omega) (by omega))) hw h.2.2.2.2.2
theorem SYF_R {Γ Δ : HS} {t q dep bC p pw : Nat} {w : List Int} (g : CVw Γ dep bC (t + 1) p pw) (h : SYF (ppS (pcS Γ q) t) Δ) (ho : OC Δ w) : SAYR Γ Δ t q w := ⟨fun r r8 r10 => by rw [h.1 r r8 r10]; unfold ppS pcS; rw [cI_r, if_neg r10, cI_r, if_neg r10], fun k k7 k9 => by
  rw [h.2.1]
  show upd _ _ _ _ = _
  rw [upd_s, if_neg k7]
  show upd _ _ _ _ = _
  rw [upd_s, if_neg k9], fun k hk => by rw [h.2.2 k hk]; rfl, by rw [h.2.1]; rfl, by rw [h.2.1]; rfl, ho⟩
/-- what is behind an expression -/
theorem STO_ev {Γ0 : HS} {D : Nat → Nat → Prop} {Dq : Prop} {dep bC b0 q0 p r q w wk pw kc pw' : Nat} {v : Int32} {σ τ1 τ : MS} {Γ Δ1 : HS} (g : EVG nO nV nC room dep bC (bC + 14) w wk pw p r σ Γ v τ1 Δ1 kc pw') (hpr : p ≤ r) (hrq : r ≤ q) (h : STO nO nV nC room D Dq dep bC w wk b0 q0 pw' r q τ1 Δ1 τ) : STO nO nV nC room D Dq dep bC w wk b0 q0 pw p q σ Γ τ := by
  obtain ⟨g1, g2, g3, g4, g5, g6, g7, g8, g9, g10, g11⟩ := g
  exact STO_pre (RFR_le g8 (by omega) (Nat.le_refl _) (Nat.le_refl _)) (CFR_le g9 (by omega) (Nat.le_refl _)) g10 g7 g11 (by omega) h
theorem EQx_D {Γ0 : HS} {D : Nat → Nat → Prop} {lo hi x p q : Nat} (h : EQx (I1 Γ0 D) (I3 Γ0 D nV nA) R DN lo hi x p q) : ∀ u, D q u → D p u := by
  obtain ⟨n, L, -, -, h⟩ := h
  exact EXQ_D _ _ _ _ _ _ _ h
theorem T_el {Γ0 : HS} {D : Nat → Nat → Prop} {Dq : Prop} {d dep bC b0 q0 : Nat} (hdep : dep ≤ 30) (hbC : bC ≤ 288 * dep) (hDN : ∀ k z c, DN k z c → c ≤ 6) (hCL : CLH R nO nV nC nA room en ln TX DN Γ0 dep d) {lo hi t p q w wk pw : Nat} {σ : MS} {Γ : HS} (hE : TEQ (I1 Γ0 D) (I3 Γ0 D nV nA) R DN TX lo hi t p q) (hhi : hi ≤ 39990) (hq : q ≤ ln) (hS : SSS R nO nV nC nA room en ln TX Γ0 D Dq dep bC b0 q0 p w wk pw σ Γ) (hw : w ≤ 288 * dep) (hwk : wk ≤ 4096 * dep) : ∃ (v : Int32) (τ : MS), F_X12_tell (gR (d + 2)) (J (t : Nat)) (J (14 * dep : Nat)) σ = some (v, τ) ∧ STO nO nV nC room D Dq dep bC w wk b0 q0 pw p q σ Γ τ := by
  obtain ⟨l1, l2, l3, hE⟩ := hE
  have hS1 := hS.1
  obtain ⟨a1, a2, a3, a4, a5, a6, a7⟩ := hS1
  have hSE : SSE R nO nV nC nA room en ln TX Γ0 D dep bC p (bC + 14) w wk pw σ Γ := ⟨a1, a2, a3, a4, a5, a6, a7⟩
  have en' := g_en (n := t) (by omega)
  have e17 : σ.2 64 t = R 17 t := STA_17 a2
  obtain ⟨n1, n2, n3, n4⟩ := a2.2.1
  rcases hE with ⟨r, v, ww, c1, ⟨c2, c2'⟩, c3, c4, c5⟩ | ⟨y, q', c1, c2, c3, c4, c5⟩ | ⟨y, q', c1, c2, c3, c4, c5⟩
  · -- a text
    have hT := a2.2.2.2.2.2.2 ww r v c4
    obtain ⟨L0, o1, o2⟩ := a3.2.1
    obtain ⟨L, Δ, s1, s2, s3, s4⟩ := m_sayText (STA_MC a2 a5) (by omega) (op3_5 a1 c5.1) hT o2
    obtain ⟨τ, f1, f2, f3⟩ := rt_text s2 o1
    refine ⟨0, τ, ?_, STO_one (RFR_O f2) (CFR_le (SAYR_C s4) (by omega) (Nat.le_refl _)) s3 (by omega) (SAYR_R s4 a3 f2 f3) (RVw_O f2 a4) (by rw [c1]; exact SAYR_V s4 a5) (AGL_fr a6 (fun u hu => ?_) (RFR_O (b := 14 * dep + 14) (w := w) (wk := wk) f2) (SAYR_C (d := dep) s4) (Nat.le_refl _) (Nat.le_refl _)) a7⟩
    · unfold F_X12_tell
      rw [if_neg en', J_natN (by omega), e17, c2, if_pos (by decide)]
      rw [J_natN (by omega)] at en'
      rw [if_neg en', if_neg en', show σ.2 65 t = J (ww : Nat) from (STA_R (x := t) a2 (k := 18) (by omega) (by omega)).trans c2', show σ.2 67 t = J r from (STA_R (x := t) a2 (k := 20) (by omega) (by omega)).trans c3, J_suc, s1, f1]; rfl
    · rw [c1] at hu
      rcases c5.2.2.1 u hu with h | h
      · exact h
      · omega
  · -- a name
    obtain ⟨r1, r2, r3⟩ := EQx_rng c5
    obtain ⟨v, τ1, e1, hv⟩ := E_val hdep hbC hDN hCL c5 hhi (by omega) hSE (Nat.le_refl _) (by omega) (by omega) hwk
    have et : F_X12_tell (gR (d + 2)) (J (t : Nat)) (J (14 * dep : Nat)) σ = if (τ1.1 104) = 0 then (if J (t : Nat) < 0 ∨ 40000 ≤ (J (t : Nat)).toNatClampNeg then none else if (τ1.2 64 (J (t : Nat)).toNatClampNeg) = 36 then ((F_X12_sayNumber v τ1).bind fun u_22 => some (0, u_22.2)) else ((F_X12_isObject v τ1).bind fun u_25 => if u_25.1 = 0 then (some (0, u_25.2)) else ((F_X12_sayName v u_25.2).bind fun u_30 => some (0, u_30.2)))) else some (0, τ1) := by
      have en2 := en'
      rw [J_natN (by omega)] at en2
      unfold F_X12_tell
      rw [if_neg en', J_natN (by omega), e17, c2, if_neg (by decide), if_neg en2, show σ.2 66 t = J (y : Nat) from (STA_R (x := t) a2 (k := 19) (by omega) (by omega)).trans c3, q_gR_0, e1, Option.bind_some]
    rcases hv with ⟨Δ1, kc, pw', hG⟩ | ⟨-, hF⟩
    · have hG' := hG
      obtain ⟨g1, g2, g3, g4, g5, g6, g7, g8, g9, g10, g11⟩ := hG'
      have S1 : STA R nO nV nC nA room en ln TX τ1 Δ1 := STA_keep a2 g8.1 g9.1
      have h5 := (g9.1 5 (by omega) (by omega) (by omega)).trans a1
      rw [if_pos (show τ1.1 104 = 0 from g2.1), if_neg en', J_natN (by omega), STA_17 S1, c2, if_neg (by decide)] at et
      obtain ⟨z, rfl, z1, z2⟩ := g5
      rw [r_isObj g2.1 S1.2.1.1 n4 (by omega) (by omega)] at et
      rcases m_sayName (STA_MC S1 g3) (by omega) (by omega) (op1_5 h5 c4.1) g6 ⟨z1, z2⟩ S1.2.1.2.1 n4 with ⟨q1, Δ2, d1, d2⟩ | ⟨q1, d2⟩
      · rw [if_neg q1] at et
        exact ⟨0, _, et.trans rfl, STO_ev (Γ0 := Γ0) hG (by omega) (by omega) (STO_brk (FIN_brk g1 bkS_fr d2 (by omega) rfl rfl) g2.2.2.2.1 g2.2.2.2.2 d1 (by omega) g4)⟩
      · rw [if_pos q1] at et
        obtain ⟨L0, o1, o2⟩ := g1.2.1
        obtain ⟨m, rfl⟩ : ∃ m : Nat, z = m := ⟨z.toNat, by omega⟩
        obtain ⟨L, τ2, Δ2, w1, w2, w3, w4, w5, w6⟩ := W_name (Γ := ppS (pcS Δ1 (q' + 1)) (bC + 14)) (x := m) n4 (by exact S1.2.2.2.2.1) (by omega) o1 o2
        have hs := SYF_R (p := q') (dep := dep) (bC := bC) (pw := pw') g3 w4 w6
        refine ⟨0, τ2, ?_, STO_ev (Γ0 := Γ0) hG (by omega) (by omega) (STO_one (RFR_O w3) (CFR_le (SAYR_C hs) (by omega) (Nat.le_refl _)) (d2 Δ2 w2) (by omega) (SAYR_R hs g1 w3 w5) (RVw_O w3 g2) (by rw [c1]; exact SAYR_V hs g3) (AGL_fr a6 (fun u hu => ?_) (RFR_trans g8 (RFR_O (b := 14 * dep + 14) (w := w) (wk := wk) w3) (Nat.le_refl _) (Nat.le_refl _) (Nat.le_refl _)) (CFR_trans g9 (SAYR_C (d := dep) hs) (Nat.le_refl _) (Nat.le_refl _)) (Nat.le_refl _) (Nat.le_refl _)) g4)⟩
        · rw [et, Option.bind_some]
          dsimp only
          rw [if_neg (by decide), w1]; rfl
        · rw [c1] at hu; exact EQx_D c5 u (c4.2 (by omega) u hu)
    · have h104 : ¬ τ1.1 104 = 0 := by obtain ⟨Δ, kc, hf, -⟩ := hF; exact FIN_104 hf
      rw [if_neg h104] at et
      exact ⟨0, τ1, et, STO_fin hF a7 (by omega)⟩
  · -- a number
    obtain ⟨r1, r2, r3⟩ := EQx_rng c5
    obtain ⟨v, τ1, e1, hv⟩ := E_val hdep hbC hDN hCL c5 hhi (by omega) hSE (Nat.le_refl _) (by omega) (by omega) hwk
    have et : F_X12_tell (gR (d + 2)) (J (t : Nat)) (J (14 * dep : Nat)) σ = if (τ1.1 104) = 0 then (if J (t : Nat) < 0 ∨ 40000 ≤ (J (t : Nat)).toNatClampNeg then none else if (τ1.2 64 (J (t : Nat)).toNatClampNeg) = 36 then ((F_X12_sayNumber v τ1).bind fun u_22 => some (0, u_22.2)) else ((F_X12_isObject v τ1).bind fun u_25 => if u_25.1 = 0 then (some (0, u_25.2)) else ((F_X12_sayName v u_25.2).bind fun u_30 => some (0, u_30.2)))) else some (0, τ1) := by
      have en2 := en'
      rw [J_natN (by omega)] at en2
      unfold F_X12_tell
      rw [if_neg en', J_natN (by omega), e17, c2, if_neg (by decide), if_neg en2, show σ.2 66 t = J (y : Nat) from (STA_R (x := t) a2 (k := 19) (by omega) (by omega)).trans c3, q_gR_0, e1, Option.bind_some]
    rcases hv with ⟨Δ1, kc, pw', hG⟩ | ⟨-, hF⟩
    · have hG' := hG
      obtain ⟨g1, g2, g3, g4, g5, g6, g7, g8, g9, g10, g11⟩ := hG'
      have S1 : STA R nO nV nC nA room en ln TX τ1 Δ1 := STA_keep a2 g8.1 g9.1
      have h5 := (g9.1 5 (by omega) (by omega) (by omega)).trans a1
      rw [if_pos (show τ1.1 104 = 0 from g2.1), if_neg en', J_natN (by omega), STA_17 S1, c2, if_pos (by decide)] at et
      obtain ⟨z, rfl, z1, z2⟩ := g5
      obtain ⟨L0, o1, o2⟩ := g1.2.1
      obtain ⟨Δ2, d1, hs⟩ := m_sayNum (STA_MC S1 g3) (by omega) (by omega) (op1_5 h5 c4.1) g6 ⟨z1, z2⟩ o2
      obtain ⟨τ2, w1, w3, w5⟩ := rt_num ⟨z1, z2⟩ o1
      refine ⟨0, τ2, by rw [et, w1]; rfl, STO_ev (Γ0 := Γ0) hG (by omega) (by omega) (STO_one (RFR_O w3) (CFR_le (SAYR_C hs) (by omega) (Nat.le_refl _)) d1 (by omega) (SAYR_R hs g1 w3 w5) (RVw_O w3 g2) (by rw [c1]; exact SAYR_V hs g3) (AGL_fr a6 (fun u hu => ?_) (RFR_trans g8 (RFR_O (b := 14 * dep + 14) (w := w) (wk := wk) w3) (Nat.le_refl _) (Nat.le_refl _) (Nat.le_refl _)) (CFR_trans g9 (SAYR_C (d := dep) hs) (Nat.le_refl _) (Nat.le_refl _)) (Nat.le_refl _) (Nat.le_refl _)) g4)⟩
      rw [c1] at hu; exact EQx_D c5 u (c4.2 (by omega) u hu)
    · have h104 : ¬ τ1.1 104 = 0 := by obtain ⟨Δ, kc, hf, -⟩ := hF; exact FIN_104 hf
      rw [if_neg h104] at et
      exact ⟨0, τ1, et, STO_fin hF a7 (by omega)⟩
