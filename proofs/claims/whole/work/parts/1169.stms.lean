/-! say, let, set -/
variable {R : Nat → Nat → Int32} {nO nV nC nA ln : Nat} {room : Nat → Bool} {en : Nat → Nat} {TX : Nat → Int → Int → Prop} {DN : Nat → Nat → Nat → Prop}
def SCX (R : Nat → Nat → Int32) (nO nV nC nA : Nat) (room : Nat → Bool) (en : Nat → Nat) (ln : Nat) (TX : Nat → Int → Int → Prop) (DN : Nat → Nat → Nat → Prop) (Γ0 : HS) (B dep bC w wk : Nat) : Prop := dep ≤ 30 ∧ bC ≤ 288 * dep ∧ (∀ k z c, DN k z c → c ≤ 6) ∧ (∀ d, B ≤ d → CLH R nO nV nC nA room en ln TX DN Γ0 dep d) ∧ w ≤ 288 * dep ∧ wk ≤ 4096 * dep
/-- an expression inside a statement -/
theorem S_ev {Γ0 : HS} {D : Nat → Nat → Prop} {B d dep bC : Nat} {lo hi x p q top w w1 wk pw : Nat} {σ : MS} {Γ : HS} (hC : SCX R nO nV nC nA room en ln TX DN Γ0 B dep bC w wk) (hd : B ≤ d) (hE : EQx (I1 Γ0 D) (I3 Γ0 D nV nA) R DN lo hi x p q) (hhi : hi ≤ 39990) (hq : q ≤ ln) (hS : SSE R nO nV nC nA room en ln TX Γ0 D dep bC p top w1 wk pw σ Γ) (hbc : bC + 14 ≤ top) (htop : top ≤ bC + 21) (hw1 : w1 ≤ w + 21) : ∃ (v : Int32) (τ : MS), gR (d + 2) 0 (J (x : Nat)) (J (14 * dep : Nat)) 0 σ = some (v, τ) ∧ ((∃ (Δ : HS) (kc pw' : Nat), EVG nO nV nC room dep bC top w1 wk pw p q σ Γ v τ Δ kc pw') ∨ (v = 0 ∧ EVF nO nV nC room w1 wk σ Γ τ ((q - p) + 40000 * (20001 - pw)))) := by
  obtain ⟨h1, h2, h3, h4, h5, h6⟩ := hC
  rw [q_gR_0]
  exact E_val h1 h2 h3 (h4 d hd) hE hhi hq hS hbc htop (by omega) h6
theorem EVF_104 {w wk kb : Nat} {σ τ : MS} {Γ : HS} (h : EVF nO nV nC room w wk σ Γ τ kb) : ¬ τ.1 104 = 0 := by obtain ⟨Δ, kc, hf, -⟩ := h; exact FIN_104 hf
/-- it is stopped already: nothing is worked out -/
theorem ev_stopped {rec : GF} {p1 : Int32} {x w wk : Nat} {σ : MS} (h : ¬ σ.1 104 = 0) (h3 : σ.1 113 = J (wk : Nat)) (h5 : σ.1 115 = J (w : Nat)) (hwk : wk < 129990) (hx : x < 39990) : F_X12_eval rec (J (x : Nat)) p1 σ = some ((0 : Int32), mI (mI (tdS σ wk (4 * x)) 113 (J (wk : Nat))) 115 (J (w : Nat))) := by
  rw [eval_eq, show (0 : Int32) = J ((0 : Nat) : Int) from rfl, r_toDo h3 (by omega) (by omega) (by omega), Option.bind_some, h3, h5]
  obtain ⟨m, hm⟩ : ∃ m, FU = m + 1 := ⟨FU - 1, by have := FU_gt (k := 1) (by omega); omega⟩
  dsimp only
  rw [hm, EvB_s, bndE]
  have h' : ¬ (mI (mI (tdS σ wk (4 * x + 0)) 113 (J (wk : Nat))) 115 (J (w : Nat))).1 104 = 0 := h
  have h'' : ¬ (tdS σ wk (4 * x + 0)).1 104 = 0 := h
  dsimp only
  rw [if_neg h'', bndE, bndE, if_neg h', ite_self]; rfl
theorem EVF_stop {w wk kb x : Nat} {σ τ : MS} {Γ : HS} (h : EVF nO nV nC room w wk σ Γ τ kb) : EVF nO nV nC room w wk σ Γ (mI (mI (tdS τ wk (4 * x)) 113 (J (wk : Nat))) 115 (J (w : Nat))) kb := by
  obtain ⟨Δ, kc, hf, h3, h5, h6, h7⟩ := h
  have fr : rMk τ (mI (mI (tdS τ wk (4 * x)) 113 (J (wk : Nat))) 115 (J (w : Nat))) := rMk_trans fr_tdS (rMk_mI (rMk_mI rMk_rfl (by omega)) (by omega))
  exact ⟨Δ, kc, ⟨RR_M hf.1 fr rfl rfl rfl rfl (fun h => h), rWk_trans hf.2.1 (rWk_M fr), hf.2.2.1, hf.2.2.2⟩, rfl, rfl, h6, h7⟩
theorem S20 {Γ0 : HS} {D : Nat → Nat → Prop} {Dq : Prop} {B d dep bC b0 q0 : Nat} {hi s p q w wk pw c : Nat} {f : Int} {σ : MS} {Γ : HS} (hC : SCX R nO nV nC nA room en ln TX DN Γ0 B dep bC w wk) (hd : B ≤ d) (hs : s < 39990) (hhi : hi ≤ 39990) (hq : q ≤ ln) (hS : SSS R nO nV nC nA room en ln TX Γ0 D Dq dep bC b0 q0 p w wk pw σ Γ) (h17 : R 17 s = J 20) (h19 : R 19 s = J f) (hL : LSQ R (TEQ (I1 Γ0 D) (I3 Γ0 D nV nA) R DN TX) (s + 1) hi f c p q) (hc : c ≤ 39990) : ∃ (v : Int32) (τ : MS), F_X12_statement_ (gR (d + 3)) (J (s : Nat)) (J (14 * dep : Nat)) σ = some (v, τ) ∧ STO nO nV nC room D Dq dep bC w wk b0 q0 pw p q σ Γ τ := by
  obtain ⟨C1, C2, C3, C4, C5, C6⟩ := hC
  have en' := g_en (n := s) (by omega)
  have a2 := hS.1.2.1
  obtain ⟨xs, ls, ps, f1, f2, f3, f4, f5, f6, f7⟩ := hL
  have lsm := LSQ_rng f5
  have lsr : ∀ i, i < c → s + 1 ≤ ls i ∧ ls (i + 1) ≤ hi := fun i hi' => by
    have r1 := (lsm i 0 (by omega)).1
    have r2 := (lsm (c - (i + 1)) (i + 1) (by omega)).1
    rw [Nat.zero_add] at r1
    rw [show i + 1 + (c - (i + 1)) = c by omega] at r2
    omega
  have psr : ∀ i, i < c → ps (i + 1) ≤ q := fun i hi' => by
    have r2 := (lsm (c - (i + 1)) (i + 1) (by omega)).2
    rw [show i + 1 + (c - (i + 1)) = c by omega] at r2
    omega
  have e := stb_20 (gR (d + 3)) (J (s : Nat)) (J (14 * dep : Nat)) σ en' (by rw [J_natN (by omega), STA_17 a2]; exact h17)
  rw [if_neg en', J_natN (by omega), show σ.2 66 s = J f from (STA_R (x := s) a2 (k := 19) (by omega) (by omega)).trans h19, bndE] at e
  subst f6
  obtain ⟨τ, t1, t2⟩ := L_go (rec := gR (d + 3)) (t := 5) (p1 := J (14 * dep : Nat)) (K := fun σ => some ((0 : Int32), σ)) (xs := xs) (ps := ps) (c := c) (fun k hk σ' Γ' pw' hS' => by
    rw [q_gR_5]
    have h1 := lsr k hk
    have h2 := psr k hk
    exact T_el C1 C2 C3 (C4 d hd) (f5 k hk).2.2.2 (by omega) (by omega) hS' C5 C6) f2 (fun k hk => by have := f5 k hk; have := lsr k hk; omega) (fun k hk => (f5 k hk).2.2.1) c 0 (by omega) FU σ Γ pw (FU_gt (by omega)) hS
  rw [f7] at t2
  refine ⟨0, τ, ?_, t2⟩
  rw [e, ← t1]
  have : (if 0 < c then (xs 0 : Int) else -1) = f := by rw [f1]; by_cases c0 : c = 0 <;> simp [c0] <;> omega
  rw [this]; rfl
theorem S21 {Γ0 : HS} {D : Nat → Nat → Prop} {Dq : Prop} {B d dep bC b0 q0 : Nat} {hi s p w wk pw y e k q' : Nat} {σ : MS} {Γ : HS} (hC : SCX R nO nV nC nA room en ln TX DN Γ0 B dep bC w wk) (hd : B ≤ d) (hs : s < 39990) (hhi : hi ≤ 39990) (hq : q' + 3 ≤ ln) (hS : SSS R nO nV nC nA room en ln TX Γ0 D Dq dep bC b0 q0 p w wk pw σ Γ) (h17 : R 17 s = J 21) (h19 : R 19 s = J (y : Nat)) (hy : y < hi) (h21 : R 21 y = J (k : Nat)) (hk : k < 14) (h20 : R 20 s = J (e : Nat)) (ho : I3 Γ0 D nV nA q' 38 (k : Nat)) (hE : EQx (I1 Γ0 D) (I3 Γ0 D nV nA) R DN (y + 1) hi e p q') : ∃ (v : Int32) (τ : MS), F_X12_statement_ (gR (d + 2)) (J (s : Nat)) (J (14 * dep : Nat)) σ = some (v, τ) ∧ STO nO nV nC room D Dq dep bC w wk b0 q0 pw p (q' + 3) σ Γ τ := by
  have hC' := hC
  obtain ⟨C1, C2, C3, C4, C5, C6⟩ := hC'
  have en' := g_en (n := s) (by omega)
  have a2 := hS.1.2.1
  obtain ⟨r1, r2, r3⟩ := EQx_rng hE
  obtain ⟨v, τ1, e1, hv⟩ := S_ev (d := d) hC hd hE hhi (by omega) hS.1 (Nat.le_refl _) (by omega) (by omega)
  have e' := stb_21 (gR (d + 2)) (J (s : Nat)) (J (14 * dep : Nat)) σ en' (by rw [J_natN (by omega), STA_17 a2]; exact h17)
  have en2 := en'
  rw [J_natN (by omega)] at en2
  have st : rWk σ τ1 → F_X12_statement_ (gR (d + 2)) (J (s : Nat)) (J (14 * dep : Nat)) σ = some ((0 : Int32), mA τ1 111 (upd (τ1.2 111) (14 * dep + k) v)) := fun hw => by
    have R1 : ∀ j, 17 ≤ j → j ≤ 22 → τ1.2 (j + 47) = R j := fun j j1 j2 => by rw [hw.2 (j + 47) (by omega) (by omega) (by omega) (by omega) (by omega)]; exact a2.1 j j1 j2
    rw [e', if_neg en', J_natN (by omega), show σ.2 67 s = J (e : Nat) from (STA_R (x := s) a2 (k := 20) (by omega) (by omega)).trans h20, e1, Option.bind_some]
    dsimp only
    rw [if_neg en2, show τ1.2 66 s = J (y : Nat) from (congrFun (R1 19 (by omega) (by omega)) s).trans h19, bndE, if_neg (g_en (by omega)), J_natN (by omega), show τ1.2 68 y = J (k : Nat) from (congrFun (R1 21 (by omega) (by omega)) y).trans h21, J_add, show ((14 * dep : Nat) : Int) + (k : Nat) = ((14 * dep + k : Nat) : Int) by omega, if_neg (by rw [J_natN (by omega)]; rintro (h | h); exact J_nlt0 (by omega) (by omega) h; omega), J_natN (by omega), bndE]
  have frA : rMk τ1 (mA τ1 111 (upd (τ1.2 111) (14 * dep + k) v)) := rMk_mA rMk_rfl (by omega)
  rcases hv with ⟨Δ1, kc, pw', hG⟩ | ⟨-, hF⟩
  · have hG' := hG
    obtain ⟨g1, g2, g3, g4, g5, g6, g7, g8, g9, g10, g11⟩ := hG'
    have S1 : STA R nO nV nC nA room en ln TX τ1 Δ1 := STA_keep a2 g8.1 g9.1
    have h5 := (g9.1 5 (by omega) (by omega) (by omega)).trans hS.1.1
    obtain ⟨Δ2, d1, d2, d3, d4⟩ := m_setLocal (STA_MC S1 g3) (by omega) (by omega) g3.2.2.2.2.1 (by omega) hk (op3_5 h5 ho.1)
    rw [g6] at d2
    have f2 : RFR τ1 (mA τ1 111 (upd (τ1.2 111) (14 * dep + k) v)) (14 * dep) w wk := ⟨rWk_M frA, fun j hj => by show upd _ _ _ _ = _; rw [upd_s, if_neg (by omega)], fun _ _ => rfl, fun _ _ => rfl⟩
    have e6 : (Δ2 10).2.1 6 = (cA' Δ1 10 6 (upd ((Δ1 10).2.1 6) (bC + k) v) 10).2.1 6 ∨ True := Or.inr trivial
    have st6 : ∀ j, j < 10000 → (Δ2 10).2.1 6 j = upd ((Δ1 10).2.1 6) (bC + k) v j := fun j hj => d2.2.2.2 j hj
    have hc2 : CFR Δ1 Δ2 bC dep := ⟨fun r r8 r9 r10 => by rw [d2.1 r r10, cA_r, if_neg r10], fun j hj => by rw [st6 j (by omega), upd_s, if_neg (by omega)], fun j _ => by
      rw [d2.2.2.1 10 (by omega), d2.2.2.1 11 (by omega)]; exact ⟨rfl, rfl⟩⟩
    have cv : CVw Δ2 dep bC (bC + 14) (q' + 3) pw' := CVw_MK (Γ := cA' Δ1 10 6 (upd ((Δ1 10).2.1 6) (bC + k) v)) g3 d2 d3 d4
    have rr : RRl nO room nV nC (mA τ1 111 (upd (τ1.2 111) (14 * dep + k) v)) Δ2 := RR_M g1 frA (by rw [d2.1 8 (by omega)]; rfl) (by rw [d2.1 9 (by omega)]; rfl) (by rw [d2.2.1 3 (by omega) (by omega)]; rfl) (by rw [d2.2.1 4 (by omega) (by omega)]; rfl) (NBK_e (by rw [d2.2.1 5 (by omega) (by omega)]; rfl) (by rw [d2.2.1 14 (by omega) (by omega)]; rfl))
    refine ⟨0, _, st g8.1, STO_ev (Γ0 := Γ0) hG (by omega) (by omega) (STO_one f2 hc2 d1 (by omega) rr (RVw_fr g2 rfl rfl rfl g2.2.2.2.1 g2.2.2.2.2) cv (fun u hu hu2 => ?_) g4)⟩
    rw [st6 (bC + u) (by omega)]
    show upd _ _ _ _ = upd _ _ _ _ ∧ VL (upd _ _ _ _)
    rw [upd_s, upd_s]
    by_cases q : u = k
    · rw [q, if_pos rfl, if_pos rfl]; exact ⟨rfl, g5⟩
    · rw [if_neg (by omega), if_neg (by omega)]
      have hD : D p u := by
        refine EQx_D hE u ?_
        rcases ho.2.2.1 u hu with h | h
        · exact h
        · exact absurd (show u = k by have := h.2; omega) q
      exact AGL_fr hS.1.2.2.2.2.2.1 (fun u hu => hu) g8 g9 (Nat.le_refl _) (Nat.le_refl _) u hD hu2
  · obtain ⟨Δ, kc, hf, h3, h5, h6, h7⟩ := hF
    exact ⟨0, _, st hf.2.1, STO_fin ⟨Δ, kc, ⟨RR_M hf.1 frA rfl rfl rfl rfl (fun h => h), rWk_trans hf.2.1 (rWk_M frA), hf.2.2.1, hf.2.2.2⟩, h3, h5, h6, h7⟩ hS.1.2.2.2.2.2.2 (by omega)⟩
