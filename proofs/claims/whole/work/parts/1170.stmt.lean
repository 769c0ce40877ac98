/-! set, remove, give, move -/
variable {R : Nat → Nat → Int32} {nO nV nC nA ln : Nat} {room : Nat → Bool} {en : Nat → Nat} {TX : Nat → Int → Int → Prop} {DN : Nat → Nat → Nat → Prop}
theorem STA_W {R : Nat → Nat → Int32} {nO nV nC nA ln : Nat} {room : Nat → Bool} {en : Nat → Nat} {TX : Nat → Int → Int → Prop} {σ τ : MS} {Γ : HS} (h : STA R nO nV nC nA room en ln TX σ Γ) (hw : rWk σ τ) {j x : Nat} (j1 : 17 ≤ j) (j2 : j ≤ 22) : τ.2 (j + 47) x = R j x := by
  rw [hw.2 (j + 47) (by omega) (by omega) (by omega) (by omega) (by omega)]
  exact congrFun (h.1 j j1 j2) x
theorem S22 {Γ0 : HS} {D : Nat → Nat → Prop} {Dq : Prop} {B d dep bC b0 q0 : Nat} {hi s p w wk pw y e k q' : Nat} {b o : Int} {σ : MS} {Γ : HS} (hC : SCX R nO nV nC nA room en ln TX DN Γ0 B dep bC w wk) (hd : B ≤ d) (hs : s < 39990) (hhi : hi ≤ 39990) (hq : q' + 3 ≤ ln) (hS : SSS R nO nV nC nA room en ln TX Γ0 D Dq dep bC b0 q0 p w wk pw σ Γ) (h17 : R 17 s = J 22) (h19 : R 19 s = J (y : Nat)) (hy : y < hi) (h20y : R 20 y = J b) (h21 : R 21 y = J (k : Nat)) (hb : (b = 9 ∧ k < 14 ∧ o = 38) ∨ (b = 4 ∧ k < 100 ∧ o = 37)) (h20 : R 20 s = J (e : Nat)) (ho : I3 Γ0 D nV nA q' o (k : Nat)) (hE : EQx (I1 Γ0 D) (I3 Γ0 D nV nA) R DN (y + 1) hi e p q') : ∃ (v : Int32) (τ : MS), F_X12_statement_ (gR (d + 2)) (J (s : Nat)) (J (14 * dep : Nat)) σ = some (v, τ) ∧ STO nO nV nC room D Dq dep bC w wk b0 q0 pw p (q' + 3) σ Γ τ := by
  have hC' := hC
  obtain ⟨C1, C2, C3, C4, C5, C6⟩ := hC'
  have en' := g_en (n := s) (by omega)
  have a2 := hS.1.2.1
  obtain ⟨r1, r2, r3⟩ := EQx_rng hE
  obtain ⟨v, τ1, e1, hv⟩ := S_ev (d := d) hC hd hE hhi (by omega) hS.1 (Nat.le_refl _) (by omega) (by omega)
  have e' := stb_22 (gR (d + 2)) (J (s : Nat)) (J (14 * dep : Nat)) σ en' (by rw [J_natN (by omega), STA_17 a2]; exact h17)
  rw [if_neg en', if_neg en', J_natN (by omega), show σ.2 67 s = J (e : Nat) from (STA_R (x := s) a2 (k := 20) (by omega) (by omega)).trans h20, show σ.2 66 s = J (y : Nat) from (STA_R (x := s) a2 (k := 19) (by omega) (by omega)).trans h19, e1, Option.bind_some] at e'
  dsimp only at e'
  rcases hv with ⟨Δ1, kc, pw', hG⟩ | ⟨-, hF⟩
  · have hG' := hG
    obtain ⟨g1, g2, g3, g4, g5, g6, g7, g8, g9, g10, g11⟩ := hG'
    have S1 : STA R nO nV nC nA room en ln TX τ1 Δ1 := STA_keep a2 g8.1 g9.1
    have h5 := (g9.1 5 (by omega) (by omega) (by omega)).trans hS.1.1
    have eny := g_en (n := y) (by omega)
    have hst : F_X12_store (J (y : Nat)) v (J (14 * dep : Nat)) τ1 = some ((0 : Int32), if b = 9 then mA τ1 111 (upd (τ1.2 111) (14 * dep + k) v) else mA τ1 91 (upd (τ1.2 91) k v)) := by
      unfold F_X12_store
      rw [if_pos (show τ1.1 104 = 0 from g2.1), if_neg eny, J_natN (by omega), show τ1.2 67 y = J b from (STA_W a2 g8.1 (j := 20) (by omega) (by omega)).trans h20y]
      rw [J_natN (by omega)] at eny
      rw [if_neg eny, if_neg eny, show τ1.2 68 y = J (k : Nat) from (STA_W a2 g8.1 (j := 21) (by omega) (by omega)).trans h21]
      rcases hb with ⟨rfl, b2, -⟩ | ⟨rfl, b2, -⟩
      · rw [if_pos (by decide), if_pos rfl, J_add, show ((14 * dep : Nat) : Int) + (k : Nat) = ((14 * dep + k : Nat) : Int) by omega, if_neg (by rw [J_natN (by omega)]; rintro (h | h); exact J_nlt0 (by omega) (by omega) h; omega), J_natN (by omega), bndE]
      · rw [if_neg (by decide), if_neg (by rw [J_natN (by omega)]; rintro (h | h); exact J_nlt0 (by omega) (by omega) h; omega), J_natN (by omega), bndE, if_neg (by decide)]
    rw [hst, Option.bind_some] at e'
    dsimp only at e'
    rcases hb with ⟨rfl, b2, rfl⟩ | ⟨rfl, b2, rfl⟩
    · rw [if_pos rfl] at e'
      obtain ⟨Δ2, d1, d2, d3, d4⟩ := m_setLocal (STA_MC S1 g3) (by omega) (by omega) g3.2.2.2.2.1 (by omega) b2 (op3_5 h5 ho.1)
      rw [g6] at d2
      have frA : rMk τ1 (mA τ1 111 (upd (τ1.2 111) (14 * dep + k) v)) := rMk_mA rMk_rfl (by omega)
      have f2 : RFR τ1 (mA τ1 111 (upd (τ1.2 111) (14 * dep + k) v)) (14 * dep) w wk := ⟨rWk_M frA, fun j hj => by show upd _ _ _ _ = _; rw [upd_s, if_neg (by omega)], fun _ _ => rfl, fun _ _ => rfl⟩
      have st6 : ∀ j, j < 10000 → (Δ2 10).2.1 6 j = upd ((Δ1 10).2.1 6) (bC + k) v j := fun j hj => d2.2.2.2 j hj
      have hc2 : CFR Δ1 Δ2 bC dep := ⟨fun r r8 r9 r10 => by rw [d2.1 r r10, cA_r, if_neg r10], fun j hj => by rw [st6 j (by omega), upd_s, if_neg (by omega)], fun j _ => by
        rw [d2.2.2.1 10 (by omega), d2.2.2.1 11 (by omega)]; exact ⟨rfl, rfl⟩⟩
      have cv : CVw Δ2 dep bC (bC + 14) (q' + 3) pw' := CVw_MK (Γ := cA' Δ1 10 6 (upd ((Δ1 10).2.1 6) (bC + k) v)) g3 d2 d3 d4
      have rr : RRl nO room nV nC (mA τ1 111 (upd (τ1.2 111) (14 * dep + k) v)) Δ2 := RR_M g1 frA (by rw [d2.1 8 (by omega)]; rfl) (by rw [d2.1 9 (by omega)]; rfl) (by rw [d2.2.1 3 (by omega) (by omega)]; rfl) (by rw [d2.2.1 4 (by omega) (by omega)]; rfl) (NBK_e (by rw [d2.2.1 5 (by omega) (by omega)]; rfl) (by rw [d2.2.1 14 (by omega) (by omega)]; rfl))
      refine ⟨0, _, e', STO_ev (Γ0 := Γ0) hG (by omega) (by omega) (STO_one f2 hc2 d1 (by omega) rr (RVw_fr g2 rfl rfl rfl g2.2.2.2.1 g2.2.2.2.2) cv (fun u hu hu2 => ?_) g4)⟩
      rw [st6 (bC + u) (by omega)]
      show upd _ _ _ _ = upd _ _ _ _ ∧ VL (upd _ _ _ _)
      rw [upd_s, upd_s]
      by_cases q : u = k
      · rw [q, if_pos rfl, if_pos rfl]; exact ⟨rfl, g5⟩
      · rw [if_neg (by omega), if_neg (by omega)]
        have hD : D p u := by
          refine EQx_D hE u ?_
          rcases ho.2.2.1 u hu with h | h
          · exact h
          · exact absurd (show u = k by have := h.2; omega) q
        exact AGL_fr hS.1.2.2.2.2.2.1 (fun u hu => hu) g8 g9 (Nat.le_refl _) (Nat.le_refl _) u hD hu2
    · rw [if_neg (by omega)] at e'
      obtain ⟨Δ2, d1, d2, d3, d4⟩ := m_setVar (STA_MC S1 g3) (by omega) (by omega) b2 (op3_5 h5 ho.1)
      rw [g6] at d2
      have hw2 : rWk τ1 (mA τ1 91 (upd (τ1.2 91) k v)) := ⟨fun _ _ _ _ _ _ => rfl, fun j j1 _ _ _ _ => by rw [mA_2, if_neg (by omega)]⟩
      have f2 : RFR τ1 (mA τ1 91 (upd (τ1.2 91) k v)) (14 * dep + 14) w wk := ⟨hw2, fun _ _ => rfl, fun _ _ => rfl, fun _ _ => rfl⟩
      have hc2 : CFR Δ1 Δ2 (bC + 14) dep := ⟨fun r r8 r9 r10 => by rw [d2.1 r r10, cA_r, if_neg r9], fun j hj => d2.2.2.2 j (by omega), fun j _ => by
        rw [d2.2.2.1 10 (by omega), d2.2.2.1 11 (by omega)]; exact ⟨rfl, rfl⟩⟩
      have cv : CVw Δ2 dep bC (bC + 14) (q' + 3) pw' := CVw_MK (Γ := cA' Δ1 9 4 (upd ((Δ1 9).2.1 4) k v)) g3 d2 d3 d4
      have R2 : RRl nO room nV nC (mA τ1 91 (upd (τ1.2 91) k v)) (cA' Δ1 9 4 (upd ((Δ1 9).2.1 4) k v)) := ⟨PL_var g1.1 g5, g1.2.1, g1.2.2⟩
      have rr : RRl nO room nV nC (mA τ1 91 (upd (τ1.2 91) k v)) Δ2 := RR_M R2 rMk_rfl (d2.1 8 (by omega)) (d2.1 9 (by omega)) (d2.2.1 3 (by omega) (by omega)) (d2.2.1 4 (by omega) (by omega)) (NBK_e (d2.2.1 5 (by omega) (by omega)) (d2.2.1 14 (by omega) (by omega)))
      refine ⟨0, _, e', STO_ev (Γ0 := Γ0) hG (by omega) (by omega) (STO_one (RFR_le f2 (by omega) (Nat.le_refl _) (Nat.le_refl _)) (CFR_le hc2 (by omega) (Nat.le_refl _)) d1 (by omega) rr (RVw_fr g2 rfl rfl rfl g2.2.2.2.1 g2.2.2.2.2) cv (AGL_fr hS.1.2.2.2.2.2.1 (fun u hu => ?_) (RFR_trans g8 f2 (Nat.le_refl _) (Nat.le_refl _) (Nat.le_refl _)) (CFR_trans g9 hc2 (Nat.le_refl _) (Nat.le_refl _)) (Nat.le_refl _) (Nat.le_refl _)) g4)⟩
      refine EQx_D hE u ?_
      rcases ho.2.2.1 u hu with h | h
      · exact h
      · omega
  · have h104 := EVF_104 hF
    have hst : F_X12_store (J (y : Nat)) v (J (14 * dep : Nat)) τ1 = some ((0 : Int32), τ1) := by
      unfold F_X12_store
      rw [if_neg h104]
    rw [hst] at e'
    exact ⟨0, τ1, e', STO_fin hF hS.1.2.2.2.2.2.2 (by omega)⟩
/-- the tree has changed, in both -/
theorem rWk_T' {σ τ : MS} (h : ofT σ τ) : rWk σ τ := rWk_T h
theorem RFR_T {σ τ : MS} {b w wk : Nat} (h : ofT σ τ) : RFR σ τ b w wk := ⟨rWk_T h, fun _ _ => by rw [h.2 111 (by omega) (by omega) (by omega)], fun _ _ => by rw [h.2 114 (by omega) (by omega) (by omega)], fun _ _ => by rw [h.2 112 (by omega) (by omega) (by omega)]⟩
theorem S25 {Γ0 : HS} {D : Nat → Nat → Prop} {Dq : Prop} {B d dep bC b0 q0 : Nat} {hi s p w wk pw e q' : Nat} {σ : MS} {Γ : HS} (hC : SCX R nO nV nC nA room en ln TX DN Γ0 B dep bC w wk) (hd : B ≤ d) (hs : s < 39990) (hhi : hi ≤ 39990) (hq : q' + 1 ≤ ln) (hS : SSS R nO nV nC nA room en ln TX Γ0 D Dq dep bC b0 q0 p w wk pw σ Γ) (h17 : R 17 s = J 25) (h19 : R 19 s = J (e : Nat)) (ho : I1 Γ0 D q' 22) (hE : EQx (I1 Γ0 D) (I3 Γ0 D nV nA) R DN (s + 1) hi e p q') : ∃ (v : Int32) (τ : MS), F_X12_statement_ (gR (d + 2)) (J (s : Nat)) (J (14 * dep : Nat)) σ = some (v, τ) ∧ STO nO nV nC room D Dq dep bC w wk b0 q0 pw p (q' + 1) σ Γ τ := by
  have hC' := hC
  obtain ⟨C1, C2, C3, C4, C5, C6⟩ := hC'
  have en' := g_en (n := s) (by omega)
  have a2 := hS.1.2.1
  obtain ⟨r1, r2, r3⟩ := EQx_rng hE
  obtain ⟨v, τ1, e1, hv⟩ := S_ev (d := d) hC hd hE hhi (by omega) hS.1 (Nat.le_refl _) (by omega) (by omega)
  have e' := stb_25 (gR (d + 2)) (J (s : Nat)) (J (14 * dep : Nat)) σ en' (by rw [J_natN (by omega), STA_17 a2]; exact h17)
  rw [if_neg en', J_natN (by omega), show σ.2 66 s = J (e : Nat) from (STA_R (x := s) a2 (k := 19) (by omega) (by omega)).trans h19, e1, Option.bind_some] at e'
  dsimp only at e'
  rcases hv with ⟨Δ1, kc, pw', hG⟩ | ⟨-, hF⟩
  · have hG' := hG
    obtain ⟨g1, g2, g3, g4, g5, g6, g7, g8, g9, g10, g11⟩ := hG'
    have S1 : STA R nO nV nC nA room en ln TX τ1 Δ1 := STA_keep a2 g8.1 g9.1
    have h5 := (g9.1 5 (by omega) (by omega) (by omega)).trans hS.1.1
    obtain ⟨z, rfl, z1, z2⟩ := g5
    obtain ⟨n1, n2, n3, n4⟩ := S1.2.1
    rw [if_pos (show τ1.1 104 = 0 from g2.1), r_isObj g2.1 n1 n4 (by omega) (by omega)] at e'
    have brk : ∀ Δ2, CSP 1 Δ1 Δ2 → BRK Δ1 Δ2 2 → STO nO nV nC room D Dq dep bC w wk b0 q0 pw p (q' + 1) σ Γ (bkS τ1 2) := fun Δ2 d1 d2 => STO_ev (Γ0 := Γ0) hG (by omega) (by omega) (STO_brk (FIN_brk g1 bkS_fr d2 (by omega) rfl rfl) g2.2.2.2.1 g2.2.2.2.2 d1 (by omega) g4)
    rcases m_remove (room := room) (STA_MC S1 g3) (by omega) (by omega) (op1_5 h5 ho.1) g6 ⟨z1, z2⟩ n2 n4 (fun x hx => (S1.2.2.1 x hx).2) with ⟨q1, Δ2, d1, d2⟩ | ⟨⟨q1, q2, q3⟩, d2⟩
    · refine ⟨0, bkS τ1 2, ?_, brk Δ2 d1 d2⟩
      by_cases q2 : 1 ≤ z ∧ z ≤ nO
      · rw [if_pos q2, Option.bind_some] at e'
        dsimp only at e'
        rw [if_neg (by decide), bndE] at e'
        rw [e']
        have rb := r_breaks (σ := τ1) (n := 2) g2.1
        by_cases q3 : z = 1
        · rw [if_pos (by rw [q3]; rfl)]
          dsimp only
          rw [show (2 : Int32) = J 2 from rfl, rb]; rfl
        · have hr : room z.toNat = true := by rcases q1 with h | h | h; exact absurd q2 h; exact absurd h q3; exact h
          rw [if_neg (by rw [show (1 : Int32) = J 1 from rfl, J_eq (by omega) (by omega) (by omega) (by omega)]; exact q3), if_neg (by rw [J_nat (by omega) (by omega)]; rintro (h | h); exact J_nlt0 (by omega) (by omega) h; omega), J_nat (by omega) (by omega), (S1.2.2.1 z.toNat (by omega)).1, if_pos hr, if_neg (by decide)]
          dsimp only
          rw [show (2 : Int32) = J 2 from rfl, rb]; rfl
      · rw [if_neg q2] at e'
        exact e'.trans rfl
    · obtain ⟨m, rfl⟩ : ∃ m : Nat, z = m := ⟨z.toNat, by omega⟩
      rw [if_pos q1, Option.bind_some] at e'
      dsimp only at e'
      rw [Int.toNat_natCast] at q3
      rw [if_neg (by decide), bndE, if_neg (by rw [show (1 : Int32) = J 1 from rfl, J_eq (by omega) (by omega) (by omega) (by omega)]; exact q2), if_neg (by rw [J_natN (by omega)]; rintro (h | h); exact J_nlt0 (by omega) (by omega) h; omega), J_natN (by omega), (S1.2.2.1 m (by omega)).1, q3, if_neg (show ¬ (false = true) by decide), if_pos rfl] at e'
      have g1' := g1
      obtain ⟨⟨pa, fi, nx, ch, tr, P⟩, -⟩ := g1'
      have P2 : PLT nO room nV nC τ1 (ppS (pcS Δ1 (q' + 1)) (bC + 14)) pa fi nx ch tr := P
      obtain ⟨τ2, Δ2, w1, w2, w3, w4, w5⟩ := W_out P2 (x := m) (by omega) (by omega)
      have hc := d2 Δ2 w2 w4.1
      rw [w1] at e'
      have f2 : RFR τ1 τ2 (14 * dep + 14) w wk := RFR_T w3
      have c10 : Δ2 10 = (ppS (pcS Δ1 (q' + 1)) (bC + 14)) 10 := w4.1 10 (by omega)
      have hc2 : CFR Δ1 Δ2 (bC + 14) dep := ⟨fun r r8 r9 r10 => by rw [w4.1 r r9]; unfold ppS pcS; rw [cI_r, if_neg r10, cI_r, if_neg r10], fun j hj => by rw [c10]; rfl, fun j _ => by rw [c10]; exact ⟨rfl, rfl⟩⟩
      have cv : CVw Δ2 dep bC (bC + 14) (q' + 1) pw' := by
        unfold CVw
        rw [c10]
        exact ⟨g3.1, g3.2.1, g3.2.2.1, rfl, g3.2.2.2.2.1, rfl⟩
      have rr : RRl nO room nV nC τ2 Δ2 := by
        refine ⟨w5, ?_, ?_⟩
        · obtain ⟨L, o1, o2⟩ := g1.2.1
          refine ⟨L, OL_congr o1 (w3.2 102 (by omega) (by omega) (by omega)) (by rw [w3.1]), ?_⟩
          have c8 : Δ2 8 = Δ1 8 := by rw [w4.1 8 (by omega)]; rfl
          exact OL_congr o2 (by rw [c8]) (by rw [c8])
        · unfold NBK; rw [c10, w3.1]; exact g1.2.2
      exact ⟨0, τ2, e'.trans rfl, STO_ev (Γ0 := Γ0) hG (by omega) (by omega) (STO_one (RFR_le f2 (by omega) (Nat.le_refl _) (Nat.le_refl _)) (CFR_le hc2 (by omega) (Nat.le_refl _)) hc (by omega) rr (by unfold RVw; rw [w3.1]; exact g2) cv (AGL_fr hS.1.2.2.2.2.2.1 (fun u hu => EQx_D hE u (ho.2 (by omega) u hu)) (RFR_trans g8 f2 (Nat.le_refl _) (Nat.le_refl _) (Nat.le_refl _)) (CFR_trans g9 hc2 (Nat.le_refl _) (Nat.le_refl _)) (Nat.le_refl _) (Nat.le_refl _)) g4)⟩
  · rw [if_neg (EVF_104 hF)] at e'
    exact ⟨0, τ1, e', STO_fin hF hS.1.2.2.2.2.2.2 (by omega)⟩
