/-! an array's cell, give, return, done, win, lose -/
variable {R : Nat → Nat → Int32} {nO nV nC nA ln : Nat} {room : Nat → Bool} {en : Nat → Nat} {TX : Nat → Int → Int → Prop} {DN : Nat → Nat → Nat → Prop}
theorem S23 {Γ0 : HS} {D : Nat → Nat → Prop} {Dq : Prop} {B d dep bC b0 q0 : Nat} {hi s p w wk pw y e e2 k m r q' : Nat} {σ : MS} {Γ : HS} (hC : SCX R nO nV nC nA room en ln TX DN Γ0 B dep bC w wk) (hd : B ≤ d) (hs : s < 39990) (hhi : hi ≤ 39990) (hq : q' + 3 ≤ ln) (hS : SSS R nO nV nC nA room en ln TX Γ0 D Dq dep bC b0 q0 p w wk pw σ Γ) (h17 : R 17 s = J 23) (h19 : R 19 s = J (y : Nat)) (hy : y < hi) (h21y : R 21 y = J (k : Nat)) (hk : k < 20) (h20 : R 20 s = J (e : Nat)) (h21 : R 21 s = J (e2 : Nat)) (ho : I3 Γ0 D nV nA q' 39 (k : Nat)) (hm : m ≤ hi) (hE : EQx (I1 Γ0 D) (I3 Γ0 D nV nA) R DN (y + 1) m e p r) (hE2 : EQx (I1 Γ0 D) (I3 Γ0 D nV nA) R DN m hi e2 r q') : ∃ (v : Int32) (τ : MS), F_X12_statement_ (gR (d + 2)) (J (s : Nat)) (J (14 * dep : Nat)) σ = some (v, τ) ∧ STO nO nV nC room D Dq dep bC w wk b0 q0 pw p (q' + 3) σ Γ τ := by
  have hC' := hC
  obtain ⟨C1, C2, C3, C4, C5, C6⟩ := hC'
  have en' := g_en (n := s) (by omega)
  have a2 := hS.1.2.1
  obtain ⟨r1, r2, r3⟩ := EQx_rng hE
  obtain ⟨r4, r5, r6⟩ := EQx_rng hE2
  obtain ⟨v, v2, τ1, τ2, e1, e2', w1, w2, hv⟩ := S_ev2 (d := d) hC hd hE hE2 hm hhi (by omega) hS
  have e' := stb_23 (gR (d + 2)) (J (s : Nat)) (J (14 * dep : Nat)) σ en' (by rw [J_natN (by omega), STA_17 a2]; exact h17)
  have en2 := en'
  rw [J_natN (by omega)] at en2
  have eny := g_en (n := y) (by omega)
  rw [if_neg en', J_natN (by omega), show σ.2 67 s = J (e : Nat) from (STA_R (x := s) a2 (k := 20) (by omega) (by omega)).trans h20, e1, Option.bind_some] at e'
  dsimp only at e'
  rw [if_neg en2, show τ1.2 68 s = J (e2 : Nat) from (STA_W a2 w1 (j := 21) (by omega) (by omega)).trans h21, e2', Option.bind_some] at e'
  dsimp only at e'
  rw [if_neg en2, show τ2.2 66 s = J (y : Nat) from (STA_W a2 w2 (j := 19) (by omega) (by omega)).trans h19, bndE, if_neg eny, J_natN (by omega), show τ2.2 68 y = J (k : Nat) from (STA_W a2 w2 (j := 21) (by omega) (by omega)).trans h21y] at e'
  rcases hv with ⟨Δ2, kc, pw', g1, g2, g3, g4, ⟨z, rfl, z1, z2⟩, g6, g7, g8, g9, g10, g11, g12, g13⟩ | hF
  · have S1 : STA R nO nV nC nA room en ln TX τ2 Δ2 := STA_keep a2 g10.1 g11.1
    have h5 := (g11.1 5 (by omega) (by omega) (by omega)).trans hS.1.1
    have kA : k < nA := by have := ho.2.2.2.2.2 (Or.inr rfl); omega
    obtain ⟨c1, c2, c3, c4, c5, c6⟩ := S1.2.2.2.1
    obtain ⟨c7, c8⟩ := c4 k kA
    rw [r_cellAt g2.1 c1 kA c7 (by omega) ⟨z1, z2⟩] at e'
    obtain ⟨Δ3, d1, d2⟩ := m_setCell (STA_MC S1 g3) (by omega) (by omega) (op3_5 h5 ho.1) c2 kA c3 c7 (by omega) g7 ⟨z1, z2⟩
    rcases d2 with ⟨q1, d2⟩ | ⟨q1, d2, d3, d4⟩
    · rw [if_neg q1] at e'
      exact ⟨0, bkS τ2 4, e'.trans rfl, STO_pre (RFR_le g10 (by omega) (Nat.le_refl _) (Nat.le_refl _)) (CFR_le g11 (by omega) (Nat.le_refl _)) g12 g9 (k1 := q' - p) g13 (by omega) (STO_brk (p := q') (FIN_brk g1 bkS_fr d2 (by omega) rfl rfl) g2.2.2.2.1 g2.2.2.2.2 d1 (by omega) g4)⟩
    · rw [if_pos q1, Option.bind_some] at e'
      dsimp only at e'
      rw [if_neg (by decide), if_neg en2, show τ2.2 66 s = J (y : Nat) from (STA_W a2 w2 (j := 19) (by omega) (by omega)).trans h19, bndE, if_neg eny, J_natN (by omega), show τ2.2 68 y = J (k : Nat) from (STA_W a2 w2 (j := 21) (by omega) (by omega)).trans h21y, bndE, if_neg (by rw [J_natN (by omega)]; rintro (h | h); exact J_nlt0 (by omega) (by omega) h; omega), J_natN (by omega), c1.2 k (by omega), J_add, bndE, if_neg (by rw [J_nat (by omega) (by omega)]; rintro (h | h); exact J_nlt0 (by omega) (by omega) h; omega), J_nat (by omega) (by omega), bndE] at e'
      rw [show bC + 14 + 1 = bC + 15 by omega, g8] at d2
      have hw2 : rWk τ2 (mA τ2 92 (upd (τ2.2 92) ((en k : Int) + z).toNat v2)) := ⟨fun _ _ _ _ _ _ => rfl, fun j j1 _ _ _ _ => by rw [mA_2, if_neg (by omega)]⟩
      have f2 : RFR τ2 (mA τ2 92 (upd (τ2.2 92) ((en k : Int) + z).toNat v2)) (14 * dep + 14) w wk := ⟨hw2, fun _ _ => rfl, fun _ _ => rfl, fun _ _ => rfl⟩
      have hc2 : CFR Δ2 Δ3 (bC + 14) dep := ⟨fun r r8 r9 r10 => by rw [d2.1 r r10, cA_r, if_neg r9], fun j hj => d2.2.2.2 j (by omega), fun j _ => by
        rw [d2.2.2.1 10 (by omega), d2.2.2.1 11 (by omega)]; exact ⟨rfl, rfl⟩⟩
      have cv : CVw Δ3 dep bC (bC + 14) (q' + 3) pw' := CVw_MK (Γ := cA' Δ2 9 5 (upd ((Δ2 9).2.1 5) ((en k : Int) + z).toNat v2)) g3 d2 d3 d4
      have R2 : RRl nO room nV nC (mA τ2 92 (upd (τ2.2 92) ((en k : Int) + z).toNat v2)) (cA' Δ2 9 5 (upd ((Δ2 9).2.1 5) ((en k : Int) + z).toNat v2)) := ⟨PL_cell g1.1 g6, g1.2.1, g1.2.2⟩
      have rr : RRl nO room nV nC (mA τ2 92 (upd (τ2.2 92) ((en k : Int) + z).toNat v2)) Δ3 := RR_M R2 rMk_rfl (d2.1 8 (by omega)) (d2.1 9 (by omega)) (d2.2.1 3 (by omega) (by omega)) (d2.2.1 4 (by omega) (by omega)) (NBK_e (d2.2.1 5 (by omega) (by omega)) (d2.2.1 14 (by omega) (by omega)))
      refine ⟨0, _, e', STO_pre (RFR_le g10 (by omega) (Nat.le_refl _) (Nat.le_refl _)) (CFR_le g11 (by omega) (Nat.le_refl _)) g12 g9 (k1 := q' - p) g13 (by omega) (STO_one (p := q') (RFR_le f2 (by omega) (Nat.le_refl _) (Nat.le_refl _)) (CFR_le hc2 (by omega) (Nat.le_refl _)) d1 (by omega) rr (RVw_fr g2 rfl rfl rfl g2.2.2.2.1 g2.2.2.2.2) cv (AGL_fr hS.1.2.2.2.2.2.1 (fun u hu => EQx_D hE u (EQx_D hE2 u ?_)) (RFR_trans g10 f2 (Nat.le_refl _) (Nat.le_refl _) (Nat.le_refl _)) (CFR_trans g11 hc2 (Nat.le_refl _) (Nat.le_refl _)) (Nat.le_refl _) (Nat.le_refl _)) g4)⟩
      rcases ho.2.2.1 u hu with h | h
      · exact h
      · omega
  · have hst : F_X12_cellAt (J (k : Nat)) v τ2 = some ((0 : Int32), τ2) := by
      unfold F_X12_cellAt
      rw [if_neg (EVF_104 hF)]
    rw [hst, Option.bind_some] at e'
    dsimp only at e'
    rw [if_pos rfl] at e'
    exact ⟨0, τ2, e', STO_fin hF hS.1.2.2.2.2.2.2 (by omega)⟩
theorem S26 {Γ0 : HS} {D : Nat → Nat → Prop} {Dq : Prop} {B d dep bC b0 q0 : Nat} {hi s p w wk pw e q' a : Nat} {dd o : Int} {σ : MS} {Γ : HS} (hC : SCX R nO nV nC nA room en ln TX DN Γ0 B dep bC w wk) (hd : B ≤ d) (hs : s < 39990) (hhi : hi ≤ 39990) (hq : q' + 3 ≤ ln) (hS : SSS R nO nV nC nA room en ln TX Γ0 D Dq dep bC b0 q0 p w wk pw σ Γ) (hg : gTq dd o) (ha : a < 6) (h17 : R 17 s = J 26) (h19 : R 19 s = J (e : Nat)) (h20 : R 20 s = J (a : Nat)) (h21 : R 21 s = J dd) (ho : I3 Γ0 D nV nA q' o (a : Nat)) (hE : EQx (I1 Γ0 D) (I3 Γ0 D nV nA) R DN (s + 1) hi e p q') : ∃ (v : Int32) (τ : MS), F_X12_statement_ (gR (d + 2)) (J (s : Nat)) (J (14 * dep : Nat)) σ = some (v, τ) ∧ STO nO nV nC room D Dq dep bC w wk b0 q0 pw p (q' + 3) σ Γ τ := by
  have hC' := hC
  obtain ⟨C1, C2, C3, C4, C5, C6⟩ := hC'
  have en' := g_en (n := s) (by omega)
  have a2 := hS.1.2.1
  obtain ⟨r1, r2, r3⟩ := EQx_rng hE
  obtain ⟨v, τ1, e1, hv⟩ := S_ev (d := d) hC hd hE hhi (by omega) hS.1 (Nat.le_refl _) (by omega) (by omega)
  have e' := stb_26 (gR (d + 2)) (J (s : Nat)) (J (14 * dep : Nat)) σ en' (by rw [J_natN (by omega), STA_17 a2]; exact h17)
  have en2 := en'
  rw [J_natN (by omega)] at en2
  rw [if_neg en', J_natN (by omega), show σ.2 66 s = J (e : Nat) from (STA_R (x := s) a2 (k := 19) (by omega) (by omega)).trans h19, e1, Option.bind_some] at e'
  dsimp only at e'
  rcases hv with ⟨Δ1, kc, pw', hG⟩ | ⟨-, hF⟩
  · have hG' := hG
    obtain ⟨g1, g2, g3, g4, g5, g6, g7, g8, g9, g10, g11⟩ := hG'
    have S1 : STA R nO nV nC nA room en ln TX τ1 Δ1 := STA_keep a2 g8.1 g9.1
    have h5 := (g9.1 5 (by omega) (by omega) (by omega)).trans hS.1.1
    obtain ⟨z, rfl, z1, z2⟩ := g5
    obtain ⟨n1, n2, n3, n4⟩ := S1.2.1
    rw [if_pos (show τ1.1 104 = 0 from g2.1), r_isObj g2.1 n1 n4 (by omega) (by omega)] at e'
    have o2 : o = 47 ∨ o = 48 := by unfold gTq at hg; omega
    obtain ⟨Δ2, d1, d2⟩ := m_give (STA_MC S1 g3) (by omega) (by omega) (op3_5 h5 ho.1) o2 (by omega) g6 ⟨z1, z2⟩ n2 n4
    rcases d2 with ⟨q1, d2⟩ | ⟨q1, d2, d3, d4⟩
    · rw [if_neg q1] at e'
      exact ⟨0, bkS τ1 2, e'.trans rfl, STO_ev (Γ0 := Γ0) hG (by omega) (by omega) (STO_brk (FIN_brk g1 bkS_fr d2 (by omega) rfl rfl) g2.2.2.2.1 g2.2.2.2.2 d1 (by omega) g4)⟩
    · obtain ⟨m, rfl⟩ : ∃ m : Nat, z = m := ⟨z.toNat, by omega⟩
      rw [if_pos q1, Option.bind_some] at e'
      dsimp only at e'
      rw [if_neg (by decide), if_neg en2, show τ1.2 67 s = J (a : Nat) from (STA_W a2 g8.1 (j := 20) (by omega) (by omega)).trans h20, show (7 : Int32) = J 7 from rfl, J_mul, J_add, show (7 : Int) * (m : Nat) + (a : Nat) = ((7 * m + a : Nat) : Int) by omega, bndE, if_neg en2, bndE, show τ1.2 68 s = J dd from (STA_W a2 g8.1 (j := 21) (by omega) (by omega)).trans h21] at e'
      have gx : ¬ (J (7 * m + a : Nat) < 0 ∨ 847 ≤ (J (7 * m + a : Nat)).toNatClampNeg) := by rw [J_natN (by omega)]; rintro (h | h); exact J_nlt0 (by omega) (by omega) h; omega
      have e2 : F_X12_statement_ (gR (d + 2)) (J (s : Nat)) (J (14 * dep : Nat)) σ = some ((0 : Int32), mA τ1 90 (upd (τ1.2 90) (7 * m + a) (if decide (o = 47) = true then 1 else 0))) := by
        rw [e']
        unfold gTq at hg
        rcases hg with ⟨rfl, rfl⟩ | ⟨rfl, rfl⟩
        · rw [if_pos (by decide)]
          dsimp only
          rw [if_neg gx, J_natN (by omega), bndE]; rfl
        · rw [if_neg (by decide)]
          dsimp only
          rw [if_neg gx, J_natN (by omega), bndE]; rfl
      obtain ⟨v', p1, p2⟩ := PL_give g1.1 (z := m) (a := a) (on := decide (o = 47)) (by omega) (by omega) (by omega)
      have ev : (if o = 47 then (Δ1 9).2.1 3 ((m : Nat) : Int).toNat ||| ((1 : Int32) <<< (J (a : Nat) &&& 31)) else (Δ1 9).2.1 3 ((m : Nat) : Int).toNat &&& (((1 : Int32) <<< (J (a : Nat) &&& 31)) ^^^ (-1 : Int32))) = v' := by
        rw [← p1, Int.toNat_natCast]
        by_cases q : o = 47
        · rw [if_pos q, if_pos (by simpa using q)]
        · rw [if_neg q, if_neg (by simpa using q)]
      rw [ev, Int.toNat_natCast] at d2
      have hw2 : rWk τ1 (mA τ1 90 (upd (τ1.2 90) (7 * m + a) (if decide (o = 47) = true then 1 else 0))) := ⟨fun _ _ _ _ _ _ => rfl, fun j j1 _ _ _ _ => by rw [mA_2, if_neg (by omega)]⟩
      have f2 : RFR τ1 (mA τ1 90 (upd (τ1.2 90) (7 * m + a) (if decide (o = 47) = true then 1 else 0))) (14 * dep + 14) w wk := ⟨hw2, fun _ _ => rfl, fun _ _ => rfl, fun _ _ => rfl⟩
      have hc2 : CFR Δ1 Δ2 (bC + 14) dep := ⟨fun r r8 r9 r10 => by rw [d2.1 r r10, cA_r, if_neg r9], fun j hj => d2.2.2.2 j (by omega), fun j _ => by
        rw [d2.2.2.1 10 (by omega), d2.2.2.1 11 (by omega)]; exact ⟨rfl, rfl⟩⟩
      have cv : CVw Δ2 dep bC (bC + 14) (q' + 3) pw' := CVw_MK (Γ := cA' Δ1 9 3 (upd ((Δ1 9).2.1 3) m v')) g3 d2 d3 d4
      have R2 : RRl nO room nV nC (mA τ1 90 (upd (τ1.2 90) (7 * m + a) (if decide (o = 47) = true then 1 else 0))) (cA' Δ1 9 3 (upd ((Δ1 9).2.1 3) m v')) := ⟨p2, g1.2.1, g1.2.2⟩
      have rr : RRl nO room nV nC (mA τ1 90 (upd (τ1.2 90) (7 * m + a) (if decide (o = 47) = true then 1 else 0))) Δ2 := RR_M R2 rMk_rfl (d2.1 8 (by omega)) (d2.1 9 (by omega)) (d2.2.1 3 (by omega) (by omega)) (d2.2.1 4 (by omega) (by omega)) (NBK_e (d2.2.1 5 (by omega) (by omega)) (d2.2.1 14 (by omega) (by omega)))
      refine ⟨0, _, e2, STO_ev (Γ0 := Γ0) hG (by omega) (by omega) (STO_one (RFR_le f2 (by omega) (Nat.le_refl _) (Nat.le_refl _)) (CFR_le hc2 (by omega) (Nat.le_refl _)) d1 (by omega) rr (RVw_fr g2 rfl rfl rfl g2.2.2.2.1 g2.2.2.2.2) cv (AGL_fr hS.1.2.2.2.2.2.1 (fun u hu => EQx_D hE u ?_) (RFR_trans g8 f2 (Nat.le_refl _) (Nat.le_refl _) (Nat.le_refl _)) (CFR_trans g9 hc2 (Nat.le_refl _) (Nat.le_refl _)) (Nat.le_refl _) (Nat.le_refl _)) g4)⟩
      rcases ho.2.2.1 u hu with h | h
      · exact h
      · omega
  · rw [if_neg (EVF_104 hF)] at e'
    exact ⟨0, τ1, e', STO_fin hF hS.1.2.2.2.2.2.2 (by omega)⟩
theorem S29 {Γ0 : HS} {D : Nat → Nat → Prop} {Dq : Prop} {B d dep bC b0 q0 : Nat} {hi s p w wk pw e q' : Nat} {σ : MS} {Γ : HS} (hC : SCX R nO nV nC nA room en ln TX DN Γ0 B dep bC w wk) (hd : B ≤ d) (hs : s < 39990) (hhi : hi ≤ 39990) (hq : q' + 1 ≤ ln) (hDq : Dq) (hS : SSS R nO nV nC nA room en ln TX Γ0 D Dq dep bC b0 q0 p w wk pw σ Γ) (h17 : R 17 s = J 29) (h19 : R 19 s = J (e : Nat)) (ho : I1 Γ0 D q' 2) (hE : EQx (I1 Γ0 D) (I3 Γ0 D nV nA) R DN (s + 1) hi e p q') : ∃ (v : Int32) (τ : MS), F_X12_statement_ (gR (d + 2)) (J (s : Nat)) (J (14 * dep : Nat)) σ = some (v, τ) ∧ STO nO nV nC room D Dq dep bC w wk b0 q0 pw p (q' + 1) σ Γ τ := by
  have hC' := hC
  obtain ⟨C1, C2, C3, C4, C5, C6⟩ := hC'
  have en' := g_en (n := s) (by omega)
  have a2 := hS.1.2.1
  obtain ⟨r1, r2, r3⟩ := EQx_rng hE
  obtain ⟨v, τ1, e1, hv⟩ := S_ev (d := d) hC hd hE hhi (by omega) hS.1 (Nat.le_refl _) (by omega) (by omega)
  have e' := stb_29 (gR (d + 2)) (J (s : Nat)) (J (14 * dep : Nat)) σ en' (by rw [J_natN (by omega), STA_17 a2]; exact h17)
  rw [if_neg en', J_natN (by omega), show σ.2 66 s = J (e : Nat) from (STA_R (x := s) a2 (k := 19) (by omega) (by omega)).trans h19, e1, Option.bind_some] at e'
  dsimp only at e'
  rcases hv with ⟨Δ1, kc, pw', hG⟩ | ⟨-, hF⟩
  · have hG' := hG
    obtain ⟨g1, g2, g3, g4, g5, g6, g7, g8, g9, g10, g11⟩ := hG'
    have S1 : STA R nO nV nC nA room en ln TX τ1 Δ1 := STA_keep a2 g8.1 g9.1
    have h5 := (g9.1 5 (by omega) (by omega) (by omega)).trans hS.1.1
    obtain ⟨t1, t2, t3⟩ := RTF_fr hS.2 g9 hDq
    rw [if_pos (show τ1.1 104 = 0 from g2.1), bndE, bndE] at e'
    have hr := m_return (d := dep - 1) (b0 := b0) (q := q0) (STA_MC S1 g3) (by omega) (by omega) (op1_5 h5 ho.1) g3.2.2.2.2.1 (by omega) (by rw [show dep - 1 + 1 = dep by omega]; exact g3.2.1) (by omega) t3 t2
    rw [g6] at hr
    have fr : rMk τ1 (mI (mI τ1 110 v) 104 4) := rMk_mI (rMk_mI rMk_rfl (by omega)) (by omega)
    have f2 : RFR τ1 (mI (mI τ1 110 v) 104 4) (14 * dep) w wk := ⟨rWk_M fr, fun _ _ => rfl, fun _ _ => rfl, fun _ _ => rfl⟩
    refine ⟨0, _, e', STO_ev (Γ0 := Γ0) hG (by omega) (by omega) ⟨_, 1, pw', ⟨hr, RR_M g1 fr rfl rfl rfl rfl (fun h => h), rWk_M fr, ?_, g2.2.2.2.1, g2.2.2.2.2, Nat.le_refl _, by omega⟩, Or.inr (Or.inr (Or.inl ⟨hDq, t1, g4, rfl, g2.2.1, g2.2.2.1, f2, ?_, g5, ?_, ?_⟩))⟩⟩
    · intro r r8 r9 r10
      unfold lvS psh ppS pcS
      simp only [cI_r, cA_r, if_neg r10]
    · refine ⟨fun r r8 r9 r10 => ?_, fun j hj => ?_, fun j hj => ⟨rfl, rfl⟩⟩
      · unfold lvS psh ppS pcS
        simp only [cI_r, cA_r, if_neg r10]
      · show upd _ _ _ _ = _
        rw [upd_s, if_neg (by omega)]; rfl
    · exact ⟨g3.1, rfl, g3.2.2.1, rfl, rfl, rfl⟩
    · show upd _ _ _ _ = _
      rw [upd_s, if_pos rfl]; rfl
  · rw [if_neg (EVF_104 hF)] at e'
    exact ⟨0, τ1, e', STO_fin hF hS.1.2.2.2.2.2.2 (by omega)⟩
theorem S30 {Γ0 : HS} {D : Nat → Nat → Prop} {Dq : Prop} {rec : GF} {B dep bC b0 q0 : Nat} {s p w wk pw : Nat} {σ : MS} {Γ : HS} (hC : SCX R nO nV nC nA room en ln TX DN Γ0 B dep bC w wk) (hs : s < 39990) (hq : p + 1 ≤ ln) (hDq : ¬ Dq) (hS : SSS R nO nV nC nA room en ln TX Γ0 D Dq dep bC b0 q0 p w wk pw σ Γ) (h17 : R 17 s = J 30) (ho : I1 Γ0 D p 4) : ∃ (v : Int32) (τ : MS), F_X12_statement_ rec (J (s : Nat)) (J (14 * dep : Nat)) σ = some (v, τ) ∧ STO nO nV nC room D Dq dep bC w wk b0 q0 pw p (p + 1) σ Γ τ := by
  have en' := g_en (n := s) (by omega)
  obtain ⟨a1, a2, a3, a4, a5, a6, a7⟩ := hS.1
  have e' := stb_30 rec (J (s : Nat)) (J (14 * dep : Nat)) σ en' (by rw [J_natN (by omega), STA_17 a2]; exact h17)
  rw [bndE] at e'
  have hd := m_done (STA_MC a2 a5) (by omega) (op1_5 a1 ho.1)
  have fr : rMk σ (mI σ 104 1) := rMk_mI rMk_rfl (by omega)
  refine ⟨0, _, e', _, 1, pw, ⟨hd, RR_M a3 fr rfl rfl rfl rfl (NBK_0 a5.1 rfl), rWk_M fr, ?_, a4.2.2.2.1, a4.2.2.2.2, Nat.le_refl _, by omega⟩, Or.inr (Or.inr (Or.inr ⟨hDq, a7, rfl, a4.2.1, a4.2.2.1, rfl, a5.2.2.1⟩))⟩
  intro r r8 r9 r10
  unfold pcS
  simp only [cI_r, if_neg r10]
theorem S31 {Γ0 : HS} {D : Nat → Nat → Prop} {Dq : Prop} {rec : GF} {B dep bC b0 q0 : Nat} {s p w wk pw : Nat} {kd o : Int} {σ : MS} {Γ : HS} (hC : SCX R nO nV nC nA room en ln TX DN Γ0 B dep bC w wk) (hs : s < 39990) (hq : p + 1 ≤ ln) (hk : (kd = 31 ∧ o = 5) ∨ (kd = 32 ∧ o = 6)) (hS : SSS R nO nV nC nA room en ln TX Γ0 D Dq dep bC b0 q0 p w wk pw σ Γ) (h17 : R 17 s = J kd) (ho : I1 Γ0 D p o) : ∃ (v : Int32) (τ : MS), F_X12_statement_ rec (J (s : Nat)) (J (14 * dep : Nat)) σ = some (v, τ) ∧ STO nO nV nC room D Dq dep bC w wk b0 q0 pw p (p + 1) σ Γ τ := by
  have en' := g_en (n := s) (by omega)
  obtain ⟨a1, a2, a3, a4, a5, a6, a7⟩ := hS.1
  obtain ⟨L0, o1, o2⟩ := a3.2.1
  obtain ⟨Δ, X, d1, d2, d3, d4⟩ := m_win (STA_MC a2 a5) (by omega) (op1_5 a1 ho.1) (by omega) o2
  have e17 : σ.2 64 s = J kd := by rw [STA_17 a2]; exact h17
  -- what the reference tells
  have w1 : ∃ τ, (F_X12_put 10 (mI σ 95 (J (o - 4)))).bind (fun u_310 => if (u_310.2.1 95) = 1 then ( (F_X12_line ([42, 42, 42, 32, 89, 111, 117, 32, 104, 97, 118, 101, 32, 119, 111, 110, 32, 42, 42, 42] : List Int32) u_310.2).bind fun u_315 => bnd (mI u_315.2 104 2) fun σ_317 => some ((0 : Int32), σ_317) ) else ( (F_X12_line ([42, 42, 42, 32, 89, 111, 117, 32, 104, 97, 118, 101, 32, 108, 111, 115, 116, 32, 42, 42, 42] : List Int32) u_310.2).bind fun u_321 => bnd (mI u_321.2 104 2) fun σ_323 => some ((0 : Int32), σ_323) )) = some ((0 : Int32), mI τ 104 2) ∧ oR3 (mI σ 95 (J (o - 4))) τ ∧ OR τ (apO L0 (winL o)) := by
    obtain ⟨τ1, t1, t2, t3⟩ := rt_put (σ := mI σ 95 (J (o - 4))) (c := 10) o1 (by omega)
    rw [show (10 : Int32) = J 10 from rfl, t1, Option.bind_some]
    dsimp only
    rw [show τ1.1 95 = J (o - 4) from t2.1 95 (by omega)]
    have tw : TXL [42, 42, 42, 32, 89, 111, 117, 32, 104, 97, 118, 101, 32, 119, 111, 110, 32, 42, 42, 42] [42, 42, 42, 32, 89, 111, 117, 32, 104, 97, 118, 101, 32, 119, 111, 110, 32, 42, 42, 42] := by unfold TXL; decide +kernel
    have tl : TXL [42, 42, 42, 32, 89, 111, 117, 32, 104, 97, 118, 101, 32, 108, 111, 115, 116, 32, 42, 42, 42] [42, 42, 42, 32, 89, 111, 117, 32, 104, 97, 118, 101, 32, 108, 111, 115, 116, 32, 42, 42, 42] := by unfold TXL; decide +kernel
    rcases hk with ⟨-, rfl⟩ | ⟨-, rfl⟩
    · obtain ⟨τ2, s1, s2, s3⟩ := rt_line tw t3
      rw [if_pos (by decide), s1]
      refine ⟨τ2, rfl, oR3_trans t2 s2, ?_⟩
      rw [apO_apO] at s3
      exact s3
    · obtain ⟨τ2, s1, s2, s3⟩ := rt_line tl t3
      rw [if_neg (by decide), s1]
      refine ⟨τ2, rfl, oR3_trans t2 s2, ?_⟩
      rw [apO_apO] at s3
      exact s3
  obtain ⟨τ, t1, t2, t3⟩ := w1
  have e' : F_X12_statement_ rec (J (s : Nat)) (J (14 * dep : Nat)) σ = some ((0 : Int32), mI τ 104 2) := by
    rcases hk with ⟨rfl, rfl⟩ | ⟨rfl, rfl⟩
    · have e' := stb_31 rec (J (s : Nat)) (J (14 * dep : Nat)) σ en' (by rw [J_natN (by omega)]; exact e17)
      rw [if_neg en', J_natN (by omega), e17, bndE, if_pos (by decide)] at e'
      exact e'.trans t1
    · have e' := stb_32 rec (J (s : Nat)) (J (14 * dep : Nat)) σ en' (by rw [J_natN (by omega)]; exact e17)
      rw [if_neg en', J_natN (by omega), e17, bndE, if_neg (by decide)] at e'
      exact e'.trans t1
  have oe : o - 4 = 1 ∨ o - 4 = 2 := by omega
  have c9 : Δ 9 = (cI' Γ 9 10 (J (o - 4))) 9 := by
    rw [d2]
    show ((cI' X 9 10 (J (o - 4))) 9) = _
    have := d3 9 (by omega)
    simp only [cI_r, if_true]
    rw [this]; rfl
  have c10 : (Δ 10).1 3 = (Γ 10).1 3 ∧ (Δ 10).1 4 = (Γ 10).1 4 ∧ (Δ 10).1 5 = (Γ 10).1 5 := by
    have := d3 10 (by omega)
    have h1 : ∀ k, k ≠ 14 → ((cI' (cI' X 9 10 (J (o - 4))) 10 14 (J 3)) 10).1 k = (X 10).1 k := fun k hk => by
      show upd _ _ _ _ = _
      rw [upd_s, if_neg hk]; rfl
    rw [d2, h1 3 (by omega), h1 4 (by omega), h1 5 (by omega), this]; exact ⟨rfl, rfl, rfl⟩
  have c8 : Δ 8 = X 8 := by rw [d2]; rfl
  have PL1 : PL nO room nV nC (mI σ 95 (J (o - 4))) (cI' Γ 9 10 (J (o - 4))) := by
    obtain ⟨pa, fi, nx, ch, tr, t, r, c, p4, p5, p6, ⟨p7, p8, p9, p10⟩, p11, p12, p13, p14, p15⟩ := a3.1
    exact ⟨pa, fi, nx, ch, tr, t, r, c, p4, p5, p6, ⟨p7, p8, rfl, p10⟩, ⟨o - 4, rfl, by omega, by omega⟩, p12, p13, p14, p15⟩
  have rr : RRl nO room nV nC (mI τ 104 2) Δ := by
    refine ⟨PL_keep PL1 (fun k hk => t2.2 k (by omega)) (fun k hk => ?_) c9, ⟨_, t3, ?_⟩, ?_⟩
    · rw [mI_1, if_neg (by omega)]; exact t2.1 k (by omega)
    · exact OL_congr d4 (by rw [c8]) (by rw [c8])
    · rw [c10.1, c10.2.1]
      have h1 : (mI τ 104 2).1 108 = σ.1 108 := t2.1 108 (by omega)
      have h2 : (mI τ 104 2).1 109 = σ.1 109 := t2.1 109 (by omega)
      rw [h1, h2]; exact ⟨a3.2.2.1, a3.2.2.2.1, a3.2.2.2.2.1, a3.2.2.2.2.2.1, NBK_0 a5.1 c10.2.2 a3.2.2.2.2.2.2⟩
  refine ⟨0, _, e', STO_fin (kb := 1) ⟨Δ, 1, ⟨rr, ⟨fun k k1 k2 k3 k4 k5 => ?_, fun k k1 k2 k3 k4 k5 => ?_⟩, fun r r8 r9 r10 => ?_, Or.inr ⟨rfl, by rw [d2]; rfl⟩⟩, ?_, ?_, d1, Nat.le_refl _⟩ a7 (by omega)⟩
  · rw [mI_1, if_neg (by omega), t2.1 k (by omega), mI_1, if_neg (by omega)]
  · rw [mI_2, t2.2 k (by omega)]; rfl
  · rw [d2, cI_r, if_neg r10, cI_r, if_neg r9, d3 r r8]
    unfold pcS
    rw [cI_r, if_neg r10]
  · show τ.1 113 = _
    rw [t2.1 113 (by omega)]; exact a4.2.2.2.1
  · show τ.1 115 = _
    rw [t2.1 115 (by omega)]; exact a4.2.2.2.2
