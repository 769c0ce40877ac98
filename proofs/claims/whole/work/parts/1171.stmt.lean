/-! move, give, an array's cell -/
variable {R : Nat → Nat → Int32} {nO nV nC nA ln : Nat} {room : Nat → Bool} {en : Nat → Nat} {TX : Nat → Int → Int → Prop} {DN : Nat → Nat → Nat → Prop}
theorem r_move {σ : MS} {x h : Int} {pa fi nx : Nat → Nat} {ch : Nat → List Nat} (h0 : σ.1 104 = J 0) (n1 : σ.1 78 = J (nO : Nat)) (n4 : nO ≤ 120) (hr : ∀ x, x ≤ 120 → σ.2 50 x = if room x = true then 1 else 0) (t : TR nO pa fi nx ch) (hR : RT σ pa fi nx) (hx : -32768 ≤ x ∧ x ≤ 32767) (hh : -32768 ≤ h ∧ h ≤ 32767) : F_X12_move (J x) (J h) σ = if mvB nO room pa x h = 0 then (F_X12_putIn (J x) (J h) σ).bind fun u => some ((0 : Int32), u.2) else some ((0 : Int32), bkS σ (mvB nO room pa x h)) := by
  unfold F_X12_move mvB
  rw [r_isObj h0 n1 n4 (by omega) (by omega)]
  by_cases q1 : 1 ≤ x ∧ x ≤ nO
  · rw [if_pos q1, Option.bind_some]
    dsimp only
    rw [if_neg (by decide), r_isObj h0 n1 n4 (by omega) (by omega)]
    by_cases q2 : 1 ≤ h ∧ h ≤ nO
    · obtain ⟨x, rfl⟩ : ∃ m : Nat, x = m := ⟨x.toNat, by omega⟩
      obtain ⟨h, rfl⟩ : ∃ m : Nat, h = m := ⟨h.toNat, by omega⟩
      rw [if_pos q2, Option.bind_some]
      dsimp only
      have rb := r_breaks (σ := σ) (n := 2) h0
      have rb3 := r_breaks (σ := σ) (n := 3) h0
      rw [if_neg (by decide), if_neg (g121 (x := x) (by omega)), J_natN (by omega), hr x (by omega), bndE, Int.toNat_natCast, Int.toNat_natCast]
      by_cases q3 : room x = true
      · rw [if_pos (show ¬ (1 ≤ (x : Int) ∧ (x : Int) ≤ nO) ∨ ¬ (1 ≤ (h : Int) ∧ (h : Int) ≤ nO) ∨ room x = true ∨ ((x : Int) = 1 ∧ room h = false) from Or.inr (Or.inr (Or.inl q3))), if_neg (show ¬ (2 : Int) = 0 by decide), if_pos q3, if_neg (show ¬ (1 : Int32) = 0 by decide)]
        dsimp only
        rw [show (2 : Int32) = J 2 from rfl, rb]; rfl
      · rw [if_neg q3, if_pos (show (0 : Int32) = 0 from rfl), bndE]
        have wi := r_within t (x := h) (y := x) (by omega) (by omega) hR
        have tail : ∀ (q4 : ¬ (¬ (1 ≤ (x : Int) ∧ (x : Int) ≤ nO) ∨ ¬ (1 ≤ (h : Int) ∧ (h : Int) ≤ nO) ∨ room x = true ∨ ((x : Int) = 1 ∧ room h = false))), ((F_X12_within (J (h : Nat)) (J (x : Nat)) σ).bind fun u_25 => if u_25.1 = 0 then ((F_X12_putIn (J (x : Nat)) (J (h : Nat)) u_25.2).bind fun u_29 => some ((0 : Int32), u_29.2)) else ((F_X12_breaks 3 u_25.2).bind fun u_32 => some ((0 : Int32), u_32.2))) = if (if ¬ (1 ≤ (x : Int) ∧ (x : Int) ≤ nO) ∨ ¬ (1 ≤ (h : Int) ∧ (h : Int) ≤ nO) ∨ room x = true ∨ ((x : Int) = 1 ∧ room h = false) then (2 : Int) else if wiN pa x (nO + 1) h = true then 3 else 0) = 0 then (F_X12_putIn (J (x : Nat)) (J (h : Nat)) σ).bind fun u => some ((0 : Int32), u.2) else some ((0 : Int32), bkS σ (if ¬ (1 ≤ (x : Int) ∧ (x : Int) ≤ nO) ∨ ¬ (1 ≤ (h : Int) ∧ (h : Int) ≤ nO) ∨ room x = true ∨ ((x : Int) = 1 ∧ room h = false) then (2 : Int) else if wiN pa x (nO + 1) h = true then 3 else 0)) := fun q4 => by
          rw [if_neg q4, wi, Option.bind_some]
          dsimp only
          by_cases q5 : wiN pa x (nO + 1) h = true
          · rw [if_pos q5, if_pos q5, if_neg (by decide), if_neg (by decide), show (3 : Int32) = J 3 from rfl, rb3]; rfl
          · rw [if_neg q5, if_neg q5, if_pos rfl, if_pos rfl]
        by_cases q6 : x = 1
        · rw [if_pos (show J (x : Nat) = 1 by rw [q6]; rfl), if_neg (g121 (x := h) (by omega)), J_natN (by omega), hr h (by omega)]
          by_cases q7 : room h = true
          · rw [if_pos q7, if_neg (show ¬ (1 : Int32) = 0 by decide)]
            exact tail (by rintro (q | q | q | q); exact q q1; exact q q2; exact q3 q; rw [q7] at q; exact absurd q.2 (by decide))
          · have q8 : room h = false := by cases hh : room h; rfl; exact absurd hh q7
            rw [if_neg q7, if_pos (show (0 : Int32) = 0 from rfl), if_pos (show ¬ (1 ≤ (x : Int) ∧ (x : Int) ≤ nO) ∨ ¬ (1 ≤ (h : Int) ∧ (h : Int) ≤ nO) ∨ room x = true ∨ ((x : Int) = 1 ∧ room h = false) from Or.inr (Or.inr (Or.inr ⟨by omega, q8⟩))), if_neg (show ¬ (2 : Int) = 0 by decide)]
            dsimp only
            rw [show (2 : Int32) = J 2 from rfl, rb]; rfl
        · rw [if_neg (show ¬ J (x : Nat) = 1 by rw [show (1 : Int32) = J 1 from rfl, J_eq (by omega) (by omega) (by omega) (by omega)]; omega)]
          exact tail (by rintro (q | q | q | q); exact q q1; exact q q2; exact q3 q; exact q6 (by omega))
    · rw [if_neg q2, Option.bind_some]
      dsimp only
      rw [if_pos rfl, if_pos (Or.inr (Or.inl q2)), if_neg (by decide)]
  · rw [if_neg q1, Option.bind_some]
    dsimp only
    rw [if_pos rfl, if_pos (Or.inl q1), if_neg (by decide)]
/-- two expressions one behind the other -/
theorem S_ev2 {Γ0 : HS} {D : Nat → Nat → Prop} {Dq : Prop} {B d dep bC b0 q0 : Nat} {lo m hi x y p r q w wk pw : Nat} {σ : MS} {Γ : HS} (hC : SCX R nO nV nC nA room en ln TX DN Γ0 B dep bC w wk) (hd : B ≤ d) (hE : EQx (I1 Γ0 D) (I3 Γ0 D nV nA) R DN lo m x p r) (hE2 : EQx (I1 Γ0 D) (I3 Γ0 D nV nA) R DN m hi y r q) (hm : m ≤ hi) (hhi : hi ≤ 39990) (hq : q ≤ ln) (hS : SSS R nO nV nC nA room en ln TX Γ0 D Dq dep bC b0 q0 p w wk pw σ Γ) : ∃ (v v2 : Int32) (τ τ2 : MS), gR (d + 2) 0 (J (x : Nat)) (J (14 * dep : Nat)) 0 σ = some (v, τ) ∧ gR (d + 2) 0 (J (y : Nat)) (J (14 * dep : Nat)) 0 τ = some (v2, τ2) ∧ rWk σ τ ∧ rWk σ τ2 ∧ ((∃ (Δ2 : HS) (kc pw' : Nat), RRl nO room nV nC τ2 Δ2 ∧ RVw τ2 dep w wk pw' ∧ CVw Δ2 dep bC (bC + 16) q pw' ∧ pw' ≤ 20000 ∧ VL v ∧ VL v2 ∧ (Δ2 10).2.1 6 (bC + 14) = v ∧ (Δ2 10).2.1 6 (bC + 15) = v2 ∧ pw ≤ pw' ∧ RFR σ τ2 (14 * dep + 14) w wk ∧ CFR Γ Δ2 (bC + 14) dep ∧ CSP kc Γ Δ2 ∧ kc ≤ (q - p) + 40000 * (pw' - pw)) ∨ EVF nO nV nC room w wk σ Γ τ2 ((q - p) + 40000 * (20001 - pw))) := by
  have hC' := hC
  obtain ⟨C1, C2, C3, C4, C5, C6⟩ := hC'
  obtain ⟨r1, r2, r3⟩ := EQx_rng hE
  obtain ⟨r4, r5, r6⟩ := EQx_rng hE2
  obtain ⟨v, τ1, e1, hv⟩ := S_ev (d := d) hC hd hE (by omega) (by omega) hS.1 (Nat.le_refl _) (by omega) (by omega)
  rcases hv with ⟨Δ1, kc, pw', hG⟩ | ⟨-, hF⟩
  · obtain ⟨g1, g2, g3, g4, g5, g6, g7, g8, g9, g10, g11⟩ := hG
    have S1 : STA R nO nV nC nA room en ln TX τ1 Δ1 := STA_keep hS.1.2.1 g8.1 g9.1
    have hS2 : SSE R nO nV nC nA room en ln TX Γ0 D dep bC r (bC + 15) w wk pw' τ1 Δ1 := ⟨(g9.1 5 (by omega) (by omega) (by omega)).trans hS.1.1, S1, g1, g2, g3, AGL_fr hS.1.2.2.2.2.2.1 (EQx_D hE) g8 g9 (Nat.le_refl _) (Nat.le_refl _), g4⟩
    obtain ⟨v2, τ2, e2, hv2⟩ := S_ev (d := d) hC hd hE2 hhi (by omega) hS2 (by omega) (by omega) (by omega)
    rcases hv2 with ⟨Δ2, kc2, pw2, f1, f2, f3, f4, f5, f6, f7, f8, f9, f10, f11⟩ | ⟨-, Δ, kc2, hf, h3, h5, h6, h7⟩
    · refine ⟨v, v2, τ1, τ2, e1, e2, g8.1, rWk_trans g8.1 f8.1, Or.inl ⟨Δ2, kc + kc2, pw2, f1, f2, f3, f4, g5, f5, by rw [f9.2.1 (bC + 14) (by omega)]; exact g6, f6, by omega, RFR_trans g8 f8 (Nat.le_refl _) (Nat.le_refl _) (Nat.le_refl _), CFR_trans g9 f9 (by omega) (Nat.le_refl _), CSP_trans g10 f10, by omega⟩⟩
    · exact ⟨v, v2, τ1, τ2, e1, e2, g8.1, rWk_trans g8.1 hf.2.1, Or.inr ⟨Δ, kc + kc2, FIN_pre g8.1 g9.1 hf, h3, h5, CSP_trans g10 h6, by omega⟩⟩
  · have hF' := hF
    obtain ⟨Δ, kc, hf, h3, h5, h6, h7⟩ := hF'
    have es := ev_stopped (rec := gR (d + 1)) (p1 := J (14 * dep : Nat)) (x := y) (EVF_104 hF) h3 h5 (by omega) (by omega)
    have hF2 := EVF_stop (x := y) hF
    refine ⟨v, 0, τ1, _, e1, by rw [q_gR_0]; exact es, hf.2.1, ?_, Or.inr ?_⟩
    · obtain ⟨Δ2, kc2, hf2, -⟩ := hF2
      exact hf2.2.1
    · obtain ⟨Δ2, kc2, k1, k2, k3, k4, k5⟩ := hF2
      exact ⟨Δ2, kc2, k1, k2, k3, k4, by omega⟩
theorem S24 {Γ0 : HS} {D : Nat → Nat → Prop} {Dq : Prop} {B d dep bC b0 q0 : Nat} {hi s p w wk pw e e2 m r q' : Nat} {σ : MS} {Γ : HS} (hC : SCX R nO nV nC nA room en ln TX DN Γ0 B dep bC w wk) (hd : B ≤ d) (hs : s < 39990) (hhi : hi ≤ 39990) (hq : q' + 1 ≤ ln) (hS : SSS R nO nV nC nA room en ln TX Γ0 D Dq dep bC b0 q0 p w wk pw σ Γ) (h17 : R 17 s = J 24) (h19 : R 19 s = J (e : Nat)) (h20 : R 20 s = J (e2 : Nat)) (ho : I1 Γ0 D q' 32) (hm : m ≤ hi) (hE : EQx (I1 Γ0 D) (I3 Γ0 D nV nA) R DN (s + 1) m e p r) (hE2 : EQx (I1 Γ0 D) (I3 Γ0 D nV nA) R DN m hi e2 r q') : ∃ (v : Int32) (τ : MS), F_X12_statement_ (gR (d + 2)) (J (s : Nat)) (J (14 * dep : Nat)) σ = some (v, τ) ∧ STO nO nV nC room D Dq dep bC w wk b0 q0 pw p (q' + 1) σ Γ τ := by
  have hC' := hC
  obtain ⟨C1, C2, C3, C4, C5, C6⟩ := hC'
  have en' := g_en (n := s) (by omega)
  have a2 := hS.1.2.1
  obtain ⟨r1, r2, r3⟩ := EQx_rng hE
  obtain ⟨r4, r5, r6⟩ := EQx_rng hE2
  obtain ⟨v, v2, τ1, τ2, e1, e2', w1, w2, hv⟩ := S_ev2 (d := d) hC hd hE hE2 hm hhi (by omega) hS
  have e' := stb_24 (gR (d + 2)) (J (s : Nat)) (J (14 * dep : Nat)) σ en' (by rw [J_natN (by omega), STA_17 a2]; exact h17)
  have en2 := en'
  rw [J_natN (by omega)] at en2
  rw [if_neg en', J_natN (by omega), show σ.2 66 s = J (e : Nat) from (STA_R (x := s) a2 (k := 19) (by omega) (by omega)).trans h19, e1, Option.bind_some] at e'
  dsimp only at e'
  rw [if_neg en2, show τ1.2 67 s = J (e2 : Nat) from (STA_W a2 w1 (j := 20) (by omega) (by omega)).trans h20, e2', Option.bind_some] at e'
  dsimp only at e'
  rcases hv with ⟨Δ2, kc, pw', g1, g2, g3, g4, ⟨x, rfl, x1, x2⟩, ⟨h, rfl, h1, h2⟩, g7, g8, g9, g10, g11, g12, g13⟩ | hF
  · have S1 : STA R nO nV nC nA room en ln TX τ2 Δ2 := STA_keep a2 g10.1 g11.1
    have h5 := (g11.1 5 (by omega) (by omega) (by omega)).trans hS.1.1
    obtain ⟨n1, n2, n3, n4⟩ := S1.2.1
    have g1' := g1
    obtain ⟨⟨pa, fi, nx, ch, tr, P⟩, -⟩ := g1'
    rw [if_pos (show τ2.1 104 = 0 from g2.1), r_move g2.1 n1 n4 (fun x hx => (S1.2.2.1 x hx).1) P.1 P.2.1 ⟨x1, x2⟩ ⟨h1, h2⟩] at e'
    rcases m_move (room := room) (STA_MC S1 g3) (by omega) (by omega) (op1_5 h5 ho.1) g7 ⟨x1, x2⟩ g8 ⟨h1, h2⟩ n2 n4 (fun x hx => (S1.2.2.1 x hx).2) P.1 P.2.2.1 with ⟨n, q1, q2, Δ3, d1, d2⟩ | ⟨q1, d2⟩
    · rw [q1, if_neg q2] at e'
      refine ⟨0, bkS τ2 n, e'.trans rfl, STO_pre (RFR_le g10 (by omega) (Nat.le_refl _) (Nat.le_refl _)) (CFR_le g11 (by omega) (Nat.le_refl _)) g12 g9 (k1 := q' - p) g13 (by omega) (STO_brk (p := q') (FIN_brk g1 bkS_fr d2 ?_ rfl rfl) g2.2.2.2.1 g2.2.2.2.2 d1 (by omega) g4)⟩
      unfold mvB at q1
      split at q1
      · omega
      · split at q1 <;> omega
    · rw [if_pos q1] at e'
      have q1' := q1
      unfold mvB at q1'
      split at q1'
      · omega
      rename_i c1
      split at q1'
      · omega
      rename_i c2
      have ox : 1 ≤ x ∧ x ≤ nO := Classical.byContradiction fun h => c1 (Or.inl h)
      have oh : 1 ≤ h ∧ h ≤ nO := Classical.byContradiction fun q => c1 (Or.inr (Or.inl q))
      obtain ⟨x, rfl⟩ : ∃ m : Nat, x = m := ⟨x.toNat, by omega⟩
      obtain ⟨h, rfl⟩ : ∃ m : Nat, h = m := ⟨h.toNat, by omega⟩
      rw [Int.toNat_natCast, Int.toNat_natCast] at c1
      rw [Int.toNat_natCast, Int.toNat_natCast] at c2
      have xr : room x = false := by cases hh : room x; rfl; exact absurd (Or.inr (Or.inr (Or.inl hh))) c1
      have hr1 : x = 1 → room h = true := fun e => by cases hh : room h; exact absurd (Or.inr (Or.inr (Or.inr ⟨by omega, hh⟩))) c1; rfl
      have P2 : PLT nO room nV nC τ2 (ppS (ppS (pcS Δ2 (q' + 1)) (bC + 14 + 1)) (bC + 14)) pa fi nx ch tr := P
      obtain ⟨τ3, Δ3, k1, k2, k3, k4, k5⟩ := W_move P2 (x := x) (h := h) (by omega) (by omega) xr hr1 c2
      have hc := d2 Δ3 k2 k4.1
      rw [k1] at e'
      have f2 : RFR τ2 τ3 (14 * dep + 14) w wk := RFR_T k3
      have c10 : Δ3 10 = (ppS (ppS (pcS Δ2 (q' + 1)) (bC + 14 + 1)) (bC + 14)) 10 := k4.1 10 (by omega)
      have hc2 : CFR Δ2 Δ3 (bC + 14) dep := ⟨fun r r8 r9 r10 => by rw [k4.1 r r9]; unfold ppS pcS; rw [cI_r, if_neg r10, cI_r, if_neg r10, cI_r, if_neg r10], fun j hj => by rw [c10]; rfl, fun j _ => by rw [c10]; exact ⟨rfl, rfl⟩⟩
      have cv : CVw Δ3 dep bC (bC + 14) (q' + 1) pw' := by
        unfold CVw
        rw [c10]
        exact ⟨g3.1, g3.2.1, g3.2.2.1, rfl, g3.2.2.2.2.1, rfl⟩
      have rr : RRl nO room nV nC τ3 Δ3 := by
        refine ⟨k5, ?_, ?_⟩
        · obtain ⟨L, o1, o2⟩ := g1.2.1
          refine ⟨L, OL_congr o1 (k3.2 102 (by omega) (by omega) (by omega)) (by rw [k3.1]), ?_⟩
          have c8 : Δ3 8 = Δ2 8 := by rw [k4.1 8 (by omega)]; rfl
          exact OL_congr o2 (by rw [c8]) (by rw [c8])
        · unfold NBK; rw [c10, k3.1]; exact g1.2.2
      exact ⟨0, τ3, e'.trans rfl, STO_pre (RFR_le g10 (by omega) (Nat.le_refl _) (Nat.le_refl _)) (CFR_le g11 (by omega) (Nat.le_refl _)) g12 g9 (k1 := q' - p) g13 (by omega) (STO_one (p := q') (RFR_le f2 (by omega) (Nat.le_refl _) (Nat.le_refl _)) (CFR_le hc2 (by omega) (Nat.le_refl _)) hc (by omega) rr (by unfold RVw; rw [k3.1]; exact g2) cv (AGL_fr hS.1.2.2.2.2.2.1 (fun u hu => EQx_D hE u (EQx_D hE2 u (ho.2 (by omega) u hu))) (RFR_trans g10 f2 (Nat.le_refl _) (Nat.le_refl _) (Nat.le_refl _)) (CFR_trans g11 hc2 (Nat.le_refl _) (Nat.le_refl _)) (Nat.le_refl _) (Nat.le_refl _)) g4)⟩
  · rw [if_neg (EVF_104 hF)] at e'
    exact ⟨0, τ2, e', STO_fin hF hS.1.2.2.2.2.2.2 (by omega)⟩
