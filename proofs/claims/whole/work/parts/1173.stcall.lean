/-! a call as a statement -/
variable {R : Nat → Nat → Int32} {nO nV nC nA ln : Nat} {room : Nat → Bool} {en : Nat → Nat} {TX : Nat → Int → Int → Prop} {DN : Nat → Nat → Nat → Prop}
def ClE (rec : GF) (p0 p2 l : Int32) (σ_5 : MS) : MR := if (σ_5.1 104) = 0 then (rec 2 p0 l p2 σ_5).bind fun u => bnd (mI u.2 115 l) fun σ_14 => some (u.1, σ_14) else bnd (mI σ_5 115 l) fun σ_14 => some (0, σ_14)
def ClB (rec : GF) (p0 p2 l : Int32) : ((Int32 × MS) → MR) → Int32 × MS → MR := fun again s => if s.1 < 0 then ClE rec p0 p2 l s.2 else if (s.2.1 104) = 0 then (rec 0 s.1 p2 0 s.2).bind fun u => bnd (mI u.2 115 ((u.2.1 115) + 1)) fun σ_28 => if (u.2.1 115) < 0 ∨ 9000 ≤ (u.2.1 115).toNatClampNeg then none else bnd (mA σ_28 114 (upd (σ_28.2 114) (u.2.1 115).toNatClampNeg u.1)) fun σ_32 => if s.1 < 0 ∨ 40000 ≤ s.1.toNatClampNeg then none else bnd ((σ_32.2 69 s.1.toNatClampNeg)) fun x => again (x, σ_32) else ClE rec p0 p2 l s.2
theorem call_eq (rec : GF) (p0 p1 p2 : Int32) (σ : MS) : F_X12_call rec p0 p1 p2 σ = loopF (ClB rec p0 p2 (σ.1 115)) FU (p1, σ) := rfl
theorem ClB_s (rec : GF) (p0 p2 l : Int32) (n : Nat) (a : Int32) (X : MS) : loopF (ClB rec p0 p2 l) (n + 1) (a, X) = if a < 0 then ClE rec p0 p2 l X else if (X.1 104) = 0 then (rec 0 a p2 0 X).bind fun u => bnd (mI u.2 115 ((u.2.1 115) + 1)) fun σ_28 => if (u.2.1 115) < 0 ∨ 9000 ≤ (u.2.1 115).toNatClampNeg then none else bnd (mA σ_28 114 (upd (σ_28.2 114) (u.2.1 115).toNatClampNeg u.1)) fun σ_32 => if a < 0 ∨ 40000 ≤ a.toNatClampNeg then none else bnd ((σ_32.2 69 a.toNatClampNeg)) fun x => loopF (ClB rec p0 p2 l) n (x, σ_32) else ClE rec p0 p2 l X := rfl
/-- so many arguments are there -/
def CAS (R : Nat → Nat → Int32) (nO nV nC nA : Nat) (room : Nat → Bool) (en : Nat → Nat) (ln : Nat) (TX : Nat → Int → Int → Prop) (Γ0 : HS) (D : Nat → Nat → Prop) (dep bC k pk p w wk pw : Nat) (σ : MS) (Γ : HS) (τ : MS) (Δ : HS) : Prop := ∃ (kc pw' : Nat), SSE R nO nV nC nA room en ln TX Γ0 D dep bC pk (bC + 14 + k) (w + k) wk pw' τ Δ ∧ pw ≤ pw' ∧ (∀ i, i < k → (Δ 10).2.1 6 (bC + 14 + i) = τ.2 114 (w + i) ∧ VL (τ.2 114 (w + i))) ∧ RFR σ τ (14 * dep + 14) w wk ∧ CFR Γ Δ (bC + 14) dep ∧ CSP kc Γ Δ ∧ kc ≤ (pk - p) + 40000 * (pw' - pw)
theorem wpS_wt {σ : MS} {w : Nat} {v : Int32} (h : σ.1 115 = J (w : Nat)) (hw : w < 9000) {f : MS → MR} : (bnd (mI σ 115 ((σ.1 115) + 1)) fun σ_28 => if (σ.1 115) < 0 ∨ 9000 ≤ (σ.1 115).toNatClampNeg then none else bnd (mA σ_28 114 (upd (σ_28.2 114) (σ.1 115).toNatClampNeg v)) f) = f (wpS σ w v) := by
  rw [h, J_suc, bndE, if_neg (g9k hw), J_natN (by omega), bndE]; rfl
theorem C_go {Γ0 : HS} {D : Nat → Nat → Prop} {p0 : Int32} {B d dep bC hi y c q' w wk pw : Nat} {xs ls ps : Nat → Nat} {σ : MS} {Γ : HS} (hC : SCX R nO nV nC nA room en ln TX DN Γ0 B dep bC w wk) (hd : B ≤ d) (hc : c ≤ 6) (hhi : hi ≤ 39990) (hq : q' ≤ ln) (hls : ∀ i, i < c → ls (i + 1) ≤ hi) (hpq : ∀ i, i < c → ps (i + 1) ≤ q') (h22 : ∀ k, k < c → R 22 (xs k) = J (if k + 1 < c then (xs (k + 1) : Int) else -1)) (hE : ∀ k, k < c → xs k < ls (k + 1) ∧ ps k < ps (k + 1) ∧ EQx (I1 Γ0 D) (I3 Γ0 D nV nA) R DN (ls k) (ls (k + 1)) (xs k) (ps k) (ps (k + 1))) (hpw : pw ≤ 20000) : ∀ (dd k : Nat), k + dd = c → ∀ (n : Nat) (τ : MS) (Δ : HS), dd + 1 < n → CAS R nO nV nC nA room en ln TX Γ0 D dep bC k (ps k) (ps 0) w wk pw σ Γ τ Δ → ps 0 ≤ ps k → (∃ (υ : MS) (Θ : HS), loopF (ClB (gR (d + 2)) p0 (J (14 * dep : Nat)) (J (w : Nat))) n (J (if k < c then (xs k : Int) else -1), τ) = ClE (gR (d + 2)) p0 (J (14 * dep : Nat)) (J (w : Nat)) υ ∧ CAS R nO nV nC nA room en ln TX Γ0 D dep bC c (ps c) (ps 0) w wk pw σ Γ υ Θ ∧ ps 0 ≤ ps c) ∨ (∃ υ : MS, loopF (ClB (gR (d + 2)) p0 (J (14 * dep : Nat)) (J (w : Nat))) n (J (if k < c then (xs k : Int) else -1), τ) = some ((0 : Int32), υ) ∧ EVF nO nV nC room w wk σ Γ υ ((q' - ps 0) + 40000 * (20001 - pw))) := by
  intro dd
  have hC' := hC
  obtain ⟨C1, C2, C3, C4, C5, C6⟩ := hC'
  induction dd with
  | zero =>
    intro k hk n τ Δ hn hA hp
    obtain ⟨n, rfl⟩ : ∃ m, n = m + 1 := ⟨n - 1, by omega⟩
    rw [show k = c by omega] at hA hp
    refine Or.inl ⟨τ, Δ, ?_, hA, hp⟩
    rw [if_neg (by omega), ClB_s, if_pos (by decide)]
  | succ dd ih =>
    intro k hk n τ Δ hn hA hp
    obtain ⟨n, rfl⟩ : ∃ m, n = m + 1 := ⟨n - 1, by omega⟩
    have kc : k < c := by omega
    obtain ⟨b1, b2, b3⟩ := hE k kc
    have hl := hls k kc
    have hpk := hpq k kc
    obtain ⟨kc0, pw', hS, b5, b6, b7, b8, b9, b10⟩ := hA
    obtain ⟨v, τ1, e1, hv⟩ := S_ev (d := d) hC hd b3 (by omega) (by omega) hS (by omega) (by omega) (by omega)
    have st : rWk τ τ1 → τ1.1 115 = J (w + k : Nat) → loopF (ClB (gR (d + 2)) p0 (J (14 * dep : Nat)) (J (w : Nat))) (n + 1) (J (if k < c then (xs k : Int) else -1), τ) = loopF (ClB (gR (d + 2)) p0 (J (14 * dep : Nat)) (J (w : Nat))) n (J (if k + 1 < c then (xs (k + 1) : Int) else -1), wpS τ1 (w + k) v) := fun hw h115 => by
      rw [if_pos kc, ClB_s, if_neg (J_nlt0 (by omega) (by omega)), if_pos (show τ.1 104 = 0 from hS.2.2.2.1.1), e1, Option.bind_some]
      dsimp only
      rw [wpS_wt h115 (by omega), if_neg (g_en (by omega)), J_natN (by omega), bndE, show (wpS τ1 (w + k) v).2 69 (xs k) = R 22 (xs k) from STA_W hS.2.1 hw (j := 22) (by omega) (by omega), h22 k kc]
    rcases hv with ⟨Δ1, kc1, pw1, g1, g2, g3, g4, g5, g6, g7, g8, g9, g10, g11⟩ | ⟨-, hF⟩
    · have S1 : STA R nO nV nC nA room en ln TX τ1 Δ1 := STA_keep hS.2.1 g8.1 g9.1
      have f2 : RFR τ1 (wpS τ1 (w + k) v) (14 * dep + 14) (w + k) wk := RFR_wpS
      have hS2 : SSE R nO nV nC nA room en ln TX Γ0 D dep bC (ps (k + 1)) (bC + 14 + (k + 1)) (w + (k + 1)) wk pw1 (wpS τ1 (w + k) v) Δ1 := by
        refine ⟨(g9.1 5 (by omega) (by omega) (by omega)).trans hS.1, STA_keep S1 f2.1 cWk_rfl, RR_M g1 wpS_fr rfl rfl rfl rfl (fun h => h), RVw_fr g2 rfl rfl rfl g2.2.2.2.1 ?_, g3, AGL_fr hS.2.2.2.2.2.1 (EQx_D b3) (RFR_trans g8 f2 (Nat.le_refl _) (Nat.le_refl _) (Nat.le_refl _)) g9 (Nat.le_refl _) (by omega), g4⟩
        rfl
      have fr2 : RFR σ (wpS τ1 (w + k) v) (14 * dep + 14) w wk := RFR_trans b7 (RFR_trans g8 f2 (Nat.le_refl _) (Nat.le_refl _) (Nat.le_refl _)) (Nat.le_refl _) (by omega) (Nat.le_refl _)
      have hA2 : CAS R nO nV nC nA room en ln TX Γ0 D dep bC (k + 1) (ps (k + 1)) (ps 0) w wk pw σ Γ (wpS τ1 (w + k) v) Δ1 := by
        refine ⟨kc0 + kc1, pw1, hS2, by omega, fun i hi => ?_, fr2, CFR_trans b8 g9 (by omega) (Nat.le_refl _), CSP_trans b9 g10, by omega⟩
        show _ = upd _ _ _ _ ∧ VL (upd _ _ _ _)
        rw [upd_s]
        by_cases e : i = k
        · rw [e, if_pos rfl, g6]; exact ⟨rfl, g5⟩
        · rw [if_neg (by omega), g9.2.1 _ (by omega), g8.2.2.1 _ (by omega)]; exact b6 i (by omega)
      rcases ih (k + 1) (by omega) n _ _ (by omega) hA2 (by omega) with ⟨υ, Θ, h1, h2⟩ | ⟨υ, h1, h2⟩
      · exact Or.inl ⟨υ, Θ, by rw [st g8.1 g2.2.2.2.2, h1], h2⟩
      · exact Or.inr ⟨υ, by rw [st g8.1 g2.2.2.2.2, h1], h2⟩
    · obtain ⟨Δ1, kc1, hf, h3, h5, h6, h7⟩ := hF
      obtain ⟨n, rfl⟩ : ∃ m, n = m + 1 := ⟨n - 1, by omega⟩
      have h104' := FIN_104 hf
      have hpw' := hS.2.2.2.2.2.2
      have h104 : ¬ (wpS τ1 (w + k) v).1 104 = 0 := h104'
      have fr : rMk τ1 (mI (wpS τ1 (w + k) v) 115 (J (w : Nat))) := rMk_mI wpS_fr (by omega)
      refine Or.inr ⟨mI (wpS τ1 (w + k) v) 115 (J (w : Nat)), ?_, Δ1, kc0 + kc1, ⟨RR_M hf.1 fr rfl rfl rfl rfl (fun h => h), rWk_trans b7.1 (rWk_trans hf.2.1 (rWk_M fr)), cWk_trans b8.1 hf.2.2.1, hf.2.2.2⟩, h3, rfl, CSP_trans b9 h6, by omega⟩
      rw [st hf.2.1 h5, ClB_s]
      have hE' : ClE (gR (d + 2)) p0 (J (14 * dep : Nat)) (J (w : Nat)) (wpS τ1 (w + k) v) = some ((0 : Int32), mI (wpS τ1 (w + k) v) 115 (J (w : Nat))) := by
        unfold ClE
        rw [if_neg h104, bndE]
      rw [if_neg h104, ite_self, hE']
theorem S33 {Γ0 : HS} {D : Nat → Nat → Prop} {Dq : Prop} {B d dep bC b0 q0 : Nat} {hi s p w wk pw y c k z q' : Nat} {f : Int} {σ : MS} {Γ : HS} (hC : SCX R nO nV nC nA room en ln TX DN Γ0 B dep bC w wk) (hd : B ≤ d) (hs : s < 39990) (hhi : hi ≤ 39990) (hq : q' + 4 ≤ ln) (hS : SSS R nO nV nC nA room en ln TX Γ0 D Dq dep bC b0 q0 p w wk pw σ Γ) (h17 : R 17 s = J 33) (h20 : R 20 s = J f) (h21 : R 21 s = J (z : Nat)) (hDN : DN k z c) (ho : I3 Γ0 D nV nA q' 40 (k : Nat)) (ho1 : I1 Γ0 D (q' + 3) 1) (hL : LSQ R (EQx (I1 Γ0 D) (I3 Γ0 D nV nA) R DN) (y + 1) hi f c p q') : ∃ (v : Int32) (τ : MS), F_X12_statement_ (gR (d + 3)) (J (s : Nat)) (J (14 * dep : Nat)) σ = some (v, τ) ∧ STO nO nV nC room D Dq dep bC w wk b0 q0 pw p (q' + 4) σ Γ τ := by
  have hC' := hC
  obtain ⟨C1, C2, C3, C4, C5, C6⟩ := hC'
  have en' := g_en (n := s) (by omega)
  have a2 := hS.1.2.1
  have hc := C3 k z c hDN
  have hDall := LSQ_D hL (fun _ _ _ _ _ h => EQx_D h)
  obtain ⟨xs, ls, ps, f1, f2, f3, f4, f5, f6, f7⟩ := hL
  have lsm := LSQ_rng f5
  have lsr : ∀ i, i < c → ls (i + 1) ≤ hi := fun i hi' => by
    have r2 := (lsm (c - (i + 1)) (i + 1) (by omega)).1
    rw [show i + 1 + (c - (i + 1)) = c by omega] at r2
    omega
  have psr : ∀ i, i < c → ps (i + 1) ≤ q' := fun i hi' => by
    have r2 := (lsm (c - (i + 1)) (i + 1) (by omega)).2
    rw [show i + 1 + (c - (i + 1)) = c by omega] at r2
    omega
  have e := stb_33 (gR (d + 3)) (J (s : Nat)) (J (14 * dep : Nat)) σ en' (by rw [J_natN (by omega), STA_17 a2]; exact h17)
  rw [if_neg en', if_neg en', J_natN (by omega), show σ.2 68 s = J (z : Nat) from (STA_R (x := s) a2 (k := 21) (by omega) (by omega)).trans h21, show σ.2 67 s = J f from (STA_R (x := s) a2 (k := 20) (by omega) (by omega)).trans h20, q_gR_4, call_eq, hS.1.2.2.2.1.2.2.2.2] at e
  subst f6
  have hf0 : (if 0 < c then (xs 0 : Int) else -1) = f := by rw [f1]; by_cases c0 : c = 0 <;> simp [c0] <;> omega
  have hpw := hS.1.2.2.2.2.2.2
  have hA0 : CAS R nO nV nC nA room en ln TX Γ0 D dep bC 0 (ps 0) (ps 0) w wk pw σ Γ σ Γ := ⟨0, pw, hS.1, Nat.le_refl _, fun i hi => by omega, RFR_rfl, CFR_rfl, CSP_0, by omega⟩
  rcases C_go (p0 := J (z : Nat)) (q' := q') (y := 0) hC hd hc hhi (by omega) lsr psr f2 (fun i hi' => ⟨(f5 i hi').2.1, (f5 i hi').2.2.1, (f5 i hi').2.2.2⟩) hpw c 0 (by omega) FU σ Γ (FU_gt (by omega)) hA0 (Nat.le_refl _) with ⟨υ, Θ, h1, ⟨kc, pw', hS2, b1, b2, b3, b4, b5, b6⟩, hp⟩ | ⟨υ, h1, h2⟩
  · rw [hf0] at h1
    rw [f7] at hS2 b6
    obtain ⟨s1, s2, s3, s4, s5, s6, s7⟩ := hS2
    have hCL := C4 (d + 2) (by omega) k z c q' bC w wk (bC + 14) pw' υ Θ hDN ho.1 (by omega) s1 s2 s3 s4 s5 s7 b2 (by omega) (by omega) (by omega) (Nat.le_refl _)
    obtain ⟨v, τ, c1, c2, c3, c4⟩ := hCL
    have hE : ClE (gR (d + 2)) (J (z : Nat)) (J (14 * dep : Nat)) (J (w : Nat)) υ = some (v, wtP τ w) := by
      unfold ClE
      rw [if_pos (show υ.1 104 = 0 from s4.1), c1, Option.bind_some]; rfl
    rw [h1, hE] at e
    rcases c4 with ⟨Δ, kc2, pw2, d1, d2, d3, d4, d5, d6, d7, d8, d9, d10, d11⟩ | ⟨Δ, kc2, d1, d2, d3⟩
    · have e5 : Δ 5 = Γ0 5 := (d9.1 5 (by omega) (by omega) (by omega)).trans s1
      have S3 : STA R nO nV nC nA room en ln TX τ Δ := STA_keep s2 d8.1 d9.1
      obtain ⟨Δ2, m1, m2, m3, m4⟩ := m_drop (STA_MC S3 d3) (by omega) (by omega) (op1_5 e5 ho1.1)
      have f2' : RFR υ (wtP τ w) (14 * dep + 14) w wk := RFR_trans (RFR_le d8 (Nat.le_refl _) (by omega) (Nat.le_refl _) : RFR υ τ (14 * dep + 14) w wk) RFR_wtP (Nat.le_refl _) (Nat.le_refl _) (Nat.le_refl _)
      have hc2 : CFR Θ Δ2 (bC + 14) dep := CFR_trans d9 (CFR_MK m2 (t := bC + 14) (by omega)) (Nat.le_refl _) (Nat.le_refl _)
      have fr3 := RFR_trans b3 f2' (Nat.le_refl _) (Nat.le_refl _) (Nat.le_refl _)
      have fc3 := CFR_trans b4 hc2 (Nat.le_refl _) (Nat.le_refl _)
      refine ⟨0, wtP τ w, e.trans rfl, Δ2, kc + kc2 + 1, pw2, ⟨CSP_trans (CSP_trans b5 d10) m1, RR_M d1 wtP_fr (m2.1 8 (by omega)) (m2.1 9 (by omega)) (m2.2.1 3 (by omega) (by omega)) (m2.2.1 4 (by omega) (by omega)) (NBK_e (m2.2.1 5 (by omega) (by omega)) (m2.2.1 14 (by omega) (by omega))), fr3.1, fc3.1, c2, rfl, by omega, by omega⟩, Or.inl ⟨RVw_fr d2 rfl rfl rfl c2 rfl, CVw_MK d3 m2 m3 m4, AGL_fr hS.1.2.2.2.2.2.1 (fun u hu => ?_) fr3 fc3 (Nat.le_refl _) (Nat.le_refl _), d4, RFR_le fr3 (by omega) (Nat.le_refl _) (Nat.le_refl _), CFR_le fc3 (by omega) (Nat.le_refl _)⟩⟩
      refine hDall u ?_
      rcases ho.2.2.1 u (ho1.2 (by omega) u hu) with h | h
      · exact h
      · omega
    · obtain ⟨k1, k2, k3, k4⟩ := d1
      refine ⟨0, wtP τ w, e.trans rfl, STO_fin (kb := kc + kc2) ⟨Δ, kc + kc2, ⟨RR_M k1 wtP_fr rfl rfl rfl rfl (fun h => h), rWk_trans b3.1 (rWk_trans k2 (rWk_M wtP_fr)), cWk_trans b4.1 k3, k4⟩, c2, rfl, CSP_trans b5 d2, Nat.le_refl _⟩ hpw (by omega)⟩
  · rw [hf0] at h1
    rw [h1] at e
    exact ⟨0, υ, e.trans rfl, STO_fin h2 hpw (by omega)⟩
