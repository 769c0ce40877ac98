/-! a definition: list and block, told and seen alike -/
variable {T N : Nat} {kd vl rv : Nat → Int} {pl : Nat → Nat}
def Kx (n x : Nat) : MS → MR := fun σ_10 => if J (x : Nat) < 0 ∨ 40000 ≤ x then none else bnd (σ_10.2 22 x) fun (x_16 : Int32) => loopF Ds1 n (x_16, σ_10)
theorem Kx_eq {n x : Nat} (hx : x < 39990) (σ : MS) : Kx n x σ = loopF Ds1 n (σ.2 22 x, σ) := by
  have en := g_en (n := x) (by omega)
  rw [(ng (n := x) (by omega)).2] at en
  exact if_neg en
theorem ds_def {x : Nat} {τ : MS} (hx : x < 39990) (h17 : τ.2 17 x = J 6) (n : Nat) : loopF Ds1 (n + 1) (J (x : Nat), τ) = loopF (Lq2 (Kx n x) (J (x : Nat))) FU (0, τ.2 20 x, ds0 τ) := by
  have en := g_en (n := x) (by omega)
  have en2 := (ng (n := x) (by omega)).2
  rw [Ds1_s, if_neg (J_nlt0 (by omega) (by omega)), if_neg en, bndE, en2, h17, if_pos (by decide), bndE, bndE]
  rw [en2] at en
  rw [if_neg en, bndE, show (mI (mI τ 33 0) 34 0).2 17 x = J 6 from h17, if_pos (by decide), if_neg en]
  rfl
theorem STX_123 {σ : MS} {Γ : HS} {n lo hi x i j p q : Nat} (h : STX kd vl rv pl σ Γ n 1 lo hi x i j p q) : kd i = 123 := by
  cases n with
  | zero => exact absurd h (by simp [STX])
  | succ n =>
    unfold STX at h
    obtain ⟨b1, b2, b3, b4, h⟩ := h
    rcases h with ⟨g0, -⟩ | ⟨g1, f, c, j', a1, -⟩ | ⟨g2, -⟩ | ⟨g', ⟨h, -⟩ | ⟨h, -⟩ | ⟨h, -⟩, -⟩
    · omega
    · exact a1
    · omega
    · omega
    · omega
    · omega
theorem dStp (hT : TKE T N kd vl rv pl) (hN : NMI T kd vl rv) (hp : plm T pl) (hpb : ∀ i, i ≤ T + 1 → pl i ≤ 5000) {σs : MS} {Γs : HS} {h lo hi x y m i b j p q c : Nat} (k0 : kd i = 235) (k1 : kd (i + 1) = 2) (k2 : kd (i + 2) = 40) (hbc : (c = 0 ∧ b = i + 4) ∨ (1 ≤ c ∧ b = i + 3 + 2 * c)) (hb1 : kd (b - 1) = 41) (h20 : σs.2 20 x = J (if 0 < c then ((x + 2 + 0 : Nat) : Int) else -1)) (hNS : NMS kd rv pl σs (x + 2) c (i + 3)) (hS : STX kd vl rv pl σs Γs h 1 lo hi y b j p q) (hh : h ≤ 93) (hhi : hi ≤ 39000) (hj : j ≤ T) (hx : x + 2 + c < 39980) (hm : m < 39990) (h17 : σs.2 17 x = J 6) (h21 : σs.2 21 x = J (m : Nat)) (h19 : σs.2 19 m = J (y : Nat)) {τ : MS} {Γ Γ1 : HS} (hc : TKc N kd vl pl Γ) (h16 : (Γ 3).1 16 = J 0) (hG1 : G0 T N kd vl pl Γ1) (hm5 : m5 Γ Γ1) (hTD : F_X4_tellDef (J (i : Nat)) Γ = loopF Dl1 FU (J (i + 3 : Nat), Γ1)) (ha : agA σs τ) (hST : STT T kd vl rv τ Γ1) (hbe : nBeh (pl (j - 1)) (flt τ)) : ∃ τ', (∀ n, loopF Ds1 (n + 1) (J (x : Nat), τ) = loopF Ds1 n (σs.2 22 x, τ')) ∧ rS τ τ' ∧ ((flt τ' = flt τ ∧ ∃ Θ : HS, CW W2 Γ i Θ j ∧ m3 Γ1 Θ ∧ G0 T N kd vl pl Θ) ∨ ∃ (f : Int) (w : Nat), (0 < f ∧ f ≤ 6) ∧ i ≤ w ∧ w < j ∧ CF W2 pl Γ i f w ∧ flt τ' = (J f, J (pl w : Nat))) := by
  have hNN := TKE_N hT
  have hT1 := hT.1
  have hr := STX_rng hS
  have h123 := STX_123 hS
  have hib : i + 3 + 2 * c ≤ b := by omega
  have hend : kd (i + 3 + 2 * c) ≠ 2 := by
    rcases hbc with ⟨z1, z2⟩ | ⟨z1, z2⟩
    · rw [show i + 3 + 2 * c = b - 1 by omega, hb1]; omega
    · rw [← z2, h123]; omega
  have step : ∀ (τ1 : MS) (u : Int32 × MS), (∀ (K : MS → MR) (N' : Nat), c < N' → loopF (Lq2 K (J (x : Nat))) N' (J (0 : Nat), J (if 0 < c then ((x + 2 + 0 : Nat) : Int) else -1), ds0 τ) = ((G_X12_seeBlock (J (y : Nat)) τ1).bind fun u => K u.2)) → rS (ds0 τ) τ1 → G_X12_seeBlock (J (y : Nat)) τ1 = some u → rS τ1 u.2 → ∀ n, loopF Ds1 (n + 1) (J (x : Nat), τ) = loopF Ds1 n (σs.2 22 x, u.2) := by
    intro τ1 u f1 f2 f3 f4 n
    rw [ds_def (by omega) (by rw [ha 17 (by omega) (by omega)]; exact h17), ha 20 (by omega) (by omega), h20]
    refine (f1 (Kx n x) FU (FU_gt (by omega))).trans ?_
    rw [f3, Option.bind_some, Kx_eq (by omega), (rS_trans ds0_rS (rS_trans f2 f4)).2 22 (by omega), ha 22 (by omega) (by omega)]
  have qw : ∀ t, i + 1 ≤ t → t < b → qp (kd t) := by
    intro t t1 t2
    have q5 : ∀ k, (k = 2 ∨ k = 44 ∨ k = 40 ∨ k = 41) → kd t = k → qp (kd t) := fun k hk e => by rw [e]; exact qp_of (by omega) (by omega) (by omega) (by omega) (by omega)
    by_cases e1 : t = i + 1
    · exact q5 2 (by omega) (by rw [e1]; exact k1)
    by_cases e2 : t = i + 2
    · exact q5 40 (by omega) (by rw [e2]; exact k2)
    by_cases e3 : t = b - 1
    · exact q5 41 (by omega) (by rw [e3]; exact hb1)
    rcases NMS_words hNS t (by omega) (by omega) with e | e
    · exact q5 2 (by omega) e
    · exact q5 44 (by omega) e
  have hRS : SRC T kd vl rv (ds0 τ) Γ1 0 0 0 (fun _ => 0) (fun _ => 0) := ⟨hG1.2.2.2.2, rfl, rfl, fun k hk => by omega⟩
  rcases dList hT hN hp hpb (σs := σs) (x := x) (m0 := m) (y := y) (n0 := x + 2) (c := c) (i := i + 3) (by omega) hm h21 h19 (by omega) hNS (by omega) hend c 0 (ds0 τ) Γ1 (fun _ => 0) (fun _ => 0) (by omega) (by omega) (agA_rS ha ds0_rS) hG1.1 hG1.2.1 hRS (STT_keep hST ds0_rS m3_rfl) with ⟨c6, Δ, τ1, ts', sl', f1, f2, f3, f4, f5, f6, f7⟩ | ⟨f, w, f1, f2, f3, ⟨Δ, f4, f5, f6, f7, f8⟩, f9⟩
  · have eTW : F_X4_tellWord (J (i : Nat)) Γ = some ((0 : Int32), Δ) := by
      rw [tw_235 hT hc (by omega) k0, hTD, show loopF Dl1 FU (J (i + 3 : Nat), Γ1) = _ from f1 FU (FU_gt (by omega))]; rfl
    have hcΔ := m3_TKc f2 hG1.1
    have eF := fs_rt hT hcΔ (show i < N by omega) (by omega)
    have m12 : m3 Δ (cI' Δ 3 12 (J (kd i))) := m3_I (by omega)
    have c1 : CW W2 Γ i (cI' Δ 3 12 (J (kd i))) (i + 1) := CW_go hT hc (by omega) h16 eTW eF ((m12.1 1 (by omega)).trans ((f2.1 1 (by omega)).trans (hm5.1 1 (by omega) (by omega))))
    have hc2 := m3_TKc m12 hcΔ
    have e16 : ((cI' Δ 3 12 (J (kd i))) 3).1 16 = J 0 := by rw [m3_16 m12, m3_16 f2]; exact hG1.2.1
    have e9 : ((cI' Δ 3 12 (J (kd i))) 3).1 9 = J (-1) := by
      show (Δ 3).1 9 = _; rw [f3]; exact hG1.2.2.1
    have c2 := W2_p hT hc2 e16 e9 (i := i + 1) (j := b) (by omega) (by omega) qw
    have hR2 : SRC T kd vl rv τ1 (cI' Δ 3 12 (J (kd i))) c c 0 ts' sl' := ⟨f4.1, f4.2⟩
    have hag := agA_rS (agA_rS ha ds0_rS) f6
    obtain ⟨u, g1, g2, g3⟩ := see0 hT hN hp hpb hS hh hhi hj hag (Γ := cI' Δ 3 12 (J (kd i))) (τ := τ1) (s := c) (m := c) ⟨hc2, e16, e9⟩ hR2 (STT_keep (STT_keep hST ds0_rS m3_rfl) f6 (m3_trans f2 m12)) (by rw [f7, ds0_flt]; exact hbe)
    refine ⟨u.2, step τ1 u f5 f6 g1 g2, rS_trans ds0_rS (rS_trans f6 g2), ?_⟩
    rcases g3 with ⟨y1, Θ, y2, y3, y4, y5, y6⟩ | ⟨f, w', y1, y2, y3, y4, y5, -⟩
    · exact Or.inl ⟨by rw [y1, f7, ds0_flt], Θ, CW_trans c1 (CW_trans c2 y2), m3_trans f2 (m3_trans m12 y3), m3_TKc y3 hc2, by rw [m3_16 y3]; exact e16, y4, y5, y6⟩
    · refine Or.inr ⟨f, w', y1, by omega, y3, CW_CF (CW_trans c1 c2) y4 (m5_cfM (m5_trans hm5 (m5_trans (m5_m3 f2) (m5_m3 m12)))), y5⟩
  · have eTW : F_X4_tellWord (J (i : Nat)) Γ = some ((0 : Int32), Δ) := by
      rw [tw_235 hT hc (by omega) k0, hTD, show loopF Dl1 FU (J (i + 3 : Nat), Γ1) = _ from f4 FU (FU_gt (by omega))]; rfl
    have hcΔ : TKc N kd vl pl Δ := by unfold TKc; rw [f6]; exact hG1.1
    have eF := fs_rt hT hcΔ (show i < N by omega) (by omega)
    have hCF : CF W2 pl Γ i f w := tw_fail2 hT hc h16 (by omega) eTW eF ⟨hcΔ.1, hcΔ.2⟩ f7 f8 f1 (cfM_trans (cfM_trans (m5_cfM hm5) f5) (m3_cfM (m3_I (by omega))))
    have hwj : pl w ≤ pl (j - 1) := by
      by_cases e : w = j - 1
      · rw [e]; exact Nat.le_refl _
      · have := hp w (j - 1) (by omega) (by omega); omega
    obtain ⟨τ1, g1, g2, g3, s', m', g4, g5⟩ := f9 (by rw [ds0_flt]; exact nBeh_le hbe hwj)
    obtain ⟨u, e1, e2, e3, -⟩ := gsee hT hp hpb h 1 lo hi y b j p q hS hhi (by omega) 70 τ1 s' m' (agA_rS (agA_rS ha ds0_rS) g2) g4 (by omega) (by unfold fO; simp; omega)
    refine ⟨u.2, step τ1 u g1 g2 e1 e2, rS_trans ds0_rS (rS_trans g2 e2), Or.inr ⟨f, w, f1, by omega, by omega, hCF, ?_⟩⟩
    rw [g3] at e3
    have hpl : pl w ≤ pl b := by have := hp w b (by omega) (by omega); omega
    exact nGe_keep e3 rfl f1 hpl (hpb _ (by omega))
