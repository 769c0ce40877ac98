/-! a row of names -/
variable {T N : Nat} {kd vl rv : Nat → Int} {pl : Nat → Nat}
/-- c names, a node each, from node n on, from word i on -/
def NMS (kd rv : Nat → Int) (pl : Nat → Nat) (σ : MS) (n c i : Nat) : Prop := ∀ k, k < c → NMN rv pl σ (n + k) (i + 2 * k) ∧ kd (i + 2 * k) = 2 ∧ σ.2 22 (n + k) = (if k + 1 < c then J (n + k + 1 : Nat) else J (-1)) ∧ (k + 1 < c → kd (i + 2 * k + 1) = 44)
def RowR (T N : Nat) (kd vl rv : Nat → Int) (pl : Nat → Nat) (B : Nat) (σ : MS) (Γ : HS) (a dp ln nn : Nat) (u : Int32 × MS) (v : Int32 × HS) : Prop :=
  u.1 = J (nn : Nat) ∧ ((∃ c, 1 ≤ c ∧ v.1 = J (c : Nat) ∧ RN T kd vl rv pl u.2 (a + 2 * c - 1) dp (nn + c) ∧ CN T N kd vl pl v.2 (a + 2 * c - 1) dp ln ∧ NMS kd rv pl u.2 nn c a ∧ kd (a + 2 * c - 1) ≠ 44 ∧ rX nn σ u.2 ∧ cXt ln 5000 Γ v.2 ∧ rfP σ u.2 ∧ cfP Γ v.2)
  ∨ ∃ f f' w i, rXX T kd vl rv pl B σ f w u.2 ∧ yXX N kd vl pl Γ f' w v.2 ∧ f = fxO kd f' w ∧ w ≤ T ∧ v.1 = J (i : Nat) ∧ i ≤ 5000)
theorem nmN_22 {σ : MS} {n a : Nat} : (nmN kd rv pl σ n a).2 22 n = J (-1) := by
  unfold nmN
  split
  · exact nod22 (σ := σ) (k := 41) (p := (pl a : Nat))
  · exact nod22 (σ := σ) (k := 41) (p := (pl a : Nat))
theorem NMN_mA' {σ : MS} {n y k : Nat} {v : Int32} (h : NMN rv pl σ y k) : NMN rv pl (mA σ 22 (upd (σ.2 22) n v)) y k := h
theorem sim_row (hT : TKE T N kd vl rv pl) {B a dp ln nn : Nat} {σ : MS} {Γ : HS} (h1 : RN T kd vl rv pl σ a dp nn) (h2 : CN T N kd vl pl Γ a dp ln) (hp : preS T B a dp ln nn) : Ok2 (F_X12_row σ) (F_X2_names Γ) (RowR T N kd vl rv pl B σ Γ a dp ln nn) := by
  unfold preS at hp
  obtain ⟨n1, n2, n3, n4⟩ := TKE_N hT
  have ha := h1.2.2.2.2.2.2.1
  unfold F_X12_row F_X2_names
  refine Ok2_le (r_name hT h1 (by omega)) ?_
  refine Ok2_re (show F_X2_need 2 Γ = _ from c_need hT h2 (c := 2) (by omega)) ?_
  dsimp only
  refine Ok2_loop (P := fun s t k => (∃ (c : Nat) (τ : MS) (Δ : HS), s = (J (nn + c - 1 : Nat), τ) ∧ t = (J (c : Nat), Δ) ∧ 1 ≤ c ∧ T + 2 - (a + 2 * c - 1) ≤ k ∧ RN T kd vl rv pl τ (a + 2 * c - 1) dp (nn + c) ∧ CN T N kd vl pl Δ (a + 2 * c - 1) dp ln ∧ NMS kd rv pl τ nn c a ∧ rX nn σ τ ∧ cXt ln 5000 Γ Δ ∧ rfP σ τ ∧ cfP Γ Δ) ∨ (∃ f f' w i, rXX T kd vl rv pl B σ f w s.2 ∧ yXX N kd vl pl Γ f' w t.2 ∧ f = fxO kd f' w ∧ w ≤ T ∧ t.1 = J (i : Nat) ∧ i ≤ 5000)) ?_ FU FU _ _ (T + 2) (FU_gt (by omega)) (FU_gt (by omega)) ?_
  · rintro b1 b2 s t k hP ih
    rcases hP with ⟨c, τ, Δ, rfl, rfl, p1, p2, p3, p4, p5, p6, p7, p8, p9⟩ | ⟨f, f', w, i, x1, x2, x3, x4, x5, x6⟩
    · have hac := p3.2.2.2.2.2.2.1
      refine Ok2_rneg (by show ¬ ((Δ 1).1 2 ≤ J (c : Nat)); rw [p4.1.1, J_le (by omega) (by omega) (by omega) (by omega)]; omega) ?_
      dsimp only
      refine Ok2_le (show F_X12_took 44 τ = _ from r_took hT p3 (c := 44) (by decide)) ?_
      refine Ok2_re (show F_X2_accept 44 Δ = _ from c_accept hT p4 (c := 44) (by omega)) ?_
      by_cases q : kd (a + 2 * c - 1) = 44
      · rw [if_pos q, if_pos q]
        have hcT := TKE_lt hT hac (by omega) (by omega)
        refine Ok2_lneg J1_ne (Ok2_rneg J1_ne ?_)
        dsimp only
        have r1 := RN_psd p3 hcT
        have c1 := CN_cps hT p4 hcT
        rw [show a + 2 * c - 1 + 1 = a + 2 * c by omega] at r1 c1
        have g := ng (n := nn + c - 1) (by omega)
        refine Ok2_le (r_name hT r1 (by omega)) (Ok2_lneg g.1 (Ok2_lbnd ?_))
        rw [g.2]
        refine Ok2_re (show F_X2_need 2 (cps kd Δ (a + 2 * c - 1)) = _ from c_need hT c1 (c := 2) (by omega)) (Ok2_rbnd ?_)
        dsimp only
        rw [show J (c : Nat) + 1 = J (c + 1 : Nat) by rw [J_lit, J_add]; rfl]
        have u1 : rX (nn + c) τ (nmN kd rv pl (psd τ (a + 2 * c - 1)) (nn + c) (a + 2 * c)) := rX_trans rX_psd nmN_rX (Nat.le_refl (nn + c))
        have u2 : rX nn σ (mA (nmN kd rv pl (psd τ (a + 2 * c - 1)) (nn + c) (a + 2 * c)) 22 (upd ((nmN kd rv pl (psd τ (a + 2 * c - 1)) (nn + c) (a + 2 * c)).2 22) (nn + c - 1) (J (nn + c : Nat)))) := rX_trans p6 (rX_trans (rX_le u1 (by omega)) (rX_mA (by omega)) (Nat.le_refl nn)) (Nat.le_refl nn)
        have u3 : rfP σ (mA (nmN kd rv pl (psd τ (a + 2 * c - 1)) (nn + c) (a + 2 * c)) 22 (upd ((nmN kd rv pl (psd τ (a + 2 * c - 1)) (nn + c) (a + 2 * c)).2 22) (nn + c - 1) (J (nn + c : Nat)))) := rfP_trans p8 (rfP_trans rfP_psd (rfP_trans nmN_rfP (rfP_mA (by omega))))
        by_cases q2 : kd (a + 2 * c) = 2
        · rw [if_pos q2]
          have hcT2 := TKE_lt hT c1.2.2.2.2.2.2.1 (by omega) (by omega)
          refine ih _ _ (T + 2 - (a + 2 * (c + 1) - 1)) (by omega) (Or.inl ⟨c + 1, _, _, rfl, rfl, by omega, Nat.le_refl _, ?_, ?_, ?_, u2, ?_, u3, cfP_trans p9 (cfP_trans cfP_cps cfP_cps)⟩)
          · rw [show a + 2 * (c + 1) - 1 = a + 2 * c + 1 by omega, show nn + (c + 1) = nn + c + 1 by omega]
            exact RN_mA (nmN_RN hT r1 q2) (by omega) (by omega) (by omega)
          · rw [show a + 2 * (c + 1) - 1 = a + 2 * c + 1 by omega]
            exact CN_cps hT c1 hcT2
          · intro k hk
            by_cases qk : k = c
            · subst qk
              refine ⟨NMN_mA (nmN_NMN (σ := psd τ (a + 2 * k - 1)) (n := nn + k) q2) (by omega), q2, ?_, fun h => absurd h (by omega)⟩
              rw [if_neg (by omega)]
              show upd _ _ _ _ = _; rw [upd_s, if_neg (by omega)]
              exact nmN_22
            · obtain ⟨s1, s2, s3, s4⟩ := p5 k (by omega)
              refine ⟨NMN_mA' (NMN_rX s1 u1 (by omega)), s2, ?_, fun _ => ?_⟩
              · rw [if_pos (by omega)]
                show upd _ _ _ _ = _
                rw [upd_s]
                by_cases q5 : k + 1 = c
                · rw [if_pos (by omega)]; exact congrArg J (by omega)
                · rw [if_neg (by omega), u1 22 (by omega) (by omega) (nn + k) (by omega), s3, if_pos (by omega)]
              · by_cases q5 : k + 1 = c
                · rw [show a + 2 * k + 1 = a + 2 * c - 1 by omega]; exact q
                · exact s4 (by omega)
          · exact cXt_trans p7 (cXt_trans cXt_cps cXt_cps (Nat.le_refl ln) (Nat.le_refl 5000)) (Nat.le_refl ln) (Nat.le_refl 5000)
        · rw [if_neg q2]
          refine ih _ _ (k - 1) (by omega) (Or.inr ⟨_, 2, a + 2 * c, c + 1, ⟨⟨nn + c + 1, RX_mA (nmN_RX r1 q2) (by omega) (by omega) (by omega), by omega⟩, u3⟩, ⟨CX_cfl c1 (Or.inl rfl), cfP_trans p9 (cfP_trans cfP_cps cfP_cfl)⟩, rfl, by have := c1.2.2.2.2.2.2.1; omega, rfl, by omega⟩)
      · rw [if_neg q, if_neg q]
        refine Ok2_lpos J0_eq (Ok2_rpos J0_eq (Ok2_some ⟨rfl, Or.inl ⟨c, p1, rfl, p3, p4, p5, q, p6, p7, p8, p9⟩⟩))
    · obtain ⟨⟨n0, a1, b1'⟩, d1⟩ := x1
      refine Ok2_le (x_took a1 44) (Ok2_lpos J0_eq ?_)
      have fin : RowR T N kd vl rv pl B σ Γ a dp ln nn (J (nn : Nat), s.2) (t.1, t.2) := ⟨rfl, Or.inr ⟨f, f', w, i, ⟨⟨n0, a1, b1'⟩, d1⟩, x2, x3, x4, x5, x6⟩⟩
      by_cases q : (t.2 1).1 2 ≤ t.1
      · exact Ok2_rpos q (Ok2_some fin)
      · refine Ok2_rneg q (Ok2_re (show F_X2_accept 44 t.2 = _ from y_accept x2.1 (c := 44) (by omega)) (Ok2_rpos J0_eq (Ok2_some fin)))
  · by_cases q : kd a = 2
    · rw [if_pos q]
      have haT := TKE_lt hT ha (by omega) (by omega)
      refine Or.inl ⟨1, _, _, rfl, rfl, Nat.le_refl _, by omega, nmN_RN hT h1 q, CN_cps hT h2 haT, ?_, nmN_rX, cXt_cps, nmN_rfP, cfP_cps⟩
      intro k hk
      rw [show k = 0 by omega]
      exact ⟨nmN_NMN q, q, by rw [if_neg (by omega)]; exact nmN_22, fun h => absurd h (by omega)⟩
    · rw [if_neg q]
      exact Or.inr ⟨_, 2, a, 1, ⟨⟨nn + 1, nmN_RX h1 q, by omega⟩, nmN_rfP⟩, ⟨CX_cfl h2 (Or.inl rfl), cfP_cfl⟩, rfl, ha, rfl, by omega⟩
