/-! arrays: the step -/
variable {T N : Nat} {kd vl rv : Nat → Int} {pl : Nat → Nat}
def arF (pl : Nat → Nat) (vl : Nat → Int) (X : MS) (i : Nat) : Int32 × Int32 := if vl (i + 3) < 1 ∨ 400 < vl (i + 3) ∨ ¬ (X.1 39 + J (vl (i + 3)) ≤ 1000) then ntF (flt X) 5 (pl (i + 3)) else flt X
def arX (pl : Nat → Nat) (vl : Nat → Int) (X : MS) (i : Nat) : MS := noF (mI X 39 (X.1 39 + J (vl (i + 3)))) (arF pl vl X i)
theorem arS_12 {Γ : HS} {m : Int} {v : Int32} : ((arS Γ m v) 4).2.1 12 = g_put 20 ((Γ 4).2.1 12) (J m) v := rfl
theorem TKE_num (hT : TKE T N kd vl rv pl) {i : Nat} (hi : i ≤ T + 1) (hk : kd i = 3) : 0 ≤ vl i ∧ vl i ≤ 32767 := (hT.2.2.2 i hi).2.2.1 hk
theorem rArr (hT : TKE T N kd vl rv pl) (hpb : ∀ i, i ≤ T + 1 → pl i ≤ 5000) (hp : plm T pl) {σs σ : MS} {x hi i j n c : Nat} (hA : agA σs σ) (hI : ARD kd vl rv pl σs x hi i j) (hx : hi ≤ 39000) (hj : j ≤ T) (hC : CNn σ n) (hn : n ≤ 4500) (hc : σ.1 (fcq 3) = J (c : Nat)) (hc5 : c ≤ 5000) : F_X12_declareOne (J (x : Nat)) σ = some ((0 : Int32), arX pl vl (nmX rv pl σ i 20 3 c 5 c x) i) ∧ dT kd rv pl n i x σ (arX pl vl (nmX rv pl σ i 20 3 c 5 c x) i) := by
  obtain ⟨k0, k1, k2, k3, k4, k5, k6, k7, k8, k9, k10, k11, k12, k13⟩ := hI
  have hv := TKE_num hT (i := i + 3) (by omega) k3
  have hXA : agA σs (nmX rv pl σ i 20 3 c 5 c x) := nmX_agA hA (by unfold fcq; rw [if_pos (by omega)]; omega)
  constructor
  · refine rNm (w := 5) (num := (c : Nat)) (q := 3) (lim := 20) hT hA (by omega) k1 (by omega) k8 k10 k11 (Or.inr (Or.inr (Or.inr (Or.inl ⟨rfl, rfl, rfl, rfl⟩)))) hc hc5 ?_
    exact D8_5 (by omega) (by omega) (by rw [hXA 20 (by omega) (by omega)]; exact k12) (by rw [hXA 21 (by omega) (by omega)]; exact k13)
  · refine dT_nmX hp hpb (by omega) ?_ (Or.inr ⟨_, rfl⟩) hC hn (by omega) hc hc5 (by omega) (by omega) ⟨by omega, by rw [k0]; rfl, by rw [k0]; rfl, by rw [k0]; rfl⟩
    unfold arF
    rw [nmX_flt]
    have := hp i (i + 3) (by omega) (by omega)
    split
    · exact nGe_nt (by omega) (by omega) (hpb _ (by omega))
    · exact nGe_rfl
theorem iArr (hT : TKE T N kd vl rv pl) (hN : NMI T kd vl rv) (hpb : ∀ i, i ≤ T + 1 → pl i ≤ 5000) (hp : plm T pl) {σs σ : MS} {Γ : HS} {is ta : Nat → Nat} {x hi n : Nat} (hI : ARD kd vl rv pl σs x hi (is n) (is (n + 1))) (hj : is (n + 1) ≤ T) (hD : DR T kd vl rv is n σ Γ) (hG : G0 T N kd vl pl Γ) (hTA : TA T kd rv ta (is n) σ) (hTC : TAC T kd vl ta Γ) : iStp T N kd vl rv pl is n (is (n + 1)) σ (arX pl vl (nmX rv pl σ (is n) 20 3 (cN kd is 3 n) 5 (cN kd is 3 n) x) (is n)) Γ := by
  obtain ⟨k0, k1, k2, k3, k4, k5, k6, k7, k8, k9, k10, k11, k12, k13⟩ := hI
  have hNN := TKE_N hT
  have hv := TKE_num hT (i := is n + 3) (by omega) k3
  have q3 : 3 = qOf (kd (is n)) := by rw [k0]; rfl
  obtain ⟨Γ1, e1, h⟩ := nm_step (x := x) (w := 5) (num := (cN kd is 3 n : Nat)) (q := 3) (lim := 20) hT hN hpb hD hG.1 hG.2.1 hTA hTC (by omega) k1 q3 (by omega) (Or.inr (Or.inr (Or.inr (Or.inl ⟨rfl, rfl, rfl, rfl⟩))))
  have hcN : (Γ 4).2.1 0 3 = J (cN kd is 3 n : Nat) := (hD.1 3 (by omega)).1
  have hcN2 : cN kd is 3 n ≤ 200 := (hD.1 3 (by omega)).2.2
  have X39 : (nmX rv pl σ (is n) 20 3 (cN kd is 3 n) 5 (cN kd is 3 n) x).1 39 = J (smA kd vl is n) := by
    show (namS _ _ _ _ _ _ _ _).1 39 = _
    rw [namS_i (by omega) (by omega), if_neg (by decide)]; exact hD.2.1.2.1
  have tws : ∀ Δ : HS, F_X4_tellArray (J (is n : Nat)) Γ = some ((0 : Int32), Δ) → F_X4_tellWord (J (is n : Nat)) Γ = some ((0 : Int32), Δ) := fun Δ h => by rw [tw_234 hT hG.1 (by omega) k0, h]; rfl
  have e1' : F_X4_tellItem (J (is n + 1 : Nat)) 5 3 20 Γ = some (J 0, Γ1) := e1
  have hqf : qf (kd (is n)) := by rw [k0]; unfold qf; omega
  rcases h with ⟨f, f1, f2, f3⟩ | ⟨f1, f2, f3, f4, f5⟩
  · subst f2
    have hfl : F_X4_fail 5 (J (is n + 3 : Nat)) (failS Γ pl f (is n + 1)) = some (J 0, failS Γ pl f (is n + 1)) := by
      unfold F_X4_fail
      rw [if_neg (show ¬ ((failS Γ pl f (is n + 1)) 3).1 16 = 0 from Jg6_ne (by omega))]; rfl
    obtain ⟨a1, a2⟩ := c_arr (c1 := cN kd is 3 n) hT (Γ1 := failS Γ pl f (is n + 1)) ⟨hG.1.1, hG.1.2⟩ (by omega) e1' hcN (by omega) (by omega) rfl
    obtain ⟨m, v, e2⟩ : ∃ (m : Int) (v : Int32), F_X4_tellArray (J (is n : Nat)) Γ = some ((0 : Int32), arS (failS Γ pl f (is n + 1)) m v) := by
      by_cases q : (vl (is n + 3) < 1 ∨ 400 < vl (is n + 3) ∨ ¬ ((if (cN kd is 3 n : Int) - 1 ≤ 0 then 0 else g_at 20 (((failS Γ pl f (is n + 1)) 4).2.1 12) (J ((cN kd is 3 n : Int) - 1 - 1))) + J (vl (is n + 3)) ≤ 1000))
      · exact ⟨_, _, a2 _ hfl q⟩
      · exact ⟨_, _, a1 q⟩
    refine Or.inl ⟨f, is n + 1, by omega, by omega, by omega, ?_, fun hb => ?_⟩
    · exact tw_fail hT hG.1 hG.2.1 (by omega) (tws _ e2) (fs_q hT ⟨hG.1.1, hG.1.2⟩ (by omega) hqf) ⟨hG.1.1, hG.1.2⟩ rfl rfl (by omega) (fun r a1 a3 a4 a5 a6 a7 => by unfold arS; rw [cA_r, if_neg a4]; exact failS_cfM r a1 a3 a4 a5 a6 a7)
    · have e0 : nmF rv pl σ (is n) 20 (cN kd is 3 n) = (J f, J (pl (is n + 1) : Nat)) := f3 hb
      show arF pl vl _ _ = _
      have hle := hp (is n + 1) (is n + 3) (by omega) (by omega)
      have hpl3 := hpb (is n + 3) (by omega)
      have g : nGe (pl (is n + 3)) (J f, J (pl (is n + 1) : Nat)) (arF pl vl (nmX rv pl σ (is n) 20 3 (cN kd is 3 n) 5 (cN kd is 3 n) x) (is n)) := by
        unfold arF
        rw [nmX_flt, e0]
        split
        · exact nGe_nt (by omega) (Nat.le_refl _) hpl3
        · exact nGe_rfl
      exact nGe_keep g rfl (by omega) (by omega) (by omega)
  · subst f2
    have hG1 := G0_tlS (q := 3) (c := cN kd is 3 n) (v := vl (is n + 1)) (w := 5) (num := (cN kd is 3 n : Nat)) hG
    have hc1 : ((tlS Γ 3 (cN kd is 3 n) (vl (is n + 1)) 5 (cN kd is 3 n : Nat)) 4).2.1 0 3 = J (cN kd is 3 n + 1 : Nat) := rfl
    obtain ⟨⟨z1, z2⟩, z3, z4, z5⟩ := hD.2.1
    obtain ⟨a1, a2⟩ := c_arr (s := J (smA kd vl is n)) hT hG1.1 (by omega) e1' hc1 (by omega) (by omega) (by
      by_cases q : cN kd is 3 n = 0
      · rw [if_pos (by omega), z4 q]; rfl
      · rw [if_neg (by omega), q_g_at_in (n := 20) (by omega) (by omega) (by omega), show (((cN kd is 3 n + 1 : Nat) : Int) - 1 - 1).toNat = cN kd is 3 n - 1 by omega]
        exact (z5 (by omega)).symm)
    have ec : (((cN kd is 3 n + 1 : Nat) : Int) - 1) = (cN kd is 3 n : Nat) := by omega
    rw [ec] at a1 a2
    by_cases q : (vl (is n + 3) < 1 ∨ 400 < vl (is n + 3) ∨ ¬ (J (smA kd vl is n) + J (vl (is n + 3)) ≤ 1000))
    · have e5 : F_X4_fail 5 (J (is n + 3 : Nat)) (tlS Γ 3 (cN kd is 3 n) (vl (is n + 1)) 5 (cN kd is 3 n : Nat)) = some (J 0, failS (tlS Γ 3 (cN kd is 3 n) (vl (is n + 1)) 5 (cN kd is 3 n : Nat)) pl 5 (is n + 3)) := c_fail4 hT (f := 5) hG1.1 hG1.2.1 (by omega)
      have e2 := a2 _ e5 q
      refine Or.inl ⟨5, is n + 3, by omega, by omega, by omega, ?_, fun hb => ?_⟩
      · refine tw_fail hT hG.1 hG.2.1 (by omega) (tws _ e2) (fs_q hT ⟨hG1.1.1, hG1.1.2⟩ (by omega) hqf) ⟨hG1.1.1, hG1.1.2⟩ rfl rfl (by omega) (fun r b1 b3 b4 b5 b6 b7 => ?_)
        unfold arS; rw [cA_r, if_neg b4, failS_cfM r b1 b3 b4 b5 b6 b7]; exact m5_cfM tlS_m5 r b1 b3 b4 b5 b6 b7
      · show arF pl vl _ _ = _
        unfold arF
        rw [X39, if_pos q, nmX_flt, show nmF rv pl σ (is n) 20 (cN kd is 3 n) = flt σ from f1]
        exact ntF_beh hb 5 (Nat.le_refl _)
    · have e2 := a1 q
      have hb1 : 1 ≤ vl (is n + 3) ∧ vl (is n + 3) ≤ 400 := ⟨by
        by_cases z : vl (is n + 3) < 1
        · exact absurd (Or.inl z) q
        · omega, by
        by_cases z : 400 < vl (is n + 3)
        · exact absurd (Or.inr (Or.inl z)) q
        · omega⟩
      have hb2 : smA kd vl is n + vl (is n + 3) ≤ 1000 := by
        by_cases z : J (smA kd vl is n) + J (vl (is n + 3)) ≤ 1000
        · rw [J_add, show (1000 : Int32) = J 1000 from rfl, J_le (by omega) (by omega) (by omega) (by omega)] at z; exact z
        · exact absurd (Or.inr (Or.inr z)) q
      have hsm : smA kd vl is (n + 1) = smA kd vl is n + vl (is n + 3) := by rw [smA_s, if_pos k0]
      have h3n : cN kd is 3 (n + 1) = cN kd is 3 n + 1 := by rw [cN_s, if_pos q3]
      have e12 : ((arS (tlS Γ 3 (cN kd is 3 n) (vl (is n + 1)) 5 (cN kd is 3 n : Nat)) (cN kd is 3 n : Nat) (J (smA kd vl is n) + J (vl (is n + 3)))) 4).2.1 12 = upd ((Γ 4).2.1 12) (cN kd is 3 n) (J (smA kd vl is (n + 1))) := by
        rw [arS_12, show ((tlS Γ 3 (cN kd is 3 n) (vl (is n + 1)) 5 (cN kd is 3 n : Nat)) 4).2.1 12 = (Γ 4).2.1 12 from rfl, q_g_put_in (n := 20) (by omega) (by omega) (by omega), Int.toNat_natCast, J_add, ← hsm]
      have mA : m5 (tlS Γ 3 (cN kd is 3 n) (vl (is n + 1)) 5 (cN kd is 3 n : Nat)) (arS (tlS Γ 3 (cN kd is 3 n) (vl (is n + 1)) 5 (cN kd is 3 n : Nat)) (cN kd is 3 n : Nat) (J (smA kd vl is n) + J (vl (is n + 3)))) := m5_A4 (Or.inr (Or.inr rfl))
      have hG2 : G0 T N kd vl pl (arS (tlS Γ 3 (cN kd is 3 n) (vl (is n + 1)) 5 (cN kd is 3 n : Nat)) (cN kd is 3 n : Nat) (J (smA kd vl is n) + J (vl (is n + 3)))) := ⟨m5_TKc mA hG1.1, hG1.2.1, hG1.2.2.1, hG1.2.2.2.1, hG1.2.2.2.2⟩
      have q5 : ∀ t k, (k = 2 ∨ k = 91 ∨ k = 93 ∨ k = 3 ∨ k = 59) → kd t = k → qp (kd t) := fun t k hk e => by rw [e]; exact qp_of (by omega) (by omega) (by omega) (by omega) (by omega)
      have fA : flt (arX pl vl (nmX rv pl σ (is n) 20 3 (cN kd is 3 n) 5 (cN kd is 3 n) x) (is n)) = flt σ := by
        show arF pl vl _ _ = _
        unfold arF
        rw [X39, if_neg q, nmX_flt]; exact f1
      refine Or.inr ⟨fA, _, CW_trans (CW_go hT hG.1 (by omega) hG.2.1 (tws _ e2) (fs_q hT hG2.1 (by omega) hqf) rfl) (W2_p hT hG2.1 hG2.2.1 hG2.2.2.1 (i := is n + 1) (j := is (n + 1)) (by omega) (by omega) (fun t t1 t2 => ?_)), m5_trans tlS_m5 mA, hG2, ?_, ?_, ?_, ?_⟩
      · rcases (show t = is n + 1 ∨ t = is n + 2 ∨ t = is n + 3 ∨ t = is n + 4 ∨ t = is n + 5 by omega) with h | h | h | h | h
        · exact q5 t 2 (by omega) (by rw [h]; exact k1)
        · exact q5 t 91 (by omega) (by rw [h]; exact k2)
        · exact q5 t 3 (by omega) (by rw [h]; exact k3)
        · exact q5 t 93 (by omega) (by rw [h]; exact k4)
        · exact q5 t 59 (by omega) (by rw [h]; exact k5)
      · exact CN7_keep (f4 (nmF rv pl σ (is n) 20 (cN kd is 3 n))) (fun z hz => by
          show (noF _ _).1 _ = _
          rw [noF_i (by unfold fcq; split <;> omega) (by unfold fcq; split <;> omega), mI_1, if_neg (by unfold fcq; split <;> omega)]; rfl) rfl
      · refine ⟨by omega, ?_, fun h => by omega, fun _ => ?_⟩
        · show (noF _ _).1 39 = _
          rw [noF_i (by omega) (by omega), mI_1, if_pos rfl, X39, J_add, hsm]
        · rw [e12, h3n, show cN kd is 3 n + 1 - 1 = cN kd is 3 n by omega, upd_s, if_pos rfl]
      · refine ⟨hD.2.2.1.1, fun k hk => ?_⟩
        rw [e12]
        by_cases qk : k = n
        · subst qk
          exact ⟨fun h => by omega, fun _ => by rw [upd_s, if_pos rfl]⟩
        · obtain ⟨y1, y2⟩ := hD.2.2.1.2 k (by omega)
          refine ⟨y1, fun h => ?_⟩
          have hlt := cN_lt (kd := kd) (is := is) (k := k) (n := n) (by omega)
          rw [show qOf (kd (is k)) = 3 by rw [h]; rfl] at hlt
          rw [upd_s, if_neg (by omega)]
          exact y2 h
      · exact TB_keep (f3 (nmF rv pl σ (is n) 20 (cN kd is 3 n))) rfl rfl rfl rfl
