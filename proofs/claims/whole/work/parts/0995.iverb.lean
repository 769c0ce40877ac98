/-! verbs: the step -/
variable {T N : Nat} {kd vl rv : Nat → Int} {pl : Nat → Nat}
theorem fmS_7 {Γ : HS} {c : Nat} {v : Int32} : ((fmS Γ c v) 4).2.1 7 = g_put 61 ((Γ 4).2.1 7) (J (c : Nat)) v := rfl
theorem iVerb (hT : TKE T N kd vl rv pl) (hN : NMI T kd vl rv) (hpb : ∀ i, i ≤ T + 1 → pl i ≤ 5000) (hp : plm T pl) {σs σ : MS} {Γ : HS} {is ta : Nat → Nat} {x n d : Nat} (k0 : kd (is n) = 232) (k1 : kd (is n + 1) = 2) (hd : 1 ≤ d ∧ is n + 2 * d + 3 ≤ is (n + 1) ∧ NMS kd rv pl σs (x + 2) d (is n + 2) ∧ 213 ≤ kd (is n + 1 + 2 * d) ∧ kd (is n + 1 + 2 * d) ≤ 215 ∧ fmO kd (is (n + 1)) = kd (is n + 1 + 2 * d) - 213 ∧ ∀ t, is n < t → t < is (n + 1) → qp (kd t)) (hj : is (n + 1) ≤ T) (hD : DR T kd vl rv is n σ Γ) (hG : G0 T N kd vl pl Γ) (hTA : TA T kd rv ta (is n) σ) (hTC : TAC T kd vl ta Γ) : iStp T N kd vl rv pl is n (is (n + 1)) σ (vbX pl (nmX rv pl σ (is n) 60 1 (cN kd is 1 n) 3 (cN kd is 1 n + 1 : Nat) x) (is n) d) Γ := by
  obtain ⟨d1, d2, d3, d4, d5, d6, d7⟩ := hd
  have hNN := TKE_N hT
  have q3 : 1 = qOf (kd (is n)) := by rw [k0]; rfl
  obtain ⟨Γ1, e1, h⟩ := nm_step (x := x) (w := 3) (num := (cN kd is 1 n + 1 : Nat)) (q := 1) (lim := 60) hT hN hpb hD hG.1 hG.2.1 hTA hTC (by omega) k1 q3 (by omega) (Or.inr (Or.inl ⟨rfl, rfl, rfl, rfl⟩))
  have hcN2 : cN kd is 1 n ≤ 200 := (hD.1 1 (by omega)).2.2
  have tws : ∀ Δ : HS, F_X4_tellVerb (J (is n : Nat)) Γ = some ((0 : Int32), Δ) → F_X4_tellWord (J (is n : Nat)) Γ = some ((0 : Int32), Δ) := fun Δ h => by rw [tw_232 hT hG.1 (by omega) k0, h]; rfl
  have e1' : F_X4_tellItem (J (is n + 1 : Nat)) 3 1 60 Γ = some (J 0, Γ1) := e1
  have hqf : qf (kd (is n)) := by rw [k0]; unfold qf; omega
  rcases h with ⟨f, f1, f2, f3⟩ | ⟨f1, f2, f3, f4, f5⟩
  · subst f2
    have e2 : F_X4_tellVerb (J (is n : Nat)) Γ = some ((0 : Int32), failS Γ pl f (is n + 1)) := by
      unfold F_X4_tellVerb
      rw [show J (is n : Nat) + 1 = J (is n + 1 : Nat) by rw [J_lit, J_add]; rfl, e1', Option.bind_some, if_neg (show ¬ ((failS Γ pl f (is n + 1)) 3).1 16 = 0 from Jg6_ne (by omega))]
    refine Or.inl ⟨f, is n + 1, by omega, by omega, by omega, ?_, fun hb => ?_⟩
    · exact tw_fail hT hG.1 hG.2.1 (by omega) (tws _ e2) (fs_q hT ⟨hG.1.1, hG.1.2⟩ (by omega) hqf) ⟨hG.1.1, hG.1.2⟩ rfl rfl (by omega) failS_cfM
    · have e0 : nmF rv pl σ (is n) 60 (cN kd is 1 n) = (J f, J (pl (is n + 1) : Nat)) := f3 hb
      have hle := hp (is n + 1) (is n + 2) (by omega) (by omega)
      have g := twF_nGe hp hpb d 0 (is n + 2) (flt (nmX rv pl σ (is n) 60 1 (cN kd is 1 n) 3 (cN kd is 1 n + 1 : Nat) x)) (by omega)
      rw [nmX_flt, e0] at g
      show twF pl _ 0 (is n + 2) d = _
      rw [nmX_flt, e0]
      exact nGe_keep g rfl (by omega) (by omega) (hpb _ (by omega))
  · subst f2
    have hG1 := G0_tlS (q := 1) (c := cN kd is 1 n) (v := vl (is n + 1)) (w := 3) (num := (cN kd is 1 n + 1 : Nat)) hG
    have hc1 : ((tlS Γ 1 (cN kd is 1 n) (vl (is n + 1)) 3 (cN kd is 1 n + 1 : Nat)) 4).2.1 0 1 = J (cN kd is 1 n + 1 : Nat) := rfl
    have e2 := c_verb (c := d) hT hG1.1 hG1.2.1 (by omega) e1' hc1 d1 (fun k hk => (d3 k hk).2.1) (fun k hk => (d3 k (by omega)).2.2.2 hk) (by rw [show is n + 2 + 2 * d - 1 = is n + 1 + 2 * d by omega]; omega)
    rw [show is n + 2 + 2 * d - 1 = is n + 1 + 2 * d by omega] at e2
    have fX : nmF rv pl σ (is n) 60 (cN kd is 1 n) = flt σ := f1
    by_cases q : d ≤ 10
    · rw [if_pos q] at e2
      have mA : m5 (tlS Γ 1 (cN kd is 1 n) (vl (is n + 1)) 3 (cN kd is 1 n + 1 : Nat)) (fmS (cI' (tlS Γ 1 (cN kd is 1 n) (vl (is n + 1)) 3 (cN kd is 1 n + 1 : Nat)) 3 14 (J (d : Nat))) (cN kd is 1 n + 1) (J (kd (is n + 1 + 2 * d) - 213))) := m5_trans m5_I (m5_A4 (Or.inr (Or.inl rfl)))
      have hG2 : G0 T N kd vl pl (fmS (cI' (tlS Γ 1 (cN kd is 1 n) (vl (is n + 1)) 3 (cN kd is 1 n + 1 : Nat)) 3 14 (J (d : Nat))) (cN kd is 1 n + 1) (J (kd (is n + 1 + 2 * d) - 213))) := ⟨m5_TKc mA hG1.1, hG1.2.1, hG1.2.2.1, hG1.2.2.2.1, hG1.2.2.2.2⟩
      have hX : vbX pl (nmX rv pl σ (is n) 60 1 (cN kd is 1 n) 3 (cN kd is 1 n + 1 : Nat) x) (is n) d = nmX rv pl σ (is n) 60 1 (cN kd is 1 n) 3 (cN kd is 1 n + 1 : Nat) x := by
        unfold vbX
        rw [twF_no d 0 (is n + 2) (by omega), noF_id]
      rw [hX]
      have e7 : ((fmS (cI' (tlS Γ 1 (cN kd is 1 n) (vl (is n + 1)) 3 (cN kd is 1 n + 1 : Nat)) 3 14 (J (d : Nat))) (cN kd is 1 n + 1) (J (kd (is n + 1 + 2 * d) - 213))) 4).2.1 7 = upd ((Γ 4).2.1 7) (cN kd is 1 n + 1) (J (fmO kd (is (n + 1)))) := by
        rw [fmS_7, show ((cI' (tlS Γ 1 (cN kd is 1 n) (vl (is n + 1)) 3 (cN kd is 1 n + 1 : Nat)) 3 14 (J (d : Nat))) 4).2.1 7 = (Γ 4).2.1 7 from rfl, q_g_put_in (n := 61) (by omega) (by omega) (by omega), Int.toNat_natCast, d6]
      refine Or.inr ⟨by rw [nmX_flt]; exact f1, _, CW_trans (CW_go hT hG.1 (by omega) hG.2.1 (tws _ e2) (fs_q hT hG2.1 (by omega) hqf) rfl) (W2_p hT hG2.1 hG2.2.1 hG2.2.2.1 (i := is n + 1) (j := is (n + 1)) (by omega) (by omega) (fun t t1 t2 => d7 t (by omega) t2)), m5_trans tlS_m5 mA, hG2, ?_, ?_, ?_, ?_⟩
      · exact CN7_keep (f4 (nmF rv pl σ (is n) 60 (cN kd is 1 n))) (fun z hz => rfl) rfl
      · refine CLs_s hD.2.1 (by omega) (by omega) ?_ rfl
        show (namS _ _ _ _ _ _ _ _).1 39 = _
        rw [namS_i (by omega) (by omega), if_neg (by decide)]
      · refine ⟨fun v v1 v2 => ?_, fun k hk => ?_⟩
        · have := cN_mono (kd := kd) (is := is) (q := 1) n 0
          rw [Nat.zero_add, show cN kd is 1 0 = 11 from rfl] at this
          rw [e7, upd_s, if_neg (by omega)]; exact hD.2.2.1.1 v v1 v2
        rw [e7]
        by_cases qk : k = n
        · subst qk
          exact ⟨fun _ => by rw [upd_s, if_pos rfl], fun h => by omega⟩
        · obtain ⟨y1, y2⟩ := hD.2.2.1.2 k (by omega)
          refine ⟨fun h => ?_, y2⟩
          have hlt := cN_lt (kd := kd) (is := is) (k := k) (n := n) (by omega)
          rw [show qOf (kd (is k)) = 1 by rw [h]; rfl] at hlt
          rw [upd_s, if_neg (by omega)]
          exact y1 h
      · exact TB_keep (f3 (nmF rv pl σ (is n) 60 (cN kd is 1 n))) rfl rfl rfl rfl
    · rw [if_neg q] at e2
      refine Or.inl ⟨5, is n + 2 + 20, by omega, by omega, by omega, ?_, fun hb => ?_⟩
      · refine tw_fail hT hG.1 hG.2.1 (by omega) (tws _ e2) (fs_q hT ⟨hG1.1.1, hG1.1.2⟩ (by omega) hqf) ⟨hG1.1.1, hG1.1.2⟩ rfl rfl (by omega) (fun r b1 b3 b4 b5 b6 b7 => ?_)
        unfold fmS; rw [cA_r, if_neg b4, failS_cfM r b1 b3 b4 b5 b6 b7, cI_r, if_neg b3]; exact m5_cfM tlS_m5 r b1 b3 b4 b5 b6 b7
      · show twF pl _ 0 (is n + 2) d = _
        rw [nmX_flt, fX]
        exact twF_yes hp hpb d 0 (is n + 2) (flt σ) (by omega) (by omega) (by omega) hb
