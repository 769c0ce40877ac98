/-! a definition's list: told and seen alike -/
variable {T N : Nat} {kd vl rv : Nat → Int} {pl : Nat → Nat}
theorem dList (hT : TKE T N kd vl rv pl) (hN : NMI T kd vl rv) (hp : plm T pl) (hpb : ∀ i, i ≤ T + 1 → pl i ≤ 5000) {σs : MS} {x m0 y n0 c i : Nat} (hx : x < 39990) (hm : m0 < 39990) (h21 : σs.2 21 x = J (m0 : Nat)) (h19 : σs.2 19 m0 = J (y : Nat)) (hn : n0 + c < 39980) (hS : NMS kd rv pl σs n0 c i) (hi : i + 2 * c ≤ T) (hend : kd (i + 2 * c) ≠ 2) : ∀ (d k : Nat) (τ : MS) (Γ : HS) (ts sl : Nat → Nat), k + d = c → k ≤ 6 → agA σs τ → TKc N kd vl pl Γ → (Γ 3).1 16 = J 0 → SRC T kd vl rv τ Γ k k 0 ts sl → STT T kd vl rv τ Γ → (c ≤ 6 ∧ ∃ (Δ : HS) (τ' : MS) (ts' sl' : Nat → Nat), (∀ n, d < n → loopF Dl1 n (J (i + 2 * k : Nat), Γ) = some ((0 : Int32), Δ)) ∧ m3 Γ Δ ∧ (Δ 3).1 9 = (Γ 3).1 9 ∧ SRC T kd vl rv τ' Δ c c 0 ts' sl' ∧ (∀ (K : MS → MR) (N' : Nat), d < N' → loopF (Lq2 K (J (x : Nat))) N' (J (k : Nat), J (if k < c then ((n0 + k : Nat) : Int) else -1), τ) = ((G_X12_seeBlock (J (y : Nat)) τ').bind fun u => K u.2)) ∧ rS τ τ' ∧ flt τ' = flt τ) ∨ (∃ (f : Int) (w : Nat), (0 < f ∧ f ≤ 6) ∧ i + 2 * k ≤ w ∧ w < i + 2 * c ∧ (∃ Δ : HS, (∀ n, N - (i + 2 * k) < n → loopF Dl1 n (J (i + 2 * k : Nat), Γ) = some ((0 : Int32), Δ)) ∧ cfM Γ Δ ∧ Δ 1 = Γ 1 ∧ (Δ 3).1 16 = J f ∧ (Δ 3).1 17 = J (pl w : Nat)) ∧ (nBeh (pl w) (flt τ) → ∃ τ', (∀ (K : MS → MR) (N' : Nat), d < N' → loopF (Lq2 K (J (x : Nat))) N' (J (k : Nat), J (if k < c then ((n0 + k : Nat) : Int) else -1), τ) = ((G_X12_seeBlock (J (y : Nat)) τ').bind fun u => K u.2)) ∧ rS τ τ' ∧ flt τ' = (J f, J (pl w : Nat)) ∧ ∃ s' m', WS τ' s' m' ∧ m' ≤ k + d)) := by
  have hNN := TKE_N hT
  intro d
  induction d with
  | zero =>
    intro k τ Γ ts sl hk hk6 ha hc h16 hR hST
    obtain rfl : k = c := by omega
    refine Or.inl ⟨hk6, Γ, τ, ts, sl, fun n h0 => ?_, m3_rfl, rfl, hR, fun K N' hN' => ?_, rS_rfl, rfl⟩
    · obtain ⟨n, rfl⟩ : ∃ z, n = z + 1 := ⟨n - 1, by omega⟩
      rw [dl_step hT hc (by omega), if_neg hend]
    · obtain ⟨N', rfl⟩ : ∃ z, N' = z + 1 := ⟨N' - 1, by omega⟩
      rw [if_neg (by omega)]
      exact lq_end hx hm (by rw [ha 21 (by omega) (by omega)]; exact h21) (by rw [ha 19 (by omega) (by omega)]; exact h19) (by decide) N'
  | succ d ih =>
    intro k τ Γ ts sl hk hk6 ha hc h16 hR hST
    obtain ⟨⟨q1, q2, q3⟩, q4, q5, q6⟩ := hS k (by omega)
    have hv := SC_vl hT (show i + 2 * k ≤ T by omega) q4
    have hw := SRC_WS hR
    have hpl := hpb (i + 2 * k) (by omega)
    have e22 : τ.2 22 (n0 + k) = J (if k + 1 < c then ((n0 + (k + 1) : Nat) : Int) else -1) := by
      rw [ha 22 (by omega) (by omega), q5]; split <;> rfl
    have st : ∀ (K : MS → MR) N', loopF (Lq2 K (J (x : Nat))) (N' + 1) (J (k : Nat), J (if k < c then ((n0 + k : Nat) : Int) else -1), τ) = loopF (Lq2 K (J (x : Nat))) N' (J (k + 1 : Nat), J (if k + 1 < c then ((n0 + (k + 1) : Nat) : Int) else -1), sawS τ (lsF (flt τ) (tdB τ k (rv (i + 2 * k))) k k (pl (i + 2 * k))) k k (J (rv (i + 2 * k)))) := by
      intro K N'
      rw [if_pos (show k < c by omega)]
      have st := lq_step (pl := pl) (K := K) (τ := τ) (x := x) (y := n0 + k) (t := i + 2 * k) (s := k) (m := k) (k := k) (r := rv (i + 2 * k)) (by omega) (by rw [ha 19 (by omega) (by omega)]; exact q3) (by rw [ha 18 (by omega) (by omega)]; exact q2) (by omega) hw (by omega) N'
      rw [e22] at st
      exact st
    have htd := td_no hT hN hR hST (show i + 2 * k ≤ T by omega) q4
    have h6 : (if 6 ≤ (Γ 3).1 8 then (0 : Int32) else 1) = if 6 ≤ k then (0 : Int32) else 1 := by
      rw [hR.1.2.1]
      by_cases e : 6 ≤ k
      · rw [if_pos e, if_pos (by rw [show (6 : Int32) = J 6 from rfl, J_le (by omega) (by omega) (by omega) (by omega)]; omega)]
      · rw [if_neg e, if_neg (by rw [show (6 : Int32) = J 6 from rfl, J_le (by omega) (by omega) (by omega) (by omega)]; omega)]
    have tl := c_tellLocal (hp := if 6 ≤ k then (0 : Int32) else 1) hT hc h16 (show i + 2 * k ≤ T by omega) q4
    -- the class stops here
    have stop : ∀ f : Int, 0 < f ∧ f ≤ 6 → F_X4_tellLocal (J (i + 2 * k : Nat)) (if 6 ≤ k then (0 : Int32) else 1) Γ = some (J 0, failS Γ pl f (i + 2 * k)) → (nBeh (pl (i + 2 * k)) (flt τ) → lsF (flt τ) (tdB τ k (rv (i + 2 * k))) k k (pl (i + 2 * k)) = (J f, J (pl (i + 2 * k) : Nat))) → (∃ (f : Int) (w : Nat), (0 < f ∧ f ≤ 6) ∧ i + 2 * k ≤ w ∧ w < i + 2 * c ∧ (∃ Δ : HS, (∀ n, N - (i + 2 * k) < n → loopF Dl1 n (J (i + 2 * k : Nat), Γ) = some ((0 : Int32), Δ)) ∧ cfM Γ Δ ∧ Δ 1 = Γ 1 ∧ (Δ 3).1 16 = J f ∧ (Δ 3).1 17 = J (pl w : Nat)) ∧ (nBeh (pl w) (flt τ) → ∃ τ', (∀ (K : MS → MR) (N' : Nat), d + 1 < N' → loopF (Lq2 K (J (x : Nat))) N' (J (k : Nat), J (if k < c then ((n0 + k : Nat) : Int) else -1), τ) = ((G_X12_seeBlock (J (y : Nat)) τ').bind fun u => K u.2)) ∧ rS τ τ' ∧ flt τ' = (J f, J (pl w : Nat)) ∧ ∃ s' m', WS τ' s' m' ∧ m' ≤ k + (d + 1))) := by
      intro f hf e1 e2
      refine ⟨f, i + 2 * k, hf, Nat.le_refl _, by omega, ?_, fun hb => ?_⟩
      · have hcF : TKc N kd vl pl (failS Γ pl f (i + 2 * k)) := ⟨hc.1, hc.2⟩
        obtain ⟨Δ, s1, s2⟩ := see_any (J (vl (i + 2 * k))) (failS Γ pl f (i + 2 * k))
        have s3 := cDd_m3 s2
        have hd16 : (Δ 3).1 16 = J f := by rw [s3.2.2.1]; rfl
        obtain ⟨Θ, y1, y2⟩ := dl_dead hT hf (N - (i + 2 * k + 2)) (i + 2 * k + 2) Δ (by omega) (cDd_TKc s3 hcF) hd16 (by omega)
        have hall := cDd_trans s3 y2
        refine ⟨Θ, fun n hn => ?_, cfM_trans failS_cfM hall.1, by rw [hall.2.1]; rfl, by rw [hall.2.2.1]; rfl, by rw [hall.2.2.2]; rfl⟩
        obtain ⟨n, rfl⟩ : ∃ z, n = z + 1 := ⟨n - 1, by omega⟩
        rw [dl_step hT hc (by omega), if_pos q4, h6, e1, Option.bind_some, c_worthOf hT hcF (by omega), Option.bind_some, mrg1_id, s1, Option.bind_some]
        exact y1 n (by omega)
      · have hw2 := sawS_WS (a := lsF (flt τ) (tdB τ k (rv (i + 2 * k))) k k (pl (i + 2 * k))) (r := J (rv (i + 2 * k))) hw (by omega)
        obtain ⟨τ', f1, f2, f3, s', m', f4, f5⟩ := gList hT hp hpb hx hm h21 h19 hn hS (by omega) d (k + 1) _ _ _ (by omega) (agA_rS ha sawS_rS) hw2 (by omega)
        refine ⟨τ', fun K N' hN' => ?_, rS_trans sawS_rS f2, ?_, s', m', f4, by omega⟩
        · obtain ⟨N', rfl⟩ : ∃ z, N' = z + 1 := ⟨N' - 1, by omega⟩
          exact (st K N').trans (f1 K N' (by omega))
        · rw [sawS_flt, e2 hb] at f3
          have hlt := hp (i + 2 * k) (i + 2 * (k + 1)) (by omega) (by omega)
          exact nGe_keep f3 rfl hf (by omega) (by omega)
    by_cases b1 : tdB τ k (rv (i + 2 * k)) = false
    · have b1' := htd.mp b1
      rw [if_pos b1'] at tl
      by_cases b2 : 6 ≤ k
      · rw [if_pos b2] at tl
        rw [if_pos (show (0 : Int32) = 0 from rfl)] at tl
        refine Or.inr (stop 5 (by omega) (by rw [if_pos b2]; exact tl) (fun hb => ?_))
        unfold lsF
        rw [b1, sawF_ff, if_neg (show ¬ 14 ≤ k by omega), if_neg (by omega)]
        exact ntF_beh hb 5 (Nat.le_refl _)
      · rw [if_neg b2] at tl
        rw [if_neg (show ¬ (1 : Int32) = 0 by decide)] at tl
        have hne : ∀ z, z < k → vl (ts z) ≠ vl (i + 2 * k) := by
          intro z hz e
          obtain ⟨z1, z2, z3, z4, z5⟩ := hR.1.2.2.2.2.2.2.1 z hz
          rw [e] at z4
          have := z4.symm.trans b1'.2
          rw [J_eq (by omega) (by omega) (by omega) (by omega)] at this
          omega
        have s1 := c_see hT hR.1 (show k < 14 by omega) (show i + 2 * k ≤ T by omega) q4
        have s2 := seeS_SC hT hR.1 (show k < 14 by omega) (show i + 2 * k ≤ T by omega) q4 hne
        have hls : lsF (flt τ) (tdB τ k (rv (i + 2 * k))) k k (pl (i + 2 * k)) = flt τ := by
          unfold lsF
          rw [b1, sawF_ff, if_neg (show ¬ 14 ≤ k by omega), if_pos (by omega)]
        have hR2 : SRC T kd vl rv (sawS τ (lsF (flt τ) (tdB τ k (rv (i + 2 * k))) k k (pl (i + 2 * k))) k k (J (rv (i + 2 * k)))) (seeS Γ k k (vl (i + 2 * k))) (k + 1) (k + 1) 0 (extS ts k (i + 2 * k)) (extS sl k k) := by
          have hw2 := sawS_WS (a := lsF (flt τ) (tdB τ k (rv (i + 2 * k))) k k (pl (i + 2 * k))) (r := J (rv (i + 2 * k))) hw (by omega)
          rw [if_pos (show k < 16 by omega)] at hw2
          refine ⟨s2, hw2.1, hw2.2.2.1, fun z hz => ?_⟩
          unfold sawS
          rw [if_pos (show k < 16 by omega)]
          show upd (τ.2 31) k (J (rv (i + 2 * k))) z = _
          rw [upd_s]
          unfold extS
          by_cases e : z = k
          · rw [if_pos e, if_pos e]
          · rw [if_neg e, if_neg e]; exact hR.2.2.2 z (by omega)
        rcases ih (k + 1) _ _ _ _ (by omega) (by omega) (agA_rS ha sawS_rS) (m3_TKc seeS_m3 hc) (by rw [m3_16 seeS_m3]; exact h16) hR2 (STT_keep hST sawS_rS seeS_m3) with ⟨c6, Δ, τ', ts', sl', f1, f2, f3, f4, f5, f6, f7⟩ | ⟨f, w, f1, f2, f3, ⟨Δ, f4, f5, f6, f7, f8⟩, f9⟩
        · refine Or.inl ⟨c6, Δ, τ', ts', sl', fun n hn => ?_, m3_trans seeS_m3 f2, by rw [f3]; rfl, f4, fun K N' hN' => ?_, rS_trans sawS_rS f6, by rw [f7, sawS_flt, hls]⟩
          · obtain ⟨n, rfl⟩ : ∃ z, n = z + 1 := ⟨n - 1, by omega⟩
            rw [dl_step hT hc (by omega), if_pos q4, h6, if_neg b2, tl, Option.bind_some, c_worthOf hT hc (by omega), Option.bind_some, mrg1_id, s1, Option.bind_some]
            exact f1 n (by omega)
          · obtain ⟨N', rfl⟩ : ∃ z, N' = z + 1 := ⟨N' - 1, by omega⟩
            exact (st K N').trans (f5 K N' (by omega))
        · refine Or.inr ⟨f, w, f1, by omega, f3, ⟨Δ, fun n hn => ?_, cfM_trans (m3_cfM seeS_m3) f5, by rw [f6, seeS_m3.1 1 (by omega)], f7, f8⟩, fun hb => ?_⟩
          · obtain ⟨n, rfl⟩ : ∃ z, n = z + 1 := ⟨n - 1, by omega⟩
            rw [dl_step hT hc (by omega), if_pos q4, h6, if_neg b2, tl, Option.bind_some, c_worthOf hT hc (by omega), Option.bind_some, mrg1_id, s1, Option.bind_some]
            exact f4 n (by omega)
          · obtain ⟨τ', g1, g2, g3, s', m', g4, g5⟩ := f9 (by rw [sawS_flt, hls]; exact hb)
            refine ⟨τ', fun K N' hN' => ?_, rS_trans sawS_rS g2, g3, s', m', g4, by omega⟩
            obtain ⟨N', rfl⟩ : ∃ z, N' = z + 1 := ⟨N' - 1, by omega⟩
            exact (st K N').trans (g1 K N' (by omega))
    · have b1' : ¬ ((Γ 3).2.1 2 (vl (i + 2 * k)).toNat = J 16001 ∧ (Γ 3).2.1 5 (vl (i + 2 * k)).toNat = J 0) := fun h => b1 (htd.mpr h)
      rw [if_neg b1'] at tl
      refine Or.inr (stop 4 (by omega) tl (fun hb => ?_))
      unfold lsF
      rw [show tdB τ k (rv (i + 2 * k)) = true by simpa using b1, sawF_tt, if_neg (show ¬ 14 ≤ k by omega), ntF_beh hb 4 (Nat.le_refl _), ntF_same (by omega) hpl]
      split <;> rfl
