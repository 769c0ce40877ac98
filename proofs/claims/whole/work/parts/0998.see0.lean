/-! a routine's block, seen alike -/
variable {T N : Nat} {kd vl rv : Nat → Int} {pl : Nat → Nat}
theorem SC_any {Γ : HS} {m D : Nat} {ts sl ts' sl' : Nat → Nat} (h : SC T kd vl Γ 0 m D ts sl) : SC T kd vl Γ 0 m D ts' sl' := by
  obtain ⟨h1, h2, h3, h4, h5, h6, h7, h8, h9⟩ := h
  exact ⟨h1, h2, h3, h4, h5, h6, fun k hk => by omega, fun u hu hk _ => h8 u hu hk (fun k hk => by omega), fun k k' _ hk => by omega⟩
theorem see0 (hT : TKE T N kd vl rv pl) (hN : NMI T kd vl rv) (hp : plm T pl) (hpb : ∀ i, i ≤ T + 1 → pl i ≤ 5000) {σs : MS} {Γs : HS} {n lo hi x i j p q : Nat} (h : STX kd vl rv pl σs Γs n 1 lo hi x i j p q) (hn : n ≤ 93) (hhi : hi ≤ 39000) (hj : j ≤ T) {τ : MS} {Γ : HS} {s m : Nat} {ts sl : Nat → Nat} (ha : agA σs τ) (hc : CE N kd vl pl Γ) (hR : SRC T kd vl rv τ Γ s m 0 ts sl) (hS : STT T kd vl rv τ Γ) (hb : nBeh (pl (j - 1)) (flt τ)) : Ok (G_X12_seeBlock (J (x : Nat)) τ) fun u => rS τ u.2 ∧ ((flt u.2 = flt τ ∧ ∃ Θ : HS, CW W2 Γ i Θ j ∧ m3 Γ Θ ∧ (Θ 3).1 9 = J (-1) ∧ (Θ 3).1 12 = J 0 ∧ SC T kd vl Θ 0 0 0 (fun _ => 0) (fun _ => 0)) ∨ sFlt pl u.2 Γ i j m) := by
  obtain ⟨n1, n2, n3, n4⟩ := TKE_N hT
  cases n with
  | zero => exact absurd h (by simp [STX])
  | succ n =>
    have hr := STX_rng h
    have en := g_en (n := x) (by omega)
    have en2 := (ng (n := x) (by omega)).2
    unfold STX at h
    obtain ⟨b1, b2, b3, b4, h⟩ := h
    have hsm := hR.1.2.2.2.1
    have hm14 := hR.1.2.2.2.2.1
    rcases h with ⟨g0, -⟩ | ⟨g1, f, c, j', a1, a2, a3, a4, a5, a6⟩ | ⟨g2, -⟩ | ⟨g', g3, -⟩
    · omega
    · show Ok (gV (69 + 1) 0 (J (x : Nat)) 0 0 τ) _
      rw [q_gV_0, seeBlock_eq, if_neg en]
      refine Ok_bnd ?_
      rw [en2, ha 19 (by omega) (by omega), a5]
      obtain ⟨xs, ls, is, js, ps, c1, c2, c3, c4, c5, c6, c7, c8, c9, c10, c11⟩ := a6
      have hrng := LST_rng c4 c9 c10
      have c9' : ∀ k, k < c → is k < js k ∧ is (k + 1) = js k := fun k hk => ⟨(c9 k hk).1, by rw [(c9 k hk).2]; split <;> omega⟩
      have hls : ∀ k, k ≤ c → ls k ≤ 39000 := fun k hk => by
        have := hrng (c - k) k (by omega)
        rw [show k + (c - k) = c by omega] at this; omega
      have r0c := hrng c 0 (by omega)
      rw [Nat.zero_add] at r0c
      have his : ∀ k, k < c → js k ≤ is c := fun k hk => by
        have := hrng (c - (k + 1)) (k + 1) (by omega)
        rw [show k + 1 + (c - (k + 1)) = c by omega] at this
        have := c9' k hk; omega
      have hcc : ∀ k, k ≤ c → k ≤ is k := by
        intro k
        induction k with
        | zero => intro _; omega
        | succ k ihk => intro hk; have := ihk (by omega); have := c9' k (by omega); omega
      have hcc' := hcc c (Nat.le_refl c)
      have ef : (if 0 < c then (xs 0 : Int) else -1) = f := by
        rw [c1.1]
        by_cases q : c = 0
        · rw [if_pos q, if_neg (by omega)]
        · rw [if_neg q, if_pos (by omega)]
      have so := W2_f hT hc.1 hc.2.1 (t := i) (by omega) (by rw [a1]; unfold qt; omega) (fs_open hT hc.1 (by omega) a1 hR.1 (by omega)) rfl
      have mo : m3 Γ (opM Γ s 0) := opM_m3
      have co : CE N kd vl pl (opM Γ s 0) := CE_keep hc mo hc.2.2
      have ro : SRC T kd vl rv τ (opM Γ s 0) s m (0 + 1) ts sl := ⟨opM_SC hR.1 (by omega), hR.2⟩
      have key := see_list (N := N) (τ0 := τ) (d := 69) (D := 0 + 1) hp (show j ≤ T + 1 by omega) c1.2 c4 hls c9' (by omega) n3 hpb (fun k υ s m hk ha' hw' hm' => gsee hT hp hpb n 0 _ _ _ _ _ _ _ (c4 k hk).2.2 (hls (k + 1) (by omega)) (by have := his k hk; omega) 69 υ s m ha' hw' hm' (by unfold fO; simp; omega)) (fun k υ Γ' s m ts sl hk ha' hc' hR' hS' hb' => see hT hN hp hpb n 0 _ _ _ _ _ _ _ (c4 k hk).2.2 (hls (k + 1) (by omega)) (by have := his k hk; omega) 69 υ Γ' s m (0 + 1) ts sl ha' hc' hR' hS' (by omega) (by unfold bO; simp; omega) (by unfold fO; simp; omega) hb') ⟨s, m, SRC_WS hR⟩ c 0 FU τ (opM Γ s 0) s m ts sl (by omega) (FU_gt (by omega)) ha co ro (STT_keep hS rS_rfl mo) (by rw [c6]; rw [a3] at hb; exact hb)
      rw [ef] at key
      refine Ok_mono key (fun u hu => ⟨hu.1, ?_⟩)
      rcases hu.2 with ⟨υ, u3, Δ, s', m', ts', sl', g1, g2, g3, g4, g5, g6, g7, g8, g9, g10⟩ | g
      · left
        rw [c5, c6] at g1
        have c2 := CE_keep co g2 g3
        obtain ⟨Θ, f1, f2, f3, f4, f5, f6⟩ := fs_shut hT (D := 0) (L := 0) c2.1 (show j' < N by omega) a2 g5.1 (Nat.zero_le _) ⟨fun _ => rfl, fun h => by omega⟩
        rw [if_pos rfl] at f3 f5
        have sz := W2_f hT c2.1 c2.2.1 (t := j') (by omega) (by rw [a2]; unfold qt; omega) f1 (f2.1 1 (by omega))
        exact ⟨by rw [u3, flt_mI (by omega) (by omega), g10], Θ, CW_trans so (CW_trans g1 (by rw [a3]; exact sz)), m3_trans mo (m3_trans g2 f2), by rw [f4, g3], f5, SC_any f3⟩
      · right
        rw [c5, c6] at g
        exact sFlt_trans (m' := m) so mo (by omega) (by omega) (by obtain ⟨f', w, z1, z2, z3, z4⟩ := g; exact ⟨f', w, z1, z2, by omega, z4.1, z4.2.1, by obtain ⟨s'', m'', z5, z6⟩ := z4.2.2; exact ⟨s'', m'', z5, by omega⟩⟩)
    · omega
    · rcases g3 with ⟨h, -⟩ | ⟨h, -⟩ | ⟨h, -⟩ <;> omega
