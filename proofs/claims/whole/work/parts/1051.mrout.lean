/-! what a routine's block means -/
variable {T N : Nat} {kd vl rv : Nat → Int} {pl : Nat → Nat}
set_option maxHeartbeats 2000000 in
theorem mst0 {G : Nat → HS} {Θ Γs : HS} {σs σK : MS} {DN : Nat → Nat → Nat → Prop} (hE : MEN T N kd vl rv pl G Θ Γs σs σK DN) {TX : Nat → Int → Int → Prop} {Dq : Prop} (hTX : ∀ t, t ≤ T → kd t = 4 → TX (pl t) (rv t) (vl t)) {n lo hi x i j p q : Nat} (h : STX kd vl rv pl σs Γs n 1 lo hi x i j p q) (hn : n ≤ 93) (hhi : hi ≤ 39000) (hj : j ≤ T) (hi1 : 1 ≤ i) {s m : Nat} {ts sl : Nat → Nat} {τ : MS} (hM : MID T kd vl rv G σs σK Dq i s m 0 ts sl τ) : Ok (G_X12_meanBlock (J (x : Nat)) τ) (fun u => rB lo hi τ u.2 ∧ AGM σs u.2 ∧ NT pl (badB G Θ Γs kd vl) i j (flt τ) (flt u.2) ∧ GZ T kd vl (G j) ∧ (∀ t, i < t → t < j → DPT T kd vl 1 (G t) ∧ (G t 3).1 12 = (G i 3).1 12) ∧ ((∀ w, i ≤ w → w < j → ¬ badB G Θ Γs kd vl w) → STQ (op1 Γs) (lk3 G Θ Γs kd vl) u.2.2 DN TX Dq n 1 lo hi x p q)) := by
  obtain ⟨hT, hN, hp, hpb, hX, hG⟩ := id hE
  obtain ⟨n1, n2, n3, n4⟩ := TKE_N hT
  cases n with
  | zero => exact absurd h (by simp [STX])
  | succ n =>
    have hr := STX_rng h
    unfold STX at h
    obtain ⟨b1, b2, b3, b4, h⟩ := h
    obtain ⟨en, en2⟩ := en_of (show x < 39990 by omega)
    obtain ⟨hC, h9, hS, hDq, h43⟩ := id hM
    rcases h with ⟨g0, -⟩ | ⟨g1, f, c, j', a1, a2, a3, a4, a5, a6⟩ | ⟨g2, -⟩ | ⟨g', g3, -⟩
    · omega
    · have eB : G_X12_meanBlock (J (x : Nat)) τ = F_X12_meanBlock (gM 69) (J (x : Nat)) τ := gM_b 69 x τ
      rw [eB, meanBlock_eq, if_neg en, bndE, en2, st_k hS (by omega), a5]
      obtain ⟨xs, ls, is, js, ps, c1, c2, c3, c4, c5, c6, c7, c8, c9, c10, c11⟩ := a6
      have hrng := LST_rng c4 c9 c10
      have c9' : ∀ k, k < c → is k < js k ∧ is (k + 1) = js k := fun k hk => ⟨(c9 k hk).1, by rw [(c9 k hk).2]; split <;> omega⟩
      have hls : ∀ k, k ≤ c → ls k ≤ 39000 := fun k hk => by
        have := hrng (c - k) k (by omega)
        rw [show k + (c - k) = c by omega] at this; omega
      have r0c := hrng c 0 (by omega)
      rw [Nat.zero_add] at r0c
      have his : ∀ k, k < c → js k ≤ is c := fun k hk => by
        have := hrng (c - (k + 1)) (k + 1) (by omega)
        rw [show k + 1 + (c - (k + 1)) = c by omega] at this
        have := c9' k hk; omega
      have hi0 : ∀ k, k ≤ c → i + 1 ≤ is k := fun k hk => by
        have := hrng (k - 0) 0 (by omega)
        rw [show 0 + (k - 0) = k by omega] at this; omega
      have hcc : ∀ k, k ≤ c → k ≤ is k := by
        intro k
        induction k with
        | zero => intro _; omega
        | succ k ihk => intro hk; have := ihk (by omega); have := c9' k (by omega); omega
      have hcc' := hcc c (Nat.le_refl c)
      have ef : (if 0 < c then (xs 0 : Int) else -1) = f := by
        rw [c1.1]
        by_cases q : c = 0
        · rw [if_pos q, if_neg (by omega)]
        · rw [if_neg q, if_pos (by omega)]
      have hG1 : G (i + 1) = opM (G i) s 0 := g_f hT hG (by omega) (by rw [a1]; unfold qt; omega) (fs_open hT (hG.1 i (by omega)).1 (by omega) a1 hC (by omega))
      have hM1 : MID T kd vl rv G σs σK Dq (is 0) s m (0 + 1) ts sl τ := by
        rw [c5]
        unfold MID
        rw [hG1]
        exact ⟨opM_SC hC (by omega), h9, hS, hDq, h43⟩
      have hk0' : ∀ k, k < c → kd (is k - 1) ≠ 242 := fun k hk => by
        by_cases q : k = 0
        · rw [q, c5, show i + 1 - 1 = i by omega, a1]; omega
        · have b9 := (c9' (k - 1) (by omega)).2
          rw [show k - 1 + 1 = k by omega] at b9
          rw [b9]
          have := STX_last _ _ _ _ _ _ _ _ _ (c4 (k - 1) (by omega)).2.2
          omega
      have key := mb_list (T := T) (kd := kd) (vl := vl) (rv := rv) (pl := pl) (bad := badB G Θ Γs kd vl) (G := G) (σs := σs) (σK := σK) (τ0 := τ) (Dq := Dq) (d := 69) (D := 0 + 1) (c := c) (xs := xs) (ls := ls) (is := is) (js := js) (Q := fun k R => STQ (op1 Γs) (lk3 G Θ Γs kd vl) R DN TX Dq n 0 (ls k) (ls (k + 1)) (xs k) (ps k) (ps (k + 1))) hp hpb c1.2 (fun k hk => by have := (c4 k hk).2.1; have := hls (k + 1) (by omega); omega) (fun k hk => by have := c4 k hk; omega) c9' (by omega) (fun k R S hk hQ hRS => STQ_R _ _ _ _ _ _ _ hQ hRS) (fun k s m ts sl υ hk hMk => mst hE hTX n 0 _ _ _ _ _ _ _ (c4 k hk).2.2 (hls (k + 1) (by omega)) (by have := his k hk; omega) (by have := hi0 k (by omega); omega) (hk0' k hk) 69 s m (0 + 1) ts sl υ hMk (by omega) (by unfold bO; simp; omega) (by unfold fO; simp; omega)) c 0 FU s m ts sl τ (by omega) (FU_gt (by omega)) hM1
      rw [ef] at key
      refine Ok_mono key (fun u hu => ?_)
      obtain ⟨υ, u0, u1, u2, u3, ⟨s', m', ts', sl', y1, y2, y3, y4⟩, u5, u6, u7, u8⟩ := hu
      rw [c5, c6] at u3 u8
      rw [c6] at y1 u5 u6 u7
      rw [c5] at u6 u7
      obtain ⟨Δ, f1, f2, f3, f4, f5, f6⟩ := fs_shut hT (D := 0) (L := 0) (hG.1 j' (by omega)).1 (show j' < N by omega) a2 y1 (Nat.zero_le _) ⟨fun _ => rfl, fun h => by omega⟩
      rw [if_pos rfl] at f3 f5
      have hGj : G j = Δ := by rw [a3]; exact g_f hT hG (by omega) (by rw [a2]; unfold qt; omega) f1
      have hu : u.2.2 = υ.2 := by rw [u0]; rfl
      refine ⟨?_, ?_, ?_, by rw [hGj]; exact ⟨SC_any f3, by rw [f4]; exact u5, f5⟩, fun t t1 t2 => ?_, fun hn => ?_⟩
      · rw [u0]
        exact rB_trans (rB_wide u1 c2 (by omega)) (rB_mI (by omega))
      · rw [u0]; exact u2
      · rw [u0, flt_mI (by omega) (by omega)]
        exact NT_wide hp u3 (by omega) (by omega) (by omega) (fun w w1 w2 => badB_eq (show w = i by omega) a1 (by omega)) (fun w w1 w2 => badB_eq (show w = j' by omega) a2 (by omega))
      · obtain ⟨z1, z2⟩ := u7.2 t (by omega) (by omega)
        exact ⟨z1, by rw [z2, hG1]; rfl⟩
      · show STQ _ _ _ _ _ _ _ _ _ _ _ _ _
        unfold STQ
        rw [hu]
        have z := u8 (fun w w1 w2 => hn w (by omega) (by omega))
        refine ⟨b1, b2, b4, Or.inr (Or.inl ⟨rfl, f, c, ?_, ?_, by omega, xs, ls, ps, c1.1, fun k hk => ?_, c2, c3, fun k hk => ⟨(c4 k hk).1, (c4 k hk).2.1, c10 k hk, z k (Nat.zero_le _) hk⟩, c7, c8⟩)⟩
        · rw [ag_k u2 (by omega)]; exact a4
        · rw [ag_k u2 (by omega)]; exact a5
        · rw [ag_k u2 (by omega)]; exact c1.2 k hk
    · omega
    · rcases g3 with h | h | h <;> omega
