/-! what an expression means: frames, lists -/
variable {T N : Nat} {kd vl rv : Nat → Int} {pl : Nat → Nat}
def CTX (T : Nat) (kd vl rv : Nat → Int) (G : Nat → HS) (Θ Γs : HS) (σs σK : MS) (DN : Nat → Nat → Nat → Prop) : Prop := (∀ t, t < T → qk (kd t) → G (t + 1) = G t) ∧ KE T kd vl rv Θ σK ∧ DFE T kd vl rv Θ Γs σs σK DN ∧ ∀ u, u ≤ T → kd u = 2 → (ksF Θ vl u = 4 → nsF Θ vl u < 100) ∧ (ksF Θ vl u = 5 → nsF Θ vl u < 20) ∧ (ksF Θ vl u = 1 ∨ ksF Θ vl u = 2 → nsF Θ vl u ≤ 120)
def STM (rv : Nat → Int) (σs σK τ : MS) (s m : Nat) (ts sl : Nat → Nat) : Prop := AGM σs τ ∧ K3 σK τ ∧ WS3 rv τ s m ts sl
def rM (lo hi : Nat) (σ τ : MS) : Prop := (∀ k, k ≠ 14 → k ≠ 15 → τ.1 k = σ.1 k) ∧ (∀ k, k ≠ 20 → k ≠ 21 → τ.2 k = σ.2 k) ∧ ∀ k y, (y < lo ∨ hi ≤ y) → τ.2 k y = σ.2 k y
theorem rM_rfl {lo hi : Nat} {σ : MS} : rM lo hi σ σ := ⟨fun _ _ _ => rfl, fun _ _ _ => rfl, fun _ _ _ => rfl⟩
theorem rM_trans {lo hi : Nat} {σ τ υ : MS} (h : rM lo hi σ τ) (i : rM lo hi τ υ) : rM lo hi σ υ := ⟨fun k a b => by rw [i.1 k a b, h.1 k a b], fun k a b => by rw [i.2.1 k a b, h.2.1 k a b], fun k y a => by rw [i.2.2 k y a, h.2.2 k y a]⟩
theorem rM_wide {lo hi lo' hi' : Nat} {σ τ : MS} (h : rM lo' hi' σ τ) (h1 : lo ≤ lo') (h2 : hi' ≤ hi) : rM lo hi σ τ := ⟨h.1, h.2.1, fun k y a => h.2.2 k y (by omega)⟩
theorem rM_noF {lo hi : Nat} {σ : MS} {a : Int32 × Int32} : rM lo hi σ (noF σ a) := ⟨fun _ a b => noF_i a b, fun _ _ _ => rfl, fun _ _ _ => rfl⟩
theorem AGM_noF {σs σ : MS} {a : Int32 × Int32} (h : AGM σs σ) : AGM σs (noF σ a) := h
theorem rM_21 {lo hi x : Nat} {σ : MS} {v : Int32} (h1 : lo ≤ x) (h2 : x < hi) : rM lo hi σ (mA σ 21 (upd (σ.2 21) x v)) := ⟨fun _ _ _ => rfl, fun k a b => by rw [mA_2, if_neg b], fun k y a => by
  rw [mA_2]
  by_cases e : k = 21
  · rw [if_pos e, e, upd_s, if_neg (by omega)]
  · rw [if_neg e]⟩
theorem rM_mnR {lo hi x : Nat} {σ : MS} {B D : Int32} (h1 : lo ≤ x) (h2 : x < hi) : rM lo hi σ (mnR σ x B D) := ⟨fun _ _ _ => rfl, fun k a b => by
  unfold mnR; rw [mA_2, if_neg b, mA_2, if_neg a], fun k y a => by
  unfold mnR
  rw [mA_2]
  by_cases e : k = 21
  · rw [if_pos e, e, upd_s, if_neg (by omega)]
  · rw [if_neg e, mA_2]
    by_cases e2 : k = 20
    · rw [if_pos e2, e2, upd_s, if_neg (by omega)]
    · rw [if_neg e2]⟩
theorem AGM_21 {σs σ : MS} {x : Nat} {v : Int32} (h : AGM σs σ) (hx : σs.2 17 x = J 41 ∨ σs.2 17 x = J 42 ∨ σs.2 17 x = J 43 ∨ σs.2 17 x = J 33) : AGM σs (mA σ 21 (upd (σ.2 21) x v)) := ⟨fun k hk => by rw [mA_2, if_neg (by omega)]; exact h.1 k hk, h.2.1, fun y a b c d => by
  show upd _ _ _ _ = _
  rw [upd_s, if_neg (by rintro rfl; rcases hx with e | e | e | e; exact a e; exact b e; exact c e; exact d e)]
  exact h.2.2 y a b c d⟩
theorem AGM_mnR {σs σ : MS} {x : Nat} {B D : Int32} (h : AGM σs σ) (hx : σs.2 17 x = J 41) : AGM σs (mnR σ x B D) := by
  unfold mnR
  have h1 : AGM σs (mA σ 20 (upd (σ.2 20) x B)) := ⟨fun k hk => by rw [mA_2, if_neg (by omega)]; exact h.1 k hk, fun y a => by
    show upd _ _ _ _ = _
    rw [upd_s, if_neg (by rintro rfl; exact a hx)]
    exact h.2.1 y a, h.2.2⟩
  exact AGM_21 h1 (Or.inl hx)
theorem STM_rM {σs σK τ υ : MS} {s m lo hi : Nat} {ts sl : Nat → Nat} (h : STM rv σs σK τ s m ts sl) (i : rM lo hi τ υ) (hA : AGM σs υ) : STM rv σs σK υ s m ts sl := by
  obtain ⟨-, h2, h3⟩ := h
  refine ⟨hA, ⟨by rw [i.2.1 28 (by omega) (by omega)]; exact h2.1, by rw [i.2.1 29 (by omega) (by omega)]; exact h2.2.1, by rw [i.2.1 30 (by omega) (by omega)]; exact h2.2.2⟩, ?_⟩
  unfold WS3
  rw [i.1 33 (by omega) (by omega), i.1 34 (by omega) (by omega), i.2.1 31 (by omega) (by omega), i.2.1 32 (by omega) (by omega)]
  exact h3
/-- what the meaning of an expression gives -/
def mEx (pl : Nat → Nat) (bad : Nat → Prop) (σs : MS) (O1 : Nat → Int → Prop) (O3 : Nat → Int → Int → Prop) (DN : Nat → Nat → Nat → Prop) (n lo hi x i j p q : Nat) (τ : MS) (u : Int32 × MS) : Prop := rM lo hi τ u.2 ∧ AGM σs u.2 ∧ NT pl bad i j (flt τ) (flt u.2) ∧ ((∀ w, i ≤ w → w < j → ¬ bad w) → EXQ O1 O3 u.2.2 DN n (j - i) lo hi x p q)
theorem m_args (hp : plm T pl) (hpb : ∀ i, i ≤ T + 1 → pl i ≤ 5000) {bad : Nat → Prop} {σs σK : MS} {O1 : Nat → Int → Prop} {O3 : Nat → Int → Int → Prop} {DN : Nat → Nat → Nat → Prop} {s m : Nat} {ts sl : Nat → Nat} {c n' d : Nat} {xs ls is js ps : Nat → Nat} {P0 P1 : Int32} (h22 : ∀ k, k < c → σs.2 22 (xs k) = J (if k + 1 < c then (xs (k + 1) : Int) else -1)) (hx : ∀ k, k < c → ls k ≤ xs k ∧ xs k < ls (k + 1)) (hls : ∀ k d, k + d ≤ c → ls k ≤ ls (k + d)) (hl : ls c ≤ 39000) (hij : ∀ k, k < c → is k < js k ∧ is (k + 1) = if k + 1 < c then js k + 1 else js k) (h44 : ∀ t, kd t = 44 → ¬ bad t) (hk44 : ∀ k, k + 1 < c → kd (js k) = 44) (hic : is c ≤ T) (hel : ∀ k, k < c → ∀ τ, STM rv σs σK τ s m ts sl → Ok (gX d 0 (J (xs k : Nat)) 0 0 τ) (mEx pl bad σs O1 O3 DN n' (ls k) (ls (k + 1)) (xs k) (is k) (js k) (ps k) (ps (k + 1)) τ)) : ∀ (e k : Nat) (τ : MS), k + e = c → STM rv σs σK τ s m ts sl → ∃ υ, (∀ N', e < N' → loopF (Mc1 (gX d) P0 P1) N' (J (k : Nat), J (if k < c then (xs k : Int) else -1), τ) = loopF (Mc1 (gX d) P0 P1) (N' - e) (J (c : Nat), J (-1), υ)) ∧ rM (ls k) (ls c) τ υ ∧ AGM σs υ ∧ NT pl bad (is k) (is c) (flt τ) (flt υ) ∧ ((∀ w, is k ≤ w → w < is c → ¬ bad w) → ∀ t, k ≤ t → t < c → EXQ O1 O3 υ.2 DN n' (js t - is t) (ls t) (ls (t + 1)) (xs t) (ps t) (ps (t + 1))) := by
  have mono : ∀ e k, k + e ≤ c → is k + e ≤ is (k + e) := by
    intro e
    induction e with
    | zero => intro k _; exact Nat.le_refl _
    | succ e ih =>
      intro k hk
      have := ih k (by omega)
      have b := hij (k + e) (by omega)
      rw [show k + (e + 1) = k + e + 1 by omega, b.2]
      split <;> omega
  intro e
  induction e with
  | zero =>
    intro k τ hk hS
    obtain rfl : k = c := by omega
    exact ⟨τ, fun N' _ => by rw [if_neg (show ¬ k < k by omega), Nat.sub_zero], rM_rfl, hS.1, NT_none (fun w w1 w2 => by omega), fun _ t t1 t2 => by omega⟩
  | succ e ih =>
    intro k τ hk hS
    have hkc : k < c := by omega
    obtain ⟨u, u1, u2, u3, u4, u5⟩ := hel k hkc τ hS
    have hS2 := STM_rM hS u2 u3
    have b := hij k hkc
    have hxk := hx k hkc
    have l1 := hls (k + 1) (c - (k + 1)) (by omega)
    rw [show k + 1 + (c - (k + 1)) = c by omega] at l1
    have l0 := hls k 1 (by omega)
    have m1 := mono (c - (k + 1)) (k + 1) (by omega)
    rw [show k + 1 + (c - (k + 1)) = c by omega] at m1
    obtain ⟨υ, v1, v2, v3, v4, v5⟩ := ih (k + 1) u.2 (by omega) hS2
    have g := g_en (n := xs k) (by omega)
    have hjk : js k ≤ is (k + 1) ∧ is (k + 1) ≤ js k + 1 ∧ (js k < is (k + 1) → k + 1 < c) := by
      rw [b.2]; split <;> omega
    refine ⟨υ, fun N' hN => ?_, rM_trans (rM_wide u2 (Nat.le_refl _) (by omega)) (rM_wide v2 (by omega) (Nat.le_refl _)), v3, ?_, fun hn t t1 t2 => ?_⟩
    · obtain ⟨N', rfl⟩ : ∃ z, N' = z + 1 := ⟨N' - 1, by omega⟩
      rw [if_pos hkc, Mc1_s, if_neg (J_nlt0 (by omega) (by omega)), u1, Option.bind_some, bndE, if_neg g, bndE, (ng (n := xs k) (by omega)).2, u3.1 22 (by omega), h22 k hkc, show J (k : Nat) + 1 = J (k + 1 : Nat) by rw [J_lit, J_add]; rfl, v1 N' (by omega), show N' + 1 - (e + 1) = N' - e by omega]
    · refine NT_lr hp hpb (k := is (k + 1)) ?_ v4 (by omega) (by omega) (by omega)
      refine NT_wide hp u4 (Nat.le_refl _) (by omega) (by omega) (fun w w1 w2 => by omega) (fun w w1 w2 => ?_)
      have hc := hjk.2.2 (by omega)
      exact h44 w (by rw [show w = js k by omega]; exact hk44 k hc)
    · by_cases q : t = k
      · subst q
        refine EXQ_ag (R := u.2.2) _ _ _ _ _ _ _ (fun kk y _ y1 y2 => v2.2.2 kk y (by omega)) (fun _ _ _ _ h => h) (fun _ _ _ _ _ h => h) (fun _ _ _ h => h) (u5 (fun w w1 w2 => hn w w1 (by omega)))
      · exact v5 (fun w w1 w2 => hn w (by omega) w2) t (by omega) t2
