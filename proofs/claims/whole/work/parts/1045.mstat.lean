/-! what statements and blocks mean -/
variable {T N : Nat} {kd vl rv : Nat → Int} {pl : Nat → Nat}
theorem STX_first {σ : MS} {Γ : HS} : ∀ (n g lo hi x i j p q : Nat), STX kd vl rv pl σ Γ n g lo hi x i j p q → (g = 1 ∨ g = 3) → kd i = 123 := by
  intro n
  induction n with
  | zero => intro g lo hi x i j p q h; exact absurd h (by simp [STX])
  | succ n ih =>
    intro g lo hi x i j p q h hg
    unfold STX at h
    obtain ⟨-, -, -, -, h⟩ := h
    rcases h with ⟨g0, -⟩ | ⟨g1, f, c, j', a1, a2, a3, a4, -⟩ | ⟨g2, a1, -⟩ | ⟨g', g3, a1⟩
    · exfalso; omega
    · exact a1
    · exfalso; clear a1; omega
    · have hg' : g' = 1 ∨ g' = 3 := by clear ih a1; omega
      exact ih _ _ _ _ _ _ _ _ a1 hg'
theorem STX_last {σ : MS} {Γ : HS} : ∀ (n g lo hi x i j p q : Nat), STX kd vl rv pl σ Γ n g lo hi x i j p q → kd (j - 1) = 59 ∨ kd (j - 1) = 125 := by
  intro n
  induction n with
  | zero => intro g lo hi x i j p q h; exact absurd h (by simp [STX])
  | succ n ih =>
    intro g lo hi x i j p q h
    unfold STX at h
    rcases h.2.2.2.2 with ⟨g0, hpq, h18, h⟩ | ⟨g1, f, c, j', a1, a2, a3, a4, -⟩ | ⟨g2, a0, e, b, k, k2, m3', m2, r, r2, t, a1, a2, a3, a4, a5, a6, a7, a9, a10⟩ | ⟨g', g3, a1⟩
    · rcases h with ⟨j', a1, a2, a3⟩ | ⟨a1, a2, a3⟩ | ⟨e, b, k, m3', r, q', a1, a2, a3, a4, a5, a6, a7, a8, a9, a10, a11⟩
      · left; rw [a1]; exact a2
      · exact ih _ _ _ _ _ _ _ _ a3
      · exact ih _ _ _ _ _ _ _ _ a11
    · right; rw [a3]; exact a2
    · rcases a10 with ⟨c1, c2, c3, c4, c5⟩ | ⟨c1, c2, c3, y, c4, ⟨c5, c6, c7⟩ | ⟨c5, c6⟩⟩
      · rw [c2]; exact ih _ _ _ _ _ _ _ _ a9
      · exact ih _ _ _ _ _ _ _ _ c7
      · exact ih _ _ _ _ _ _ _ _ c6
    · exact ih _ _ _ _ _ _ _ _ a1
def cM (g : Nat) : Nat := if g = 1 ∨ g = 3 then 1 else 0
/-- what goes on between statements -/
def MID (T : Nat) (kd vl rv : Nat → Int) (G : Nat → HS) (σs σK : MS) (Dq : Prop) (i s m D : Nat) (ts sl : Nat → Nat) (τ : MS) : Prop := SC T kd vl (G i) s m D ts sl ∧ (G i 3).1 9 = J (-1) ∧ STM rv σs σK τ s m ts sl ∧ ((G i 3).1 12 = J 235 ↔ Dq) ∧ (τ.1 43 = 0 ↔ ¬ Dq)
theorem MID_mSt {G : Nat → HS} {σs σK : MS} {Dq : Prop} {bad : Nat → Prop} {Q : (Nat → Nat → Int32) → Prop} {lo hi i j s m D : Nat} {ts sl : Nat → Nat} {τ : MS} {u : Int32 × MS} (h : MID T kd vl rv G σs σK Dq i s m D ts sl τ) (g : mSt T kd vl rv pl bad σs G Q lo hi i j s D ts sl τ u) : ∃ (s' m' : Nat) (ts' sl' : Nat → Nat), MID T kd vl rv G σs σK Dq j s' m' D ts' sl' u.2 ∧ s ≤ s' ∧ ∀ k, k < s → ts' k = ts k ∧ sl' k = sl k := by
  obtain ⟨h1, h2, h3, h4, h5⟩ := h
  obtain ⟨g1, g2, g3, ⟨s', m', ts', sl', a1, a2, a3, a4⟩, g5, g6, g7, g8⟩ := g
  exact ⟨s', m', ts', sl', ⟨a1, g5, ⟨g2, K3_rB h3.2.1 g1, a2⟩, by rw [g6]; exact h4, by rw [g1.1 43 (by omega) (by omega) (by omega) (by omega)]; exact h5⟩, a3, a4⟩
/-- one behind the other -/
theorem mSt_seq (hp : plm T pl) (hpb : ∀ i, i ≤ T + 1 → pl i ≤ 5000) {G : Nat → HS} {σs : MS} {bad : Nat → Prop} {Q Q2 Q3 : (Nat → Nat → Int32) → Prop} {lo hi lo1 hi1 lo2 hi2 i j k s s' D : Nat} {ts sl ts' sl' : Nat → Nat} {τ : MS} {u v : Int32 × MS} (h : mSt T kd vl rv pl bad σs G Q lo1 hi1 i k s D ts sl τ u) (g : mSt T kd vl rv pl bad σs G Q2 lo2 hi2 k j s' D ts' sl' u.2 v) (hs : s ≤ s') (hpre : ∀ k, k < s → ts' k = ts k ∧ sl' k = sl k) (l1 : lo ≤ lo1) (l2 : hi1 ≤ hi) (l3 : lo ≤ lo2) (l4 : hi2 ≤ hi) (hik : i ≤ k) (hkj : k ≤ j) (hj : j ≤ T + 1) (hQ : Q u.2.2 → Q2 v.2.2 → Q3 v.2.2) : mSt T kd vl rv pl bad σs G Q3 lo hi i j s D ts sl τ v := by
  obtain ⟨h1, h2, h3, -, h5, h6, h7, h8⟩ := h
  obtain ⟨g1, g2, g3, ⟨s2, m2, ts2, sl2, b1, b2, b3, b4⟩, g5, g6, g7, g8⟩ := g
  exact ⟨rB_trans (rB_wide h1 l1 l2) (rB_wide g1 l3 l4), g2, NT_lr hp hpb h3 g3 hik hkj hj, ⟨s2, m2, ts2, sl2, b1, b2, by omega, fun z hz => ⟨by rw [(b4 z (by omega)).1, (hpre z hz).1], by rw [(b4 z (by omega)).2, (hpre z hz).2]⟩⟩, g5, by rw [g6, h6], ⟨fun d hd => by rw [g7.1 d hd, h7.1 d hd], fun t t1 t2 => by
    by_cases q : t ≤ k
    · exact h7.2 t t1 q
    · have z := g7.2 t (by omega) t2
      exact ⟨z.1, z.2.trans h6⟩⟩, fun hn => hQ (h8 (fun w w1 w2 => hn w w1 (by omega))) (g8 (fun w w1 w2 => hn w (by omega) w2))⟩
/-- some words that change nothing come first -/
theorem mSt_pre (hp : plm T pl) {G : Nat → HS} {σs : MS} {bad : Nat → Prop} {Q Q2 : (Nat → Nat → Int32) → Prop} {lo hi i j k s D : Nat} {ts sl : Nat → Nat} {τ : MS} {u : Int32 × MS} (h : mSt T kd vl rv pl bad σs G Q lo hi k j s D ts sl τ u) (hGa : ∀ t, i ≤ t → t ≤ k → G t = G i) (hik : i ≤ k) (hkj : k ≤ j) (hk : k ≤ T + 1) (hb : ∀ t, i ≤ t → t < k → ¬ bad t) (hQ : Q u.2.2 → Q2 u.2.2) : mSt T kd vl rv pl bad σs G Q2 lo hi i j s D ts sl τ u := by
  have hG := hGa k hik (Nat.le_refl _)
  obtain ⟨h1, h2, h3, h4, h5, h6, h7, h8⟩ := h
  exact ⟨h1, h2, NT_wide hp h3 hik (Nat.le_refl _) hk hb (fun w w1 w2 => by omega), h4, h5, by rw [h6, hG], ⟨fun d hd => by rw [h7.1 d hd, hG], fun t t1 t2 => by
    by_cases q : t ≤ k
    · rw [hGa t t1 q, ← hG]; exact ⟨(h7.2 k (Nat.le_refl _) hkj).1, rfl⟩
    · have z := h7.2 t (by omega) t2
      exact ⟨z.1, by rw [z.2, hG]⟩⟩, fun hn => hQ (h8 (fun w w1 w2 => hn w (by omega) w2))⟩
/-- an expression as a piece -/
theorem mSt_ex {G : Nat → HS} {σs σK : MS} {Dq : Prop} {bad : Nat → Prop} {O1 : Nat → Int → Prop} {O3 : Nat → Int → Int → Prop} {DN : Nat → Nat → Nat → Prop} {lo hi x i j p q s m D : Nat} {ts sl : Nat → Nat} {τ : MS} {u : Int32 × MS} (hM : MID T kd vl rv G σs σK Dq i s m D ts sl τ) (h : mEq pl bad σs O1 O3 DN lo hi x i j p q τ u) (hij : i ≤ j) (hGa : ∀ t, i ≤ t → t ≤ j → G t = G i) : mSt T kd vl rv pl bad σs G (fun R => EQx O1 O3 R DN lo hi x p q) lo hi i j s D ts sl τ u := by
  have hG := hGa j hij (Nat.le_refl _)
  obtain ⟨h1, h2, h3, h4⟩ := h
  exact ⟨rB_rM h1, h2, h3, ⟨s, m, ts, sl, by rw [hG]; exact hM.1, WS3_rM hM.2.2.1.2.2 h1, Nat.le_refl _, fun _ _ => ⟨rfl, rfl⟩⟩, by rw [hG]; exact hM.2.1, by rw [hG], ⟨fun _ _ => by rw [hG], fun t t1 t2 => by rw [hGa t t1 t2]; exact ⟨DPT_SC hM.1, rfl⟩⟩, h4⟩
/-- the statements of a block -/
theorem mb_list (hp : plm T pl) (hpb : ∀ i, i ≤ T + 1 → pl i ≤ 5000) {G : Nat → HS} {σs σK τ0 : MS} {Dq : Prop} {bad : Nat → Prop} {c d D : Nat} {xs ls is js : Nat → Nat} {Q : Nat → (Nat → Nat → Int32) → Prop} (h22 : ∀ k, k < c → σs.2 22 (xs k) = J (if k + 1 < c then (xs (k + 1) : Int) else -1)) (hx : ∀ k, k < c → xs k < 39990) (hls : ∀ k, k < c → ls k ≤ ls (k + 1)) (his : ∀ k, k < c → is k < js k ∧ is (k + 1) = js k) (hic : is c ≤ T) (hQ : ∀ k R S, k < c → Q k R → (∀ kk y, kk ≤ 22 → ls k ≤ y → y < ls (k + 1) → S kk y = R kk y) → Q k S) (hst : ∀ k s m ts sl τ, k < c → MID T kd vl rv G σs σK Dq (is k) s m D ts sl τ → Ok (gM d 0 (J (xs k : Nat)) 0 0 τ) (mSt T kd vl rv pl bad σs G (Q k) (ls k) (ls (k + 1)) (is k) (js k) s D ts sl τ)) : ∀ (e k N' s m : Nat) (ts sl : Nat → Nat) (τ : MS), k + e = c → e < N' → MID T kd vl rv G σs σK Dq (is k) s m D ts sl τ → Ok (loopF (Mb1 τ0 (gM d)) N' (J (if k < c then (xs k : Int) else -1), τ)) (fun u => ∃ υ, u.2 = mI υ 33 (τ0.1 33) ∧ mSt T kd vl rv pl bad σs G (fun R => ∀ t, k ≤ t → t < c → Q t R) (ls k) (ls c) (is k) (is c) s D ts sl τ ((0 : Int32), υ)) := by
  have ml : ∀ e k, k + e ≤ c → ls k ≤ ls (k + e) ∧ is k ≤ is (k + e) := by
    intro e
    induction e with
    | zero => intro k _; exact ⟨Nat.le_refl _, Nat.le_refl _⟩
    | succ e ih =>
      intro k hk
      have a := ih k (by omega)
      have b := hls (k + e) (by omega)
      have b2 := his (k + e) (by omega)
      rw [show k + (e + 1) = k + e + 1 by omega]
      exact ⟨by omega, by omega⟩
  intro e
  induction e with
  | zero =>
    intro k N' s m ts sl τ hk hN hM
    obtain ⟨N', rfl⟩ : ∃ z, N' = z + 1 := ⟨N' - 1, by omega⟩
    obtain rfl : k = c := by omega
    rw [Mb1_s, if_neg (show ¬ k < k by omega), if_pos (show J (-1) < 0 by decide), bndE]
    exact Ok_some ⟨τ, rfl, rB_rfl, hM.2.2.1.1, NT_none (fun w w1 w2 => by omega), ⟨s, m, ts, sl, hM.1, hM.2.2.1.2.2, Nat.le_refl _, fun _ _ => ⟨rfl, rfl⟩⟩, hM.2.1, rfl, ⟨fun _ _ => rfl, fun t t1 t2 => by rw [show t = is k by omega]; exact ⟨DPT_SC hM.1, rfl⟩⟩, fun _ t t1 t2 => by omega⟩
  | succ e ih =>
    intro k N' s m ts sl τ hk hN hM
    obtain ⟨N', rfl⟩ : ∃ z, N' = z + 1 := ⟨N' - 1, by omega⟩
    have hkc : k < c := by omega
    have hi := his k hkc
    have hm1 := ml (c - (k + 1)) (k + 1) (by omega)
    rw [show k + 1 + (c - (k + 1)) = c by omega] at hm1
    obtain ⟨en, en2⟩ := en_of (hx k hkc)
    rw [Mb1_s, if_pos hkc, if_neg (J_nlt0 (by omega) (by have := hx k hkc; omega))]
    refine Ok_bind (Ok_mono (hst k s m ts sl τ hkc hM) (fun u hu => Ok_neg en ?_))
    obtain ⟨s', m', ts', sl', hM', a3, a4⟩ := MID_mSt hM hu
    rw [bndE, en2, ag_k hu.2.1 (by omega), h22 k hkc]
    rw [← hi.2] at hM'
    refine Ok_mono (ih (k + 1) N' s' m' ts' sl' u.2 (by omega) (by omega) hM') (fun v hv => ?_)
    obtain ⟨υ, v1, v2⟩ := hv
    have hu' := hu
    rw [← hi.2] at hu'
    refine ⟨υ, v1, mSt_seq hp hpb hu' v2 a3 a4 (Nat.le_refl _) hm1.1 (hls k hkc) (Nat.le_refl _) (by omega) hm1.2 (by omega) (fun q1 q2 t t1 t2 => ?_)⟩
    by_cases e : t = k
    · subst e
      exact hQ t _ _ t2 q1 (fun kk y z y1 y2 => v2.1.2.2 kk y (by omega) (by omega) (by omega))
    · exact q2 t (by omega) t2
