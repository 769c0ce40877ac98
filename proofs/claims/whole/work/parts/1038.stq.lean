/-! statements whose names have their meanings: node against code -/
def EQx (O1 : Nat → Int → Prop) (O3 : Nat → Int → Int → Prop) (R : Nat → Nat → Int32) (DN : Nat → Nat → Nat → Prop) (lo hi x p q : Nat) : Prop := ∃ n L : Nat, n ≤ 2660000 ∧ L ≤ 4096 ∧ EXQ O1 O3 R DN n L lo hi x p q
def TEQ (O1 : Nat → Int → Prop) (O3 : Nat → Int → Int → Prop) (R : Nat → Nat → Int32) (DN : Nat → Nat → Nat → Prop) (TX : Nat → Int → Int → Prop) (lo hi t p q : Nat) : Prop := lo ≤ t ∧ t < hi ∧ p < q ∧ (
  (∃ (r v : Int) (w : Nat), q = p + 3 ∧ (R 17 t = J 35 ∧ R 18 t = J (w : Nat)) ∧ R 20 t = J r ∧ TX w r v ∧ O3 p 45 v)
  ∨ (∃ y q' : Nat, q = q' + 1 ∧ R 17 t = J 37 ∧ R 19 t = J (y : Nat) ∧ O1 q' 21 ∧ EQx O1 O3 R DN (t + 1) hi y p q')
  ∨ (∃ y q' : Nat, q = q' + 1 ∧ R 17 t = J 36 ∧ R 19 t = J (y : Nat) ∧ O1 q' 31 ∧ EQx O1 O3 R DN (t + 1) hi y p q'))
def eTq (w o : Int) (Dq : Prop) : Prop := (w = 25 ∧ o = 22) ∨ (w = 29 ∧ o = 2 ∧ Dq)
def gTq (d o : Int) : Prop := (d = 1 ∧ o = 47) ∨ (d = 0 ∧ o = 48)
def dTq (w o : Int) (Dq : Prop) : Prop := (w = 30 ∧ o = 4 ∧ ¬ Dq) ∨ (w = 31 ∧ o = 5) ∨ (w = 32 ∧ o = 6)
def PSQ (O1 : Nat → Int → Prop) (O3 : Nat → Int → Int → Prop) (R : Nat → Nat → Int32) (DN : Nat → Nat → Nat → Prop) (TX : Nat → Int → Int → Prop) (Dq : Prop) (hi s p q : Nat) : Prop :=
  (∃ (f : Int) (c : Nat), 0 < c ∧ R 17 s = J 20 ∧ R 19 s = J f ∧ LSQ R (TEQ O1 O3 R DN TX) (s + 1) hi f c p q)
  ∨ (∃ y e k q' : Nat, q = q' + 3 ∧ R 17 s = J 21 ∧ R 19 s = J (y : Nat) ∧ s < y ∧ y < hi ∧ R 21 y = J (k : Nat) ∧ k < 14 ∧ R 20 s = J (e : Nat) ∧ O3 q' 38 (k : Nat) ∧ EQx O1 O3 R DN (y + 1) hi e p q')
  ∨ (∃ (y e k q' : Nat) (b o : Int), q = q' + 3 ∧ R 17 s = J 22 ∧ R 19 s = J (y : Nat) ∧ s < y ∧ y < hi ∧ R 20 y = J b ∧ R 21 y = J (k : Nat) ∧ ((b = 9 ∧ k < 14 ∧ o = 38) ∨ (b = 4 ∧ k < 100 ∧ o = 37)) ∧ R 20 s = J (e : Nat) ∧ O3 q' o (k : Nat) ∧ EQx O1 O3 R DN (y + 1) hi e p q')
  ∨ (∃ y e e2 k m r q' : Nat, q = q' + 3 ∧ R 17 s = J 23 ∧ R 19 s = J (y : Nat) ∧ s < y ∧ y < hi ∧ R 21 y = J (k : Nat) ∧ k < 20 ∧ R 20 s = J (e : Nat) ∧ R 21 s = J (e2 : Nat) ∧ O3 q' 39 (k : Nat) ∧ m ≤ hi ∧ EQx O1 O3 R DN (y + 1) m e p r ∧ EQx O1 O3 R DN m hi e2 r q')
  ∨ (∃ e e2 m r q' : Nat, q = q' + 1 ∧ R 17 s = J 24 ∧ R 19 s = J (e : Nat) ∧ R 20 s = J (e2 : Nat) ∧ O1 q' 32 ∧ m ≤ hi ∧ EQx O1 O3 R DN (s + 1) m e p r ∧ EQx O1 O3 R DN m hi e2 r q')
  ∨ (∃ (w o : Int) (e q' : Nat), eTq w o Dq ∧ q = q' + 1 ∧ R 17 s = J w ∧ R 19 s = J (e : Nat) ∧ O1 q' o ∧ EQx O1 O3 R DN (s + 1) hi e p q')
  ∨ (∃ (d o a : Int) (e q' : Nat), gTq d o ∧ 0 ≤ a ∧ a ≤ 5 ∧ q = q' + 3 ∧ R 17 s = J 26 ∧ R 19 s = J (e : Nat) ∧ R 20 s = J a ∧ R 21 s = J d ∧ O3 q' o a ∧ EQx O1 O3 R DN (s + 1) hi e p q')
  ∨ (∃ w o : Int, dTq w o Dq ∧ q = p + 1 ∧ R 17 s = J w ∧ O1 p o)
  ∨ (∃ (f : Int) (y c k z q' : Nat), q = q' + 4 ∧ R 17 s = J 33 ∧ R 19 s = J (y : Nat) ∧ s < y ∧ y < hi ∧ R 20 s = J f ∧ R 21 s = J (z : Nat) ∧ DN k z c ∧ c ≤ 4096 ∧ O3 q' 40 (k : Nat) ∧ O1 (q' + 3) 1 ∧ LSQ R (EQx O1 O3 R DN) (y + 1) hi f c p q')
/-- statements (0), blocks (1), what is behind an if (2) -/
def STQ (O1 : Nat → Int → Prop) (O3 : Nat → Int → Int → Prop) (R : Nat → Nat → Int32) (DN : Nat → Nat → Nat → Prop) (TX : Nat → Int → Int → Prop) (Dq : Prop) : Nat → Nat → Nat → Nat → Nat → Nat → Nat → Prop
  | 0, _, _, _, _, _, _ => False
  | n + 1, g, lo, hi, x, p, q => lo ≤ x ∧ x < hi ∧ p ≤ q ∧ (
    (g = 0 ∧ p < q ∧ (
      PSQ O1 O3 R DN TX Dq hi x p q
      ∨ (R 17 x = J 27 ∧ STQ O1 O3 R DN TX Dq n 2 lo hi x p q)
      ∨ (∃ e b m r q' : Nat, q = q' + 3 ∧ R 17 x = J 28 ∧ R 19 x = J (e : Nat) ∧ R 20 x = J (b : Nat) ∧ O3 r 42 (q : Nat) ∧ O1 (r + 3) 3 ∧ O3 q' 41 (p : Nat) ∧ m ≤ hi ∧ EQx O1 O3 R DN (x + 1) m e p r ∧ STQ O1 O3 R DN TX Dq n 3 m hi b (r + 4) q')))
    ∨ (g = 1 ∧ ∃ (f : Int) (c : Nat), R 17 x = J 34 ∧ R 19 x = J f ∧ c ≤ 4096 ∧ LSQ R (STQ O1 O3 R DN TX Dq n 0) lo x f c p q)
    ∨ (g = 2 ∧ R 17 x = J 27 ∧ ∃ e b m m2 r r2 t : Nat, R 19 x = J (e : Nat) ∧ R 20 x = J (b : Nat) ∧ O3 r 42 (t : Nat) ∧ x < m ∧ m ≤ hi ∧ m2 ≤ hi ∧ (∃ lo' : Nat, x < lo' ∧ EQx O1 O3 R DN lo' m e p r) ∧ STQ O1 O3 R DN TX Dq n 1 m m2 b (r + 3) r2 ∧ (
      (q = r2 ∧ t = r2 ∧ R 21 x = J (-1))
      ∨ (t = r2 + 3 ∧ O3 r2 41 (q : Nat) ∧ ∃ y : Nat, R 21 x = J (y : Nat) ∧ ((R 17 y = J 27 ∧ STQ O1 O3 R DN TX Dq n 4 m2 hi y (r2 + 3) q) ∨ (R 17 y = J 34 ∧ STQ O1 O3 R DN TX Dq n 1 m2 hi y (r2 + 3) q)))))
    ∨ (∃ g' : Nat, ((g = 3 ∧ g' = 1) ∨ (g = 4 ∧ g' = 5) ∨ (g = 5 ∧ g' = 2)) ∧ STQ O1 O3 R DN TX Dq n g' lo hi x p q))
theorem EQx_rng {O1 : Nat → Int → Prop} {O3 : Nat → Int → Int → Prop} {R : Nat → Nat → Int32} {DN : Nat → Nat → Nat → Prop} {lo hi x p q : Nat} (h : EQx O1 O3 R DN lo hi x p q) : lo ≤ x ∧ x < hi ∧ p < q := by
  obtain ⟨n, L, -, -, h⟩ := h
  have := EXQ_rng h; exact ⟨this.1, this.2.1, this.2.2.1⟩
theorem EQx_ag {O1 P1 : Nat → Int → Prop} {O3 P3 : Nat → Int → Int → Prop} {R S : Nat → Nat → Int32} {DN EN : Nat → Nat → Nat → Prop} {lo hi x p q : Nat} (hR : ∀ k y, k ≤ 22 → lo ≤ y → y < hi → S k y = R k y) (h1 : ∀ r o, p ≤ r → r < q → O1 r o → P1 r o) (h3 : ∀ r o v, p ≤ r → r + 2 < q → O3 r o v → P3 r o v) (hD : ∀ a b c, DN a b c → EN a b c) (h : EQx O1 O3 R DN lo hi x p q) : EQx P1 P3 S EN lo hi x p q := by
  obtain ⟨n, L, a, b, h⟩ := h
  exact ⟨n, L, a, b, EXQ_ag _ _ _ _ _ _ _ hR h1 h3 hD h⟩
theorem EQx_R {O1 : Nat → Int → Prop} {O3 : Nat → Int → Int → Prop} {R S : Nat → Nat → Int32} {DN : Nat → Nat → Nat → Prop} {lo hi x p q : Nat} (h : EQx O1 O3 R DN lo hi x p q) (hR : ∀ k y, k ≤ 22 → lo ≤ y → y < hi → S k y = R k y) : EQx O1 O3 S DN lo hi x p q := EQx_ag hR (fun _ _ _ _ h => h) (fun _ _ _ _ _ h => h) (fun _ _ _ h => h) h
theorem TEQ_R {O1 : Nat → Int → Prop} {O3 : Nat → Int → Int → Prop} {R S : Nat → Nat → Int32} {DN : Nat → Nat → Nat → Prop} {TX : Nat → Int → Int → Prop} {lo hi x p q : Nat} (h : TEQ O1 O3 R DN TX lo hi x p q) (hR : ∀ k y, k ≤ 22 → lo ≤ y → y < hi → S k y = R k y) : TEQ O1 O3 S DN TX lo hi x p q := by
  obtain ⟨b1, b2, b3, h⟩ := h
  have e := fun k (hk : k ≤ 22) => hR k x hk b1 b2
  refine ⟨b1, b2, b3, ?_⟩
  rcases h with ⟨r, v, w, a1, a2, a3, a4, a5⟩ | ⟨y, q', a1, a2, a3, a4, a5⟩ | ⟨y, q', a1, a2, a3, a4, a5⟩
  · exact Or.inl ⟨r, v, w, a1, ⟨by rw [e _ (by omega)]; exact a2.1, by rw [e _ (by omega)]; exact a2.2⟩, by rw [e _ (by omega)]; exact a3, a4, a5⟩
  · exact Or.inr (Or.inl ⟨y, q', a1, by rw [e _ (by omega)]; exact a2, by rw [e _ (by omega)]; exact a3, a4, EQx_R a5 (fun k y y0 y1 y2 => hR k y y0 (by omega) y2)⟩)
  · exact Or.inr (Or.inr ⟨y, q', a1, by rw [e _ (by omega)]; exact a2, by rw [e _ (by omega)]; exact a3, a4, EQx_R a5 (fun k y y0 y1 y2 => hR k y y0 (by omega) y2)⟩)
theorem LSQ_R {R S : Nat → Nat → Int32} {E F : Nat → Nat → Nat → Nat → Nat → Prop} {lo hi : Nat} {f : Int} {c p q : Nat} (h : LSQ R E lo hi f c p q) (hR : ∀ k y, k ≤ 22 → lo ≤ y → y < hi → S k y = R k y) (hE : ∀ a b x r s, lo ≤ a → b ≤ hi → E a b x r s → F a b x r s) : LSQ S F lo hi f c p q := by
  obtain ⟨xs, ls, ps, c1, c2, c3, c4, c5, c6, c7⟩ := h
  have hr := LSQ_rng c5
  refine ⟨xs, ls, ps, c1, fun k hk => ?_, c3, c4, fun k hk => ?_, c6, c7⟩
  all_goals
    have r1 := hr k 0 (by omega)
    have r2 := hr (c - (k + 1)) (k + 1) (by omega)
    have r3 := hr k 0 (by omega)
    have r4 := hr (k - 0) 0 (by omega)
    rw [show k + 1 + (c - (k + 1)) = c by omega] at r2
    rw [show 0 + (k - 0) = k by omega] at r4
    have b := c5 k hk
  · rw [hR 22 _ (by omega) (by omega) (by omega)]; exact c2 k hk
  · exact ⟨b.1, b.2.1, b.2.2.1, hE _ _ _ _ _ (by omega) (by omega) b.2.2.2⟩
theorem PSQ_R {O1 : Nat → Int → Prop} {O3 : Nat → Int → Int → Prop} {R S : Nat → Nat → Int32} {DN : Nat → Nat → Nat → Prop} {TX : Nat → Int → Int → Prop} {Dq : Prop} {hi s p q : Nat} (h : PSQ O1 O3 R DN TX Dq hi s p q) (hs : s < hi) (hR : ∀ k y, k ≤ 22 → s ≤ y → y < hi → S k y = R k y) : PSQ O1 O3 S DN TX Dq hi s p q := by
  have e := fun k (hk : k ≤ 22) => hR k s hk (Nat.le_refl _) hs
  rcases h with ⟨f, c, a1, a2, a3, a4⟩ | ⟨y, x, k, q', a1, a2, a3, a4, a5, a6, a7, a8, a9, a10⟩ | ⟨y, x, k, q', b, o, a1, a2, a3, a4, a5, a6, a7, a8, a9, a10, a11⟩ | ⟨y, x, x2, k, m, r, q', a1, a2, a3, a4, a5, a6, a7, a8, a9, a10, a11, a12, a13⟩ | ⟨x, x2, m, r, q', a1, a2, a3, a4, a5, a6, a7, a8⟩ | ⟨w, o, x, q', a1, a2, a3, a4, a5, a6⟩ | ⟨d, o, a, x, q', a1, a2, a3, a4, a5, a6, a7, a8, a9, a10⟩ | ⟨w, o, a1, a2, a3, a4⟩ | ⟨f, y, c, k, z, q', a1, a2, a3, a4, a5, a6, a7, a8, a9, a10, a11, a12⟩
  · exact Or.inl ⟨f, c, a1, by rw [e _ (by omega)]; exact a2, by rw [e _ (by omega)]; exact a3, LSQ_R a4 (fun k y y0 y1 y2 => hR k y y0 (by omega) y2) (fun a b x r t h1 h2 h => TEQ_R h (fun k y y0 y1 y2 => hR k y y0 (by omega) (by omega)))⟩
  · exact Or.inr (Or.inl ⟨y, x, k, q', a1, by rw [e _ (by omega)]; exact a2, by rw [e _ (by omega)]; exact a3, a4, a5, by rw [hR 21 y (by omega) (by omega) a5]; exact a6, a7, by rw [e _ (by omega)]; exact a8, a9, EQx_R a10 (fun k y y0 y1 y2 => hR k y y0 (by omega) y2)⟩)
  · exact Or.inr (Or.inr (Or.inl ⟨y, x, k, q', b, o, a1, by rw [e _ (by omega)]; exact a2, by rw [e _ (by omega)]; exact a3, a4, a5, by rw [hR 20 y (by omega) (by omega) a5]; exact a6, by rw [hR 21 y (by omega) (by omega) a5]; exact a7, a8, by rw [e _ (by omega)]; exact a9, a10, EQx_R a11 (fun k y y0 y1 y2 => hR k y y0 (by omega) y2)⟩))
  · have r1 := EQx_rng a12
    have r2 := EQx_rng a13
    exact Or.inr (Or.inr (Or.inr (Or.inl ⟨y, x, x2, k, m, r, q', a1, by rw [e _ (by omega)]; exact a2, by rw [e _ (by omega)]; exact a3, a4, a5, by rw [hR 21 y (by omega) (by omega) a5]; exact a6, a7, by rw [e _ (by omega)]; exact a8, by rw [e _ (by omega)]; exact a9, a10, a11, EQx_R a12 (fun k y y0 y1 y2 => hR k y y0 (by omega) (by omega)), EQx_R a13 (fun k y y0 y1 y2 => hR k y y0 (by omega) y2)⟩)))
  · have r1 := EQx_rng a7
    have r2 := EQx_rng a8
    exact Or.inr (Or.inr (Or.inr (Or.inr (Or.inl ⟨x, x2, m, r, q', a1, by rw [e _ (by omega)]; exact a2, by rw [e _ (by omega)]; exact a3, by rw [e _ (by omega)]; exact a4, a5, a6, EQx_R a7 (fun k y y0 y1 y2 => hR k y y0 (by omega) (by omega)), EQx_R a8 (fun k y y0 y1 y2 => hR k y y0 (by omega) y2)⟩))))
  · exact Or.inr (Or.inr (Or.inr (Or.inr (Or.inr (Or.inl ⟨w, o, x, q', a1, a2, by rw [e _ (by omega)]; exact a3, by rw [e _ (by omega)]; exact a4, a5, EQx_R a6 (fun k y y0 y1 y2 => hR k y y0 (by omega) y2)⟩)))))
  · exact Or.inr (Or.inr (Or.inr (Or.inr (Or.inr (Or.inr (Or.inl ⟨d, o, a, x, q', a1, a2, a3, a4, by rw [e _ (by omega)]; exact a5, by rw [e _ (by omega)]; exact a6, by rw [e _ (by omega)]; exact a7, by rw [e _ (by omega)]; exact a8, a9, EQx_R a10 (fun k y y0 y1 y2 => hR k y y0 (by omega) y2)⟩))))))
  · exact Or.inr (Or.inr (Or.inr (Or.inr (Or.inr (Or.inr (Or.inr (Or.inl ⟨w, o, a1, a2, by rw [e _ (by omega)]; exact a3, a4⟩)))))))
  · exact Or.inr (Or.inr (Or.inr (Or.inr (Or.inr (Or.inr (Or.inr (Or.inr ⟨f, y, c, k, z, q', a1, by rw [e _ (by omega)]; exact a2, by rw [e _ (by omega)]; exact a3, a4, a5, by rw [e _ (by omega)]; exact a6, by rw [e _ (by omega)]; exact a7, a8, a9, a10, a11, LSQ_R a12 (fun k y y0 y1 y2 => hR k y y0 (by omega) y2) (fun a b x r t h1 h2 h => EQx_R h (fun k y y0 y1 y2 => hR k y y0 (by omega) (by omega)))⟩)))))))
theorem STQ_rng {O1 : Nat → Int → Prop} {O3 : Nat → Int → Int → Prop} {R : Nat → Nat → Int32} {DN : Nat → Nat → Nat → Prop} {TX : Nat → Int → Int → Prop} {Dq : Prop} {n g lo hi x p q : Nat} (h : STQ O1 O3 R DN TX Dq n g lo hi x p q) : lo ≤ x ∧ x < hi ∧ p ≤ q := by
  cases n with
  | zero => exact absurd h (by simp [STQ])
  | succ n => unfold STQ at h; exact ⟨h.1, h.2.1, h.2.2.1⟩
theorem STQ_R {O1 : Nat → Int → Prop} {O3 : Nat → Int → Int → Prop} {R S : Nat → Nat → Int32} {DN : Nat → Nat → Nat → Prop} {TX : Nat → Int → Int → Prop} {Dq : Prop} : ∀ (n g lo hi x p q : Nat), STQ O1 O3 R DN TX Dq n g lo hi x p q → (∀ k y, k ≤ 22 → lo ≤ y → y < hi → S k y = R k y) → STQ O1 O3 S DN TX Dq n g lo hi x p q := by
  intro n
  induction n with
  | zero => intro g lo hi x p q h; exact absurd h (by simp [STQ])
  | succ n ih =>
    intro g lo hi x p q h hR
    unfold STQ at h ⊢
    obtain ⟨b1, b2, b3, h⟩ := h
    have e := fun k (hk : k ≤ 22) => hR k x hk b1 b2
    refine ⟨b1, b2, b3, ?_⟩
    rcases h with ⟨g0, hpq, h⟩ | ⟨g1, f, c, a1, a2, a3, a4⟩ | ⟨g2, a0, e', b, m, m2, r, r2, t, a1, a2, a3, a4, a5, a6, ⟨lo', a7, a8⟩, a9, a10⟩ | ⟨g', g3, a1⟩
    · refine Or.inl ⟨g0, hpq, ?_⟩
      rcases h with h | ⟨h1, h2⟩ | ⟨e', b, m, r, q', a1, a2, a3, a4, a5, a6, a7, a8, a9, a10⟩
      · exact Or.inl (PSQ_R h b2 (fun k y y0 y1 y2 => hR k y y0 (by omega) y2))
      · exact Or.inr (Or.inl ⟨by rw [e _ (by omega)]; exact h1, ih _ _ _ _ _ _ h2 hR⟩)
      · have r1 := EQx_rng a9
        have r2 := STQ_rng a10
        exact Or.inr (Or.inr ⟨e', b, m, r, q', a1, by rw [e _ (by omega)]; exact a2, by rw [e _ (by omega)]; exact a3, by rw [e _ (by omega)]; exact a4, a5, a6, a7, a8, EQx_R a9 (fun k y y0 y1 y2 => hR k y y0 (by omega) (by omega)), ih _ _ _ _ _ _ a10 (fun k y y0 y1 y2 => hR k y y0 (by omega) (by omega))⟩)
    · exact Or.inr (Or.inl ⟨g1, f, c, by rw [e _ (by omega)]; exact a1, by rw [e _ (by omega)]; exact a2, a3, LSQ_R a4 (fun k y y0 y1 y2 => hR k y y0 (by omega) (by omega)) (fun a b x r t h1 h2 h => ih _ _ _ _ _ _ h (fun k y y0 y1 y2 => hR k y y0 (by omega) (by omega)))⟩)
    · have r1 := EQx_rng a8
      have r2' := STQ_rng a9
      refine Or.inr (Or.inr (Or.inl ⟨g2, by rw [e _ (by omega)]; exact a0, e', b, m, m2, r, r2, t, by rw [e _ (by omega)]; exact a1, by rw [e _ (by omega)]; exact a2, a3, a4, a5, a6, ⟨lo', a7, EQx_R a8 (fun k y y0 y1 y2 => hR k y y0 (by omega) (by omega))⟩, ih _ _ _ _ _ _ a9 (fun k y y0 y1 y2 => hR k y y0 (by omega) (by omega)), ?_⟩))
      rcases a10 with ⟨c1, c2, c3⟩ | ⟨c1, c2, y, c3, c4⟩
      · exact Or.inl ⟨c1, c2, by rw [e _ (by omega)]; exact c3⟩
      · refine Or.inr ⟨c1, c2, y, by rw [e _ (by omega)]; exact c3, ?_⟩
        rcases c4 with ⟨c4, c5⟩ | ⟨c4, c5⟩
        · have r3 := STQ_rng c5
          exact Or.inl ⟨by rw [hR 17 y (by omega) (by omega) (by omega)]; exact c4, ih _ _ _ _ _ _ c5 (fun k y y0 y1 y2 => hR k y y0 (by omega) (by omega))⟩
        · have r3 := STQ_rng c5
          exact Or.inr ⟨by rw [hR 17 y (by omega) (by omega) (by omega)]; exact c4, ih _ _ _ _ _ _ c5 (fun k y y0 y1 y2 => hR k y y0 (by omega) (by omega))⟩
    · exact Or.inr (Or.inr (Or.inr ⟨g', g3, ih _ _ _ _ _ _ a1 hR⟩))
