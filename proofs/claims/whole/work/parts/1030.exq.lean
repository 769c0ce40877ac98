/-! an expression whose names have their meanings: node against code -/
def LSQ (R : Nat → Nat → Int32) (E : Nat → Nat → Nat → Nat → Nat → Prop) (lo hi : Nat) (f : Int) (c p q : Nat) : Prop := ∃ xs ls ps : Nat → Nat, f = (if c = 0 then -1 else (xs 0 : Int)) ∧ (∀ k, k < c → R 22 (xs k) = J (if k + 1 < c then (xs (k + 1) : Int) else -1)) ∧ lo ≤ ls 0 ∧ ls c ≤ hi ∧ (∀ k, k < c → ls k ≤ xs k ∧ xs k < ls (k + 1) ∧ ps k < ps (k + 1) ∧ E (ls k) (ls (k + 1)) (xs k) (ps k) (ps (k + 1))) ∧ ps 0 = p ∧ ps c = q
def nmO (b : Int) (k : Nat) (o : Int) : Prop := (b = 9 ∧ k < 14 ∧ o = 35) ∨ (b = 4 ∧ k < 100 ∧ o = 34) ∨ ((b = 1 ∨ b = 2) ∧ k ≤ 120 ∧ o = 33)
def zTq (w o : Int) : Prop := (w = 44 ∧ o = 28) ∨ (w = 45 ∧ o = 29) ∨ (w = 46 ∧ o = 30)
def uTq (w o : Int) : Prop := (w = 48 ∧ o = 24) ∨ (w = 49 ∧ o = 25) ∨ (w = 50 ∧ o = 26) ∨ (w = 51 ∧ o = 27) ∨ (w = 52 ∧ o = 9) ∨ (w = 53 ∧ o = 8)
def lTq (w o : Int) : Prop := (w = 54 ∧ o = 43) ∨ (w = 55 ∧ o = 44)
def bTq (w d o : Int) : Prop := (w = 56 ∧ d = 43 ∧ o = 10) ∨ (w = 56 ∧ d = 45 ∧ o = 11) ∨ (w = 56 ∧ d = 42 ∧ o = 12) ∨ (w = 56 ∧ d = 47 ∧ o = 13) ∨ (w = 56 ∧ d = 37 ∧ o = 14) ∨ (w = 56 ∧ d = 317 ∧ o = 15) ∨ (w = 56 ∧ d = 289 ∧ o = 16) ∨ (w = 56 ∧ d = 60 ∧ o = 17) ∨ (w = 56 ∧ d = 316 ∧ o = 18) ∨ (w = 56 ∧ d = 62 ∧ o = 19) ∨ (w = 56 ∧ d = 318 ∧ o = 20) ∨ (w = 57 ∧ d = 0 ∧ o = 23)
def EXQ (O1 : Nat → Int → Prop) (O3 : Nat → Int → Int → Prop) (R : Nat → Nat → Int32) (DN : Nat → Nat → Nat → Prop) (n L lo hi x p q : Nat) : Prop := 0 < n ∧ 0 < L ∧ lo ≤ x ∧ x < hi ∧ p < q ∧ (
    (∃ v : Int, q = p + 3 ∧ R 17 x = J 40 ∧ R 19 x = J v ∧ 0 ≤ v ∧ v ≤ 32767 ∧ O3 p 33 v)
    ∨ (∃ (b : Int) (k : Nat) (o : Int), q = p + 3 ∧ R 17 x = J 41 ∧ R 20 x = J b ∧ R 21 x = J (k : Nat) ∧ nmO b k o ∧ O3 p o (k : Nat))
    ∨ (∃ (n' : Nat) (_ : n' + 50000 ≤ n) (L1 : Nat) (f : Int) (c q' k z : Nat), q = q' + 3 ∧ R 17 x = J 42 ∧ R 20 x = J f ∧ R 21 x = J (z : Nat) ∧ DN k z c ∧ O3 q' 40 (k : Nat) ∧ L1 + c < L ∧ LSQ R (fun a b y r s => EXQ O1 O3 R DN n' L1 a b y r s) (x + 1) hi f c p q')
    ∨ (∃ (n' : Nat) (_ : n' + 2000 ≤ n) (L1 y q' k : Nat), q = q' + 3 ∧ R 17 x = J 43 ∧ R 20 x = J (y : Nat) ∧ R 21 x = J (k : Nat) ∧ k < 20 ∧ O3 q' 36 (k : Nat) ∧ L1 < L ∧ EXQ O1 O3 R DN n' L1 (x + 1) hi y p q')
    ∨ (∃ w o : Int, zTq w o ∧ q = p + 1 ∧ R 17 x = J w ∧ O1 p o)
    ∨ (q = p + 3 ∧ R 17 x = J 47 ∧ O3 p 33 1)
    ∨ (∃ (n' : Nat) (_ : n' + 2000 ≤ n) (L1 : Nat) (w o : Int) (y q' lo' hi' : Nat), uTq w o ∧ q = q' + 1 ∧ R 17 x = J w ∧ R 19 x = J (y : Nat) ∧ O1 q' o ∧ lo ≤ lo' ∧ hi' ≤ hi ∧ L1 < L ∧ EXQ O1 O3 R DN n' L1 lo' hi' y p q')
    ∨ (∃ (n1 : Nat) (_ : n1 < n) (n2 : Nat) (_ : n2 + 2000 ≤ n) (L1 L2 : Nat) (w o : Int) (y z r q' m : Nat), lTq w o ∧ q = q' + 1 ∧ R 17 x = J w ∧ R 19 x = J (y : Nat) ∧ R 20 x = J (z : Nat) ∧ O3 r o (q : Nat) ∧ O1 q' 7 ∧ m ≤ x ∧ L1 < L ∧ L2 < L ∧ EXQ O1 O3 R DN n1 L1 lo m y p r ∧ EXQ O1 O3 R DN n2 L2 m x z (r + 3) q')
    ∨ (∃ (n1 : Nat) (_ : n1 < n) (n2 : Nat) (_ : n2 + 10000 ≤ n) (L1 L2 : Nat) (w d o : Int) (y z r q' m : Nat), bTq w d o ∧ q = q' + 1 ∧ R 17 x = J w ∧ R 19 x = J (y : Nat) ∧ R 20 x = J (z : Nat) ∧ R 21 x = J d ∧ O1 q' o ∧ m ≤ x ∧ L1 + 1 < L ∧ L2 < L ∧ EXQ O1 O3 R DN n1 L1 lo m y p r ∧ EXQ O1 O3 R DN n2 L2 m x z r q')
    ∨ (∃ (n' : Nat) (_ : n' + 2000 ≤ n) (L1 y q' : Nat) (a : Int), q = q' + 3 ∧ R 17 x = J 58 ∧ R 19 x = J (y : Nat) ∧ R 21 x = J a ∧ 0 ≤ a ∧ a ≤ 5 ∧ O3 q' 46 a ∧ L1 < L ∧ EXQ O1 O3 R DN n' L1 lo x y p q'))
termination_by n
decreasing_by all_goals omega
theorem EXQ_rng {O1 : Nat → Int → Prop} {O3 : Nat → Int → Int → Prop} {R : Nat → Nat → Int32} {DN : Nat → Nat → Nat → Prop} {n L lo hi x p q : Nat} (h : EXQ O1 O3 R DN n L lo hi x p q) : lo ≤ x ∧ x < hi ∧ p < q ∧ 0 < n ∧ 0 < L := by
  unfold EXQ at h
  exact ⟨h.2.2.1, h.2.2.2.1, h.2.2.2.2.1, h.1, h.2.1⟩
theorem LSQ_rng {E : Nat → Nat → Nat → Nat → Nat → Prop} {c : Nat} {xs ls ps : Nat → Nat} (h : ∀ k, k < c → ls k ≤ xs k ∧ xs k < ls (k + 1) ∧ ps k < ps (k + 1) ∧ E (ls k) (ls (k + 1)) (xs k) (ps k) (ps (k + 1))) : ∀ d k, k + d ≤ c → ls k ≤ ls (k + d) ∧ ps k ≤ ps (k + d) := by
  intro d
  induction d with
  | zero => intro k _; exact ⟨Nat.le_refl _, Nat.le_refl _⟩
  | succ d ih =>
    intro k hk
    obtain ⟨a1, a2⟩ := ih k (by omega)
    have b := h (k + d) (by omega)
    rw [show k + (d + 1) = k + d + 1 by omega]
    exact ⟨by omega, by omega⟩
/-- rows and code that are elsewhere do not matter -/
theorem EXQ_ag {O1 P1 : Nat → Int → Prop} {O3 P3 : Nat → Int → Int → Prop} {R S : Nat → Nat → Int32} {DN EN : Nat → Nat → Nat → Prop} : ∀ (n L lo hi x p q : Nat), (∀ k y, k ≤ 22 → lo ≤ y → y < hi → S k y = R k y) → (∀ r o, p ≤ r → r < q → O1 r o → P1 r o) → (∀ r o v, p ≤ r → r + 2 < q → O3 r o v → P3 r o v) → (∀ a b c, DN a b c → EN a b c) → EXQ O1 O3 R DN n L lo hi x p q → EXQ P1 P3 S EN n L lo hi x p q := by
  intro n
  induction n using Nat.strongRecOn with
  | _ n ih =>
    intro L lo hi x p q hR h1 h3 hD h
    have hd := EXQ_rng h
    unfold EXQ at h ⊢
    obtain ⟨b0, b1, b2, b3, b4, h⟩ := h
    refine ⟨b0, b1, b2, b3, b4, ?_⟩
    have e := fun k (hk : k ≤ 22) => hR k x hk b2 b3
    rcases h with ⟨v, a1, a2, a3, a4, a5, a6⟩ | ⟨b, k, o, a1, a2, a3, a4, a5, a6⟩ | ⟨n', hn, L1, f, c, q', k, z, a1, a2, a3, a4, a5, a6, a7, xs, ls, ps, c1, c2, c3, c4, c5, c6, c7⟩ | ⟨n', hn, L1, y, q', k, a1, a2, a3, a4, a5, a6, a7, a8⟩ | ⟨w, o, a1, a2, a3, a4⟩ | ⟨a1, a2, a3⟩ | ⟨n', hn, L1, w, o, y, q', lo', hi', a1, a2, a3, a4, a5, a6, a7, a8, a9⟩ | ⟨n1, hn1, n2, hn2, L1, L2, w, o, y, z, r, q', m, a1, a2, a3, a4, a5, a6, a7, a8, a9, a10, a11, a12⟩ | ⟨n1, hn1, n2, hn2, L1, L2, w, d, o, y, z, r, q', m, a1, a2, a3, a4, a5, a6, a7, a8, a9, a10, a11, a12⟩ | ⟨n', hn, L1, y, q', a, a1, a2, a3, a4, a5, a6, a7, a8, a9⟩
    · exact Or.inl ⟨v, a1, by rw [e _ (by omega)]; exact a2, by rw [e _ (by omega)]; exact a3, a4, a5, h3 _ _ _ (Nat.le_refl _) (by omega) a6⟩
    · exact Or.inr (Or.inl ⟨b, k, o, a1, by rw [e _ (by omega)]; exact a2, by rw [e _ (by omega)]; exact a3, by rw [e _ (by omega)]; exact a4, a5, h3 _ _ _ (Nat.le_refl _) (by omega) a6⟩)
    · have hr := LSQ_rng c5
      have r0 := hr c 0 (by omega)
      rw [Nat.zero_add] at r0
      refine Or.inr (Or.inr (Or.inl ⟨n', hn, L1, f, c, q', k, z, a1, by rw [e _ (by omega)]; exact a2, by rw [e _ (by omega)]; exact a3, by rw [e _ (by omega)]; exact a4, hD _ _ _ a5, h3 _ _ _ (by omega) (by omega) a6, a7, xs, ls, ps, c1, fun t ht => ?_, c3, c4, fun t ht => ?_, c6, c7⟩))
      · have r1 := hr t 0 (by omega)
        have r2 := hr (c - (t + 1)) (t + 1) (by omega)
        rw [show t + 1 + (c - (t + 1)) = c by omega] at r2
        rw [Nat.zero_add] at r1
        have b := c5 t ht
        rw [hR 22 _ (by omega) (by omega) (by omega)]; exact c2 t ht
      · have r1 := hr t 0 (by omega)
        have r2 := hr (c - (t + 1)) (t + 1) (by omega)
        rw [show t + 1 + (c - (t + 1)) = c by omega] at r2
        rw [Nat.zero_add] at r1
        have b := c5 t ht
        exact ⟨b.1, b.2.1, b.2.2.1, ih n' (by omega) _ _ _ _ _ _ (fun k y y0 y1 y2 => hR k y y0 (by omega) (by omega)) (fun r o r1 r2 => h1 r o (by omega) (by omega)) (fun r o v r1 r2 => h3 r o v (by omega) (by omega)) hD b.2.2.2⟩
    · have r := EXQ_rng a8
      exact Or.inr (Or.inr (Or.inr (Or.inl ⟨n', hn, L1, y, q', k, a1, by rw [e _ (by omega)]; exact a2, by rw [e _ (by omega)]; exact a3, by rw [e _ (by omega)]; exact a4, a5, h3 _ _ _ (by omega) (by omega) a6, a7, ih n' (by omega) _ _ _ _ _ _ (fun k y y0 y1 y2 => hR k y y0 (by omega) (by omega)) (fun r o r1 r2 => h1 r o (by omega) (by omega)) (fun r o v r1 r2 => h3 r o v (by omega) (by omega)) hD a8⟩)))
    · exact Or.inr (Or.inr (Or.inr (Or.inr (Or.inl ⟨w, o, a1, a2, by rw [e _ (by omega)]; exact a3, h1 _ _ (Nat.le_refl _) (by omega) a4⟩))))
    · exact Or.inr (Or.inr (Or.inr (Or.inr (Or.inr (Or.inl ⟨a1, by rw [e _ (by omega)]; exact a2, h3 _ _ _ (Nat.le_refl _) (by omega) a3⟩)))))
    · have r := EXQ_rng a9
      exact Or.inr (Or.inr (Or.inr (Or.inr (Or.inr (Or.inr (Or.inl ⟨n', hn, L1, w, o, y, q', lo', hi', a1, a2, by rw [e _ (by omega)]; exact a3, by rw [e _ (by omega)]; exact a4, h1 _ _ (by omega) (by omega) a5, a6, a7, a8, ih n' (by omega) _ _ _ _ _ _ (fun k y y0 y1 y2 => hR k y y0 (by omega) (by omega)) (fun r o r1 r2 => h1 r o (by omega) (by omega)) (fun r o v r1 r2 => h3 r o v (by omega) (by omega)) hD a9⟩))))))
    · have r1 := EXQ_rng a11
      have r2 := EXQ_rng a12
      exact Or.inr (Or.inr (Or.inr (Or.inr (Or.inr (Or.inr (Or.inr (Or.inl ⟨n1, hn1, n2, hn2, L1, L2, w, o, y, z, r, q', m, a1, a2, by rw [e _ (by omega)]; exact a3, by rw [e _ (by omega)]; exact a4, by rw [e _ (by omega)]; exact a5, h3 _ _ _ (by omega) (by omega) a6, h1 _ _ (by omega) (by omega) a7, a8, a9, a10, ih n1 hn1 _ _ _ _ _ _ (fun k y y0 y1 y2 => hR k y y0 (by omega) (by omega)) (fun r o r1 r2 => h1 r o (by omega) (by omega)) (fun r o v r1 r2 => h3 r o v (by omega) (by omega)) hD a11, ih n2 (by omega) _ _ _ _ _ _ (fun k y y0 y1 y2 => hR k y y0 (by omega) (by omega)) (fun r o r1 r2 => h1 r o (by omega) (by omega)) (fun r o v r1 r2 => h3 r o v (by omega) (by omega)) hD a12⟩)))))))
    · have r1 := EXQ_rng a11
      have r2 := EXQ_rng a12
      exact Or.inr (Or.inr (Or.inr (Or.inr (Or.inr (Or.inr (Or.inr (Or.inr (Or.inl ⟨n1, hn1, n2, hn2, L1, L2, w, d, o, y, z, r, q', m, a1, a2, by rw [e _ (by omega)]; exact a3, by rw [e _ (by omega)]; exact a4, by rw [e _ (by omega)]; exact a5, by rw [e _ (by omega)]; exact a6, h1 _ _ (by omega) (by omega) a7, a8, a9, a10, ih n1 hn1 _ _ _ _ _ _ (fun k y y0 y1 y2 => hR k y y0 (by omega) (by omega)) (fun r o r1 r2 => h1 r o (by omega) (by omega)) (fun r o v r1 r2 => h3 r o v (by omega) (by omega)) hD a11, ih n2 (by omega) _ _ _ _ _ _ (fun k y y0 y1 y2 => hR k y y0 (by omega) (by omega)) (fun r o r1 r2 => h1 r o (by omega) (by omega)) (fun r o v r1 r2 => h3 r o v (by omega) (by omega)) hD a12⟩))))))))
    · have r := EXQ_rng a9
      exact Or.inr (Or.inr (Or.inr (Or.inr (Or.inr (Or.inr (Or.inr (Or.inr (Or.inr ⟨n', hn, L1, y, q', a, a1, by rw [e _ (by omega)]; exact a2, by rw [e _ (by omega)]; exact a3, by rw [e _ (by omega)]; exact a4, a5, a6, h3 _ _ _ (by omega) (by omega) a7, a8, ih n' (by omega) _ _ _ _ _ _ (fun k y y0 y1 y2 => hR k y y0 (by omega) (by omega)) (fun r o r1 r2 => h1 r o (by omega) (by omega)) (fun r o v r1 r2 => h3 r o v (by omega) (by omega)) hD a9⟩))))))))
/-- more room for all -/
theorem EXQ_mono {O1 : Nat → Int → Prop} {O3 : Nat → Int → Int → Prop} {R : Nat → Nat → Int32} {DN : Nat → Nat → Nat → Prop} : ∀ (n n2 L L2 lo lo2 hi hi2 x p q : Nat), n ≤ n2 → L ≤ L2 → lo2 ≤ lo → hi ≤ hi2 → EXQ O1 O3 R DN n L lo hi x p q → EXQ O1 O3 R DN n2 L2 lo2 hi2 x p q := by
  intro n
  induction n using Nat.strongRecOn with
  | _ n ih =>
    intro n2 L L2 lo lo2 hi hi2 x p q hn2 hL hlo hhi h
    unfold EXQ at h ⊢
    obtain ⟨b0, b1, b2, b3, b4, h⟩ := h
    refine ⟨by omega, by omega, by omega, by omega, b4, ?_⟩
    rcases h with h | h | ⟨n', hn, L1, f, c, q', k, z, a1, a2, a3, a4, a5, a6, a7, xs, ls, ps, c1, c2, c3, c4, c5, c6, c7⟩ | ⟨n', hn, L1, y, q', k, a1, a2, a3, a4, a5, a6, a7, a8⟩ | h | h | ⟨n', hn, L1, w, o, y, q', lo', hi', a1, a2, a3, a4, a5, a6, a7, a8, a9⟩ | ⟨n1, hn1, n3, hn3, L1, L3, w, o, y, z, r, q', m, a1, a2, a3, a4, a5, a6, a7, a8, a9, a10, a11, a12⟩ | ⟨n1, hn1, n3, hn3, L1, L3, w, d, o, y, z, r, q', m, a1, a2, a3, a4, a5, a6, a7, a8, a9, a10, a11, a12⟩ | ⟨n', hn, L1, y, q', a, a1, a2, a3, a4, a5, a6, a7, a8, a9⟩
    · exact Or.inl h
    · exact Or.inr (Or.inl h)
    · exact Or.inr (Or.inr (Or.inl ⟨n', by omega, L1, f, c, q', k, z, a1, a2, a3, a4, a5, a6, by omega, xs, ls, ps, c1, c2, c3, by omega, c5, c6, c7⟩))
    · exact Or.inr (Or.inr (Or.inr (Or.inl ⟨n', by omega, L1, y, q', k, a1, a2, a3, a4, a5, a6, by omega, ih n' (by omega) n' L1 L1 _ _ _ _ _ _ _ (Nat.le_refl _) (Nat.le_refl _) (Nat.le_refl _) hhi a8⟩)))
    · exact Or.inr (Or.inr (Or.inr (Or.inr (Or.inl h))))
    · exact Or.inr (Or.inr (Or.inr (Or.inr (Or.inr (Or.inl h)))))
    · exact Or.inr (Or.inr (Or.inr (Or.inr (Or.inr (Or.inr (Or.inl ⟨n', by omega, L1, w, o, y, q', lo', hi', a1, a2, a3, a4, a5, by omega, by omega, by omega, a9⟩))))))
    · exact Or.inr (Or.inr (Or.inr (Or.inr (Or.inr (Or.inr (Or.inr (Or.inl ⟨n1, by omega, n3, by omega, L1, L3, w, o, y, z, r, q', m, a1, a2, a3, a4, a5, a6, a7, a8, by omega, by omega, ih n1 hn1 n1 L1 L1 _ _ _ _ _ _ _ (Nat.le_refl _) (Nat.le_refl _) hlo (Nat.le_refl _) a11, a12⟩)))))))
    · exact Or.inr (Or.inr (Or.inr (Or.inr (Or.inr (Or.inr (Or.inr (Or.inr (Or.inl ⟨n1, by omega, n3, by omega, L1, L3, w, d, o, y, z, r, q', m, a1, a2, a3, a4, a5, a6, a7, a8, by omega, by omega, ih n1 hn1 n1 L1 L1 _ _ _ _ _ _ _ (Nat.le_refl _) (Nat.le_refl _) hlo (Nat.le_refl _) a11, a12⟩))))))))
    · exact Or.inr (Or.inr (Or.inr (Or.inr (Or.inr (Or.inr (Or.inr (Or.inr (Or.inr ⟨n', by omega, L1, y, q', a, a1, a2, a3, a4, a5, a6, a7, by omega, ih n' (by omega) n' L1 L1 _ _ _ _ _ _ _ (Nat.le_refl _) (Nat.le_refl _) hlo (Nat.le_refl _) a9⟩))))))))
