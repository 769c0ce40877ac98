/-! code as it stands when the names have their meanings: at the places where instructions begin -/
variable {T N : Nat} {kd vl rv : Nat → Int} {pl : Nat → Nat}
/-- from what was told to what stands there -/
def BDC (O1 P1 : Nat → Int → Prop) (O3 P3 : Nat → Int → Int → Prop) (BD : Nat → Prop) (ln : Nat) : Prop := (∀ (r : Nat) (o : Int), BD r → r + 1 ≤ ln → O1 r o → 0 ≤ o → o ≤ 32 → P1 r o ∧ BD (r + 1)) ∧ ∀ (r : Nat) (o v : Int), BD r → r + 3 ≤ ln → O3 r o v → 33 ≤ o → o ≤ 48 → P3 r o v ∧ BD (r + 3)
theorem LSQ_bd {R : Nat → Nat → Int32} {E F : Nat → Nat → Nat → Nat → Nat → Prop} {BD : Nat → Prop} {ln lo hi : Nat} {f : Int} {c p q : Nat} (h : LSQ R E lo hi f c p q) (hq : q ≤ ln) (hB : BD p) (hE : ∀ a b x r s, E a b x r s → s ≤ ln → BD r → F a b x r s ∧ BD s) : LSQ R F lo hi f c p q ∧ BD q := by
  obtain ⟨xs, ls, ps, c1, c2, c3, c4, c5, c6, c7⟩ := h
  have hr := LSQ_rng c5
  have key : ∀ k, k ≤ c → BD (ps k) := by
    intro k
    induction k with
    | zero => intro _; rw [c6]; exact hB
    | succ k ih =>
      intro hk
      have r2 := (hr (c - (k + 1)) (k + 1) (by omega)).2
      rw [show k + 1 + (c - (k + 1)) = c by omega] at r2
      exact (hE _ _ _ _ _ (c5 k (by omega)).2.2.2 (by omega) (ih (by omega))).2
  refine ⟨⟨xs, ls, ps, c1, c2, c3, c4, fun k hk => ?_, c6, c7⟩, by rw [← c7]; exact key c (Nat.le_refl _)⟩
  have r2 := (hr (c - (k + 1)) (k + 1) (by omega)).2
  rw [show k + 1 + (c - (k + 1)) = c by omega] at r2
  obtain ⟨a, b, d, e⟩ := c5 k hk
  exact ⟨a, b, d, (hE _ _ _ _ _ e (by omega) (key k (by omega))).1⟩
theorem EXQ_bd {O1 P1 : Nat → Int → Prop} {O3 P3 : Nat → Int → Int → Prop} {R : Nat → Nat → Int32} {DN : Nat → Nat → Nat → Prop} {BD : Nat → Prop} {ln : Nat} (hC : BDC O1 P1 O3 P3 BD ln) : ∀ (n L lo hi x p q : Nat), EXQ O1 O3 R DN n L lo hi x p q → q ≤ ln → BD p → EXQ P1 P3 R DN n L lo hi x p q ∧ BD q := by
  obtain ⟨h1, h3⟩ := hC
  intro n
  induction n using Nat.strongRecOn with
  | _ n ih =>
    intro L lo hi x p q h hq hB
    unfold EXQ at h ⊢
    obtain ⟨b0, b1, b2, b3, b4, h⟩ := h
    rcases h with ⟨v, a1, a2, a3, a4, a5, a6⟩ | ⟨b, k, o, a1, a2, a3, a4, a5, a6⟩ | ⟨n', hn, L1, f, c, q', k, z, a1, a2, a3, a4, a5, a6, a7, a8⟩ | ⟨n', hn, L1, y, q', k, a1, a2, a3, a4, a5, a6, a7, a8⟩ | ⟨w, o, a1, a2, a3, a4⟩ | ⟨a1, a2, a3⟩ | ⟨n', hn, L1, w, o, y, q', lo', hi', a1, a2, a3, a4, a5, a6, a7, a8, a9⟩ | ⟨n1, hn1, n2, hn2, L1, L2, w, o, y, z, r, q', m, a1, a2, a3, a4, a5, a6, a7, a8, a9, a10, a11, a12⟩ | ⟨n1, hn1, n2, hn2, L1, L2, w, d, o, y, z, r, q', m, a1, a2, a3, a4, a5, a6, a7, a8, a9, a10, a11, a12⟩ | ⟨n', hn, L1, y, q', a, a1, a2, a3, a4, a5, a6, a7, a8, a9⟩
    · obtain ⟨c1, c2⟩ := h3 p 33 v hB (by omega) a6 (by omega) (by omega)
      exact ⟨⟨b0, b1, b2, b3, b4, Or.inl ⟨v, a1, a2, a3, a4, a5, c1⟩⟩, by rw [a1]; exact c2⟩
    · obtain ⟨c1, c2⟩ := h3 p o (k : Nat) hB (by omega) a6 (by unfold nmO at a5; omega) (by unfold nmO at a5; omega)
      exact ⟨⟨b0, b1, b2, b3, b4, Or.inr (Or.inl ⟨b, k, o, a1, a2, a3, a4, a5, c1⟩)⟩, by rw [a1]; exact c2⟩
    · obtain ⟨d1, d2⟩ := LSQ_bd a8 (show q' ≤ ln by omega) hB (fun a b x r s h hs hB => ih n' (by omega) _ _ _ _ _ _ h hs hB)
      obtain ⟨c1, c2⟩ := h3 q' 40 (k : Nat) d2 (by omega) a6 (by omega) (by omega)
      exact ⟨⟨b0, b1, b2, b3, b4, Or.inr (Or.inr (Or.inl ⟨n', hn, L1, f, c, q', k, z, a1, a2, a3, a4, a5, c1, a7, d1⟩))⟩, by rw [a1]; exact c2⟩
    · obtain ⟨d1, d2⟩ := ih n' (by omega) _ _ _ _ _ _ a8 (by omega) hB
      obtain ⟨c1, c2⟩ := h3 q' 36 (k : Nat) d2 (by omega) a6 (by omega) (by omega)
      exact ⟨⟨b0, b1, b2, b3, b4, Or.inr (Or.inr (Or.inr (Or.inl ⟨n', hn, L1, y, q', k, a1, a2, a3, a4, a5, c1, a7, d1⟩)))⟩, by rw [a1]; exact c2⟩
    · obtain ⟨c1, c2⟩ := h1 p o hB (by omega) a4 (by unfold zTq at a1; omega) (by unfold zTq at a1; omega)
      exact ⟨⟨b0, b1, b2, b3, b4, Or.inr (Or.inr (Or.inr (Or.inr (Or.inl ⟨w, o, a1, a2, a3, c1⟩))))⟩, by rw [a2]; exact c2⟩
    · obtain ⟨c1, c2⟩ := h3 p 33 1 hB (by omega) a3 (by omega) (by omega)
      exact ⟨⟨b0, b1, b2, b3, b4, Or.inr (Or.inr (Or.inr (Or.inr (Or.inr (Or.inl ⟨a1, a2, c1⟩)))))⟩, by rw [a1]; exact c2⟩
    · obtain ⟨d1, d2⟩ := ih n' (by omega) _ _ _ _ _ _ a9 (by omega) hB
      obtain ⟨c1, c2⟩ := h1 q' o d2 (by omega) a5 (by unfold uTq at a1; omega) (by unfold uTq at a1; omega)
      exact ⟨⟨b0, b1, b2, b3, b4, Or.inr (Or.inr (Or.inr (Or.inr (Or.inr (Or.inr (Or.inl ⟨n', hn, L1, w, o, y, q', lo', hi', a1, a2, a3, a4, c1, a6, a7, a8, d1⟩))))))⟩, by rw [a2]; exact c2⟩
    · have r1 := EXQ_rng a11
      have r2 := EXQ_rng a12
      obtain ⟨d1, d2⟩ := ih n1 hn1 _ _ _ _ _ _ a11 (by omega) hB
      obtain ⟨c1, c2⟩ := h3 r o (q : Nat) d2 (by omega) a6 (by unfold lTq at a1; omega) (by unfold lTq at a1; omega)
      obtain ⟨e1, e2⟩ := ih n2 (by omega) _ _ _ _ _ _ a12 (by omega) c2
      obtain ⟨f1, f2⟩ := h1 q' 7 e2 (by omega) a7 (by omega) (by omega)
      exact ⟨⟨b0, b1, b2, b3, b4, Or.inr (Or.inr (Or.inr (Or.inr (Or.inr (Or.inr (Or.inr (Or.inl ⟨n1, hn1, n2, hn2, L1, L2, w, o, y, z, r, q', m, a1, a2, a3, a4, a5, c1, f1, a8, a9, a10, d1, e1⟩)))))))⟩, by rw [a2]; exact f2⟩
    · have r1 := EXQ_rng a11
      have r2 := EXQ_rng a12
      obtain ⟨d1, d2⟩ := ih n1 hn1 _ _ _ _ _ _ a11 (by omega) hB
      obtain ⟨e1, e2⟩ := ih n2 (by omega) _ _ _ _ _ _ a12 (by omega) d2
      obtain ⟨f1, f2⟩ := h1 q' o e2 (by omega) a7 (by unfold bTq at a1; omega) (by unfold bTq at a1; omega)
      exact ⟨⟨b0, b1, b2, b3, b4, Or.inr (Or.inr (Or.inr (Or.inr (Or.inr (Or.inr (Or.inr (Or.inr (Or.inl ⟨n1, hn1, n2, hn2, L1, L2, w, d, o, y, z, r, q', m, a1, a2, a3, a4, a5, a6, f1, a8, a9, a10, d1, e1⟩))))))))⟩, by rw [a2]; exact f2⟩
    · obtain ⟨d1, d2⟩ := ih n' (by omega) _ _ _ _ _ _ a9 (by omega) hB
      obtain ⟨c1, c2⟩ := h3 q' 46 a d2 (by omega) a7 (by omega) (by omega)
      exact ⟨⟨b0, b1, b2, b3, b4, Or.inr (Or.inr (Or.inr (Or.inr (Or.inr (Or.inr (Or.inr (Or.inr (Or.inr ⟨n', hn, L1, y, q', a, a1, a2, a3, a4, a5, a6, c1, a8, d1⟩))))))))⟩, by rw [a1]; exact c2⟩
theorem EQx_bd {O1 P1 : Nat → Int → Prop} {O3 P3 : Nat → Int → Int → Prop} {R : Nat → Nat → Int32} {DN : Nat → Nat → Nat → Prop} {BD : Nat → Prop} {ln lo hi x p q : Nat} (hC : BDC O1 P1 O3 P3 BD ln) (h : EQx O1 O3 R DN lo hi x p q) (hq : q ≤ ln) (hB : BD p) : EQx P1 P3 R DN lo hi x p q ∧ BD q := by
  obtain ⟨n, L, a, b, h⟩ := h
  obtain ⟨c, d⟩ := EXQ_bd hC _ _ _ _ _ _ _ h hq hB
  exact ⟨⟨n, L, a, b, c⟩, d⟩
theorem PSQ_bd {O1 P1 : Nat → Int → Prop} {O3 P3 : Nat → Int → Int → Prop} {R : Nat → Nat → Int32} {DN : Nat → Nat → Nat → Prop} {TX : Nat → Int → Int → Prop} {Dq : Prop} {BD : Nat → Prop} {ln hi s p q : Nat} (hC : BDC O1 P1 O3 P3 BD ln) (h : PSQ O1 O3 R DN TX Dq hi s p q) (hq : q ≤ ln) (hB : BD p) : PSQ P1 P3 R DN TX Dq hi s p q ∧ BD q := by
  have ex := fun {lo hi x p q : Nat} (h : EQx O1 O3 R DN lo hi x p q) (hq : q ≤ ln) (hB : BD p) => EQx_bd hC h hq hB
  obtain ⟨h1, h3⟩ := hC
  rcases h with ⟨f, c, a1, a2, a3, a4⟩ | ⟨y, x, k, q', a1, a2, a3, a4, a5, a6, a7, a8, a9, a10⟩ | ⟨y, x, k, q', b, o, a1, a2, a3, a4, a5, a6, a7, a8, a9, a10, a11⟩ | ⟨y, x, x2, k, m, r, q', a1, a2, a3, a4, a5, a6, a7, a8, a9, a10, a11, a12, a13⟩ | ⟨x, x2, m, r, q', a1, a2, a3, a4, a5, a6, a7, a8⟩ | ⟨w, o, x, q', a1, a2, a3, a4, a5, a6⟩ | ⟨d, o, a, x, q', a1, a2, a3, a4, a5, a6, a7, a8, a9, a10⟩ | ⟨w, o, a1, a2, a3, a4⟩ | ⟨f, y, c, k, z, q', a1, a2, a3, a4, a5, a6, a7, a8, a9, a10, a11, a12⟩
  · obtain ⟨d1, d2⟩ := LSQ_bd (F := TEQ P1 P3 R DN TX) a4 hq hB (fun a b x r s h hs hB => by
      obtain ⟨b1, b2, b3, h⟩ := h
      rcases h with ⟨r', v, w, a1, a2, a3, a4, a5⟩ | ⟨y, q', a1, a2, a3, a4, a5⟩ | ⟨y, q', a1, a2, a3, a4, a5⟩
      · obtain ⟨c1, c2⟩ := h3 r 45 v hB (by omega) a5 (by omega) (by omega)
        exact ⟨⟨b1, b2, b3, Or.inl ⟨r', v, w, a1, a2, a3, a4, c1⟩⟩, by rw [a1]; exact c2⟩
      · obtain ⟨d1, d2⟩ := ex a5 (by omega) hB
        obtain ⟨c1, c2⟩ := h1 q' 21 d2 (by omega) a4 (by omega) (by omega)
        exact ⟨⟨b1, b2, b3, Or.inr (Or.inl ⟨y, q', a1, a2, a3, c1, d1⟩)⟩, by rw [a1]; exact c2⟩
      · obtain ⟨d1, d2⟩ := ex a5 (by omega) hB
        obtain ⟨c1, c2⟩ := h1 q' 31 d2 (by omega) a4 (by omega) (by omega)
        exact ⟨⟨b1, b2, b3, Or.inr (Or.inr ⟨y, q', a1, a2, a3, c1, d1⟩)⟩, by rw [a1]; exact c2⟩)
    exact ⟨Or.inl ⟨f, c, a1, a2, a3, d1⟩, d2⟩
  · obtain ⟨d1, d2⟩ := ex a10 (by omega) hB
    obtain ⟨c1, c2⟩ := h3 q' 38 (k : Nat) d2 (by omega) a9 (by omega) (by omega)
    exact ⟨Or.inr (Or.inl ⟨y, x, k, q', a1, a2, a3, a4, a5, a6, a7, a8, c1, d1⟩), by rw [a1]; exact c2⟩
  · obtain ⟨d1, d2⟩ := ex a11 (by omega) hB
    obtain ⟨c1, c2⟩ := h3 q' o (k : Nat) d2 (by omega) a10 (by omega) (by omega)
    exact ⟨Or.inr (Or.inr (Or.inl ⟨y, x, k, q', b, o, a1, a2, a3, a4, a5, a6, a7, a8, a9, c1, d1⟩)), by rw [a1]; exact c2⟩
  · have r1 := EQx_rng a12
    have r2 := EQx_rng a13
    obtain ⟨d1, d2⟩ := ex a12 (by omega) hB
    obtain ⟨e1, e2⟩ := ex a13 (by omega) d2
    obtain ⟨c1, c2⟩ := h3 q' 39 (k : Nat) e2 (by omega) a10 (by omega) (by omega)
    exact ⟨Or.inr (Or.inr (Or.inr (Or.inl ⟨y, x, x2, k, m, r, q', a1, a2, a3, a4, a5, a6, a7, a8, a9, c1, a11, d1, e1⟩))), by rw [a1]; exact c2⟩
  · have r1 := EQx_rng a7
    have r2 := EQx_rng a8
    obtain ⟨d1, d2⟩ := ex a7 (by omega) hB
    obtain ⟨e1, e2⟩ := ex a8 (by omega) d2
    obtain ⟨c1, c2⟩ := h1 q' 32 e2 (by omega) a5 (by omega) (by omega)
    exact ⟨Or.inr (Or.inr (Or.inr (Or.inr (Or.inl ⟨x, x2, m, r, q', a1, a2, a3, a4, c1, a6, d1, e1⟩)))), by rw [a1]; exact c2⟩
  · obtain ⟨d1, d2⟩ := ex a6 (by omega) hB
    obtain ⟨c1, c2⟩ := h1 q' o d2 (by omega) a5 (by unfold eTq at a1; omega) (by unfold eTq at a1; omega)
    exact ⟨Or.inr (Or.inr (Or.inr (Or.inr (Or.inr (Or.inl ⟨w, o, x, q', a1, a2, a3, a4, c1, d1⟩))))), by rw [a2]; exact c2⟩
  · obtain ⟨d1, d2⟩ := ex a10 (by omega) hB
    obtain ⟨c1, c2⟩ := h3 q' o a d2 (by omega) a9 (by unfold gTq at a1; omega) (by unfold gTq at a1; omega)
    exact ⟨Or.inr (Or.inr (Or.inr (Or.inr (Or.inr (Or.inr (Or.inl ⟨d, o, a, x, q', a1, a2, a3, a4, a5, a6, a7, a8, c1, d1⟩)))))), by rw [a4]; exact c2⟩
  · obtain ⟨c1, c2⟩ := h1 p o hB (by omega) a4 (by unfold dTq at a1; omega) (by unfold dTq at a1; omega)
    exact ⟨Or.inr (Or.inr (Or.inr (Or.inr (Or.inr (Or.inr (Or.inr (Or.inl ⟨w, o, a1, a2, a3, c1⟩))))))), by rw [a2]; exact c2⟩
  · obtain ⟨d1, d2⟩ := LSQ_bd (F := EQx P1 P3 R DN) a12 (by omega) hB (fun a b x r s h hs hB => ex h hs hB)
    obtain ⟨c1, c2⟩ := h3 q' 40 (k : Nat) d2 (by omega) a10 (by omega) (by omega)
    obtain ⟨e1, e2⟩ := h1 (q' + 3) 1 c2 (by omega) a11 (by omega) (by omega)
    exact ⟨Or.inr (Or.inr (Or.inr (Or.inr (Or.inr (Or.inr (Or.inr (Or.inr ⟨f, y, c, k, z, q', a1, a2, a3, a4, a5, a6, a7, a8, a9, c1, e1, d1⟩))))))), by rw [a1]; exact e2⟩
theorem STQ_bd {O1 P1 : Nat → Int → Prop} {O3 P3 : Nat → Int → Int → Prop} {R : Nat → Nat → Int32} {DN : Nat → Nat → Nat → Prop} {TX : Nat → Int → Int → Prop} {Dq : Prop} {BD : Nat → Prop} {ln : Nat} (hC : BDC O1 P1 O3 P3 BD ln) : ∀ (n g lo hi x p q : Nat), STQ O1 O3 R DN TX Dq n g lo hi x p q → q ≤ ln → BD p → STQ P1 P3 R DN TX Dq n g lo hi x p q ∧ BD q := by
  intro n
  induction n with
  | zero => intro g lo hi x p q h; exact absurd h (by simp [STQ])
  | succ n ih =>
    intro g lo hi x p q h hq hB
    unfold STQ at h ⊢
    obtain ⟨b1, b2, b3, h⟩ := h
    obtain ⟨h1, h3⟩ := id hC
    rcases h with ⟨g0, hpq, h⟩ | ⟨g1, f, c, a1, a2, a3, a4⟩ | ⟨g2, a0, e', b, m, m2, r, r2, t, a1, a2, a3, a4, a5, a6, ⟨lo', a7, a8⟩, a9, a10⟩ | ⟨g', g3, a1⟩
    · rcases h with h | ⟨c1, c2⟩ | ⟨e', b, m, r, q', a1, a2, a3, a4, a5, a6, a7, a8, a9, a10⟩
      · obtain ⟨d1, d2⟩ := PSQ_bd hC h hq hB
        exact ⟨⟨b1, b2, b3, Or.inl ⟨g0, hpq, Or.inl d1⟩⟩, d2⟩
      · obtain ⟨d1, d2⟩ := ih _ _ _ _ _ _ c2 hq hB
        exact ⟨⟨b1, b2, b3, Or.inl ⟨g0, hpq, Or.inr (Or.inl ⟨c1, d1⟩)⟩⟩, d2⟩
      · have r1 := EQx_rng a9
        have r2 := STQ_rng a10
        obtain ⟨d1, d2⟩ := EQx_bd hC a9 (by omega) hB
        obtain ⟨c1, c2⟩ := h3 r 42 (q : Nat) d2 (by omega) a5 (by omega) (by omega)
        obtain ⟨e1, e2⟩ := h1 (r + 3) 3 c2 (by omega) a6 (by omega) (by omega)
        obtain ⟨f1, f2⟩ := ih _ _ _ _ _ _ a10 (by omega) e2
        obtain ⟨g1, g2⟩ := h3 q' 41 (p : Nat) f2 (by omega) a7 (by omega) (by omega)
        exact ⟨⟨b1, b2, b3, Or.inl ⟨g0, hpq, Or.inr (Or.inr ⟨e', b, m, r, q', a1, a2, a3, a4, c1, e1, g1, a8, d1, f1⟩)⟩⟩, by rw [a1]; exact g2⟩
    · obtain ⟨d1, d2⟩ := LSQ_bd (F := STQ P1 P3 R DN TX Dq n 0) a4 hq hB (fun a b x r s h hs hB => ih _ _ _ _ _ _ h hs hB)
      exact ⟨⟨b1, b2, b3, Or.inr (Or.inl ⟨g1, f, c, a1, a2, a3, d1⟩)⟩, d2⟩
    · have r1 := EQx_rng a8
      have r2' := STQ_rng a9
      rcases a10 with ⟨c1, c2, c3⟩ | ⟨c1, c2, y, c3, c4⟩
      · obtain ⟨d1, d2⟩ := EQx_bd hC a8 (by omega) hB
        obtain ⟨e1, e2⟩ := h3 r 42 (t : Nat) d2 (by omega) a3 (by omega) (by omega)
        obtain ⟨f1, f2⟩ := ih _ _ _ _ _ _ a9 (by omega) e2
        exact ⟨⟨b1, b2, b3, Or.inr (Or.inr (Or.inl ⟨g2, a0, e', b, m, m2, r, r2, t, a1, a2, e1, a4, a5, a6, ⟨lo', a7, d1⟩, f1, Or.inl ⟨c1, c2, c3⟩⟩))⟩, by rw [c1]; exact f2⟩
      · have hq2 : r2 + 3 ≤ q := by
          rcases c4 with ⟨-, c5⟩ | ⟨-, c5⟩
          · exact (STQ_rng c5).2.2
          · exact (STQ_rng c5).2.2
        obtain ⟨d1, d2⟩ := EQx_bd hC a8 (by omega) hB
        obtain ⟨e1, e2⟩ := h3 r 42 (t : Nat) d2 (by omega) a3 (by omega) (by omega)
        obtain ⟨f1, f2⟩ := ih _ _ _ _ _ _ a9 (by omega) e2
        obtain ⟨g1, g2'⟩ := h3 r2 41 (q : Nat) f2 (by omega) c2 (by omega) (by omega)
        rcases c4 with ⟨c4, c5⟩ | ⟨c4, c5⟩
        · obtain ⟨j1, j2⟩ := ih _ _ _ _ _ _ c5 hq g2'
          exact ⟨⟨b1, b2, b3, Or.inr (Or.inr (Or.inl ⟨g2, a0, e', b, m, m2, r, r2, t, a1, a2, e1, a4, a5, a6, ⟨lo', a7, d1⟩, f1, Or.inr ⟨c1, g1, y, c3, Or.inl ⟨c4, j1⟩⟩⟩))⟩, j2⟩
        · obtain ⟨j1, j2⟩ := ih _ _ _ _ _ _ c5 hq g2'
          exact ⟨⟨b1, b2, b3, Or.inr (Or.inr (Or.inl ⟨g2, a0, e', b, m, m2, r, r2, t, a1, a2, e1, a4, a5, a6, ⟨lo', a7, d1⟩, f1, Or.inr ⟨c1, g1, y, c3, Or.inr ⟨c4, j1⟩⟩⟩))⟩, j2⟩
    · obtain ⟨d1, d2⟩ := ih _ _ _ _ _ _ a1 hq hB
      exact ⟨⟨b1, b2, b3, Or.inr (Or.inr (Or.inr ⟨g', g3, d1⟩))⟩, d2⟩
theorem RTQ_bd {O1 P1 : Nat → Int → Prop} {O3 P3 : Nat → Int → Int → Prop} {R : Nat → Nat → Int32} {DN : Nat → Nat → Nat → Prop} {TX : Nat → Int → Int → Prop} {Dq : Prop} {BD : Nat → Prop} {ln x lo hi p q : Nat} (hC : BDC O1 P1 O3 P3 BD ln) (h : RTQ O1 O3 R DN TX Dq x lo hi p q) (hq : q ≤ ln) (hB : BD p) : RTQ P1 P3 R DN TX Dq x lo hi p q ∧ BD q := by
  obtain ⟨hh, y, m, r, lo', a1, a2, a3, a4, a5, a6, a7, a8, a9⟩ := h
  obtain ⟨d1, d2⟩ := STQ_bd hC _ _ _ _ _ _ _ a5 (by omega) hB
  obtain ⟨c1, c2⟩ := hC.1 r 0 d2 (by omega) a9.1 (by omega) (by omega)
  exact ⟨⟨hh, y, m, r, lo', a1, a2, a3, a4, d1, a6, a7, a8, c1, a9.2⟩, by rw [a4]; exact c2⟩
