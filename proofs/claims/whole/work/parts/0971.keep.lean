/-! what is read stays -/
variable {T N : Nat} {kd vl rv : Nat → Int} {pl : Nat → Nat}
/-- a node of a plain kind stays whole -/
theorem agN_pl {lo hi x y : Nat} {σ τ : MS} {w : Int} (hN : agN lo hi x σ τ) (h1 : lo ≤ y) (h2 : y < hi) (h : σ.2 17 y = J w) (hw : 0 ≤ w ∧ w < 41 ∧ w ≠ 33) : τ.2 17 y = J w ∧ τ.2 18 y = σ.2 18 y ∧ τ.2 19 y = σ.2 19 y ∧ τ.2 20 y = σ.2 20 y ∧ τ.2 21 y = σ.2 21 y := by
  obtain ⟨e1, e2, e3, e4, e5, -⟩ := hN y h1 h2
  have n : ∀ k : Int, 0 ≤ k → k < 1000 → k ≠ w → σ.2 17 y ≠ J k := fun k k0 k1 k2 => by rw [h]; exact J_ne (by omega) (by omega) (by omega) (by omega) (by omega)
  exact ⟨by rw [e1]; exact h, e2, e3, e4 (n 41 (by omega) (by omega) (by omega)), e5 (n 41 (by omega) (by omega) (by omega)) (n 42 (by omega) (by omega) (by omega)) (n 43 (by omega) (by omega) (by omega)) (n 33 (by omega) (by omega) (by omega))⟩
theorem PLC_ag {w : Int} {σ τ : MS} {x hi i j : Nat} (hN : agN x hi x σ τ) (hw : w = 1 ∨ w = 2) (h : PLC kd rv pl w σ x hi i j) : PLC kd rv pl w τ x hi i j := by
  obtain ⟨b1, b2, b3, b4, b5, b6, b7, b8, b9, b10, b11, b12, b13, b14, f, c, b15, b16⟩ := h
  obtain ⟨e1, e2, e3, e4, e5⟩ := agN_pl hN (Nat.le_refl x) (by omega) b7 (by omega)
  obtain ⟨g1, g2, g3, g4, g5⟩ := agN_pl hN (y := x + 2) (by omega) (by omega) b12 (by omega)
  exact ⟨b1, b2, b3, b4, b5, b6, e1, by rw [e2]; exact b8, by rw [e3]; exact b9, NMN_ag hN b10 (by omega) (by omega), by rw [e5]; exact b11, g1, by rw [g2]; exact b13, by rw [g4]; exact b14, f, c, by rw [e4]; exact b15, LST_ag hN (agC_rfl (i := i + 4) (j := j - 1) (p := 0) (q := c) (Γ := fun _ => (fun _ => 0, fun _ _ => 0, fun _ _ => 0))) b16 (by omega) (Nat.le_refl _) (by omega) (Nat.le_refl _) (Nat.le_refl _) (Nat.le_refl _) (Nat.le_refl _) (fun lo hi x i j p q h _ g => ⟨g.1, g.2.1, PRT_ag (by rw [g.1] at h; exact h) g.2.2⟩)⟩
theorem VRB_ag {σ τ : MS} {x hi i j : Nat} (hN : agN x hi x σ τ) (h : VRB kd rv pl σ x hi i j) : VRB kd rv pl τ x hi i j := by
  obtain ⟨b1, b2, b3, b4, b5, b6, b7, c, b8, b9, b10, b11, b11k, b12⟩ := h
  have hhi : x + 3 + c ≤ hi := by rcases b12 with h | h <;> omega
  obtain ⟨e1, e2, e3, e4, e5⟩ := agN_pl hN (Nat.le_refl x) (by omega) b4 (by omega)
  obtain ⟨g1, g2, g3, g4, g5⟩ := agN_pl hN (y := x + 2 + c) (by omega) (by omega) b11k (by omega)
  refine ⟨b1, b2, b3, e1, by rw [e2]; exact b5, by rw [e3]; exact b6, NMN_ag hN b7 (by omega) (by omega), c, b8, by rw [e4]; exact b9, NMS_ag hN b10 (by omega) (by omega) (by omega), by rw [e5]; exact b11, g1, ?_⟩
  rw [g3, g4]
  rcases b12 with b12 | ⟨c1, c2, c3, c4, c5, c6, c7⟩
  · exact Or.inl b12
  · exact Or.inr ⟨c1, c2, c3, c4, c5, c6, NMN_ag hN c7 (by omega) (by omega)⟩
theorem VRD_ag {σ τ : MS} {x hi i j : Nat} (hN : agN x hi x σ τ) (h : VRD kd vl rv pl σ x hi i j) : VRD kd vl rv pl τ x hi i j := by
  obtain ⟨b1, b2, b3, b4, b5, b6, b7, b8, b9, b10⟩ := h
  obtain ⟨e1, e2, e3, e4, e5⟩ := agN_pl hN (Nat.le_refl x) (by omega) b6 (by omega)
  exact ⟨b1, b2, b3, b4, b5, e1, by rw [e2]; exact b7, by rw [e3]; exact b8, NMN_ag hN b9 (by omega) (by omega), by rw [e4]; exact b10⟩
theorem ARD_ag {σ τ : MS} {x hi i j : Nat} (hN : agN x hi x σ τ) (h : ARD kd vl rv pl σ x hi i j) : ARD kd vl rv pl τ x hi i j := by
  obtain ⟨b1, b2, b3, b4, b5, b6, b7, b8, b9, b10, b11, b12, b13, b14⟩ := h
  obtain ⟨e1, e2, e3, e4, e5⟩ := agN_pl hN (Nat.le_refl x) (by omega) b9 (by omega)
  exact ⟨b1, b2, b3, b4, b5, b6, b7, b8, e1, by rw [e2]; exact b10, by rw [e3]; exact b11, NMN_ag hN b12 (by omega) (by omega), by rw [e4]; exact b13, by rw [e5]; exact b14⟩
theorem RTN_ag {σ τ : MS} {Γ Δ : HS} {a x lo hi b j p q : Nat} {w : Int} (hN : agN x hi x σ τ) (hC : agC a j p q Γ Δ) (h17 : σ.2 17 x = J w) (hw : 0 ≤ w ∧ w < 41 ∧ w ≠ 33) (hxl : x < lo) (hab : a < b) (h : RTN kd vl rv pl σ Γ a x lo hi b j p q) : RTN kd vl rv pl τ Δ a x lo hi b j p q := by
  obtain ⟨n, y, m, r, b1, b2, b3, b4, b5, b6, b7, b8, b9⟩ := h
  have rg3 := STX_rng b3
  obtain ⟨e1, e2, e3, e4, e5⟩ := agN_pl hN (Nat.le_refl x) (by omega) h17 hw
  obtain ⟨g1, g2, g3, g4, g5⟩ := agN_pl hN (y := m) (by omega) (by omega) b5 (by omega)
  exact ⟨n, y, m, r, b1, b2, STX_ag n 1 lo m y b j p r (agN_sub hN (by omega) (by omega) (by omega)) (agC_sub hC (by omega) (by omega) (by omega) (by omega)) b3, by rw [e5]; exact b4, g1, by rw [g2]; exact b6, by rw [g3]; exact b7, op1_ag b8 hC (by omega) (by omega), by rw [hC.2 a (Nat.le_refl a) (by omega)]; exact b9⟩
/-- the entries of a routine stay -/
def agT (R nd : Nat) (Γ Δ : HS) : Prop := (R < 400 → (Δ 5).2.1 2 R = (Γ 5).2.1 2 R ∧ (Δ 5).2.1 3 R = (Γ 5).2.1 3 R) ∧ (nd < 100 → (Δ 5).2.1 4 nd = (Γ 5).2.1 4 nd)
theorem TBL_ag {R nd p q : Nat} {Γ Δ : HS} (h : agT R nd Γ Δ) (g : TBL Γ R p q) : TBL Δ R p q := fun hR => by rw [(h.1 hR).1, (h.1 hR).2]; exact g hR
theorem ITM_ag {σ τ : MS} {Γ Δ : HS} {x hi i j p q nd no ne : Nat} (hN : agN x hi x σ τ) (hC : agC i j p q Γ Δ) (hR : agT (rti (kd i) nd no ne) (if kd i = 235 then nd else 400) Γ Δ) (h : ITM kd vl rv pl σ Γ x hi i j p q nd no ne) : ITM kd vl rv pl τ Δ x hi i j p q nd no ne := by
  rcases h with ⟨h0, h1, h⟩ | ⟨h0, h1, h⟩ | ⟨h0, h⟩ | ⟨h0, h⟩ | ⟨h0, h⟩ | h | h | h
  · exact Or.inl ⟨h0, h1, PLC_ag hN (Or.inl rfl) h⟩
  · exact Or.inr (Or.inl ⟨h0, h1, PLC_ag hN (Or.inr rfl) h⟩)
  · exact Or.inr (Or.inr (Or.inl ⟨h0, VRB_ag hN h⟩))
  · exact Or.inr (Or.inr (Or.inr (Or.inl ⟨h0, VRD_ag hN h⟩)))
  · exact Or.inr (Or.inr (Or.inr (Or.inr (Or.inl ⟨h0, ARD_ag hN h⟩))))
  · obtain ⟨b1, b2, b3, b4, b5, b6, b7, c, b, b8, b9, b10, b11, b12⟩ := h
    obtain ⟨n, y, m, r, c1, c2, c3, -⟩ := id b10
    have rg3 := STX_rng c3
    obtain ⟨e1, e2, e3, e4, e5⟩ := agN_pl hN (Nat.le_refl x) (by omega) b4 (by omega)
    rw [b1, if_pos rfl, show rti 235 nd no ne = rti 235 nd 0 0 by unfold rti; rw [if_pos rfl, if_pos rfl]] at hR
    refine Or.inr (Or.inr (Or.inr (Or.inr (Or.inr (Or.inl ⟨b1, b2, b3, e1, by rw [e2]; exact b5, by rw [e3]; exact b6, NMN_ag hN b7 (by omega) (by omega), c, b, b8, ?_, RTN_ag hN hC b4 (by omega) (by omega) (by omega) b10, TBL_ag hR b11, fun hn => by rw [hR.2 hn]; exact b12 hn⟩)))))
    rw [e4]
    rcases b9 with b9 | ⟨d1, d2, d3, d4⟩
    · exact Or.inl b9
    · exact Or.inr ⟨d1, d2, d3, NMS_ag hN d4 (by omega) (by omega) (by omega)⟩
  · obtain ⟨b1, b2, b4, b5, b6, b7, c, b8, b9, b9', b10, b11⟩ := h
    obtain ⟨n, y, m, r, c1, c2, c3, -⟩ := id b10
    have rg3 := STX_rng c3
    obtain ⟨e1, e2, e3, e4, e5⟩ := agN_pl hN (Nat.le_refl x) (by omega) b4 (by omega)
    rw [b1, rti_o, ← rti_o 0 no 0] at hR
    refine Or.inr (Or.inr (Or.inr (Or.inr (Or.inr (Or.inr (Or.inl ⟨b1, b2, e1, by rw [e2]; exact b5, by rw [e3]; exact b6, NMN_ag hN b7 (by omega) (by omega), c, b8, by rw [e4]; exact b9, fun k hk => ?_, RTN_ag hN hC b4 (by omega) (by omega) (by omega) b10, TBL_ag hR b11⟩))))))
    obtain ⟨⟨s1, s2, s3⟩, s4⟩ := b9' k hk
    obtain ⟨g1, g2, g3, g4, g5⟩ := agN_pl hN (y := x + 2 + k) (by omega) (by omega) s1 (by omega)
    exact ⟨⟨g1, by rw [g2]; exact s2, by rw [g3, g4]; exact s3⟩, by rw [(hN (x + 2 + k) (by omega) (by omega)).2.2.2.2.2 (by omega)]; exact s4⟩
  · obtain ⟨b1, b4, b5, b10, b11, b12⟩ := h
    obtain ⟨n, y, m, r, c1, c2, c3, -⟩ := id b10
    have rg3 := STX_rng c3
    obtain ⟨e1, e2, e3, e4, e5⟩ := agN_pl hN (Nat.le_refl x) (by omega) b4 (by omega)
    rw [b1, rti_e, ← rti_e 0 0 ne] at hR
    exact Or.inr (Or.inr (Or.inr (Or.inr (Or.inr (Or.inr (Or.inr ⟨b1, e1, by rw [e2]; exact b5, RTN_ag hN hC b4 (by omega) (by omega) (by omega) b10, TBL_ag hR b11, by rw [e3]; exact b12⟩))))))
