/-! code with what is known at each place -/
variable {T N : Nat} {kd vl rv : Nat → Int} {pl : Nat → Nat}
theorem op3_u {Γ : HS} {p : Nat} {o o' v v' : Int} (h : op3 Γ p o v) (g : op3 Γ p o' v') (ho : 0 ≤ o ∧ o < 1000) (ho' : 0 ≤ o' ∧ o' < 1000) : o = o' := by
  have := h.1.symm.trans g.1
  rwa [J_eq (by omega) (by omega) (by omega) (by omega)] at this
theorem op3_v {Γ : HS} {p : Nat} {o o' : Int} {v v' : Nat} (h : op3 Γ p o (v : Nat)) (g : op3 Γ p o' (v' : Nat)) (hv : v < 65536) (hv' : v' < 65536) : v = v' := cb_inj hv hv' (h.2.1.symm.trans g.2.1) (h.2.2.symm.trans g.2.2)
/-- what is known, as far as the routine goes -/
def labD (S : Nat → Nat → Prop) (q t u : Nat) : Prop := t ≤ q ∧ S t u
theorem lab_bdc {G : Nat → HS} {Θ Γs Δ : HS} {BD : Nat → Prop} {ln nV nA p q : Nat} {S : Nat → Nat → Prop} (hC : BDC (op1 Γs) (op1 Δ) (lk3 G Θ Γs kd vl) (op3 Δ) BD ln) (hV : ∀ (r : Nat) (o : Int) (i : Nat), BD r → r + 3 ≤ ln → isNO o → op3 Γs r o (i : Nat) → i < 65536 → (lnkO o (srt G Θ kd vl i) = 34 ∨ lnkO o (srt G Θ kd vl i) = 37 → nmb G Θ kd vl i < nV) ∧ (o = 36 ∨ o = 39 → srt G Θ kd vl i = 5 → nmb G Θ kd vl i < nA)) (hS : FLS Γs (LDW G Θ kd vl) S p q p q) (hq : q ≤ ln) (hq2 : ln < 60000) (hB : BD p) : ∃ BD' : Nat → Prop, BDC (op1 Γs) (I1 Δ (labD S q)) (lk3 G Θ Γs kd vl) (I3 Δ (labD S q) nV nA) BD' q ∧ BD' p := by
  obtain ⟨n, b, b1, b2, b3⟩ := hS
  have hlt := FLS_le b3
  refine ⟨fun r => BD r ∧ ∃ k, k ≤ n ∧ b k = r, ⟨?_, ?_⟩, hB, 0, Nat.zero_le _, b1⟩
  · rintro r o ⟨hr, k, k1, rfl⟩ hl ho o1 o2
    have kn : k < n := by
      rcases Nat.lt_or_ge k n with h | h
      · exact h
      · rw [show k = n by omega, b2] at hl; omega
    obtain ⟨c1, c2⟩ := hC.1 _ o hr (by omega) ho o1 o2
    rcases b3 k kn with ⟨o', x1, x2, x3, x4, x5⟩ | ⟨o', v', x1, x2, x3, x4, -⟩
    · exact ⟨⟨c1, fun _ u hu => ⟨by omega, x5 u (by rw [x4]; exact hu.2)⟩⟩, c2, k + 1, kn, x4⟩
    · exfalso
      have := x1.1.symm.trans ho
      rw [J_eq (by omega) (by omega) (by omega) (by omega)] at this; omega
  · rintro r o v ⟨hr, k, k1, rfl⟩ hl ho o1 o2
    have kn : k < n := by
      rcases Nat.lt_or_ge k n with h | h
      · exact h
      · rw [show k = n by omega, b2] at hl; omega
    obtain ⟨c1, c2⟩ := hC.2 _ o v hr (by omega) ho o1 o2
    rcases b3 k kn with ⟨o', x1, x2, x3, x4, x5⟩ | ⟨o', v', x1, x2, x3, x4, x5, x6, x62, x7⟩
    · exfalso
      rcases ho with ⟨hn, ho⟩ | ⟨o0, i, hn, ho, -⟩
      · have := x1.symm.trans ho.1
        rw [J_eq (by omega) (by omega) (by omega) (by omega)] at this; omega
      · have := x1.symm.trans ho.1
        unfold isNO at hn
        rw [J_eq (by omega) (by omega) (by omega) (by omega)] at this; omega
    · refine ⟨?_, c2, k + 1, kn, x4⟩
      rw [x4] at x5
      rcases ho with ⟨⟨hn, hn2⟩, ho⟩ | ⟨o0, i, hn, ho, hi, e1, e2, e3⟩
      · have e : o' = o := op3_u x1 ho (by omega) (by omega)
        subst e
        refine ⟨c1, fun h => absurd h (by omega), fun u hu => ?_, fun h1 h2 h3 u hu => ?_, fun h => absurd h (by omega), fun h => ?_⟩
        · rcases x5 u hu.2 with h | h
          · exact Or.inl ⟨by omega, h⟩
          · exfalso; apply hn; unfold isNO; omega
        · obtain ⟨i, rfl, i2, i3, i4⟩ := x7 h1 h2
          obtain ⟨w, rfl⟩ : ∃ w : Nat, v = w := ⟨v.toNat, by omega⟩
          rw [Int.toNat_natCast] at hu
          have : w = i := op3_v ho x1 (by have := hu.1; omega) (by omega)
          rw [this] at hu
          exact ⟨by omega, i4 u hu.2⟩
        · exfalso; apply hn; unfold isNO; omega
      · have o0b : 33 ≤ o0 ∧ o0 ≤ 50 := by unfold isNO at hn; omega
        have e : o' = o0 := op3_u x1 ho (by omega) (by omega)
        subst e
        obtain ⟨n1, n2⟩ := hV _ o' i hr (by omega) hn ho (by omega)
        rw [← e1] at n1
        have vi : o' = 49 ∨ o' = 50 → v' = (i : Nat) := fun h => by
          obtain ⟨y1, y2⟩ := x62 h
          obtain ⟨w, rfl⟩ : ∃ w : Nat, v' = w := ⟨v'.toNat, by omega⟩
          have : w = i := op3_v x1 ho (by omega) (by omega)
          omega
        have lo : o = lnkO o' (srt G Θ kd vl i) := e1
        refine ⟨c1, fun h => ?_, fun u hu => ?_, fun h1 h2 h3 u hu => ?_, fun h => ?_, fun h => ?_⟩
        · have o49 : o' = 49 ∧ srt G Θ kd vl i = 7 := by
            unfold lnkO at lo; unfold isNO at hn
            split at lo
            · split at lo
              · omega
              · split at lo <;> omega
            · split at lo
              · split at lo <;> omega
              · omega
          have hl2 : LDW G Θ kd vl i (nmb G Θ kd vl i) := ⟨o49.2, rfl⟩
          refine ⟨by omega, ?_⟩
          rw [e2, Int.toNat_natCast]
          refine x6 o49.1 _ ?_
          rw [vi (Or.inl o49.1), Int.toNat_natCast]; exact hl2
        · rcases x5 u hu.2 with h | ⟨h50, h⟩
          · exact Or.inl ⟨by omega, h⟩
          · right
            rw [vi (Or.inr h50), Int.toNat_natCast] at h
            obtain ⟨h7, hu2⟩ := h
            refine ⟨?_, by rw [e2, Int.toNat_natCast]; exact hu2.symm⟩
            rw [lo, h50, h7]; rfl
        · exfalso
          unfold lnkO at lo; unfold isNO at hn
          split at lo
          · split at lo
            · omega
            · split at lo <;> omega
          · split at lo
            · split at lo <;> omega
            · omega
        · rw [e2]
          have := n1 h
          omega
        · rw [e2]
          have o2 : o' = 36 ∨ o' = 39 := by
            unfold lnkO at lo; unfold isNO at hn
            split at lo
            · split at lo
              · omega
              · split at lo <;> omega
            · split at lo
              · split at lo <;> omega
              · omega
          have := n2 o2 (e3 o2)
          omega
