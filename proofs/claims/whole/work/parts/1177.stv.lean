/-! every statement runs alike -/
variable {R : Nat → Nat → Int32} {nO nV nC nA ln : Nat} {room : Nat → Bool} {en : Nat → Nat} {TX : Nat → Int → Int → Prop} {DN : Nat → Nat → Nat → Prop}
theorem LSQ_cnt {E : Nat → Nat → Nat → Nat → Nat → Prop} {lo hi : Nat} {f : Int} {c p q : Nat} (h : LSQ R E lo hi f c p q) : c ≤ hi := by
  obtain ⟨xs, ls, ps, c1, c2, c3, c4, c5, c6, c7⟩ := h
  have : ∀ k, k ≤ c → k ≤ ls k := by
    intro k
    induction k with
    | zero => intro _; omega
    | succ k ih => intro hk; have := ih (by omega); have := c5 k (by omega); omega
  have := this c (Nat.le_refl _)
  omega
theorem STV {Γ0 : HS} {D : Nat → Nat → Prop} {Dq : Prop} {B dep bC b0 q0 w wk : Nat} (hC : SCX R nO nV nC nA room en ln TX DN Γ0 B dep bC w wk) : ∀ n : Nat, (∀ e lo hi x p q, STQ (I1 Γ0 D) (I3 Γ0 D nV nA) R DN TX Dq n 0 lo hi x p q → hi ≤ 39990 → q ≤ ln → n + 3 * B + 9 ≤ 3 * e → RunS R nO nV nC nA room en ln TX Γ0 D Dq dep bC b0 q0 w wk e x p q) ∧ (∀ e lo hi x p q, STQ (I1 Γ0 D) (I3 Γ0 D nV nA) R DN TX Dq n 1 lo hi x p q → hi ≤ 39990 → q ≤ ln → n + 3 * B + 11 ≤ 3 * e → RunK R nO nV nC nA room en ln TX Γ0 D Dq dep bC b0 q0 w wk e x p q) ∧ (∀ e lo hi x p q, STQ (I1 Γ0 D) (I3 Γ0 D nV nA) R DN TX Dq n 2 lo hi x p q → hi ≤ 39990 → q ≤ ln → n + 3 * B + 10 ≤ 3 * e → RunS R nO nV nC nA room en ln TX Γ0 D Dq dep bC b0 q0 w wk e x p q) := by
  intro n
  induction n using Nat.strongRecOn with
  | _ n ih =>
    cases n with
    | zero => exact ⟨fun e lo hi x p q h => by unfold STQ at h; exact h.elim, fun e lo hi x p q h => by unfold STQ at h; exact h.elim, fun e lo hi x p q h => by unfold STQ at h; exact h.elim⟩
    | succ n =>
      refine ⟨fun e lo hi x p q h hhi hq he => ?_, fun e lo hi x p q h hhi hq he => ?_, fun e lo hi x p q h hhi hq he => ?_⟩
      · obtain ⟨l1, l2, l3, h⟩ := h
        rcases h with ⟨-, hpq, h⟩ | ⟨g0, -⟩ | ⟨g0, -⟩ | ⟨g', g0, -⟩
        · obtain ⟨d, rfl⟩ : ∃ d, e = d + 3 := ⟨e - 3, by omega⟩
          have hd : B ≤ d := by omega
          rcases h with h | ⟨h17, h⟩ | ⟨e1, b, m, r, q', a1, a2, a3, a4, a5, a6, a7, a8, a9, a10⟩
          · rcases h with ⟨f, c, h1, h2, h3, h4⟩ | ⟨y, e1, k, q', h1, h2, h3, h4, h5, h6, h7, h8, h9, h10⟩ | ⟨y, e1, k, q', b, o, h1, h2, h3, h4, h5, h6, h7, h8, h9, h10, h11⟩ | ⟨y, e1, e2, k, m, r, q', h1, h2, h3, h4, h5, h6, h7, h8, h9, h10, h11, h12, h13⟩ | ⟨e1, e2, m, r, q', h1, h2, h3, h4, h5, h6, h7, h8⟩ | ⟨w1, o, e1, q', h1, h2, h3, h4, h5, h6⟩ | ⟨dd, o, a, e1, q', h1, h2, h3, h4, h5, h6, h7, h8, h9, h10⟩ | ⟨w1, o, h1, h2, h3, h4⟩ | ⟨f, y, c, k, z, q', h1, h2, h3, h4, h5, h6, h7, h8, h9, h10, h11, h12⟩
            · intro pw σ Γ hS
              have := LSQ_cnt h4
              exact S20 hC hd (by omega) hhi hq hS h2 h3 h4 (by omega)
            · intro pw σ Γ hS
              subst h1
              exact S21 (d := d + 1) hC (by omega) (by omega) hhi hq hS h2 h3 h5 h6 h7 h8 h9 h10
            · intro pw σ Γ hS
              subst h1
              exact S22 (d := d + 1) hC (by omega) (by omega) hhi hq hS h2 h3 h5 h6 h7 h8 h9 h10 h11
            · intro pw σ Γ hS
              subst h1
              exact S23 (d := d + 1) hC (by omega) (by omega) hhi hq hS h2 h3 h5 h6 h7 h8 h9 h10 h11 h12 h13
            · intro pw σ Γ hS
              subst h1
              exact S24 (d := d + 1) hC (by omega) (by omega) hhi hq hS h2 h3 h4 h5 h6 h7 h8
            · intro pw σ Γ hS
              subst h2
              rcases h1 with ⟨rfl, rfl⟩ | ⟨rfl, rfl, hDq⟩
              · exact S25 (d := d + 1) hC (by omega) (by omega) hhi hq hS h3 h4 h5 h6
              · exact S29 (d := d + 1) hC (by omega) (by omega) hhi hq hDq hS h3 h4 h5 h6
            · intro pw σ Γ hS
              subst h4
              obtain ⟨a, rfl⟩ : ∃ m : Nat, a = m := ⟨a.toNat, by omega⟩
              exact S26 (d := d + 1) hC (by omega) (by omega) hhi hq hS h1 (by omega) h5 h6 h7 h8 h9 h10
            · intro pw σ Γ hS
              subst h2
              rcases h1 with ⟨rfl, rfl, hDq⟩ | ⟨rfl, rfl⟩ | ⟨rfl, rfl⟩
              · exact S30 hC (by omega) hq hDq hS h3 h4
              · exact S31 hC (by omega) hq (Or.inl ⟨rfl, rfl⟩) hS h3 h4
              · exact S31 hC (by omega) hq (Or.inr ⟨rfl, rfl⟩) hS h3 h4
            · intro pw σ Γ hS
              subst h1
              exact S33 hC hd (by omega) hhi hq hS h2 h6 h7 h8 h10 h11 h12
          · exact (ih n (by omega)).2.2 _ _ _ _ _ _ h hhi hq (by omega)
          · intro pw σ Γ hS
            subst a1
            have en' := g_en (n := x) (by omega)
            cases n with
            | zero => unfold STQ at a10; exact a10.elim
            | succ n =>
              obtain ⟨m1, m2, m3, h⟩ := a10
              rcases h with ⟨g0, -⟩ | ⟨g0, -⟩ | ⟨g0, -⟩ | ⟨g', g0, h⟩
              · omega
              · omega
              · omega
              · have eg : g' = 1 := by omega
                rw [eg] at h
                have hK := (ih n (by omega)).2.1 (d + 3) _ _ _ _ _ h hhi (by omega) (by omega)
                obtain ⟨τ, t1, t2⟩ := W_go (d := d + 1) hC (by omega) (by omega) hhi hq a3 a4 (by omega) a5 a6 a7 a8 a9 m3 hK 20001 pw (by have := hS.1.2.2.2.2.2.2; omega) FU σ Γ (FU_gt (by omega)) hS
                exact ⟨0, τ, by rw [stb_28' _ _ _ _ en' (by rw [J_natN (by omega), STA_17 hS.1.2.1]; exact a2), t1], t2⟩
        · omega
        · omega
        · omega
      · obtain ⟨e, rfl⟩ : ∃ d, e = d + 1 := ⟨e - 1, by omega⟩
        exact R_blk h hhi hq (fun lo hi x p q hh h1 h2 => (ih n (by omega)).1 e _ _ _ _ _ hh h1 h2 (by omega))
      · obtain ⟨d, rfl⟩ : ∃ d, e = d + 2 := ⟨e - 2, by omega⟩
        refine R_if hC (by omega) h hhi hq (fun lo hi x p q hh h1 h2 => (ih n (by omega)).2.1 _ _ _ _ _ _ hh h1 h2 (by omega)) (fun lo hi x p q hh h1 h2 => ?_)
        cases n with
        | zero => unfold STQ at hh; exact hh.elim
        | succ n =>
          obtain ⟨m1, m2, m3, hh⟩ := hh
          rcases hh with ⟨g0, -⟩ | ⟨g0, -⟩ | ⟨g0, -⟩ | ⟨g', g0, hh⟩
          · omega
          · omega
          · omega
          · have eg : g' = 5 := by omega
            rw [eg] at hh
            cases n with
            | zero => unfold STQ at hh; exact hh.elim
            | succ n =>
              obtain ⟨k1, k2, k3, hh⟩ := hh
              rcases hh with ⟨g0, -⟩ | ⟨g0, -⟩ | ⟨g0, -⟩ | ⟨g', g0, hh⟩
              · omega
              · omega
              · omega
              · have eg : g' = 2 := by omega
                rw [eg] at hh
                exact (ih n (by omega)).2.2 _ _ _ _ _ _ hh h1 h2 (by omega)
