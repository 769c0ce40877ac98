/-! an on: its verb and its WHATs -/
variable {T N : Nat} {kd vl rv : Nat → Int} {pl : Nat → Nat}
def On50 (again : Int32 × Int32 × MS → MR) (w v5 : Int32) (σ : MS) : MR := if w < 0 ∨ 40000 ≤ w.toNatClampNeg then none else bnd (σ.2 22 w.toNatClampNeg) fun (x_55 : Int32) => again (v5, x_55, σ)
def On59 (again : Int32 × Int32 × MS → MR) (w v5 : Int32) (σ : MS) : MR := if w < 0 ∨ 40000 ≤ w.toNatClampNeg then none else (F_X12_wrong (σ.2 18 w.toNatClampNeg) σ).bind fun u_64 => On50 again w v5 u_64.2
def On45 (again : Int32 × Int32 × MS → MR) (nn w k t : Int32) (σ : MS) : MR := if t = 0 then On59 again w k σ else bnd (k + 1) fun (x_69 : Int32) => if x_69 ≤ nn then On50 again w x_69 σ else On59 again w x_69 σ
def On1 (nn num : Int32) : (Int32 × Int32 × MS → MR) → Int32 × Int32 × MS → MR := fun again s => if s.2.1 < 0 then some (0, s.2.2) else if s.2.1 < 0 ∨ 40000 ≤ s.2.1.toNatClampNeg then none else if (s.2.2.2 19 s.2.1.toNatClampNeg) = 0 then On45 again nn s.2.1 s.1 1 s.2.2 else (if num = 11 then (if s.2.1 < 0 ∨ 40000 ≤ s.2.1.toNatClampNeg then none else if (s.2.2.2 19 s.2.1.toNatClampNeg) = 3 then On45 again nn s.2.1 s.1 1 s.2.2 else On45 again nn s.2.1 s.1 0 s.2.2) else (if s.2.1 < 0 ∨ 40000 ≤ s.2.1.toNatClampNeg then none else if (s.2.2.2 19 s.2.1.toNatClampNeg) = 2 then On45 again nn s.2.1 s.1 1 s.2.2 else (if s.2.1 < 0 ∨ 40000 ≤ s.2.1.toNatClampNeg then none else if (s.2.2.2 19 s.2.1.toNatClampNeg) = 1 then (if s.2.1 < 0 ∨ 40000 ≤ s.2.1.toNatClampNeg then none else (F_X12_is (s.2.2.2 20 s.2.1.toNatClampNeg) 2 s.2.2).bind fun u_104 => if u_104.1 = 0 then On45 again nn s.2.1 s.1 0 u_104.2 else On45 again nn s.2.1 s.1 1 u_104.2) else On45 again nn s.2.1 s.1 0 s.2.2)))
theorem On1_s (nn num : Int32) (n : Nat) (k w : Int32) (τ : MS) : loopF (On1 nn num) (n + 1) (k, w, τ) = if w < 0 then some ((0 : Int32), τ) else if w < 0 ∨ 40000 ≤ w.toNatClampNeg then none else if (τ.2 19 w.toNatClampNeg) = 0 then On45 (loopF (On1 nn num) n) nn w k 1 τ else (if num = 11 then (if w < 0 ∨ 40000 ≤ w.toNatClampNeg then none else if (τ.2 19 w.toNatClampNeg) = 3 then On45 (loopF (On1 nn num) n) nn w k 1 τ else On45 (loopF (On1 nn num) n) nn w k 0 τ) else (if w < 0 ∨ 40000 ≤ w.toNatClampNeg then none else if (τ.2 19 w.toNatClampNeg) = 2 then On45 (loopF (On1 nn num) n) nn w k 1 τ else (if w < 0 ∨ 40000 ≤ w.toNatClampNeg then none else if (τ.2 19 w.toNatClampNeg) = 1 then (if w < 0 ∨ 40000 ≤ w.toNatClampNeg then none else (F_X12_is (τ.2 20 w.toNatClampNeg) 2 τ).bind fun u_104 => if u_104.1 = 0 then On45 (loopF (On1 nn num) n) nn w k 0 u_104.2 else On45 (loopF (On1 nn num) n) nn w k 1 u_104.2) else On45 (loopF (On1 nn num) n) nn w k 0 τ))) := rfl
theorem resolveOn_eq (p0 : Int32) (σ : MS) : F_X12_resolveOn p0 σ = if p0 < 0 ∨ 40000 ≤ p0.toNatClampNeg then none else bnd (σ.2 19 p0.toNatClampNeg) fun (x_3 : Int32) => if x_3 < 0 ∨ 40000 ≤ x_3.toNatClampNeg then none else bnd (σ.2 19 x_3.toNatClampNeg) fun (x_7 : Int32) => (F_X12_is x_7 3 σ).bind fun u_9 => if u_9.1 = 0 then (if p0 < 0 ∨ 40000 ≤ p0.toNatClampNeg then none else bnd (u_9.2.2 19 p0.toNatClampNeg) fun (x_15 : Int32) => if x_15 < 0 ∨ 40000 ≤ x_15.toNatClampNeg then none else (F_X12_wrong (u_9.2.2 18 x_15.toNatClampNeg) u_9.2).bind fun u_19 => some (0, u_19.2)) else (if x_7 < 0 ∨ 8000 ≤ x_7.toNatClampNeg then none else bnd (u_9.2.2 29 x_7.toNatClampNeg) fun (x_24 : Int32) => if x_7 < 0 ∨ 8000 ≤ x_7.toNatClampNeg then none else (F_X12_nounsOf x_24 (u_9.2.2 30 x_7.toNatClampNeg) u_9.2).bind fun u_28 => if p0 < 0 ∨ 40000 ≤ p0.toNatClampNeg then none else bnd (u_28.2.2 20 p0.toNatClampNeg) fun (x_32 : Int32) => loopF (On1 u_28.1 x_24) FU (0, x_32, u_28.2)) := rfl
theorem on_step (hT : TKE T N kd vl rv pl) {σs τ : MS} {Θ : HS} {v t y k F : Nat} (hW : WHT kd rv pl σs y t) (hA : AGM σs τ) (hKE : KE T kd vl rv Θ τ) (hy : y < 39990) (ht : t ≤ T) (hk : k ≤ 10) (hF : F ≤ 10) (hn : nsF Θ vl v < 1000) (n : Nat) : ∃ (k' : Nat) (b : Int32 × Int32), loopF (On1 (J (F : Nat)) (J (nsF Θ vl v : Nat))) (n + 1) (J (k : Nat), J (y : Nat), τ) = loopF (On1 (J (F : Nat)) (J (nsF Θ vl v : Nat))) n (J (k' : Nat), σs.2 22 y, noF τ b) ∧ ((goodWh Θ kd vl v t ∧ k' = k + 1 ∧ ((k + 1 ≤ F ∧ b = flt τ) ∨ (¬ k + 1 ≤ F ∧ b = ntF (flt τ) 3 (pl t)))) ∨ (¬ goodWh Θ kd vl v t ∧ k' = k ∧ b = ntF (flt τ) 3 (pl t))) := by
  obtain ⟨w1, w2, w3⟩ := hW
  obtain ⟨en, en2⟩ := en_of hy
  have e19 := ag_k hA (show (19 : Nat) = 17 ∨ 19 = 18 ∨ 19 = 19 ∨ 19 = 22 by omega) y
  have e18 := ag_k hA (show (18 : Nat) = 17 ∨ 18 = 18 ∨ 18 = 19 ∨ 18 = 22 by omega) y
  have e20 := ag_20 hA w1 (by omega)
  have go : ∀ (υ : MS) (q : Int32), AGM σs υ → On50 (loopF (On1 (J (F : Nat)) (J (nsF Θ vl v : Nat))) n) (J (y : Nat)) q υ = loopF (On1 (J (F : Nat)) (J (nsF Θ vl v : Nat))) n (q, σs.2 22 y, υ) := by
    intro υ q hυ
    unfold On50
    rw [if_neg en, bndE, en2, ag_k hυ (by omega)]
  have wr : ∀ q : Int32, On59 (loopF (On1 (J (F : Nat)) (J (nsF Θ vl v : Nat))) n) (J (y : Nat)) q τ = loopF (On1 (J (F : Nat)) (J (nsF Θ vl v : Nat))) n (q, σs.2 22 y, noF τ (ntF (flt τ) 3 (pl t))) := by
    intro q
    unfold On59
    rw [if_neg en, en2, e18, w2, r_wrong, Option.bind_some]
    exact go _ q (AGM_noF hA)
  have yes : goodWh Θ kd vl v t → ∃ (k' : Nat) (b : Int32 × Int32), On45 (loopF (On1 (J (F : Nat)) (J (nsF Θ vl v : Nat))) n) (J (F : Nat)) (J (y : Nat)) (J (k : Nat)) 1 τ = loopF (On1 (J (F : Nat)) (J (nsF Θ vl v : Nat))) n (J (k' : Nat), σs.2 22 y, noF τ b) ∧ ((goodWh Θ kd vl v t ∧ k' = k + 1 ∧ ((k + 1 ≤ F ∧ b = flt τ) ∨ (¬ k + 1 ≤ F ∧ b = ntF (flt τ) 3 (pl t)))) ∨ (¬ goodWh Θ kd vl v t ∧ k' = k ∧ b = ntF (flt τ) 3 (pl t))) := by
    intro hg
    unfold On45
    rw [if_neg (by decide), bndE, show J (k : Nat) + 1 = J (k + 1 : Nat) by rw [J_lit, J_add]; rfl]
    by_cases q : k + 1 ≤ F
    · rw [if_pos (show J ((k + 1 : Nat) : Int) ≤ J (F : Nat) by rw [J_le (by omega) (by omega) (by omega) (by omega)]; omega)]
      exact ⟨k + 1, flt τ, by rw [noF_id]; exact go τ _ hA, Or.inl ⟨hg, rfl, Or.inl ⟨q, rfl⟩⟩⟩
    · rw [if_neg (show ¬ J ((k + 1 : Nat) : Int) ≤ J (F : Nat) by rw [J_le (by omega) (by omega) (by omega) (by omega)]; omega)]
      exact ⟨k + 1, _, wr _, Or.inl ⟨hg, rfl, Or.inr ⟨q, rfl⟩⟩⟩
  have no : ¬ goodWh Θ kd vl v t → ∃ (k' : Nat) (b : Int32 × Int32), On45 (loopF (On1 (J (F : Nat)) (J (nsF Θ vl v : Nat))) n) (J (F : Nat)) (J (y : Nat)) (J (k : Nat)) 0 τ = loopF (On1 (J (F : Nat)) (J (nsF Θ vl v : Nat))) n (J (k' : Nat), σs.2 22 y, noF τ b) ∧ ((goodWh Θ kd vl v t ∧ k' = k + 1 ∧ ((k + 1 ≤ F ∧ b = flt τ) ∨ (¬ k + 1 ≤ F ∧ b = ntF (flt τ) 3 (pl t)))) ∨ (¬ goodWh Θ kd vl v t ∧ k' = k ∧ b = ntF (flt τ) 3 (pl t))) := by
    intro hg
    unfold On45
    rw [if_pos rfl]
    exact ⟨k, _, wr _, Or.inr ⟨hg, rfl, rfl⟩⟩
  rw [On1_s, if_neg (J_nlt0 (by omega) (by omega)), if_neg en, en2, e19]
  rw [en2] at en
  have e11 : (J (nsF Θ vl v : Nat) = 11) = (nsF Θ vl v = 11) := by
    rw [show (11 : Int32) = J 11 from rfl, J_eq (by omega) (by omega) (by omega) (by omega)]
    exact propext ⟨fun h => by omega, fun h => by omega⟩
  rcases w3 with ⟨k1, k2, k3, k4⟩ | ⟨k1, k3⟩ | ⟨k1, k3⟩ | ⟨k1, k3, k4⟩
  · rw [k3, if_neg (by decide)]
    by_cases q : nsF Θ vl v = 11
    · rw [if_pos (by rw [e11]; exact q), if_neg en, if_pos (by rfl)]
      exact yes (Or.inr (Or.inl ⟨q, k1, k2⟩))
    · rw [if_neg (by rw [e11]; exact q), if_neg en, if_neg (by decide), if_neg en, if_neg (by decide)]
      exact no (by rintro (h | h | h) <;> omega)
  · rw [k3, if_pos (by rfl)]
    exact yes (Or.inl k1)
  · rw [k3, if_neg (by decide)]
    by_cases q : nsF Θ vl v = 11
    · rw [if_pos (by rw [e11]; exact q), if_neg en, if_neg (by decide)]
      exact no (by rintro (h | h | h) <;> omega)
    · rw [if_neg (by rw [e11]; exact q), if_neg en, if_pos (by rfl)]
      exact yes (Or.inr (Or.inr ⟨q, Or.inl k1⟩))
  · rw [k3, if_neg (by decide)]
    by_cases q : nsF Θ vl v = 11
    · rw [if_pos (by rw [e11]; exact q), if_neg en, if_neg (by decide)]
      exact no (by rintro (h | h | h) <;> omega)
    · rw [if_neg (by rw [e11]; exact q), if_neg en, if_neg (by decide), if_neg en, if_pos (by rfl), if_neg en, e20, k4, show F_X12_is (J (rv t)) 2 τ = _ from r_is hT hKE ht k1 (c := 2) (by omega), Option.bind_some]
      by_cases q2 : ksF Θ vl t = 2
      · rw [if_pos q2, if_neg J1_ne]
        exact yes (Or.inr (Or.inr ⟨q, Or.inr ⟨k1, q2⟩⟩))
      · rw [if_neg q2, if_pos J0_eq]
        exact no (by rintro (h | h | h) <;> omega)
/-- what resolving may leave of a state -/
theorem r_on (hT : TKE T N kd vl rv pl) (hp : plm T pl) (hpb : ∀ i, i ≤ T + 1 → pl i ≤ 5000) {σs τ : MS} {Θ : HS} {x i c F : Nat} (hki : kd i = 236) (hN : NMN rv pl σs (x + 1) (i + 1)) (hk1 : kd (i + 1) = 2) (h17 : σs.2 17 x = J 7) (h19 : σs.2 19 x = J (x + 1 : Nat)) (hc : c ≤ 2) (h20 : σs.2 20 x = if c = 0 then J (-1) else J (x + 2 : Nat)) (hW : WHS kd rv pl σs (x + 2) c (i + 2)) (hb : kd (i + 2 + c) = 123) (hb0 : ∀ k, k < c → kd (i + 2 + k) ≠ 123) (hx : x + 4 < 39980) (hiT : i + 2 + c ≤ T) (hA : AGM σs τ) (hKE : KE T kd vl rv Θ τ) (hF : ksF Θ vl (i + 1) = 3 → F_X12_nounsOf (τ.2 29 (rv (i + 1)).toNat) (τ.2 30 (rv (i + 1)).toNat) τ = some (J (F : Nat), τ) ∧ frm Θ vl (i + 1) = F ∧ F ≤ 2 ∧ nsF Θ vl (i + 1) < 1000) : ∃ b : Int32 × Int32, F_X12_resolveOn (J (x : Nat)) τ = some ((0 : Int32), noF τ b) ∧ NT pl (badA Θ kd vl i) i (i + 2 + c) (flt τ) b := by
  obtain ⟨en, en2⟩ := en_of (show x < 39990 by omega)
  obtain ⟨gn, gn2⟩ := en_of (show x + 1 < 39990 by omega)
  have g8 := rv_J hT (show i + 1 ≤ T by omega) hk1
  have n0 : ¬ badA Θ kd vl i i := by
    rintro (h | h | h | h | h) <;> omega
  have b1 : badA Θ kd vl i (i + 1) ↔ ksF Θ vl (i + 1) ≠ 3 := by
    constructor
    · rintro (h | h | h | h | h)
      · omega
      · omega
      · exact h.2.2
      · omega
      · omega
    · intro h; exact Or.inr (Or.inr (Or.inl ⟨hki, rfl, h⟩))
  have nW : ∀ u, i + 2 ≤ u → u < i + 2 + c → ksF Θ vl (i + 1) ≠ 3 → ¬ badA Θ kd vl i u := by
    intro u u1 u2 h3
    rintro (h | h | h | h | h)
    · omega
    · omega
    · omega
    · exact h3 h.2.2.2.1
    · exact h3 h.2.2.2.2.1
  rw [resolveOn_eq, if_neg en, bndE, en2, ag_k hA (by omega) x, h19, if_neg gn, bndE, gn2, ag_k hA (by omega) (x + 1), hN.2.2, show F_X12_is (J (rv (i + 1))) 3 τ = _ from r_is hT hKE (show i + 1 ≤ T by omega) hk1 (c := 3) (by omega), Option.bind_some]
  by_cases q3 : ksF Θ vl (i + 1) = 3
  · obtain ⟨f1, f2, f3, f4⟩ := hF q3
    have ens := (hKE (i + 1) (by omega) hk1).2.1 (by omega)
    rw [if_pos q3, if_neg J1_ne, if_neg g8.1, bndE, if_neg g8.1, g8.2]
    dsimp only
    rw [f1, Option.bind_some]
    rw [en2] at en
    rw [if_neg en, bndE]
    dsimp only
    rw [ag_20 hA h17 (by omega), h20, ens]
    have nb1 : ¬ badA Θ kd vl i (i + 1) := fun h => b1.mp h q3
    obtain ⟨FF, hFF, -⟩ := FU_1
    have hFU : ∃ m, FU = m + 1 + 1 + 1 := ⟨FU - 3, by have : 10 < FU := FU_gt (by omega); omega⟩
    obtain ⟨m, hm⟩ := hFU
    have e0 : (0 : Int32) = J ((0 : Nat) : Int) := rfl
    have w2 : badA Θ kd vl i (i + 2) ↔ (kd (i + 2) ≠ 123 ∧ ¬ (1 ≤ frm Θ vl (i + 1) ∧ goodWh Θ kd vl (i + 1) (i + 2))) := by
      constructor
      · rintro (h | h | h | h | h)
        · omega
        · omega
        · omega
        · exact ⟨h.2.2.1, h.2.2.2.2⟩
        · omega
      · intro h; exact Or.inr (Or.inr (Or.inr (Or.inl ⟨hki, rfl, h.1, q3, h.2⟩)))
    have w3 : badA Θ kd vl i (i + 3) ↔ (kd (i + 2) ≠ 123 ∧ kd (i + 3) ≠ 123 ∧ ¬ (2 ≤ frm Θ vl (i + 1) ∧ goodWh Θ kd vl (i + 1) (i + 3))) := by
      constructor
      · rintro (h | h | h | h | h)
        · omega
        · omega
        · omega
        · omega
        · exact ⟨h.2.2.1, h.2.2.2.1, h.2.2.2.2.2⟩
      · intro h; exact Or.inr (Or.inr (Or.inr (Or.inr ⟨hki, rfl, h.1, h.2.1, q3, h.2.2⟩)))
    have hd : ∀ u, i ≤ u → u < i + 2 → ¬ badA Θ kd vl i u := fun u u1 u2 => by
      by_cases e : u = i
      · rw [e]; exact n0
      · rw [show u = i + 1 by omega]; exact nb1
    by_cases c0 : c = 0
    · subst c0
      rw [if_pos rfl, hm, On1_s, if_pos (by decide)]
      exact ⟨flt τ, by rw [noF_id], NT_none (fun u u1 u2 => hd u u1 (by omega))⟩
    · rw [if_neg c0, hm, e0]
      have hW0 := hW 0 (by omega)
      obtain ⟨k1, ba, s1, s2⟩ := on_step (v := i + 1) (k := 0) (F := F) hT hW0.1 hA hKE (by omega) (by omega) (by omega) (by omega) f4 (m + 1 + 1)
      rw [show x + 2 + 0 = x + 2 from rfl] at s1
      rw [s1]
      have hk2 := hb0 0 (by omega)
      rw [show i + 2 + 0 = i + 2 from rfl] at hk2 s2
      have N1 : NT pl (badA Θ kd vl i) (i + 2) (i + 2 + 1) (flt τ) ba := by
        refine NT_one hpb (by omega) (fun h => ?_) (fun h => ?_)
        · rw [w2] at h
          rcases s2 with ⟨g1, g2, ⟨g3, g4⟩ | ⟨g3, g4⟩⟩ | ⟨g1, g2, g3⟩
          · exact absurd ⟨by omega, g1⟩ h.2
          · exact g4
          · exact g3
        · rw [w2] at h
          have h : 1 ≤ frm Θ vl (i + 1) ∧ goodWh Θ kd vl (i + 1) (i + 2) := Classical.byContradiction (fun hh => h ⟨hk2, hh⟩)
          rcases s2 with ⟨g1, g2, ⟨g3, g4⟩ | ⟨g3, g4⟩⟩ | ⟨g1, g2, g3⟩
          · exact g4
          · exfalso; omega
          · exact absurd h.2 g1
      by_cases c1 : c = 1
      · subst c1
        have h22 := hW0.2
        rw [if_neg (by omega)] at h22
        rw [show σs.2 22 (x + 2) = J (-1) from h22, On1_s, if_pos (by decide)]
        exact ⟨ba, rfl, NT_wide hp N1 (by omega) (by omega) (by omega) (fun u u1 u2 => hd u u1 u2) (fun u u1 u2 => by omega)⟩
      · have c2 : c = 2 := by omega
        subst c2
        have h22 := hW0.2
        rw [if_pos (by omega)] at h22
        rw [show σs.2 22 (x + 2) = J (x + 2 + 1 : Nat) from h22]
        have hW1 := hW 1 (by omega)
        obtain ⟨k2, bb, t1, t2⟩ := on_step (v := i + 1) (k := k1) (F := F) (τ := noF τ ba) hT hW1.1 (AGM_noF hA) hKE (by omega) (by omega) (by rcases s2 with s2 | s2 <;> omega) (by omega) f4 (m + 1)
        rw [t1]
        have h23 := hW1.2
        rw [if_neg (by omega)] at h23
        rw [show σs.2 22 (x + 2 + 1) = J (-1) from h23, On1_s, if_pos (by decide), noF_noF]
        have hk3 := hb0 1 (by omega)
        rw [show i + 2 + 1 = i + 3 from rfl] at hk3 t2
        rw [noF_flt] at t2
        refine ⟨bb, rfl, ?_⟩
        have nb : nGe (pl (i + 3)) ba bb := by
          have z : nGe (pl (i + 3)) ba (ntF ba 3 (pl (i + 3))) := nGe_nt (by omega) (Nat.le_refl _) (hpb _ (by omega))
          rcases t2 with ⟨g1, g2, ⟨g3, g4⟩ | ⟨g3, g4⟩⟩ | ⟨g1, g2, g3⟩
          · rw [g4]; exact nGe_rfl
          · rw [g4]; exact z
          · rw [g3]; exact z
        have N2 : NT pl (badA Θ kd vl i) (i + 2) (i + 4) (flt τ) bb := by
          by_cases hb2 : badA Θ kd vl i (i + 2)
          · refine ⟨nGe_trans N1.1 (nGe_le nb (pl_le hp (by omega) (by omega))), fun w u1 u2 u3 u4 u5 => ?_, fun hn => absurd hb2 (hn _ (Nat.le_refl _) (by omega))⟩
            have ew : w = i + 2 := by
              refine Classical.byContradiction (fun hne => u4 (i + 2) (Nat.le_refl _) (by omega) hb2)
            subst ew
            have e := N1.2.1 (i + 2) (Nat.le_refl _) (by omega) u3 (fun v v1 v2 => by omega) u5
            exact (nGe_keep nb e (by omega) (pl_le hp (by omega) (by omega)) (hpb _ (by omega))).trans e
          · have ek : k1 = 1 := by
              rw [w2] at hb2
              have h : 1 ≤ frm Θ vl (i + 1) ∧ goodWh Θ kd vl (i + 1) (i + 2) := Classical.byContradiction (fun hh => hb2 ⟨hk2, hh⟩)
              rcases s2 with ⟨g1, g2, -⟩ | ⟨g1, g2, g3⟩
              · exact g2
              · exact absurd h.2 g1
            refine NT_lr hp hpb (k := i + 3) N1 (NT_one hpb (by omega) (fun h => ?_) (fun h => ?_)) (by omega) (by omega) (by omega)
            · rw [w3] at h
              rcases t2 with ⟨g1, g2, ⟨g3, g4⟩ | ⟨g3, g4⟩⟩ | ⟨g1, g2, g3⟩
              · exact absurd ⟨by omega, g1⟩ h.2.2
              · exact g4
              · exact g3
            · rw [w3] at h
              have h : 2 ≤ frm Θ vl (i + 1) ∧ goodWh Θ kd vl (i + 1) (i + 3) := Classical.byContradiction (fun hh => h ⟨hk2, hk3, hh⟩)
              rcases t2 with ⟨g1, g2, ⟨g3, g4⟩ | ⟨g3, g4⟩⟩ | ⟨g1, g2, g3⟩
              · exact g4
              · exfalso; omega
              · exact absurd h.2 g1
        exact NT_wide hp N2 (by omega) (by omega) (by omega) (fun u u1 u2 => hd u u1 u2) (fun u u1 u2 => by omega)
  · rw [if_neg q3, if_pos J0_eq]
    dsimp only
    rw [en2] at en
    rw [if_neg en, bndE, ag_k hA (by omega) x, h19, if_neg gn, gn2, ag_k hA (by omega) (x + 1), hN.2.1, r_wrong, Option.bind_some]
    refine ⟨_, rfl, NT_wide hp (NT_one hpb (i := i + 1) (by omega) (fun _ => rfl) (fun h => absurd (b1.mpr q3) h)) (by omega) (by omega) (by omega) (fun u u1 u2 => by rw [show u = i by omega]; exact n0) (fun u u1 u2 => nW u (by omega) u2 q3)⟩
