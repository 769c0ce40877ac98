/-! save, restore, undo in both -/
variable {R : Nat → Nat → Int32} {nO nV nC nA ln : Nat} {room : Nat → Bool} {en : Nat → Nat} {TX : Nat → Int → Int → Prop} {DN : Nat → Nat → Nat → Prop}
/-- the saved plays, in both -/
def SVD (nO : Nat) (room : Nat → Bool) (nV nC : Nat) (σ : MS) (Γ : HS) (sv : Nat → CS) : Prop := ∀ p, p < 4 → (σ.2 100 p = 0 ∧ (Γ 0).2.1 15 p = 0) ∨ (σ.2 100 p = 1 ∧ (Γ 0).2.1 15 p = 1 ∧ SLOT nO room nV nC (σ.2 99) (2600 * p) (sv p))
def H_save (p : Int32) (T : TS) : HA := if p < 0 ∨ 4 ≤ p then some ((1, 0), T) else if ((T.1 0).1 8) = 0 then some ((2, 0), T) else if p < 0 ∨ 4 ≤ p.toNatClampNeg then none else (HCopy (T.2.2.1 p.toNatClampNeg) (T.1 9)).bind fun P => bnd (cA' T.1 0 15 (upd ((T.1 0).2.1 15) p.toNatClampNeg 1)) fun Γ1 => some ((0, 0), (Γ1, T.2.1, (fun j => if j = p.toNatClampNeg then P else T.2.2.1 j), T.2.2.2))
def H_restore (p : Int32) (T : TS) : HA := if p < 0 ∨ 4 ≤ p then some ((1, 0), T) else if p < 0 ∨ 4 ≤ p.toNatClampNeg then none else if ((T.1 0).2.1 15 p.toNatClampNeg) = 0 then some ((2, 0), T) else (F_X5_wipe T.1).bind fun u1 => bnd (mrg (fun j => j == 8) T.1 u1.2) fun Γ1 => bnd (cI' Γ1 0 18 0) fun Γ2 => (HCopy (Γ2 9) (T.2.2.1 p.toNatClampNeg)).bind fun P => bnd (cI' (onR Γ2 9 P) 0 8 1) fun Γ3 => some ((0, 0), (Γ3, T.2))
def H_undo (T : TS) : HA := if ((T.1 0).1 8) = 0 then some ((1, 0), T) else (F_X5_wipe T.1).bind fun u1 => bnd (mrg (fun j => j == 8) T.1 u1.2) fun Γ1 => if ((Γ1 0).1 18) = 0 then some ((0, 0), (Γ1, T.2)) else if ((Γ1 0).1 17) < 0 ∨ 6 ≤ ((Γ1 0).1 17).toNatClampNeg then none else (HCopy (Γ1 9) (T.2.2.2 ((Γ1 0).1 17).toNatClampNeg)).bind fun P => bnd (onR Γ1 9 P) fun Γ2 => bnd ((((Γ2 0).1 17) + 5) - (((Γ2 0).1 17) + 5) / 6 * 6) fun (x : Int32) => bnd (cI' Γ2 0 17 x) fun Γ3 => bnd (cI' Γ3 0 18 (((Γ3 0).1 18) - 1)) fun Γ4 => some ((0, 1), (Γ4, T.2))
/-- all that holds while something is played, with the plays kept -/
def PLG (R : Nat → Nat → Int32) (nO nV nC nA : Nat) (room : Nat → Bool) (en : Nat → Nat) (ln : Nat) (TX : Nat → Int → Int → Prop) (DN : Nat → Nat → Nat → Prop) (Γ0 : HS) (F : Nat → Nat) (no ne nv : Nat) (ow : Nat → List (List Int)) (W : List Int) (σ : MS) (T : TS) : Prop := PLY R nO nV nC nA room en ln TX DN Γ0 F no ne nv ow W σ T.1 ∧ UND nO room nV nC σ T.1 T.2.2.2 ∧ SVD nO room nV nC σ T.1 T.2.2.1 ∧ σ.1 86 = 1 ∧ (T.1 0).1 8 = 1
/-- a call answered alike by both: post holds behind it -/
def ALK (post : MS → TS → Prop) (mR : MR) (mC : HA) : Prop := ∃ (v w k : Int32) (σ' : MS) (T' : TS), mR = some (v, σ') ∧ mC = some ((k, w), T') ∧ σ'.1 0 = k ∧ (k = 0 → v = w) ∧ post σ' T'
theorem i32_c (p : Int32) (n : Nat) (hn : n < 100000) : (p < 0 ∨ J (n : Nat) ≤ p) ∨ ∃ k : Nat, k < n ∧ p = J (k : Nat) := by
  have r := J_rng p
  have e := (J_of p).symm
  generalize p.toInt = z at r e
  subst e
  by_cases q : z < 0
  · exact Or.inl (Or.inl (by rw [show (0 : Int32) = J 0 from rfl, J_lt (by omega) (by omega) (by omega) (by omega)]; exact q))
  · by_cases q2 : z < n
    · exact Or.inr ⟨z.toNat, by omega, by congr 1; omega⟩
    · exact Or.inl (Or.inr (by rw [J_le (by omega) (by omega) (by omega) (by omega)]; omega))
/-- what queries and refusals leave: only what was thrown is written down -/
def rTh (σ τ : MS) : Prop := (∀ k, k ≠ 0 → τ.1 k = σ.1 k) ∧ τ.2 = σ.2
theorem rTh_i {σ : MS} {v : Int32} : rTh σ (mI σ 0 v) := ⟨fun k hk => by rw [mI_1, if_neg hk], rfl⟩
/-- all that a play rests on is as it was -/
theorem PLY_same {Γ0 : HS} {F : Nat → Nat} {no ne nv : Nat} {ow : Nat → List (List Int)} {W : List Int} {σ τ : MS} {Γ Δ : HS} (h : PLY R nO nV nC nA room en ln TX DN Γ0 F no ne nv ow W σ Γ) (hi : ∀ k, (78 ≤ k ∧ k ≤ 84) ∨ (93 ≤ k ∧ k ≤ 98) ∨ k = 103 ∨ (108 ≤ k ∧ k ≤ 115) → τ.1 k = σ.1 k) (ha : ∀ k, (45 ≤ k ∧ k ≤ 77) ∨ (87 ≤ k ∧ k ≤ 92) ∨ k = 97 ∨ k = 102 ∨ k = 122 → τ.2 k = σ.2 k) (hc : ∀ r, 4 ≤ r → r ≤ 10 → Δ r = Γ r) : PLY R nO nV nC nA room en ln TX DN Γ0 F no ne nv ow W τ Δ := by
  obtain ⟨h1, h2, h3, h4, h5, h6⟩ := h
  refine ⟨PSR_keep h1 ⟨fun k a b => hi k (by omega), fun k a => ha k (by omega)⟩ (fun r r4 r7 => hc r r4 (by omega)), PL_keep h2 (fun k hk => ha k (by omega)) (fun k hk => hi k (by omega)) (hc 9 (by omega) (by omega)), ?_, ?_, WAI_10 (by rw [hc 10 (by omega) (by omega)]) h5, by rw [hi 113 (by omega)]; exact h6.1, by rw [hi 115 (by omega)]; exact h6.2⟩
  · obtain ⟨w, o1, o2⟩ := h3
    exact ⟨w, OL_congr o1 (ha 102 (by omega)) (hi 103 (by omega)), OL_congr o2 (by rw [hc 8 (by omega) (by omega)]) (by rw [hc 8 (by omega) (by omega)])⟩
  · unfold NOU at h4 ⊢
    rw [hc 10 (by omega) (by omega), hi 108 (by omega), hi 109 (by omega)]; exact h4
theorem PLY_th {Γ0 : HS} {F : Nat → Nat} {no ne nv : Nat} {ow : Nat → List (List Int)} {W : List Int} {σ τ : MS} {Γ : HS} (h : PLY R nO nV nC nA room en ln TX DN Γ0 F no ne nv ow W σ Γ) (e : rTh σ τ) : PLY R nO nV nC nA room en ln TX DN Γ0 F no ne nv ow W τ Γ := PLY_kept h ⟨fun k a _ _ _ => e.1 k a, fun k _ _ => by rw [e.2]⟩ (fun _ _ _ => rfl)
theorem PLG_th {Γ0 : HS} {F : Nat → Nat} {no ne nv : Nat} {ow : Nat → List (List Int)} {W : List Int} {σ τ : MS} {T : TS} (h : PLG R nO nV nC nA room en ln TX DN Γ0 F no ne nv ow W σ T) (e : rTh σ τ) : PLG R nO nV nC nA room en ln TX DN Γ0 F no ne nv ow W τ T := by
  obtain ⟨h1, h2, h3, h4, h5⟩ := h
  refine ⟨PLY_th h1 e, UND_keep h2 (by rw [e.2]) (e.1 101 (by omega)) rfl rfl, ?_, by rw [e.1 86 (by omega)]; exact h4, h5⟩
  unfold SVD
  rw [e.2]; exact h3
theorem F_save_eq (p : Int32) (σ : MS) : F_X12_save p σ = if p < 0 then (F_X12_refuses 1 σ).bind (fun u_6 => if u_6.1 = 0 then ( (F_X12_keep p u_6.2).bind fun u_10 => if p < 0 ∨ 4 ≤ p.toNatClampNeg then none else bnd (mA u_10.2 100 (upd (u_10.2.2 100) p.toNatClampNeg (vp_nar .boolean 1))) fun σ_14 => some (0, σ_14) ) else ( some (0, u_6.2) )) else if p ≤ 3 then (if (σ.1 86) = 0 then (F_X12_refuses 2 σ).bind (fun u_6 => if u_6.1 = 0 then ( (F_X12_keep p u_6.2).bind fun u_10 => if p < 0 ∨ 4 ≤ p.toNatClampNeg then none else bnd (mA u_10.2 100 (upd (u_10.2.2 100) p.toNatClampNeg (vp_nar .boolean 1))) fun σ_14 => some (0, σ_14) ) else ( some (0, u_6.2) )) else (F_X12_refuses 0 σ).bind (fun u_6 => if u_6.1 = 0 then ( (F_X12_keep p u_6.2).bind fun u_10 => if p < 0 ∨ 4 ≤ p.toNatClampNeg then none else bnd (mA u_10.2 100 (upd (u_10.2.2 100) p.toNatClampNeg (vp_nar .boolean 1))) fun σ_14 => some (0, σ_14) ) else ( some (0, u_6.2) ))) else (F_X12_refuses 1 σ).bind (fun u_6 => if u_6.1 = 0 then ( (F_X12_keep p u_6.2).bind fun u_10 => if p < 0 ∨ 4 ≤ p.toNatClampNeg then none else bnd (mA u_10.2 100 (upd (u_10.2.2 100) p.toNatClampNeg (vp_nar .boolean 1))) fun σ_14 => some (0, σ_14) ) else ( some (0, u_6.2) )) := by
  unfold F_X12_save
  rw [bndE, bndE]
/-- save refused: the place, or nothing is played -/
theorem W_saveR {p : Int32} {σ : MS} {T : TS} (h : (p < 0 ∨ J ((4 : Nat) : Int) ≤ p) ∨ ((∃ k : Nat, k < 4 ∧ p = J (k : Nat)) ∧ σ.1 86 = 0 ∧ (T.1 0).1 8 = 0)) : ALK (fun σ' T' => rTh σ σ' ∧ T' = T) (F_X12_save p σ) (H_save p T) := by
  rw [F_save_eq]
  unfold H_save
  rcases h with h | ⟨⟨k, hk, rfl⟩, h86, h8⟩
  · have e : (if p < 0 then (1 : Nat) else if p ≤ 3 then 2 else 3) ≠ 2 := by
      rcases h with h | h
      · rw [if_pos h]; decide
      · have n1 : ¬ p ≤ 3 := by
          have r := J_rng p
          have e := (J_of p).symm
          generalize p.toInt = z at r e
          subst e
          rw [J_le (by omega) (by omega) (by omega) (by omega)] at h
          rw [show (3 : Int32) = J 3 from rfl, J_le (by omega) (by omega) (by omega) (by omega)]; omega
        split
        · decide
        · decide
    rw [if_pos (show p < 0 ∨ 4 ≤ p from h)]
    refine ⟨0, 0, 1, mI σ 0 1, T, ?_, rfl, rfl, fun h => absurd h (by decide), rTh_i, rfl⟩
    by_cases q : p < 0
    · rw [if_pos q, r_ref1 (by decide), Option.bind_some]; rfl
    · rw [if_neg q] at e ⊢
      by_cases q2 : p ≤ 3
      · rw [if_pos q2] at e; exact absurd rfl e
      · rw [if_neg q2, r_ref1 (by decide), Option.bind_some]; rfl
  · have n1 : ¬ (J (k : Nat) < 0 ∨ 4 ≤ J (k : Nat)) := by
      rintro (c | c)
      · exact J_nlt0 (by omega) (by omega) c
      · rw [show (4 : Int32) = J ((4 : Nat) : Int) from rfl, J_le (by omega) (by omega) (by omega) (by omega)] at c; omega
    rw [if_neg (J_nlt0 (by omega) (by omega)), if_pos (by rw [show (3 : Int32) = J ((3 : Nat) : Int) from rfl, J_le (by omega) (by omega) (by omega) (by omega)]; omega), if_pos h86, if_neg n1, if_pos h8]
    exact ⟨0, 0, 2, mI σ 0 2, T, by rw [r_ref1 (by decide), Option.bind_some]; rfl, rfl, rfl, fun h => absurd h (by decide), rTh_i, rfl⟩
/-- a play is saved -/
theorem W_save {Γ0 : HS} {F : Nat → Nat} {no ne nv : Nat} {ow : Nat → List (List Int)} {W : List Int} {σ : MS} {T : TS} (h : PLG R nO nV nC nA room en ln TX DN Γ0 F no ne nv ow W σ T) {k : Nat} (hk : k < 4) : ALK (fun σ' T' => PLG R nO nV nC nA room en ln TX DN Γ0 F no ne nv ow W σ' T' ∧ (∀ j, j ≠ 0 → σ'.1 j = σ.1 j) ∧ (∀ j, j ≠ 99 → j ≠ 100 → σ'.2 j = σ.2 j) ∧ (∀ r, r ≠ 0 → T'.1 r = T.1 r) ∧ (T'.1 0).1 = (T.1 0).1 ∧ T'.2.1 = T.2.1) (F_X12_save (J (k : Nat)) σ) (H_save (J (k : Nat)) T) := by
  have h' := PLG_th h (rTh_i (σ := σ) (v := 0))
  obtain ⟨⟨s1, s2, s3⟩, ⟨u, nw, u1, u2, u3, u4, u5, u6⟩, hv, h86, h8⟩ := h'
  have hC : CNT3 (mI σ 0 0) nO nV nC := s1.2.2.2.2.2.2.2.2.2.2.2.2.2
  obtain ⟨τ, e1, e2, e3⟩ := W_keep (p := k) s2 hC (by omega)
  obtain ⟨P, p1, p2⟩ := hcopy (T.2.2.1 k) (T.1 9)
  have n1 : ¬ (J (k : Nat) < 0 ∨ 4 ≤ J (k : Nat)) := by
    rintro (c | c)
    · exact J_nlt0 (by omega) (by omega) c
    · rw [show (4 : Int32) = J ((4 : Nat) : Int) from rfl, J_le (by omega) (by omega) (by omega) (by omega)] at c; omega
  have n2 := gNn (k := k) (n := 4) hk (by omega)
  have t1 : ∀ j, τ.1 j = (mI σ 0 0).1 j := fun j => by rw [e2.1]
  have nar1 : vp_nar .boolean (1 : Int32) = 1 := rfl
  refine ⟨0, 0, 0, mA τ 100 (upd (τ.2 100) k 1), (cA' T.1 0 15 (upd ((T.1 0).2.1 15) k 1), T.2.1, (fun j => if j = k then P else T.2.2.1 j), T.2.2.2), ?_, ?_, by show τ.1 0 = 0; rw [t1]; rfl, fun _ => rfl, ⟨PLY_same ⟨s1, s2, s3⟩ (fun j _ => t1 j) (fun j hj => by rw [mA_2, if_neg (by omega), e2.2.1 j (by omega)]) (fun r r4 r10 => by show cA' T.1 0 15 _ r = _; rw [cA_r, if_neg (by omega)]), ⟨u, nw, u1, u2, by show τ.1 101 = _; rw [t1]; exact u3, u4, u5, fun j hj => ?_⟩, fun q hq => ?_, by show τ.1 86 = 1; rw [t1]; exact h86, h8⟩, fun j hj => ?_, fun j h99 h100 => ?_, fun r hr => by show cA' T.1 0 15 _ r = _; rw [cA_r, if_neg hr], rfl, rfl⟩
  · rw [F_save_eq, if_neg (J_nlt0 (by omega) (by omega)), if_pos (by rw [show (3 : Int32) = J ((3 : Nat) : Int) from rfl, J_le (by omega) (by omega) (by omega) (by omega)]; omega), if_neg (show ¬ σ.1 86 = 0 by rw [show σ.1 86 = 1 from h86]; decide), r_ref0, Option.bind_some]
    dsimp only
    rw [if_pos rfl, e1, Option.bind_some]
    dsimp only
    rw [if_neg n2, J_natN (by omega), nar1, bndE]
  · unfold H_save
    rw [if_neg n1, if_neg (show ¬ (T.1 0).1 8 = 0 by rw [h8]; decide), if_neg n2, J_natN (by omega), p1, Option.bind_some, bndE]
  · show SLOT nO room nV nC (τ.2 99) _ _
    exact SLOT_shift hC.1 hC.2.1 hC.2.2.1 (u6 j hj) (fun i hi => e2.2.2 _ (by omega))
  · show (upd (τ.2 100) k 1 q = 0 ∧ upd ((T.1 0).2.1 15) k 1 q = 0) ∨ (upd (τ.2 100) k 1 q = 1 ∧ upd ((T.1 0).2.1 15) k 1 q = 1 ∧ SLOT nO room nV nC (τ.2 99) (2600 * q) (if q = k then P else T.2.2.1 q))
    rw [upd_s, upd_s]
    by_cases c : q = k
    · rw [if_pos c, if_pos c, if_pos c, c]
      exact Or.inr ⟨rfl, rfl, SLOT_cpe e3 (CPE_symm p2)⟩
    · rw [if_neg c, if_neg c, if_neg c, e2.2.1 100 (by omega)]
      rcases hv q hq with h | ⟨a, b, d⟩
      · exact Or.inl h
      · exact Or.inr ⟨a, b, SLOT_shift hC.1 hC.2.1 hC.2.2.1 d (fun i hi => e2.2.2 _ (by omega))⟩
  · show τ.1 j = _
    rw [t1, mI_1, if_neg hj]
  · rw [mA_2, if_neg h100, e2.2.1 j h99]; rfl
theorem F_restore_eq (p : Int32) (σ : MS) (K : Int32 → MS → MR) (hK : K = fun t σ => (F_X12_refuses t σ).bind fun u_6 => if u_6.1 = 0 then ( bnd (mI u_6.2 86 1) fun σ_10 => bnd (mI σ_10 103 0) fun σ_12 => bnd (mI σ_12 101 0) fun σ_14 => (F_X12_take p σ_14).bind fun u_16 => some (0, u_16.2) ) else ( some (0, u_6.2) )) : F_X12_restore p σ = if p < 0 then K 1 σ else if p ≤ 3 then (if p < 0 ∨ 4 ≤ p.toNatClampNeg then none else if (σ.2 100 p.toNatClampNeg) = 0 then K 2 σ else K 0 σ) else K 1 σ := by
  subst hK
  unfold F_X12_restore
  rw [bndE, bndE]
theorem le3 {p : Int32} (h : J ((4 : Nat) : Int) ≤ p) : ¬ p ≤ 3 ∧ ¬ p < 0 := by
  have r := J_rng p
  have e := (J_of p).symm
  generalize p.toInt = z at r e
  subst e
  rw [J_le (by omega) (by omega) (by omega) (by omega)] at h
  rw [show (3 : Int32) = J 3 from rfl, J_le (by omega) (by omega) (by omega) (by omega), show (0 : Int32) = J 0 from rfl, J_lt (by omega) (by omega) (by omega) (by omega)]; omega
theorem in4 {k : Nat} (hk : k < 4) : ¬ (J (k : Nat) < 0 ∨ 4 ≤ J (k : Nat)) ∧ J (k : Nat) ≤ 3 := by
  refine ⟨?_, by rw [show (3 : Int32) = J ((3 : Nat) : Int) from rfl, J_le (by omega) (by omega) (by omega) (by omega)]; omega⟩
  rintro (c | c)
  · exact J_nlt0 (by omega) (by omega) c
  · rw [show (4 : Int32) = J ((4 : Nat) : Int) from rfl, J_le (by omega) (by omega) (by omega) (by omega)] at c; omega
theorem W_restoreR {p : Int32} {σ : MS} {T : TS} (h : (p < 0 ∨ J ((4 : Nat) : Int) ≤ p) ∨ ∃ k : Nat, k < 4 ∧ p = J (k : Nat) ∧ σ.2 100 k = 0 ∧ (T.1 0).2.1 15 k = 0) : ALK (fun σ' T' => rTh σ σ' ∧ T' = T) (F_X12_restore p σ) (H_restore p T) := by
  have ref : ∀ t : Int32, t ≠ 0 → ((F_X12_refuses t σ).bind fun u_6 => if u_6.1 = 0 then ( bnd (mI u_6.2 86 1) fun σ_10 => bnd (mI σ_10 103 0) fun σ_12 => bnd (mI σ_12 101 0) fun σ_14 => (F_X12_take p σ_14).bind fun u_16 => some (0, u_16.2) ) else ( some (0, u_6.2) )) = some ((0 : Int32), mI σ 0 t) := fun t ht => by
    rw [r_ref1 ht, Option.bind_some]; rfl
  rw [F_restore_eq p σ _ rfl]
  unfold H_restore
  rcases h with h | ⟨k, hk, rfl, h1, h2⟩
  · rw [if_pos (show p < 0 ∨ 4 ≤ p from h)]
    refine ⟨0, 0, 1, mI σ 0 1, T, ?_, rfl, rfl, fun h => absurd h (by decide), rTh_i, rfl⟩
    rcases h with h | h
    · rw [if_pos h]; exact ref 1 (by decide)
    · rw [if_neg (le3 h).2, if_neg (le3 h).1]; exact ref 1 (by decide)
  · have n2 := gNn (k := k) (n := 4) hk (by omega)
    rw [if_neg (J_nlt0 (by omega) (by omega)), if_pos (in4 hk).2, if_neg n2, if_neg (in4 hk).1, if_neg n2, J_natN (by omega), if_pos h1, if_pos h2]
    exact ⟨0, 0, 2, mI σ 0 2, T, ref 2 (by decide), rfl, rfl, fun h => absurd h (by decide), rTh_i, rfl⟩
/-- a saved play is taken up again -/
theorem W_restore {Γ0 : HS} {F : Nat → Nat} {no ne nv : Nat} {ow : Nat → List (List Int)} {W : List Int} {σ : MS} {T : TS} (h : PLG R nO nV nC nA room en ln TX DN Γ0 F no ne nv ow W σ T) {k : Nat} (hk : k < 4) (hs : σ.2 100 k = 1 ∧ (T.1 0).2.1 15 k = 1 ∧ SLOT nO room nV nC (σ.2 99) (2600 * k) (T.2.2.1 k)) : ALK (fun σ' T' => PLG R nO nV nC nA room en ln TX DN Γ0 F no ne nv ow W σ' T' ∧ rPl σ σ' ∧ σ'.1 4 = σ.1 4 ∧ cPl T.1 T'.1 ∧ (T'.1 0).1 1 = (T.1 0).1 1 ∧ T'.2 = T.2) (F_X12_restore (J (k : Nat)) σ) (H_restore (J (k : Nat)) T) := by
  obtain ⟨hP, ⟨u, nw, u1, u2, u3, u4, u5, u6⟩, hv, h86, h8⟩ := h
  have n2 := gNn (k := k) (n := 4) hk (by omega)
  have hd8 : ∀ r, r ≠ 8 → r ≠ 0 → (cI' (cI' T.1 8 1 0) 0 18 0) r = T.1 r := fun r r8 r0 => by rw [cI_r, if_neg r0, cI_r, if_neg r8]
  -- what both know ahead of the taking
  have T0 : TLS σ T.1 (mI σ 103 0) (cI' T.1 8 1 0) := ⟨⟨fun k hk => by rw [mI_1, if_neg hk], fun _ _ => rfl⟩, ⟨fun r r8 _ => by rw [cI_r, if_neg r8], rfl, fun _ _ => rfl⟩, ⟨[], OL_nil, OL_nil⟩⟩
  have P1 := PLY_told hP T0
  have P2 : PLY R nO nV nC nA room en ln TX DN Γ0 F no ne nv ow W (mI (mI (mI (mI σ 0 0) 86 1) 103 0) 101 0) (cI' (cI' T.1 8 1 0) 0 18 0) := PLY_same P1 (fun j hj => by
    simp only [mI_1]
    rw [if_neg (show ¬ j = 101 by omega), if_neg (show ¬ j = 86 by omega), if_neg (show ¬ j = 0 by omega)]) (fun _ _ => rfl) (fun r r4 r10 => by rw [cI_r, if_neg (by omega)])
  obtain ⟨P, p1, p2⟩ := hcopy ((cI' (cI' T.1 8 1 0) 0 18 0) 9) (T.2.2.1 k)
  obtain ⟨s1, s2, s3, s4, s5, s6⟩ := P2
  have hC : CNT3 (mI (mI (mI (mI σ 0 0) 86 1) 103 0) 101 0) nO nV nC := s1.2.2.2.2.2.2.2.2.2.2.2.2.2
  have c9 : (cI' (onR (cI' (cI' T.1 8 1 0) 0 18 0) 9 P) 0 8 1) 9 = P := rfl
  have cr : ∀ r, r ≠ 9 → r ≠ 0 → (cI' (onR (cI' (cI' T.1 8 1 0) 0 18 0) 9 P) 0 8 1) r = (cI' (cI' T.1 8 1 0) 0 18 0) r := fun r h9 h0 => by rw [cI_r, if_neg h0]; exact if_neg h9
  obtain ⟨τ, e1, e2, e3⟩ := W_take (Δ := cI' (onR (cI' (cI' T.1 8 1 0) 0 18 0) 9 P) 0 8 1) (p := k) (P := T.2.2.1 k) s2 hC (by omega) hs.2.2 (by rw [c9]; exact p2)
  have i0 : ∀ j, ¬ (93 ≤ j ∧ j ≤ 98) → τ.1 j = (mI (mI (mI (mI σ 0 0) 86 1) 103 0) 101 0).1 j := fun j hj => e2.1 j (by omega) (by omega) (by omega) (by omega) (by omega)
  have a0 : ∀ j, ¬ (87 ≤ j ∧ j ≤ 92) → j ≠ 97 → τ.2 j = σ.2 j := fun j h1 h2 => e2.2 j (by omega) (by omega) (by omega) (by omega) (by omega) (by omega) (by omega)
  refine ⟨0, 0, 0, τ, (cI' (onR (cI' (cI' T.1 8 1 0) 0 18 0) 9 P) 0 8 1, T.2), ?_, ?_, ?_, fun _ => rfl, ⟨⟨PSR_keep s1 ⟨fun j a b => i0 j (by omega), fun j a => (a0 j (by omega) (by omega))⟩ (fun r r4 r7 => cr r (by omega) (by omega)), e3, ?_, ?_, WAI_10 (by dsimp only; rw [cr 10 (by omega) (by omega)]) s5, by rw [i0 113 (by omega)]; exact s6.1, by rw [i0 115 (by omega)]; exact s6.2⟩, ⟨0, nw, by omega, u2, ?_, rfl, u5, fun j hj => absurd hj (Nat.not_lt_zero _)⟩, fun q hq => ?_, ?_, rfl⟩, ?_, ?_, ⟨fun r hr => ?_, fun j j1 j17 j18 => ?_, rfl⟩, rfl, rfl⟩
  · rw [F_restore_eq _ σ _ rfl, if_neg (J_nlt0 (by omega) (by omega)), if_pos (in4 hk).2, if_neg n2, J_natN (by omega), if_neg (by rw [hs.1]; decide), r_ref0, Option.bind_some]
    dsimp only
    rw [if_pos rfl, bndE, bndE, bndE, e1, Option.bind_some]
  · have eW : F_X5_wipe T.1 = some ((0 : Int32), cI' T.1 8 1 0) := by unfold F_X5_wipe; rw [bndE]
    unfold H_restore
    rw [if_neg (in4 hk).1, if_neg n2, J_natN (by omega), if_neg (by rw [hs.2.1]; decide), eW, Option.bind_some]
    dsimp only
    rw [mrgE (fun r hr => by rw [cI_r, if_neg (by rintro rfl; exact absurd hr (by decide))]), bndE, bndE, p1, Option.bind_some, bndE]
  · rw [i0 0 (by omega)]; rfl
  · obtain ⟨w, o1, o2⟩ := s3
    exact ⟨w, OL_congr o1 (a0 102 (by omega) (by omega)) (i0 103 (by omega)), OL_congr o2 (by dsimp only; rw [cr 8 (by omega) (by omega)]) (by dsimp only; rw [cr 8 (by omega) (by omega)])⟩
  · unfold NOU at s4 ⊢
    dsimp only
    rw [cr 10 (by omega) (by omega), i0 108 (by omega), i0 109 (by omega)]; exact s4
  · rw [i0 101 (by omega)]; rfl
  · show (τ.2 100 q = 0 ∧ (T.1 0).2.1 15 q = 0) ∨ _
    rw [a0 100 (by omega) (by omega), a0 99 (by omega) (by omega)]
    exact hv q hq
  · rw [i0 86 (by omega)]; rfl
  · refine ⟨fun j j0 j4 j93 j101 => ?_, fun j a b c d => a0 j a b⟩
    rw [i0 j j93, mI_1, if_neg (by omega), mI_1, if_neg (by omega), mI_1]
    by_cases c : j = 86
    · rw [if_pos c, c, h86]
    · rw [if_neg c, mI_1, if_neg j0]
  · rw [i0 4 (by omega)]; rfl
  · dsimp only
    rw [cr r (by omega) (by omega), hd8 r (by omega) (by omega)]
  · show upd (upd (T.1 0).1 18 0) 8 1 j = _
    rw [upd_s, upd_s]
    by_cases c : j = 8
    · rw [if_pos c, c, h8]
    · rw [if_neg c, if_neg j18]
theorem und_tab : ∀ w, w < 6 → (J (w : Nat) + 5) - (J (w : Nat) + 5) / 6 * 6 = J ((w + 5) % 6 : Nat) := by decide +kernel
/-- undo -/
theorem W_undo {Γ0 : HS} {F : Nat → Nat} {no ne nv : Nat} {ow : Nat → List (List Int)} {W : List Int} {σ : MS} {T : TS} (h : PLG R nO nV nC nA room en ln TX DN Γ0 F no ne nv ow W σ T) : ALK (fun σ' T' => PLG R nO nV nC nA room en ln TX DN Γ0 F no ne nv ow W σ' T' ∧ rPl σ σ' ∧ σ'.1 4 = σ.1 4 ∧ cPl T.1 T'.1 ∧ (T'.1 0).1 1 = (T.1 0).1 1 ∧ T'.2 = T.2) (F_X12_undo σ) (H_undo T) := by
  obtain ⟨hP, ⟨u, nw, u1, u2, u3, u4, u5, u6⟩, hv, h86, h8⟩ := h
  have hC0 : CNT3 σ nO nV nC := hP.1.2.2.2.2.2.2.2.2.2.2.2.2.2
  have T0 : TLS (mI σ 0 0) T.1 (mI (mI σ 0 0) 103 0) (cI' T.1 8 1 0) := ⟨⟨fun k hk => by rw [mI_1, if_neg hk], fun _ _ => rfl⟩, ⟨fun r r8 _ => by rw [cI_r, if_neg r8], rfl, fun _ _ => rfl⟩, ⟨[], OL_nil, OL_nil⟩⟩
  have P1 := PLY_told (PLY_th hP (rTh_i (v := 0))) T0
  have eW : F_X5_wipe T.1 = some ((0 : Int32), cI' T.1 8 1 0) := by unfold F_X5_wipe; rw [bndE]
  have eR := undo_eq σ
  rw [bndE, if_neg (show ¬ σ.1 86 = 0 by rw [h86]; decide)] at eR
  dsimp only at eR
  rw [r_ref0, Option.bind_some] at eR
  dsimp only at eR
  rw [if_pos rfl, bndE, show (mI (mI σ 0 0) 103 0).1 101 = J (u : Nat) from u3] at eR
  have eC : H_undo T = if J (u : Nat) = 0 then some ((0, 0), (cI' T.1 8 1 0, T.2)) else (HCopy (T.1 9) (T.2.2.2 nw)).bind fun P => bnd (onR (cI' T.1 8 1 0) 9 P) fun Γ2 => bnd ((((Γ2 0).1 17) + 5) - (((Γ2 0).1 17) + 5) / 6 * 6) fun (x : Int32) => bnd (cI' Γ2 0 17 x) fun Γ3 => bnd (cI' Γ3 0 18 (((Γ3 0).1 18) - 1)) fun Γ4 => some ((0, 1), (Γ4, T.2)) := by
    unfold H_undo
    rw [if_neg (by rw [h8]; decide), eW, Option.bind_some]
    dsimp only
    rw [mrgE (fun r hr => by rw [cI_r, if_neg (by rintro rfl; exact absurd hr (by decide))]), bndE, show ((cI' T.1 8 1 0) 0).1 18 = J (u : Nat) from u4, show ((cI' T.1 8 1 0) 0).1 17 = J (nw : Nat) from u5, if_neg (gNn (k := nw) (n := 6) u2 (by omega)), J_natN (by omega)]
    rfl
  by_cases q : u = 0
  · rw [if_pos (by rw [q]; rfl)] at eR eC
    refine ⟨0, 0, 0, _, _, eR, eC, rfl, fun _ => rfl, ⟨P1, ⟨u, nw, u1, u2, u3, u4, u5, u6⟩, hv, h86, h8⟩, ⟨fun j j0 _ _ j1 => by rw [mI_1, if_neg (by omega), mI_1, if_neg j0], fun _ _ _ _ _ => rfl⟩, rfl, ⟨fun r hr => by dsimp only; rw [cI_r, if_neg (by omega)], fun _ _ _ _ => rfl, rfl⟩, rfl, rfl⟩
  · rw [if_neg (by rw [J_z0 (by omega)]; exact q)] at eR eC
    obtain ⟨P, p1, p2⟩ := hcopy (T.1 9) (T.2.2.2 nw)
    obtain ⟨s1, s2, s3, s4, s5, s6⟩ := P1
    have hC : CNT3 (mI (mI σ 0 0) 103 0) nO nV nC := s1.2.2.2.2.2.2.2.2.2.2.2.2.2
    have hs0 := u6 0 (by omega)
    rw [show (nw + 6 - 0) % 6 = nw by omega] at hs0
    obtain ⟨τ, e1, e2, e3⟩ := W_take (Δ := onR (cI' T.1 8 1 0) 9 P) (p := 4) (P := T.2.2.2 nw) s2 hC (by omega) hs0 (by rw [show (onR (cI' T.1 8 1 0) 9 P) 9 = P from if_pos rfl]; exact p2)
    have cr : ∀ r, r ≠ 9 → (onR (cI' T.1 8 1 0) 9 P) r = (cI' T.1 8 1 0) r := fun r h9 => if_neg h9
    have i0 : ∀ j, ¬ (93 ≤ j ∧ j ≤ 98) → τ.1 j = (mI (mI σ 0 0) 103 0).1 j := fun j hj => e2.1 j (by omega) (by omega) (by omega) (by omega) (by omega)
    have a0 : ∀ j, ¬ (87 ≤ j ∧ j ≤ 92) → j ≠ 97 → τ.2 j = σ.2 j := fun j h1 h2 => e2.2 j (by omega) (by omega) (by omega) (by omega) (by omega) (by omega) (by omega)
    have t101 : τ.1 101 = J (u : Nat) := by rw [i0 101 (by omega)]; exact u3
    have eu : J (u : Nat) - 1 = J (u - 1 : Nat) := by rw [show (1 : Int32) = J 1 from rfl, J_sub]; congr 1; omega
    obtain ⟨x1, x2⟩ := dnR_ok (τ.2 99)
    have PT : PLY R nO nV nC nA room en ln TX DN Γ0 F no ne nv ow W τ (onR (cI' T.1 8 1 0) 9 P) := by
      refine ⟨PSR_keep s1 ⟨fun j a b => i0 j (by omega), fun j a => (a0 j (by omega) (by omega))⟩ (fun r r4 r7 => cr r (by omega)), e3, ?_, ?_, WAI_10 (by rw [cr 10 (by omega)]) s5, by rw [i0 113 (by omega)]; exact s6.1, by rw [i0 115 (by omega)]; exact s6.2⟩
      · obtain ⟨w, o1, o2⟩ := s3
        exact ⟨w, OL_congr o1 (a0 102 (by omega) (by omega)) (i0 103 (by omega)), OL_congr o2 (by rw [cr 8 (by omega)]) (by rw [cr 8 (by omega)])⟩
      · unfold NOU at s4 ⊢
        rw [cr 10 (by omega), i0 108 (by omega), i0 109 (by omega)]; exact s4
    have hr4 : ∀ r, r ≠ 0 → (cI' (cI' (onR (cI' T.1 8 1 0) 9 P) 0 17 (J ((nw + 5) % 6 : Nat))) 0 18 (J (u - 1 : Nat))) r = (onR (cI' T.1 8 1 0) 9 P) r := fun r h0 => by rw [cI_r, if_neg h0, cI_r, if_neg h0]
    refine ⟨1, 1, 0, mA (mI τ 101 (J (u - 1 : Nat))) 99 (dnR (τ.2 99)), (cI' (cI' (onR (cI' T.1 8 1 0) 9 P) 0 17 (J ((nw + 5) % 6 : Nat))) 0 18 (J (u - 1 : Nat)), T.2), ?_, ?_, ?_, fun _ => rfl, ⟨PLY_same PT (fun j hj => by show (mI τ 101 (J (u - 1 : Nat))).1 j = _; rw [mI_1, if_neg (by omega)]) (fun j hj => by rw [mA_2, if_neg (by omega)]; rfl) (fun r r4 r10 => hr4 r (by omega)), ⟨u - 1, (nw + 5) % 6, by omega, Nat.mod_lt _ (by omega), rfl, rfl, rfl, fun j hj => ?_⟩, fun p hp => ?_, ?_, h8⟩, ?_, ?_, ⟨fun r hr => ?_, fun j j1 j17 j18 => ?_, rfl⟩, rfl, rfl⟩
    · rw [eR, show F_X12_take 4 (mI (mI σ 0 0) 103 0) = _ from e1, Option.bind_some, bndE, t101, eu]
      exact r_dnk _
    · rw [eC, p1, Option.bind_some, bndE, show ((onR (cI' T.1 8 1 0) 9 P) 0).1 17 = J (nw : Nat) from u5, und_tab nw u2, bndE, bndE, show ((cI' (onR (cI' T.1 8 1 0) 9 P) 0 17 (J ((nw + 5) % 6 : Nat))) 0).1 18 = J (u : Nat) from u4, eu, bndE]
    · show (mI τ 101 (J (u - 1 : Nat))).1 0 = 0
      rw [mI_1, if_neg (by omega), i0 0 (by omega)]; rfl
    · show SLOT nO room nV nC (dnR (τ.2 99)) (2600 * (4 + j)) (T.2.2.2 (((nw + 5) % 6 + 6 - j) % 6))
      have hs := u6 (j + 1) (by omega)
      rw [show ((nw + 5) % 6 + 6 - j) % 6 = (nw + 6 - (j + 1)) % 6 by omega]
      refine SLOT_shift hC0.1 hC0.2.1 hC0.2.2.1 hs (fun i hi => ?_)
      rw [x2 j i (by omega) hi, a0 99 (by omega) (by omega), show 4 + j + 1 = 4 + (j + 1) by omega]
    · show (τ.2 100 p = 0 ∧ (T.1 0).2.1 15 p = 0) ∨ (τ.2 100 p = 1 ∧ (T.1 0).2.1 15 p = 1 ∧ SLOT nO room nV nC (dnR (τ.2 99)) (2600 * p) (T.2.2.1 p))
      rw [a0 100 (by omega) (by omega)]
      rcases hv p hp with h | ⟨a, b, d⟩
      · exact Or.inl h
      · refine Or.inr ⟨a, b, SLOT_shift hC0.1 hC0.2.1 hC0.2.2.1 d (fun i hi => ?_)⟩
        rw [x1 _ (by omega), a0 99 (by omega) (by omega)]
    · show (mI τ 101 (J (u - 1 : Nat))).1 86 = 1
      rw [mI_1, if_neg (by omega), i0 86 (by omega)]; exact h86
    · refine ⟨fun j j0 j4 j93 j101 => ?_, fun j a b c d => by rw [mA_2, if_neg c]; exact a0 j a b⟩
      show (mI τ 101 (J (u - 1 : Nat))).1 j = _
      rw [mI_1, if_neg (by omega), i0 j j93, mI_1, if_neg (by omega), mI_1, if_neg j0]
    · show (mI τ 101 (J (u - 1 : Nat))).1 4 = _
      rw [mI_1, if_neg (by omega), i0 4 (by omega)]; rfl
    · dsimp only
      rw [hr4 r (by omega), cr r (by omega), cI_r, if_neg (by omega)]
    · show upd (upd (T.1 0).1 17 _) 18 _ j = _
      rw [upd_s, if_neg j18, upd_s, if_neg j17]
