/-! a text is unpacked -/
variable {T N : Nat} {kd vl rv : Nat → Int} {pl : Nat → Nat}
/-- text v has these bytes -/
def TXD (Γ : HS) (v m0 : Nat) (by_ : Nat → Nat) : Prop := m0 ≤ 200 ∧ ∃ (cnt u0 nu tot : Nat) (cd : Nat → Nat), v < cnt ∧ cnt ≤ 8000 ∧ (Γ 6).1 6 = J (cnt : Nat) ∧ (Γ 6).2.1 4 v = J (u0 : Nat) ∧ (Γ 6).1 1 = J (tot : Nat) ∧ u0 + nu ≤ tot ∧ tot ≤ 15000 ∧ UNT Γ cd u0 nu ∧ CDE by_ m0 cd ∧ (∀ i, cd i < 32) ∧ (∀ i, cpz by_ m0 ≤ i → cd i = 31) ∧ 1 ≤ nu ∧ cpz by_ m0 ≤ 3 * nu ∧ 3 * nu ≤ cpz by_ m0 + 3
/-- where unpacking stands before code i -/
def USt (by_ : Nat → Nat) (m0 i : Nat) (sh : Int) (ln : Nat) : Prop := (ln ≤ m0 ∧ i = cpz by_ ln ∧ sh = -1) ∨ (ln < m0 ∧ 29 ≤ sgN (by_ ln) ∧ i = cpz by_ ln + 1 ∧ sh = ((sgN (by_ ln) - 29) / 32 : Nat)) ∨ (ln = m0 ∧ i = cpz by_ m0 + 1 ∧ sh = 2) ∨ (ln = m0 ∧ i = cpz by_ m0 + 2 ∧ sh = -1) ∨ (ln = m0 ∧ i = cpz by_ m0 + 3 ∧ sh = 2)
theorem USt_end {by_ : Nat → Nat} {m0 i ln : Nat} {sh : Int} (h : USt by_ m0 i sh ln) (hi : cpz by_ m0 ≤ i) : ln = m0 := by
  rcases h with ⟨a, b, c⟩ | ⟨a, b, c, d⟩ | ⟨a, -⟩ | ⟨a, -⟩ | ⟨a, -⟩
  · rcases Nat.lt_or_ge ln m0 with q | q
    · exfalso
      have := cpz_mono (by_ := by_) (show ln + 1 ≤ m0 by omega)
      have e : cpz by_ (ln + 1) = cpz by_ ln + (if sgN (by_ ln) < 29 then 1 else 2) := rfl
      rw [e] at this
      split at this <;> omega
    · omega
  · exfalso
    have := cpz_mono (by_ := by_) (show ln + 1 ≤ m0 by omega)
    have e : cpz by_ (ln + 1) = cpz by_ ln + (if sgN (by_ ln) < 29 then 1 else 2) := rfl
    rw [e, if_neg (by omega)] at this
    omega
  · exact a
  · exact a
  · exact a
/-- a unit's codes -/
theorem unit_c {cd : Nat → Nat} (hc : ∀ i, cd i < 32) {j x : Nat} (hx : x = 0 ∨ x = 32768) : (unit3 cd j + x) / 1024 % 32 = cd (3 * j) ∧ (unit3 cd j + x) / 32 % 32 = cd (3 * j + 1) ∧ (unit3 cd j + x) % 32 = cd (3 * j + 2) ∧ unit3 cd j + x < 65536 ∧ (unit3 cd j + x < 32768 ↔ x = 0) := by
  have a := hc (3 * j)
  have b := hc (3 * j + 1)
  have c := hc (3 * j + 2)
  unfold unit3
  omega
def Uik (again_7 : (Int32 × Int32 × Int32 × HS) → HR) (s_6 : Int32 × Int32 × Int32 × HS) : ((Int32 × Int32 × Int32 × HS) → HR) → Int32 × Int32 × Int32 × HS → HR := (fun (again_17 : (Int32 × Int32 × Int32 × HS) → HR) (s_16 : Int32 × Int32 × Int32 × HS) => ( if s_16.2.2.1 < 0 then ( if s_6.2.2.1 < 0 ∨ 16000 ≤ s_6.2.2.1.toNatClampNeg then none else bnd ((((s_16.2.2.2 6).2.1 0 s_6.2.2.1.toNatClampNeg) &&& 32768)) fun (x_24 : Int32) => if x_24 = 0 then ( bnd (s_6.2.2.1 + 1) fun (x_28 : Int32) => again_7 (s_16.1, s_16.2.1, x_28, s_16.2.2.2) ) else ( some (s_16.1, s_16.2.2.2) ) ) else ( if s_6.2.2.1 < 0 ∨ 16000 ≤ s_6.2.2.1.toNatClampNeg then none else bnd (((((s_16.2.2.2 6).2.1 0 s_6.2.2.1.toNatClampNeg) >>> (s_16.2.2.1 &&& 31)) &&& 31)) fun (x_34 : Int32) => bnd (fun (v4_36 : Int32) (v5_37 : Int32) (σ_38 : HS) => ( bnd (s_16.2.2.1 + (-5)) fun (x_42 : Int32) => again_17 (v4_36, v5_37, x_42, σ_38) ) : Int32 → Int32 → HS → HR) fun j_39 => bnd (fun  (σ_44 : HS) => ( bnd (fun (t_48 : Int32) (σ_49 : HS) => ( bnd ((Int32.ofNat (SGL).length)) fun (x_54 : Int32) => if x_54 ≤ t_48 then ( j_39 s_16.1 (-1) σ_49 ) else ( if 200 ≤ s_16.1 then ( j_39 s_16.1 (-1) σ_49 ) else ( if t_48 < 0 ∨ Int32.ofNat (SGL).length ≤ t_48 then none else bnd ((g_chr ((SGL).getD t_48.toNatClampNeg 0))) fun (x_65 : Int32) => bnd (x_65.toInt8.toInt32) fun (x_67 : Int32) => if s_16.1 < 0 ∨ 200 ≤ s_16.1.toNatClampNeg then none else bnd (cA' σ_49 10 15 (upd ((σ_49 10).2.1 15) s_16.1.toNatClampNeg (vp_nar .byte x_67))) fun σ_71 => bnd (s_16.1 + 1) fun (x_73 : Int32) => j_39 x_73 (-1) σ_71 ) ) ) : Int32 → HS → HR) fun j_50 => if s_16.2.1 = (-1) then ( j_50 x_34 σ_44 ) else ( j_50 ((29 + (s_16.2.1 * 32)) + x_34) σ_44 ) ) : HS → HR) fun j_45 => if s_16.2.1 = (-1) then ( if x_34 < 29 then ( j_45  s_16.2.2.2 ) else ( bnd ((x_34 - 29)) fun (x_83 : Int32) => j_39 s_16.1 x_83 s_16.2.2.2 ) ) else ( j_45  s_16.2.2.2 ) ) ))
def Uok : ((Int32 × Int32 × Int32 × HS) → HR) → Int32 × Int32 × Int32 × HS → HR := (fun (again_7 : (Int32 × Int32 × Int32 × HS) → HR) (s_6 : Int32 × Int32 × Int32 × HS) => ( if ((s_6.2.2.2 6).1 1) ≤ s_6.2.2.1 then ( some (s_6.1, s_6.2.2.2) ) else ( if 16000 ≤ s_6.2.2.1 then ( some (s_6.1, s_6.2.2.2) ) else ( loopF (Uik again_7 s_6) FU (s_6.1, s_6.2.1, 10, s_6.2.2.2) ) ) ))
theorem unpack_eq_k (p0 : Int32) (Γ : HS) : F_X9_unpack_k p0 Γ = bnd (fun (t_1 : Int32) (σ_2 : HS) => ( loopF (Uok) FU (0, (-1), t_1, σ_2) ) : Int32 → HS → HR) fun j_3 => bnd (fun  (σ_86 : HS) => ( j_3 ((σ_86 6).1 1) σ_86 ) : HS → HR) fun j_87 => if p0 < 0 then ( j_87  Γ ) else ( if ((Γ 6).1 6) ≤ p0 then ( j_87  Γ ) else ( if 8000 ≤ p0 then ( j_87  Γ ) else ( if p0 < 0 ∨ 8000 ≤ p0.toNatClampNeg then none else j_3 ((Γ 6).2.1 4 p0.toNatClampNeg) Γ ) ) ) := rfl
/-- all but the row -/
def UFk (Γ Δ : HS) : Prop := (∀ r, r ≠ 10 → Δ r = Γ r) ∧ (Δ 10).1 = (Γ 10).1 ∧ (∀ k, k ≠ 15 → (Δ 10).2.1 k = (Γ 10).2.1 k) ∧ (Δ 10).2.2 = (Γ 10).2.2
theorem c_unpack_k {Γ : HS} {v m0 : Nat} {by_ : Nat → Nat} (h : TXD Γ v m0 by_) : ∃ Γ', F_X9_unpack_k (J (v : Nat)) Γ = some (J (m0 : Nat), Γ') ∧ UFk Γ Γ' ∧ ∀ k, k < m0 → (Γ' 10).2.1 15 k = J (by_ k : Nat) := by
  obtain ⟨hm, cnt, u0, nu, tot, cd, t1, t2, t3, t4, t5, t6, t7, t8, t9, t10, t11, t12, t13, t14⟩ := h
  have i61 : ∀ Δ, UFk Γ Δ → (Δ 6).1 1 = J (tot : Nat) := fun Δ hΔ => by
    rw [hΔ.1 6 (by omega)]; exact t5
  have i60 : ∀ Δ, UFk Γ Δ → (Δ 6).2.1 0 = (Γ 6).2.1 0 := fun Δ hΔ => by
    rw [hΔ.1 6 (by omega)]
  have key : Ok (F_X9_unpack_k (J (v : Nat)) Γ) (fun u => u.1 = J (m0 : Nat) ∧ UFk Γ u.2 ∧ ∀ k, k < m0 → (u.2 10).2.1 15 k = J (by_ k : Nat)) := by
    rw [unpack_eq_k]
    simp only [bndE]
    rw [if_neg (J_nlt0 (by omega) (by omega)), t3, if_neg (show ¬ J (cnt : Nat) ≤ J (v : Nat) by rw [J_le (by omega) (by omega) (by omega) (by omega)]; omega), if_neg (show ¬ (8000 : Int32) ≤ J (v : Nat) by rw [show (8000 : Int32) = J 8000 from rfl, J_le (by omega) (by omega) (by omega) (by omega)]; omega), if_neg (show ¬ (J (v : Nat) < 0 ∨ 8000 ≤ (J (v : Nat)).toNatClampNeg) by rintro (c | c); exact J_nlt0 (by omega) (by omega) c; rw [J_natN (by omega)] at c; omega), J_natN (by omega), t4]
    refine Ok_loop (P := fun t z => ∃ (j ln : Nat) (sh : Int) (Δ : HS), j < nu ∧ t = (J (ln : Nat), J sh, J (u0 + j : Nat), Δ) ∧ USt by_ m0 (3 * j) sh ln ∧ UFk Γ Δ ∧ (∀ k, k < ln → (Δ 10).2.1 15 k = J (by_ k : Nat)) ∧ z = nu - j) ?_ FU _ nu (FU_gt (by omega)) ⟨0, 0, -1, Γ, by omega, rfl, Or.inl ⟨by omega, rfl, rfl⟩, ⟨fun _ _ => rfl, rfl, fun _ _ => rfl, rfl⟩, fun k hk => by omega, by omega⟩
    rintro again t z ⟨j, ln, sh, Δ, j1, rfl, hS, hU, hr, rfl⟩ ih
    unfold Uok
    dsimp only
    rw [i61 Δ hU, if_neg (show ¬ J (tot : Nat) ≤ J (u0 + j : Nat) by rw [J_le (by omega) (by omega) (by omega) (by omega)]; omega), if_neg (show ¬ (16000 : Int32) ≤ J (u0 + j : Nat) by rw [show (16000 : Int32) = J 16000 from rfl, J_le (by omega) (by omega) (by omega) (by omega)]; omega)]
    obtain ⟨x, hx, hux⟩ : ∃ x : Nat, (x = 0 ∨ x = 32768) ∧ (Γ 6).2.1 0 (u0 + j) = J (unit3 cd j + x : Nat) ∧ (x = 0 ↔ j + 1 < nu) := by
      by_cases e : j + 1 = nu
      · exact ⟨32768, Or.inr rfl, by rw [t8 j j1, if_pos e], by omega⟩
      · exact ⟨0, Or.inl rfl, by rw [t8 j j1, if_neg e], by omega⟩
    obtain ⟨c1, c2, c3, c4, c5⟩ := unit_c t10 (j := j) hx
    have hg : ¬ (J (u0 + j : Nat) < 0 ∨ 16000 ≤ (J (u0 + j : Nat)).toNatClampNeg) := by
      rintro (c | c)
      · exact J_nlt0 (by omega) (by omega) c
      · rw [J_natN (by omega)] at c; omega
    refine Ok_loop (P := fun t z => ∃ (k ln : Nat) (sh : Int) (Δ : HS), k ≤ 3 ∧ t = (J (ln : Nat), J sh, J (10 - 5 * k : Int), Δ) ∧ USt by_ m0 (3 * j + k) sh ln ∧ UFk Γ Δ ∧ (∀ k, k < ln → (Δ 10).2.1 15 k = J (by_ k : Nat)) ∧ z = 3 - k) ?_ FU _ 3 (FU_gt (by omega)) ⟨0, ln, sh, Δ, by omega, rfl, hS, hU, hr, rfl⟩
    rintro again2 t z ⟨k, ln, sh, Δ, k3, rfl, hS, hU, hr, rfl⟩ ih2
    unfold Uik
    simp only [bndE]
    rw [if_neg hg, if_neg hg, J_natN (by omega), i60 Δ hU, hux.1]
    by_cases q : k = 3
    · rw [if_pos (J_lt0 (by omega) (by omega))]
      by_cases e : j + 1 < nu
      · rw [if_pos (by rw [and15 c4]; exact c5.mpr (hux.2.mpr e))]
        refine ih _ (nu - (j + 1)) (by omega) ⟨j + 1, ln, sh, Δ, e, by rw [show J (u0 + j : Nat) + 1 = J (u0 + (j + 1) : Nat) by rw [J_lit, J_add]; rfl], by rw [show 3 * (j + 1) = 3 * j + k by omega]; exact hS, hU, hr, rfl⟩
      · rw [if_neg (by rw [and15 c4]; intro hh; exact e (hux.2.mp (c5.mp hh)))]
        have el := USt_end hS (by omega)
        subst el
        exact Ok_some ⟨rfl, hU, hr⟩
    · rw [if_neg (J_nlt0 (by omega) (by omega))]
      have hx34 : ((J (unit3 cd j + x : Nat)) >>> ((J (10 - 5 * k : Int)) &&& 31)) &&& 31 = J (cd (3 * j + k) : Nat) := by
        by_cases k0 : k = 0
        · rw [k0, show J (10 - 5 * ((0 : Nat) : Int)) = 10 from rfl, shr10 (by omega), and31 (by omega), c1]; rfl
        by_cases k1 : k = 1
        · rw [k1, show J (10 - 5 * ((1 : Nat) : Int)) = 5 from rfl, shr5 (by omega), and31 (by omega), c2]
        · have k2 : k = 2 := by omega
          rw [k2, show J (10 - 5 * ((2 : Nat) : Int)) = 0 from rfl, shr0 (by omega), and31 (by omega), c3]
      rw [hx34]
      have hcd := t10 (3 * j + k)
      have eb : J (10 - 5 * k : Int) + (-5) = J (10 - 5 * (k + 1 : Nat) : Int) := by rw [show (-5 : Int32) = J (-5) from rfl, J_add]; congr 1; omega
      rw [eb]
      have e94 : Int32.ofNat SGL.length = J 94 := by rw [SGL_len]; rfl
      rw [e94]
      -- goes on
      have nx : ∀ (ln' : Nat) (sh' : Int) (Δ' : HS), USt by_ m0 (3 * j + (k + 1)) sh' ln' → UFk Γ Δ' → (∀ k, k < ln' → (Δ' 10).2.1 15 k = J (by_ k : Nat)) → Ok (again2 (J (ln' : Nat), J sh', J (10 - 5 * (k + 1 : Nat) : Int), Δ')) (fun u => u.1 = J (m0 : Nat) ∧ UFk Γ u.2 ∧ ∀ k, k < m0 → (u.2 10).2.1 15 k = J (by_ k : Nat)) := fun ln' sh' Δ' a b c => ih2 _ (3 - (k + 1)) (by omega) ⟨k + 1, ln', sh', Δ', by omega, rfl, a, b, c, rfl⟩
      -- a sign is put down
      have wr : ∀ ix : Nat, ln < m0 → ix = sgN (by_ ln) → 3 * j + (k + 1) = cpz by_ (ln + 1) → Ok (if J 94 ≤ J (ix : Nat) then again2 (J (ln : Nat), -1, J (10 - 5 * (k + 1 : Nat) : Int), Δ) else if 200 ≤ J (ln : Nat) then again2 (J (ln : Nat), -1, J (10 - 5 * (k + 1 : Nat) : Int), Δ) else if J (ix : Nat) < 0 ∨ J 94 ≤ J (ix : Nat) then none else if J (ln : Nat) < 0 ∨ 200 ≤ (J (ln : Nat)).toNatClampNeg then none else again2 (J (ln : Nat) + 1, -1, J (10 - 5 * (k + 1 : Nat) : Int), cA' Δ 10 15 (upd ((Δ 10).2.1 15) (J (ln : Nat)).toNatClampNeg (vp_nar .byte ((g_chr (SGL.getD (J (ix : Nat)).toNatClampNeg 0)).toInt8.toInt32))))) (fun u => u.1 = J (m0 : Nat) ∧ UFk Γ u.2 ∧ ∀ k, k < m0 → (u.2 10).2.1 15 k = J (by_ k : Nat)) := by
        intro ix hln hix hpos
        obtain ⟨o1, o2, o3, o4⟩ := sg_ok (t9 ln hln).1
        rw [← hix] at o1 o3
        rw [if_neg (show ¬ J 94 ≤ J (ix : Nat) by rw [J_le (by omega) (by omega) (by omega) (by omega)]; omega), if_neg (show ¬ (200 : Int32) ≤ J (ln : Nat) by rw [show (200 : Int32) = J 200 from rfl, J_le (by omega) (by omega) (by omega) (by omega)]; omega), if_neg (show ¬ (J (ix : Nat) < 0 ∨ J 94 ≤ J (ix : Nat)) by rintro (c | c); exact J_nlt0 (by omega) (by omega) c; rw [J_le (by omega) (by omega) (by omega) (by omega)] at c; omega), if_neg (show ¬ (J (ln : Nat) < 0 ∨ 200 ≤ (J (ln : Nat)).toNatClampNeg) by rintro (c | c); exact J_nlt0 (by omega) (by omega) c; rw [J_natN (by omega)] at c; omega), J_natN (by omega), J_natN (by omega), o3, show J (ln : Nat) + 1 = J (ln + 1 : Nat) by rw [J_lit, J_add]; rfl]
        have kA : ∀ k, ((cA' Δ 10 15 (upd ((Δ 10).2.1 15) ln (J (by_ ln : Nat)))) 10).2.1 k = if k = 15 then upd ((Δ 10).2.1 15) ln (J (by_ ln : Nat)) else (Δ 10).2.1 k := fun k => updA_s _ _ _ _
        refine nx (ln + 1) (-1) _ (Or.inl ⟨by omega, hpos, rfl⟩) ⟨fun r hr' => by rw [cA_r, if_neg hr']; exact hU.1 r hr', hU.2.1, fun k' hk' => by rw [kA, if_neg hk']; exact hU.2.2.1 k' hk', hU.2.2.2⟩ (fun k' hk' => ?_)
        rw [kA, if_pos rfl, upd_s]
        by_cases e : k' = ln
        · rw [if_pos e, e]
        · rw [if_neg e]; exact hr k' (by omega)
      have cps1 : cpz by_ (ln + 1) = cpz by_ ln + (if sgN (by_ ln) < 29 then 1 else 2) := rfl
      rcases hS with ⟨a1, a2, rfl⟩ | ⟨a1, a2, a3, rfl⟩ | ⟨a1, a2, rfl⟩ | ⟨a1, a2, rfl⟩ | ⟨a1, a2, rfl⟩
      · rw [if_pos (show J (-1) = -1 from rfl)]
        rcases Nat.lt_or_ge ln m0 with hln | hln
        · obtain ⟨d0, d1, d2⟩ := t9 ln hln
          by_cases q2 : sgN (by_ ln) < 29
          · rw [a2, d1 q2, if_pos (show J (sgN (by_ ln) : Nat) < 29 by rw [show (29 : Int32) = J 29 from rfl, J_lt (by omega) (by omega) (by omega) (by omega)]; omega), if_pos (show J (-1) = -1 from rfl)]
            exact wr _ hln rfl (by rw [cps1, if_pos q2]; omega)
          · obtain ⟨d3, d4⟩ := d2 (by omega)
            have := (sg_ok d0).1
            rw [a2, d3, if_neg (show ¬ J (29 + (sgN (by_ ln) - 29) / 32 : Nat) < 29 by rw [show (29 : Int32) = J 29 from rfl, J_lt (by omega) (by omega) (by omega) (by omega)]; omega), show J (29 + (sgN (by_ ln) - 29) / 32 : Nat) - 29 = J ((sgN (by_ ln) - 29) / 32 : Nat) by rw [show (29 : Int32) = J 29 from rfl, J_sub]; congr 1; omega]
            exact nx ln _ Δ (Or.inr (Or.inl ⟨hln, by omega, by omega, rfl⟩)) hU hr
        · have el : ln = m0 := by omega
          subst el
          rw [t11 _ (by omega), if_neg (show ¬ J ((31 : Nat) : Int) < 29 by decide), show J ((31 : Nat) : Int) - 29 = J 2 from rfl]
          exact nx ln 2 Δ (Or.inr (Or.inr (Or.inl ⟨rfl, by omega, rfl⟩))) hU hr
      · obtain ⟨d0, d1, d2⟩ := t9 ln a1
        obtain ⟨d3, d4⟩ := d2 a2
        have := (sg_ok d0).1
        rw [if_neg (show ¬ J (((sgN (by_ ln) - 29) / 32 : Nat) : Int) = -1 by rw [show (-1 : Int32) = J (-1) from rfl, J_eq (by omega) (by omega) (by omega) (by omega)]; omega), if_neg (show ¬ J (((sgN (by_ ln) - 29) / 32 : Nat) : Int) = -1 by rw [show (-1 : Int32) = J (-1) from rfl, J_eq (by omega) (by omega) (by omega) (by omega)]; omega), a3, d4, show (29 : Int32) + J (((sgN (by_ ln) - 29) / 32 : Nat) : Int) * 32 + J ((sgN (by_ ln) - 29) % 32 : Nat) = J (sgN (by_ ln) : Nat) by rw [show (29 : Int32) = J 29 from rfl, show (32 : Int32) = J 32 from rfl, J_mul, J_add, J_add]; congr 1; omega]
        exact wr _ a1 rfl (by rw [cps1, if_neg (by omega)]; omega)
      · subst a1
        rw [if_neg (show ¬ J 2 = -1 by decide), if_neg (show ¬ J 2 = -1 by decide), t11 _ (by omega), show (29 : Int32) + J 2 * 32 + J ((31 : Nat) : Int) = J 124 from rfl, if_pos (show J 94 ≤ J 124 by decide)]
        exact nx ln (-1) Δ (Or.inr (Or.inr (Or.inr (Or.inl ⟨rfl, by omega, rfl⟩)))) hU hr
      · subst a1
        rw [if_pos (show J (-1) = -1 from rfl), t11 _ (by omega), if_neg (show ¬ J ((31 : Nat) : Int) < 29 by decide), show J ((31 : Nat) : Int) - 29 = J 2 from rfl]
        exact nx ln 2 Δ (Or.inr (Or.inr (Or.inr (Or.inr ⟨rfl, by omega, rfl⟩)))) hU hr
      · omega
  obtain ⟨⟨y, Γ'⟩, e, h0, h1, h2⟩ := key
  dsimp only at h0
  subst h0
  exact ⟨Γ', e, h1, h2⟩
def Uit (again_7 : (Int32 × Int32 × Int32 × HS) → HR) (s_6 : Int32 × Int32 × Int32 × HS) : ((Int32 × Int32 × Int32 × HS) → HR) → Int32 × Int32 × Int32 × HS → HR := (fun (again_17 : (Int32 × Int32 × Int32 × HS) → HR) (s_16 : Int32 × Int32 × Int32 × HS) => ( if s_16.2.2.1 < 0 then ( if s_6.2.2.1 < 0 ∨ 16000 ≤ s_6.2.2.1.toNatClampNeg then none else bnd ((((s_16.2.2.2 6).2.1 0 s_6.2.2.1.toNatClampNeg) &&& 32768)) fun (x_24 : Int32) => if x_24 = 0 then ( bnd (s_6.2.2.1 + 1) fun (x_28 : Int32) => again_7 (s_16.1, s_16.2.1, x_28, s_16.2.2.2) ) else ( some (s_16.1, s_16.2.2.2) ) ) else ( if s_6.2.2.1 < 0 ∨ 16000 ≤ s_6.2.2.1.toNatClampNeg then none else bnd (((((s_16.2.2.2 6).2.1 0 s_6.2.2.1.toNatClampNeg) >>> (s_16.2.2.1 &&& 31)) &&& 31)) fun (x_34 : Int32) => bnd (fun (v4_36 : Int32) (v5_37 : Int32) (σ_38 : HS) => ( bnd (s_16.2.2.1 + (-5)) fun (x_42 : Int32) => again_17 (v4_36, v5_37, x_42, σ_38) ) : Int32 → Int32 → HS → HR) fun j_39 => bnd (fun  (σ_44 : HS) => ( bnd (fun (t_48 : Int32) (σ_49 : HS) => ( bnd ((Int32.ofNat (SGL).length)) fun (x_54 : Int32) => if x_54 ≤ t_48 then ( j_39 s_16.1 (-1) σ_49 ) else ( if 200 ≤ s_16.1 then ( j_39 s_16.1 (-1) σ_49 ) else ( if t_48 < 0 ∨ Int32.ofNat (SGL).length ≤ t_48 then none else bnd ((g_chr ((SGL).getD t_48.toNatClampNeg 0))) fun (x_65 : Int32) => bnd (x_65.toInt8.toInt32) fun (x_67 : Int32) => if s_16.1 < 0 ∨ 200 ≤ s_16.1.toNatClampNeg then none else bnd (cA' σ_49 6 8 (upd ((σ_49 6).2.1 8) s_16.1.toNatClampNeg (vp_nar .byte x_67))) fun σ_71 => bnd (s_16.1 + 1) fun (x_73 : Int32) => j_39 x_73 (-1) σ_71 ) ) ) : Int32 → HS → HR) fun j_50 => if s_16.2.1 = (-1) then ( j_50 x_34 σ_44 ) else ( j_50 ((29 + (s_16.2.1 * 32)) + x_34) σ_44 ) ) : HS → HR) fun j_45 => if s_16.2.1 = (-1) then ( if x_34 < 29 then ( j_45  s_16.2.2.2 ) else ( bnd ((x_34 - 29)) fun (x_83 : Int32) => j_39 s_16.1 x_83 s_16.2.2.2 ) ) else ( j_45  s_16.2.2.2 ) ) ))
def Uot : ((Int32 × Int32 × Int32 × HS) → HR) → Int32 × Int32 × Int32 × HS → HR := (fun (again_7 : (Int32 × Int32 × Int32 × HS) → HR) (s_6 : Int32 × Int32 × Int32 × HS) => ( if ((s_6.2.2.2 6).1 1) ≤ s_6.2.2.1 then ( some (s_6.1, s_6.2.2.2) ) else ( if 16000 ≤ s_6.2.2.1 then ( some (s_6.1, s_6.2.2.2) ) else ( loopF (Uit again_7 s_6) FU (s_6.1, s_6.2.1, 10, s_6.2.2.2) ) ) ))
theorem unpack_eq_t (p0 : Int32) (Γ : HS) : F_X9_unpack_t p0 Γ = bnd (fun (t_1 : Int32) (σ_2 : HS) => ( loopF (Uot) FU (0, (-1), t_1, σ_2) ) : Int32 → HS → HR) fun j_3 => bnd (fun  (σ_86 : HS) => ( j_3 ((σ_86 6).1 1) σ_86 ) : HS → HR) fun j_87 => if p0 < 0 then ( j_87  Γ ) else ( if ((Γ 6).1 6) ≤ p0 then ( j_87  Γ ) else ( if 8000 ≤ p0 then ( j_87  Γ ) else ( if p0 < 0 ∨ 8000 ≤ p0.toNatClampNeg then none else j_3 ((Γ 6).2.1 4 p0.toNatClampNeg) Γ ) ) ) := rfl
/-- all but the row -/
def UFt (Γ Δ : HS) : Prop := (∀ r, r ≠ 6 → Δ r = Γ r) ∧ (Δ 6).1 = (Γ 6).1 ∧ (∀ k, k ≠ 8 → (Δ 6).2.1 k = (Γ 6).2.1 k) ∧ (Δ 6).2.2 = (Γ 6).2.2
theorem c_unpack_t {Γ : HS} {v m0 : Nat} {by_ : Nat → Nat} (h : TXD Γ v m0 by_) : ∃ Γ', F_X9_unpack_t (J (v : Nat)) Γ = some (J (m0 : Nat), Γ') ∧ UFt Γ Γ' ∧ ∀ k, k < m0 → (Γ' 6).2.1 8 k = J (by_ k : Nat) := by
  obtain ⟨hm, cnt, u0, nu, tot, cd, t1, t2, t3, t4, t5, t6, t7, t8, t9, t10, t11, t12, t13, t14⟩ := h
  have i61 : ∀ Δ, UFt Γ Δ → (Δ 6).1 1 = J (tot : Nat) := fun Δ hΔ => by
    rw [hΔ.2.1]; exact t5
  have i60 : ∀ Δ, UFt Γ Δ → (Δ 6).2.1 0 = (Γ 6).2.1 0 := fun Δ hΔ => by
    rw [hΔ.2.2.1 0 (by omega)]
  have key : Ok (F_X9_unpack_t (J (v : Nat)) Γ) (fun u => u.1 = J (m0 : Nat) ∧ UFt Γ u.2 ∧ ∀ k, k < m0 → (u.2 6).2.1 8 k = J (by_ k : Nat)) := by
    rw [unpack_eq_t]
    simp only [bndE]
    rw [if_neg (J_nlt0 (by omega) (by omega)), t3, if_neg (show ¬ J (cnt : Nat) ≤ J (v : Nat) by rw [J_le (by omega) (by omega) (by omega) (by omega)]; omega), if_neg (show ¬ (8000 : Int32) ≤ J (v : Nat) by rw [show (8000 : Int32) = J 8000 from rfl, J_le (by omega) (by omega) (by omega) (by omega)]; omega), if_neg (show ¬ (J (v : Nat) < 0 ∨ 8000 ≤ (J (v : Nat)).toNatClampNeg) by rintro (c | c); exact J_nlt0 (by omega) (by omega) c; rw [J_natN (by omega)] at c; omega), J_natN (by omega), t4]
    refine Ok_loop (P := fun t z => ∃ (j ln : Nat) (sh : Int) (Δ : HS), j < nu ∧ t = (J (ln : Nat), J sh, J (u0 + j : Nat), Δ) ∧ USt by_ m0 (3 * j) sh ln ∧ UFt Γ Δ ∧ (∀ k, k < ln → (Δ 6).2.1 8 k = J (by_ k : Nat)) ∧ z = nu - j) ?_ FU _ nu (FU_gt (by omega)) ⟨0, 0, -1, Γ, by omega, rfl, Or.inl ⟨by omega, rfl, rfl⟩, ⟨fun _ _ => rfl, rfl, fun _ _ => rfl, rfl⟩, fun k hk => by omega, by omega⟩
    rintro again t z ⟨j, ln, sh, Δ, j1, rfl, hS, hU, hr, rfl⟩ ih
    unfold Uot
    dsimp only
    rw [i61 Δ hU, if_neg (show ¬ J (tot : Nat) ≤ J (u0 + j : Nat) by rw [J_le (by omega) (by omega) (by omega) (by omega)]; omega), if_neg (show ¬ (16000 : Int32) ≤ J (u0 + j : Nat) by rw [show (16000 : Int32) = J 16000 from rfl, J_le (by omega) (by omega) (by omega) (by omega)]; omega)]
    obtain ⟨x, hx, hux⟩ : ∃ x : Nat, (x = 0 ∨ x = 32768) ∧ (Γ 6).2.1 0 (u0 + j) = J (unit3 cd j + x : Nat) ∧ (x = 0 ↔ j + 1 < nu) := by
      by_cases e : j + 1 = nu
      · exact ⟨32768, Or.inr rfl, by rw [t8 j j1, if_pos e], by omega⟩
      · exact ⟨0, Or.inl rfl, by rw [t8 j j1, if_neg e], by omega⟩
    obtain ⟨c1, c2, c3, c4, c5⟩ := unit_c t10 (j := j) hx
    have hg : ¬ (J (u0 + j : Nat) < 0 ∨ 16000 ≤ (J (u0 + j : Nat)).toNatClampNeg) := by
      rintro (c | c)
      · exact J_nlt0 (by omega) (by omega) c
      · rw [J_natN (by omega)] at c; omega
    refine Ok_loop (P := fun t z => ∃ (k ln : Nat) (sh : Int) (Δ : HS), k ≤ 3 ∧ t = (J (ln : Nat), J sh, J (10 - 5 * k : Int), Δ) ∧ USt by_ m0 (3 * j + k) sh ln ∧ UFt Γ Δ ∧ (∀ k, k < ln → (Δ 6).2.1 8 k = J (by_ k : Nat)) ∧ z = 3 - k) ?_ FU _ 3 (FU_gt (by omega)) ⟨0, ln, sh, Δ, by omega, rfl, hS, hU, hr, rfl⟩
    rintro again2 t z ⟨k, ln, sh, Δ, k3, rfl, hS, hU, hr, rfl⟩ ih2
    unfold Uit
    simp only [bndE]
    rw [if_neg hg, if_neg hg, J_natN (by omega), i60 Δ hU, hux.1]
    by_cases q : k = 3
    · rw [if_pos (J_lt0 (by omega) (by omega))]
      by_cases e : j + 1 < nu
      · rw [if_pos (by rw [and15 c4]; exact c5.mpr (hux.2.mpr e))]
        refine ih _ (nu - (j + 1)) (by omega) ⟨j + 1, ln, sh, Δ, e, by rw [show J (u0 + j : Nat) + 1 = J (u0 + (j + 1) : Nat) by rw [J_lit, J_add]; rfl], by rw [show 3 * (j + 1) = 3 * j + k by omega]; exact hS, hU, hr, rfl⟩
      · rw [if_neg (by rw [and15 c4]; intro hh; exact e (hux.2.mp (c5.mp hh)))]
        have el := USt_end hS (by omega)
        subst el
        exact Ok_some ⟨rfl, hU, hr⟩
    · rw [if_neg (J_nlt0 (by omega) (by omega))]
      have hx34 : ((J (unit3 cd j + x : Nat)) >>> ((J (10 - 5 * k : Int)) &&& 31)) &&& 31 = J (cd (3 * j + k) : Nat) := by
        by_cases k0 : k = 0
        · rw [k0, show J (10 - 5 * ((0 : Nat) : Int)) = 10 from rfl, shr10 (by omega), and31 (by omega), c1]; rfl
        by_cases k1 : k = 1
        · rw [k1, show J (10 - 5 * ((1 : Nat) : Int)) = 5 from rfl, shr5 (by omega), and31 (by omega), c2]
        · have k2 : k = 2 := by omega
          rw [k2, show J (10 - 5 * ((2 : Nat) : Int)) = 0 from rfl, shr0 (by omega), and31 (by omega), c3]
      rw [hx34]
      have hcd := t10 (3 * j + k)
      have eb : J (10 - 5 * k : Int) + (-5) = J (10 - 5 * (k + 1 : Nat) : Int) := by rw [show (-5 : Int32) = J (-5) from rfl, J_add]; congr 1; omega
      rw [eb]
      have e94 : Int32.ofNat SGL.length = J 94 := by rw [SGL_len]; rfl
      rw [e94]
      -- goes on
      have nx : ∀ (ln' : Nat) (sh' : Int) (Δ' : HS), USt by_ m0 (3 * j + (k + 1)) sh' ln' → UFt Γ Δ' → (∀ k, k < ln' → (Δ' 6).2.1 8 k = J (by_ k : Nat)) → Ok (again2 (J (ln' : Nat), J sh', J (10 - 5 * (k + 1 : Nat) : Int), Δ')) (fun u => u.1 = J (m0 : Nat) ∧ UFt Γ u.2 ∧ ∀ k, k < m0 → (u.2 6).2.1 8 k = J (by_ k : Nat)) := fun ln' sh' Δ' a b c => ih2 _ (3 - (k + 1)) (by omega) ⟨k + 1, ln', sh', Δ', by omega, rfl, a, b, c, rfl⟩
      -- a sign is put down
      have wr : ∀ ix : Nat, ln < m0 → ix = sgN (by_ ln) → 3 * j + (k + 1) = cpz by_ (ln + 1) → Ok (if J 94 ≤ J (ix : Nat) then again2 (J (ln : Nat), -1, J (10 - 5 * (k + 1 : Nat) : Int), Δ) else if 200 ≤ J (ln : Nat) then again2 (J (ln : Nat), -1, J (10 - 5 * (k + 1 : Nat) : Int), Δ) else if J (ix : Nat) < 0 ∨ J 94 ≤ J (ix : Nat) then none else if J (ln : Nat) < 0 ∨ 200 ≤ (J (ln : Nat)).toNatClampNeg then none else again2 (J (ln : Nat) + 1, -1, J (10 - 5 * (k + 1 : Nat) : Int), cA' Δ 6 8 (upd ((Δ 6).2.1 8) (J (ln : Nat)).toNatClampNeg (vp_nar .byte ((g_chr (SGL.getD (J (ix : Nat)).toNatClampNeg 0)).toInt8.toInt32))))) (fun u => u.1 = J (m0 : Nat) ∧ UFt Γ u.2 ∧ ∀ k, k < m0 → (u.2 6).2.1 8 k = J (by_ k : Nat)) := by
        intro ix hln hix hpos
        obtain ⟨o1, o2, o3, o4⟩ := sg_ok (t9 ln hln).1
        rw [← hix] at o1 o3
        rw [if_neg (show ¬ J 94 ≤ J (ix : Nat) by rw [J_le (by omega) (by omega) (by omega) (by omega)]; omega), if_neg (show ¬ (200 : Int32) ≤ J (ln : Nat) by rw [show (200 : Int32) = J 200 from rfl, J_le (by omega) (by omega) (by omega) (by omega)]; omega), if_neg (show ¬ (J (ix : Nat) < 0 ∨ J 94 ≤ J (ix : Nat)) by rintro (c | c); exact J_nlt0 (by omega) (by omega) c; rw [J_le (by omega) (by omega) (by omega) (by omega)] at c; omega), if_neg (show ¬ (J (ln : Nat) < 0 ∨ 200 ≤ (J (ln : Nat)).toNatClampNeg) by rintro (c | c); exact J_nlt0 (by omega) (by omega) c; rw [J_natN (by omega)] at c; omega), J_natN (by omega), J_natN (by omega), o3, show J (ln : Nat) + 1 = J (ln + 1 : Nat) by rw [J_lit, J_add]; rfl]
        have kA : ∀ k, ((cA' Δ 6 8 (upd ((Δ 6).2.1 8) ln (J (by_ ln : Nat)))) 6).2.1 k = if k = 8 then upd ((Δ 6).2.1 8) ln (J (by_ ln : Nat)) else (Δ 6).2.1 k := fun k => updA_s _ _ _ _
        refine nx (ln + 1) (-1) _ (Or.inl ⟨by omega, hpos, rfl⟩) ⟨fun r hr' => by rw [cA_r, if_neg hr']; exact hU.1 r hr', hU.2.1, fun k' hk' => by rw [kA, if_neg hk']; exact hU.2.2.1 k' hk', hU.2.2.2⟩ (fun k' hk' => ?_)
        rw [kA, if_pos rfl, upd_s]
        by_cases e : k' = ln
        · rw [if_pos e, e]
        · rw [if_neg e]; exact hr k' (by omega)
      have cps1 : cpz by_ (ln + 1) = cpz by_ ln + (if sgN (by_ ln) < 29 then 1 else 2) := rfl
      rcases hS with ⟨a1, a2, rfl⟩ | ⟨a1, a2, a3, rfl⟩ | ⟨a1, a2, rfl⟩ | ⟨a1, a2, rfl⟩ | ⟨a1, a2, rfl⟩
      · rw [if_pos (show J (-1) = -1 from rfl)]
        rcases Nat.lt_or_ge ln m0 with hln | hln
        · obtain ⟨d0, d1, d2⟩ := t9 ln hln
          by_cases q2 : sgN (by_ ln) < 29
          · rw [a2, d1 q2, if_pos (show J (sgN (by_ ln) : Nat) < 29 by rw [show (29 : Int32) = J 29 from rfl, J_lt (by omega) (by omega) (by omega) (by omega)]; omega), if_pos (show J (-1) = -1 from rfl)]
            exact wr _ hln rfl (by rw [cps1, if_pos q2]; omega)
          · obtain ⟨d3, d4⟩ := d2 (by omega)
            have := (sg_ok d0).1
            rw [a2, d3, if_neg (show ¬ J (29 + (sgN (by_ ln) - 29) / 32 : Nat) < 29 by rw [show (29 : Int32) = J 29 from rfl, J_lt (by omega) (by omega) (by omega) (by omega)]; omega), show J (29 + (sgN (by_ ln) - 29) / 32 : Nat) - 29 = J ((sgN (by_ ln) - 29) / 32 : Nat) by rw [show (29 : Int32) = J 29 from rfl, J_sub]; congr 1; omega]
            exact nx ln _ Δ (Or.inr (Or.inl ⟨hln, by omega, by omega, rfl⟩)) hU hr
        · have el : ln = m0 := by omega
          subst el
          rw [t11 _ (by omega), if_neg (show ¬ J ((31 : Nat) : Int) < 29 by decide), show J ((31 : Nat) : Int) - 29 = J 2 from rfl]
          exact nx ln 2 Δ (Or.inr (Or.inr (Or.inl ⟨rfl, by omega, rfl⟩))) hU hr
      · obtain ⟨d0, d1, d2⟩ := t9 ln a1
        obtain ⟨d3, d4⟩ := d2 a2
        have := (sg_ok d0).1
        rw [if_neg (show ¬ J (((sgN (by_ ln) - 29) / 32 : Nat) : Int) = -1 by rw [show (-1 : Int32) = J (-1) from rfl, J_eq (by omega) (by omega) (by omega) (by omega)]; omega), if_neg (show ¬ J (((sgN (by_ ln) - 29) / 32 : Nat) : Int) = -1 by rw [show (-1 : Int32) = J (-1) from rfl, J_eq (by omega) (by omega) (by omega) (by omega)]; omega), a3, d4, show (29 : Int32) + J (((sgN (by_ ln) - 29) / 32 : Nat) : Int) * 32 + J ((sgN (by_ ln) - 29) % 32 : Nat) = J (sgN (by_ ln) : Nat) by rw [show (29 : Int32) = J 29 from rfl, show (32 : Int32) = J 32 from rfl, J_mul, J_add, J_add]; congr 1; omega]
        exact wr _ a1 rfl (by rw [cps1, if_neg (by omega)]; omega)
      · subst a1
        rw [if_neg (show ¬ J 2 = -1 by decide), if_neg (show ¬ J 2 = -1 by decide), t11 _ (by omega), show (29 : Int32) + J 2 * 32 + J ((31 : Nat) : Int) = J 124 from rfl, if_pos (show J 94 ≤ J 124 by decide)]
        exact nx ln (-1) Δ (Or.inr (Or.inr (Or.inr (Or.inl ⟨rfl, by omega, rfl⟩)))) hU hr
      · subst a1
        rw [if_pos (show J (-1) = -1 from rfl), t11 _ (by omega), if_neg (show ¬ J ((31 : Nat) : Int) < 29 by decide), show J ((31 : Nat) : Int) - 29 = J 2 from rfl]
        exact nx ln 2 Δ (Or.inr (Or.inr (Or.inr (Or.inr ⟨rfl, by omega, rfl⟩)))) hU hr
      · omega
  obtain ⟨⟨y, Γ'⟩, e, h0, h1, h2⟩ := key
  dsimp only at h0
  subst h0
  exact ⟨Γ', e, h1, h2⟩
