/-! all that a command is for, gathered by both -/
variable {nO nV nC : Nat} {room : Nat → Bool}
def GaB (p0 : Int32) (K : Int32 → MS → MR) : ((Int32 × Int32 × MS) → MR) → Int32 × Int32 × MS → MR := (fun (again_12 : (Int32 × Int32 × MS) → MR) (s_11 : Int32 × Int32 × MS) => ( if s_11.2.1 = 0 then ( K s_11.1 s_11.2.2 ) else ( (F_X12_has s_11.2.1 2 1 s_11.2.2).bind fun u_66 => bnd (fun (v3_68 : Int32) (σ_69 : MS) => ( if s_11.2.1 < 0 ∨ 121 ≤ s_11.2.1.toNatClampNeg then none else bnd ((σ_69.2 89 s_11.2.1.toNatClampNeg)) fun (x_75 : Int32) => again_12 (v3_68, x_75, σ_69) ) : Int32 → MS → MR) fun j_70 => if u_66.1 = 0 then ( if s_11.2.1 = 1 then ( j_70 s_11.1 u_66.2 ) else ( bnd (fun  (σ_82 : MS) => ( bnd (s_11.1 + 1) fun (x_86 : Int32) => if s_11.1 < 0 ∨ 121 ≤ s_11.1.toNatClampNeg then none else bnd (mA σ_82 121 (upd (σ_82.2 121) s_11.1.toNatClampNeg s_11.2.1)) fun σ_90 => j_70 x_86 σ_90 ) : MS → MR) fun j_83 => if p0 = 4 then ( (F_X12_has s_11.2.1 1 1 u_66.2).bind fun u_94 => if u_94.1 = 0 then ( j_83  u_94.2 ) else ( j_70 s_11.1 u_94.2 ) ) else ( j_83  u_66.2 ) ) ) else ( j_70 s_11.1 u_66.2 ) ) ))
theorem GaB_s (p0 : Int32) (K : Int32 → MS → MR) (n : Nat) (a b : Int32) (X : MS) : loopF (GaB p0 K) (n + 1) (a, b, X) = ( if b = 0 then ( K a X ) else ( (F_X12_has b 2 1 X).bind fun u_66 => bnd (fun (v3_68 : Int32) (σ_69 : MS) => ( if b < 0 ∨ 121 ≤ b.toNatClampNeg then none else bnd ((σ_69.2 89 b.toNatClampNeg)) fun (x_75 : Int32) => loopF (GaB p0 K) n (v3_68, x_75, σ_69) ) : Int32 → MS → MR) fun j_70 => if u_66.1 = 0 then ( if b = 1 then ( j_70 a u_66.2 ) else ( bnd (fun  (σ_82 : MS) => ( bnd (a + 1) fun (x_86 : Int32) => if a < 0 ∨ 121 ≤ a.toNatClampNeg then none else bnd (mA σ_82 121 (upd (σ_82.2 121) a.toNatClampNeg b)) fun σ_90 => j_70 x_86 σ_90 ) : MS → MR) fun j_83 => if p0 = 4 then ( (F_X12_has b 1 1 u_66.2).bind fun u_94 => if u_94.1 = 0 then ( j_83  u_94.2 ) else ( j_70 a u_94.2 ) ) else ( j_83  u_66.2 ) ) ) else ( j_70 a u_66.2 ) ) ) := rfl
def GaC (K : HS → HR) : ((Int32 × Int32 × HS) → HR) → Int32 × Int32 × HS → HR := (fun (again_32 : (Int32 × Int32 × HS) → HR) (s_31 : Int32 × Int32 × HS) => ( if 120 ≤ s_31.2.1 then ( K  s_31.2.2 ) else ( if s_31.1 = 0 then ( K  s_31.2.2 ) else ( bnd (fun (t_41 : Int32) (σ_42 : HS) => ( bnd (fun  (σ_46 : HS) => ( bnd ((g_at 121 ((σ_46 9).2.1 2) s_31.1)) fun (x_50 : Int32) => bnd (s_31.2.1 + 1) fun (x_52 : Int32) => again_32 (x_50, x_52, σ_46) ) : HS → HR) fun j_47 => if s_31.1 = 1 then ( j_47  σ_42 ) else ( (F_X6_bears s_31.1 2 σ_42).bind fun u_57 => bnd (mrg (fun j => j == 9) σ_42 u_57.2) fun σ_59 => if u_57.1 = 0 then ( if t_41 = 0 then ( bnd (cA' σ_59 11 14 (g_put 120 ((σ_59 11).2.1 14) ((σ_59 11).1 15) s_31.1)) fun σ_65 => bnd (cI' σ_65 11 15 (((σ_65 11).1 15) + 1)) fun σ_67 => j_47  σ_67 ) else ( j_47  σ_59 ) ) else ( j_47  σ_59 ) ) ) : Int32 → HS → HR) fun j_43 => bnd (fun  (σ_71 : HS) => ( j_43 0 σ_71 ) : HS → HR) fun j_72 => if ((s_31.2.2 11).1 8) = 4 then ( (F_X6_bears s_31.1 1 s_31.2.2).bind fun u_77 => bnd (mrg (fun j => j == 9) s_31.2.2 u_77.2) fun σ_79 => if u_77.1 = 0 then ( j_72  σ_79 ) else ( j_43 1 σ_79 ) ) else ( j_72  s_31.2.2 ) ) ) ))
theorem GaC_s (K : HS → HR) (n : Nat) (a b : Int32) (X : HS) : loopF (GaC K) (n + 1) (a, b, X) = ( if 120 ≤ b then ( K  X ) else ( if a = 0 then ( K  X ) else ( bnd (fun (t_41 : Int32) (σ_42 : HS) => ( bnd (fun  (σ_46 : HS) => ( bnd ((g_at 121 ((σ_46 9).2.1 2) a)) fun (x_50 : Int32) => bnd (b + 1) fun (x_52 : Int32) => loopF (GaC K) n (x_50, x_52, σ_46) ) : HS → HR) fun j_47 => if a = 1 then ( j_47  σ_42 ) else ( (F_X6_bears a 2 σ_42).bind fun u_57 => bnd (mrg (fun j => j == 9) σ_42 u_57.2) fun σ_59 => if u_57.1 = 0 then ( if t_41 = 0 then ( bnd (cA' σ_59 11 14 (g_put 120 ((σ_59 11).2.1 14) ((σ_59 11).1 15) a)) fun σ_65 => bnd (cI' σ_65 11 15 (((σ_65 11).1 15) + 1)) fun σ_67 => j_47  σ_67 ) else ( j_47  σ_59 ) ) else ( j_47  σ_59 ) ) ) : Int32 → HS → HR) fun j_43 => bnd (fun  (σ_71 : HS) => ( j_43 0 σ_71 ) : HS → HR) fun j_72 => if ((X 11).1 8) = 4 then ( (F_X6_bears a 1 X).bind fun u_77 => bnd (mrg (fun j => j == 9) X u_77.2) fun σ_79 => if u_77.1 = 0 then ( j_72  σ_79 ) else ( j_43 1 σ_79 ) ) else ( j_72  X ) ) ) ) := rfl
/-- only what is gathered changed -/
def rGa (σ τ : MS) : Prop := τ.1 = σ.1 ∧ ∀ k, k ≠ 121 → τ.2 k = σ.2 k
def cGa (Γ Δ : HS) : Prop := (∀ r, r ≠ 11 → Δ r = Γ r) ∧ (∀ k, k ≠ 15 → (Δ 11).1 k = (Γ 11).1 k) ∧ ∀ k, k ≠ 14 → (Δ 11).2.1 k = (Γ 11).2.1 k
theorem PLT_G {σ τ : MS} {Γ Δ : HS} {pa fi nx : Nat → Nat} {ch : Nat → List Nat} {tr : Nat → Nat} (h : PLT nO room nV nC σ Γ pa fi nx ch tr) (hr : rGa σ τ) (hc : cGa Γ Δ) : PLT nO room nV nC τ Δ pa fi nx ch tr := by
  have e9 : Δ 9 = Γ 9 := hc.1 9 (by omega)
  obtain ⟨t, r, c, p4, p5, p6, p7, p8, p9, p10, p11, p12⟩ := h
  refine ⟨t, RT_congr r (hr.2 87 (by omega)) (hr.2 88 (by omega)) (hr.2 89 (by omega)), fun i hi => by rw [e9]; exact c i hi, ?_, ?_, ?_, ?_, ?_, ?_, p10, p11, ?_⟩
  · rw [e9, hr.2 90 (by omega)]; exact p4
  · rw [e9, hr.2 91 (by omega)]; exact p5
  · rw [e9, hr.2 92 (by omega)]; exact p6
  · rw [e9, hr.1]; exact p7
  · rw [hr.1]; exact p8
  · rw [hr.1]; exact p9
  · refine ⟨?_, p12.2⟩
    unfold LAT
    rw [e9, hr.1, hr.2 97 (by omega)]; exact p12.1
def GAL (σ : MS) (Γ : HS) (L : List Nat) : Prop := (Γ 11).1 15 = J (L.length : Nat) ∧ ∀ j, j < L.length → σ.2 121 j = J (L.getD j 0 : Nat) ∧ (Γ 11).2.1 14 j = J (L.getD j 0 : Nat)
def okA (a : Nat) (tr : Nat → Nat) (x : Nat) : Bool := !(trB tr 2 x) && (x != 1) && !(a == 4 && trB tr 1 x)
theorem GAL_add {σ : MS} {Γ : HS} {L : List Nat} {x : Nat} (h : GAL σ Γ L) : GAL (mA σ 121 (upd (σ.2 121) L.length (J (x : Nat)))) (cI' (cA' Γ 11 14 (upd ((Γ 11).2.1 14) L.length (J (x : Nat)))) 11 15 (J (L.length + 1 : Nat))) (L ++ [x]) := by
  refine ⟨?_, fun j hj => ?_⟩
  · rw [List.length_append]; rfl
  · rw [List.length_append] at hj
    have hj : j < L.length + 1 := hj
    show upd _ _ _ _ = _ ∧ upd _ _ _ _ = _
    rw [upd_s, upd_s]
    by_cases e : j = L.length
    · have eg : (L ++ [x]).getD L.length 0 = x := by rw [List.getD_eq_getElem?_getD, List.getElem?_append_right (Nat.le_refl _)]; simp
      rw [if_pos e, if_pos e, e, eg]
      exact ⟨rfl, rfl⟩
    · have eg : (L ++ [x]).getD j 0 = L.getD j 0 := by rw [List.getD_eq_getElem?_getD, List.getD_eq_getElem?_getD, List.getElem?_append_left (show j < L.length by omega)]
      rw [if_neg e, if_neg e, eg]
      exact h.2 j (by omega)
theorem W_gather {pa fi nx : Nat → Nat} {ch : Nat → List Nat} {tr : Nat → Nat} {a : Nat} (ha : a < 1000) : ∀ (l : List Nat) (f c : Nat) (L : List Nat) (σ : MS) (Γ : HS), PLT nO room nV nC σ Γ pa fi nx ch tr → GAL σ Γ L → (Γ 11).1 8 = J (a : Nat) → chL nx l f → (∀ x, x ∈ l → 1 ≤ x ∧ x ≤ nO) → c + l.length ≤ 120 → L.length + l.length ≤ 120 → ∀ n, l.length < n → ∃ τ Δ, (∀ K : Int32 → MS → MR, loopF (GaB (J (a : Nat)) K) n (J (L.length : Nat), J (f : Nat), σ) = K (J ((L ++ l.filter (okA a tr)).length : Nat)) τ) ∧ (∀ K : HS → HR, loopF (GaC K) n (J (f : Nat), J (c : Nat), Γ) = K Δ) ∧ GAL τ Δ (L ++ l.filter (okA a tr)) ∧ rGa σ τ ∧ cGa Γ Δ := by
  intro l
  induction l with
  | nil =>
    intro f c L σ Γ hP hG h8 hl hm hc hL n hn
    obtain ⟨n, rfl⟩ : ∃ m, n = m + 1 := ⟨n - 1, by omega⟩
    have hf : f = 0 := hl
    subst hf
    refine ⟨σ, Γ, fun K => ?_, fun K => ?_, ?_, ⟨rfl, fun _ _ => rfl⟩, ⟨fun _ _ => rfl, fun _ _ => rfl, fun _ _ => rfl⟩⟩
    · rw [GaB_s, if_pos (show J ((0 : Nat) : Int) = 0 from rfl), List.filter_nil, List.append_nil]
    · rw [GaC_s, if_pos (show J ((0 : Nat) : Int) = 0 from rfl), ite_self]
    · rw [List.filter_nil, List.append_nil]; exact hG
  | cons x l ih =>
    intro f c L σ Γ hP hG h8 hl hm hc hL n hn
    obtain ⟨n, rfl⟩ : ∃ m, n = m + 1 := ⟨n - 1, by omega⟩
    have tn := hP.1.1
    obtain ⟨rfl, x0, hl⟩ := hl
    have hx := hm f (List.mem_cons_self ..)
    rw [List.length_cons] at hc hn hL
    have hx0 : ¬ J (f : Nat) = 0 := by rw [J_z0 (by omega)]; exact x0
    have g := g121 (x := f) (by omega)
    have nxR : ∀ {τ : MS} {Δ : HS}, PLT nO room nV nC τ Δ pa fi nx ch tr → τ.2 89 f = J (nx f : Nat) ∧ (Δ 9).2.1 2 f = J (nx f : Nat) := fun h => ⟨(h.2.1 f (by omega)).2.2, (h.2.2.1 f (by omega)).2.2⟩
    have sB := fun K : Int32 → MS → MR => by
      have := GaB_s (J (a : Nat)) K n (J (L.length : Nat)) (J (f : Nat)) σ
      rw [if_neg hx0, show (2 : Int32) = J ((2 : Nat) : Int) from rfl, r_has hP (by omega) (by omega), Option.bind_some, bndE] at this
      dsimp only at this
      exact this
    have sC := fun K : HS → HR => by
      have := GaC_s K n (J (f : Nat)) (J (c : Nat)) Γ
      rw [if_neg (by rw [show (120 : Int32) = J 120 from rfl, J_le (by omega) (by omega) (by omega) (by omega)]; omega), if_neg hx0, bndE, bndE, h8] at this
      exact this
    -- what the class does when the thing is fixed (1) or not (0)
    have cB : ∀ (K : HS → HR) (t : Int32), (bnd (fun σ_46 => bnd (g_at 121 ((σ_46 9).2.1 2) (J (f : Nat))) fun (x_50 : Int32) => bnd (J (c : Nat) + 1) fun (x_52 : Int32) => loopF (GaC K) n (x_50, x_52, σ_46)) fun (j_47 : HS → HR) => if J (f : Nat) = 1 then j_47 Γ else (F_X6_bears (J (f : Nat)) 2 Γ).bind fun u_57 => bnd (mrg (fun j => j == 9) Γ u_57.2) fun σ_59 => if u_57.1 = 0 then (if t = 0 then (bnd (cA' σ_59 11 14 (g_put 120 ((σ_59 11).2.1 14) ((σ_59 11).1 15) (J (f : Nat)))) fun σ_65 => bnd (cI' σ_65 11 15 (((σ_65 11).1 15) + 1)) fun σ_67 => j_47 σ_67) else j_47 σ_59) else j_47 σ_59) = if (f = 1 ∨ trB tr 2 f = true ∨ t ≠ 0) then loopF (GaC K) n (J (nx f : Nat), J (c + 1 : Nat), Γ) else loopF (GaC K) n (J (nx f : Nat), J (c + 1 : Nat), cI' (cA' Γ 11 14 (upd ((Γ 11).2.1 14) L.length (J (f : Nat)))) 11 15 (J (L.length + 1 : Nat))) := fun K t => by
      rw [bndE]
      dsimp only
      have e2 : F_X6_bears (J (f : Nat)) 2 Γ = _ := c_bears (a := 2) hP (x := f) (by omega) (by omega)
      rw [e2, Option.bind_some]
      dsimp only
      rw [mrgS]
      have eN : ∀ Θ : HS, (Θ 9).2.1 2 f = J (nx f : Nat) → (bnd (g_at 121 ((Θ 9).2.1 2) (J (f : Nat))) fun (x_50 : Int32) => bnd (J (c : Nat) + 1) fun (x_52 : Int32) => loopF (GaC K) n (x_50, x_52, Θ)) = loopF (GaC K) n (J (nx f : Nat), J (c + 1 : Nat), Θ) := fun Θ h => by
        rw [q_g_at_in (by omega) (by omega) (by omega), Int.toNat_natCast, h, bndE, J_suc, bndE]
      by_cases q1 : f = 1
      · rw [if_pos (show J (f : Nat) = 1 by rw [q1]; rfl), if_pos (Or.inl q1)]
        exact eN Γ (nxR hP).2
      rw [if_neg (show ¬ J (f : Nat) = 1 by rw [show (1 : Int32) = J ((1 : Nat) : Int) from rfl, J_eqN (by omega) (by omega)]; exact q1), bndE]
      by_cases q2 : trB tr 2 f = true
      · rw [if_pos q2, if_neg (show ¬ (1 : Int32) = 0 by decide), if_pos (Or.inr (Or.inl q2))]
        exact eN Γ (nxR hP).2
      rw [if_neg q2, if_pos rfl]
      by_cases q3 : t = 0
      · rw [if_pos q3, if_neg (by rintro (h | h | h); exact q1 h; exact q2 h; exact h q3), hG.1, q_g_put_in (by omega) (by omega) (by omega), Int.toNat_natCast, bndE, show ((cA' Γ 11 14 (upd ((Γ 11).2.1 14) L.length (J (f : Nat)))) 11).1 15 = J (L.length : Nat) from hG.1, J_suc, bndE]
        exact eN _ (nxR hP).2
      · rw [if_neg q3, if_pos (Or.inr (Or.inr q3))]
        exact eN Γ (nxR hP).2
    -- the class's step, whole
    have cS : ∀ K : HS → HR, loopF (GaC K) (n + 1) (J (f : Nat), J (c : Nat), Γ) = if okA a tr f = true then loopF (GaC K) n (J (nx f : Nat), J (c + 1 : Nat), cI' (cA' Γ 11 14 (upd ((Γ 11).2.1 14) L.length (J (f : Nat)))) 11 15 (J (L.length + 1 : Nat))) else loopF (GaC K) n (J (nx f : Nat), J (c + 1 : Nat), Γ) := fun K => by
      rw [sC K]
      have e1 : F_X6_bears (J (f : Nat)) 1 Γ = _ := c_bears (a := 1) hP (x := f) (by omega) (by omega)
      have c0 := cB K 0
      have c1 := cB K 1
      by_cases q4 : a = 4
      · rw [if_pos (show J (a : Nat) = 4 by rw [q4]; rfl), e1, Option.bind_some]
        dsimp only
        rw [mrgS, bndE]
        by_cases q5 : trB tr 1 f = true
        · rw [if_pos q5, if_neg (by decide)]
          refine Eq.trans c1 ?_
          rw [if_pos (Or.inr (Or.inr (by decide))), if_neg]
          unfold okA
          rw [q4, q5]; simp
        · rw [if_neg q5, if_pos rfl]
          refine Eq.trans c0 ?_
          have q5' : trB tr 1 f = false := by simpa using q5
          by_cases q6 : f = 1 ∨ trB tr 2 f = true ∨ (0 : Int32) ≠ 0
          · rw [if_pos q6, if_neg]
            unfold okA
            rcases q6 with h | h | h
            · rw [h]; simp
            · rw [h]; simp
            · exact absurd rfl h
          · rw [if_neg q6, if_pos]
            unfold okA
            have h1 : f ≠ 1 := fun h => q6 (Or.inl h)
            have h2 : trB tr 2 f = false := by
              cases hh : trB tr 2 f
              · rfl
              · exact absurd (Or.inr (Or.inl hh)) q6
            rw [h2, q5']; simp [h1]
      · rw [if_neg (show ¬ J (a : Nat) = 4 by rw [show (4 : Int32) = J ((4 : Nat) : Int) from rfl, J_eqN (by omega) (by omega)]; exact q4)]
        refine Eq.trans c0 ?_
        have q4' : (a == 4) = false := by simpa using q4
        by_cases q6 : f = 1 ∨ trB tr 2 f = true ∨ (0 : Int32) ≠ 0
        · rw [if_pos q6, if_neg]
          unfold okA
          rcases q6 with h | h | h
          · rw [h]; simp
          · rw [h]; simp
          · exact absurd rfl h
        · rw [if_neg q6, if_pos]
          unfold okA
          have h1 : f ≠ 1 := fun h => q6 (Or.inl h)
          have h2 : trB tr 2 f = false := by
            cases hh : trB tr 2 f
            · rfl
            · exact absurd (Or.inr (Or.inl hh)) q6
          rw [h2, q4']; simp [h1]
    -- the reference's step, whole
    have bS : ∀ K : Int32 → MS → MR, loopF (GaB (J (a : Nat)) K) (n + 1) (J (L.length : Nat), J (f : Nat), σ) = if okA a tr f = true then loopF (GaB (J (a : Nat)) K) n (J (L.length + 1 : Nat), J (nx f : Nat), mA σ 121 (upd (σ.2 121) L.length (J (f : Nat)))) else loopF (GaB (J (a : Nat)) K) n (J (L.length : Nat), J (nx f : Nat), σ) := fun K => by
      rw [sB K]
      have g' := g
      rw [J_natN (by omega)] at g'
      have jN : ∀ v : Int32, (if J (f : Nat) < 0 ∨ 121 ≤ (J (f : Nat)).toNatClampNeg then none else bnd (σ.2 89 (J (f : Nat)).toNatClampNeg) fun (x_75 : Int32) => loopF (GaB (J (a : Nat)) K) n (v, x_75, σ)) = loopF (GaB (J (a : Nat)) K) n (v, J (nx f : Nat), σ) := fun v => by
        rw [if_neg g, J_natN (by omega), (nxR hP).1, bndE]
      have jA : (bnd (J (L.length : Nat) + 1) fun (x_86 : Int32) => if J (L.length : Nat) < 0 ∨ 121 ≤ (J (L.length : Nat)).toNatClampNeg then none else bnd (mA σ 121 (upd (σ.2 121) (J (L.length : Nat)).toNatClampNeg (J (f : Nat)))) fun σ_90 => if J (f : Nat) < 0 ∨ 121 ≤ (J (f : Nat)).toNatClampNeg then none else bnd (σ_90.2 89 (J (f : Nat)).toNatClampNeg) fun (x_75 : Int32) => loopF (GaB (J (a : Nat)) K) n (x_86, x_75, σ_90)) = loopF (GaB (J (a : Nat)) K) n (J (L.length + 1 : Nat), J (nx f : Nat), mA σ 121 (upd (σ.2 121) L.length (J (f : Nat)))) := by
        rw [J_suc, bndE, if_neg (g121 (by omega)), J_natN (by omega), bndE, if_neg g, J_natN (by omega), show (mA σ 121 (upd (σ.2 121) L.length (J (f : Nat)))).2 89 = σ.2 89 by rw [mA_2, if_neg (by omega)], (nxR hP).1, bndE]
      by_cases q2 : trB tr 2 f = true
      · rw [if_pos q2, if_neg (by decide), jN, if_neg]
        unfold okA
        rw [q2]; simp
      have h2 : trB tr 2 f = false := by simpa using q2
      rw [if_neg q2, if_pos rfl]
      by_cases q1 : f = 1
      · rw [if_pos (show J (f : Nat) = 1 by rw [q1]; rfl), jN, if_neg]
        unfold okA
        rw [q1]; simp
      rw [if_neg (show ¬ J (f : Nat) = 1 by rw [show (1 : Int32) = J ((1 : Nat) : Int) from rfl, J_eqN (by omega) (by omega)]; exact q1), bndE]
      by_cases q4 : a = 4
      · have e1 : F_X12_has (J (f : Nat)) 1 1 σ = _ := r_has (a := 1) hP (x := f) (by omega) (by omega) 1
        rw [if_pos (show J (a : Nat) = 4 by rw [q4]; rfl), e1, Option.bind_some]
        dsimp only
        by_cases q5 : trB tr 1 f = true
        · rw [if_pos q5, if_neg (by decide), jN, if_neg]
          unfold okA
          rw [q4, q5]; simp
        · have q5' : trB tr 1 f = false := by simpa using q5
          rw [if_neg q5, if_pos rfl, jA, if_pos]
          unfold okA
          rw [h2, q5']; simp [q1]
      · have q4' : (a == 4) = false := by simpa using q4
        rw [if_neg (show ¬ J (a : Nat) = 4 by rw [show (4 : Int32) = J ((4 : Nat) : Int) from rfl, J_eqN (by omega) (by omega)]; exact q4)]
        dsimp only
        rw [jA, if_pos]
        unfold okA
        rw [h2, q4']; simp [q1]
    by_cases ok : okA a tr f = true
    · have r1 : rGa σ (mA σ 121 (upd (σ.2 121) L.length (J (f : Nat)))) := ⟨rfl, fun k hk => by rw [mA_2, if_neg hk]⟩
      have c1 : cGa Γ (cI' (cA' Γ 11 14 (upd ((Γ 11).2.1 14) L.length (J (f : Nat)))) 11 15 (J (L.length + 1 : Nat))) := by
        refine ⟨fun r hr => by rw [cI_r, if_neg hr, cA_r, if_neg hr], fun k hk => ?_, fun k hk => ?_⟩
        · show upd _ _ _ _ = _
          rw [upd_s, if_neg hk]; rfl
        · show updA _ _ _ _ = _
          rw [updA_s, if_neg hk]
      obtain ⟨τ, Δ, e1, e2, e3, e4, e5⟩ := ih (nx f) (c + 1) (L ++ [f]) _ _ (PLT_G hP r1 c1) (GAL_add hG) (by rw [c1.2.1 8 (by omega)]; exact h8) hl (fun y hy => hm y (List.mem_cons_of_mem _ hy)) (by omega) (by rw [List.length_append]; show L.length + 1 + l.length ≤ 120; omega) n (by omega)
      have eL : L ++ (f :: l).filter (okA a tr) = (L ++ [f]) ++ l.filter (okA a tr) := by
        rw [List.filter_cons_of_pos ok, List.append_assoc]; rfl
      have eN : (L ++ [f]).length = L.length + 1 := by rw [List.length_append]; rfl
      rw [eN] at e1
      refine ⟨τ, Δ, fun K => by rw [bS K, if_pos ok, e1 K, eL], fun K => by rw [cS K, if_pos ok, e2 K], by rw [eL]; exact e3, ⟨e4.1.trans r1.1, fun k hk => by rw [e4.2 k hk, r1.2 k hk]⟩, ⟨fun r hr => by rw [e5.1 r hr, c1.1 r hr], fun k hk => by rw [e5.2.1 k hk, c1.2.1 k hk], fun k hk => by rw [e5.2.2 k hk, c1.2.2 k hk]⟩⟩
    · obtain ⟨τ, Δ, e1, e2, e3, e4, e5⟩ := ih (nx f) (c + 1) L σ Γ hP hG h8 hl (fun y hy => hm y (List.mem_cons_of_mem _ hy)) (by omega) (by omega) n (by omega)
      have eL : L ++ (f :: l).filter (okA a tr) = L ++ l.filter (okA a tr) := by
        rw [List.filter_cons_of_neg ok]
      exact ⟨τ, Δ, fun K => by rw [bS K, if_neg ok, e1 K, eL], fun K => by rw [cS K, if_neg ok, e2 K], by rw [eL]; exact e3, e4, e5⟩
