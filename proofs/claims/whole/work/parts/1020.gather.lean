/-! the class gathers what items tell -/
variable {T N : Nat} {kd vl rv : Nat → Int} {pl : Nat → Nat}
def Gb1  : ((Int32 × HS) → HR) → Int32 × HS → HR := (fun (again_14 : (Int32 × HS) → HR) (s_13 : Int32 × HS) => ( if ((s_13.2 1).1 2) ≤ s_13.1 then ( some (0, s_13.2) ) else ( (F_X10_kindOf s_13.1 s_13.2).bind fun u_20 => bnd (mrg (fun j => j == 1) s_13.2 u_20.2) fun σ_22 => (F_X10_worthOf (s_13.1 + 1) σ_22).bind fun u_24 => bnd (mrg (fun j => j == 1) σ_22 u_24.2) fun σ_26 => bnd (fun  (σ_28 : HS) => ( bnd (s_13.1 + 1) fun (x_32 : Int32) => again_14 (x_32, σ_28) ) : HS → HR) fun j_29 => if u_20.1 < 230 then ( j_29  σ_26 ) else ( if 235 < u_20.1 then ( j_29  σ_26 ) else ( bnd ((g_at 4500 ((σ_26 3).2.1 2) u_24.1)) fun (x_40 : Int32) => if x_40 = 16001 then ( bnd ((s_13.1 + 1)) fun (x_44 : Int32) => bnd (cA' σ_26 3 2 (g_put 4500 ((σ_26 3).2.1 2) u_24.1 x_44)) fun σ_46 => j_29  σ_46 ) else ( j_29  σ_26 ) ) ) ) ))
def Ga1  : ((Int32 × Int32 × HS) → HR) → Int32 × Int32 × HS → HR := (fun (again_8 : (Int32 × Int32 × HS) → HR) (s_7 : Int32 × Int32 × HS) => ( if 11 < s_7.2.1 then ( loopF Gb1 FU (0, s_7.2.2) ) else ( (F_X11_wordEnd KS5 s_7.1 s_7.2.2).bind fun u_51 => (F_X11_packed KS5 s_7.1 u_51.1 12 s_7.2.2).bind fun u_54 => (F_X10_numberOf u_54.1 s_7.2.2).bind fun u_56 => bnd (mrg (fun j => j == 1) s_7.2.2 u_56.2) fun σ_58 => bnd (cA' σ_58 3 2 (g_put 4500 ((σ_58 3).2.1 2) u_56.1 0)) fun σ_60 => bnd (cA' σ_60 3 3 (g_put 4500 ((σ_60 3).2.1 3) u_56.1 3)) fun σ_62 => bnd (cA' σ_62 3 4 (g_put 4500 ((σ_62 3).2.1 4) u_56.1 s_7.2.1)) fun σ_64 => bnd ((u_51.1 + 1)) fun (x_66 : Int32) => bnd (s_7.2.1 + 1) fun (x_68 : Int32) => again_8 (x_66, x_68, σ_64) ) ))
theorem gather_eq (Γ : HS) : F_X4_gatherItems Γ = bnd (cA' Γ 3 2 (g_fill 4500 ((Γ 3).2.1 2) 16001)) fun σ_1 => bnd (cA' σ_1 3 3 (g_fill 4500 ((σ_1 3).2.1 3) 0)) fun σ_3 => bnd (cA' σ_3 3 5 (g_fill 4500 ((σ_3 3).2.1 5) 0)) fun σ_5 => loopF Ga1 FU (0, 1, σ_5) := rfl
/-- the four tables of names -/
def gaS (Γ : HS) (t2 t3 t4 t5 : Nat → Int32) : HS := fun j => if j = 3 then ((Γ 3).1, fun k => if k = 2 then t2 else if k = 3 then t3 else if k = 4 then t4 else if k = 5 then t5 else (Γ 3).2.1 k, (Γ 3).2.2) else Γ j
theorem gaS_id (Γ : HS) : gaS Γ ((Γ 3).2.1 2) ((Γ 3).2.1 3) ((Γ 3).2.1 4) ((Γ 3).2.1 5) = Γ := by
  funext j
  unfold gaS
  by_cases h : j = 3
  · subst h
    rw [if_pos rfl]
    refine Prod.ext rfl (Prod.ext (funext fun k => ?_) rfl)
    dsimp only
    by_cases q2 : k = 2
    · rw [if_pos q2, q2]
    · rw [if_neg q2]
      by_cases q3 : k = 3
      · rw [if_pos q3, q3]
      · rw [if_neg q3]
        by_cases q4 : k = 4
        · rw [if_pos q4, q4]
        · rw [if_neg q4]
          by_cases q5 : k = 5
          · rw [if_pos q5, q5]
          · rw [if_neg q5]
  · rw [if_neg h]
theorem gaS_A {Γ : HS} {t2 t3 t4 t5 u2 u3 u4 u5 g : Nat → Int32} {z : Nat} (h : ∀ k, (if k = z then g else if k = 2 then t2 else if k = 3 then t3 else if k = 4 then t4 else if k = 5 then t5 else (Γ 3).2.1 k) = (if k = 2 then u2 else if k = 3 then u3 else if k = 4 then u4 else if k = 5 then u5 else (Γ 3).2.1 k)) : cA' (gaS Γ t2 t3 t4 t5) 3 z g = gaS Γ u2 u3 u4 u5 := by
  funext j
  rw [cA_r]
  unfold gaS
  by_cases q : j = 3
  · rw [if_pos q, if_pos q]
    refine Prod.ext rfl (Prod.ext (funext fun k => ?_) rfl)
    show updA _ z g k = _
    rw [updA_s]
    exact h k
  · rw [if_neg q, if_neg q, if_neg q]
theorem gaS_2 {Γ : HS} {t2 t3 t4 t5 g : Nat → Int32} : cA' (gaS Γ t2 t3 t4 t5) 3 2 g = gaS Γ g t3 t4 t5 := gaS_A (fun k => by
  by_cases q : k = 2
  · rw [if_pos q, if_pos q]
  · rw [if_neg q, if_neg q, if_neg q])
theorem gaS_3 {Γ : HS} {t2 t3 t4 t5 g : Nat → Int32} : cA' (gaS Γ t2 t3 t4 t5) 3 3 g = gaS Γ t2 g t4 t5 := gaS_A (fun k => by
  by_cases q : k = 3
  · subst q; rfl
  · rw [if_neg q, if_neg q, if_neg q])
theorem gaS_4 {Γ : HS} {t2 t3 t4 t5 g : Nat → Int32} : cA' (gaS Γ t2 t3 t4 t5) 3 4 g = gaS Γ t2 t3 g t5 := gaS_A (fun k => by
  by_cases q : k = 4
  · subst q; rfl
  · rw [if_neg q, if_neg q, if_neg q])
theorem gaS_5 {Γ : HS} {t2 t3 t4 t5 g : Nat → Int32} : cA' (gaS Γ t2 t3 t4 t5) 3 5 g = gaS Γ t2 t3 t4 g := gaS_A (fun k => by
  by_cases q : k = 5
  · subst q; rfl
  · rw [if_neg q, if_neg q, if_neg q])
/-- own verbs' names by their numbers -/
def vof (n : Nat) : Nat := if 57 ≤ n ∧ n ≤ 62 then n - 56 else if n = 10 then 7 else if 63 ≤ n ∧ n ≤ 66 then n - 55 else 0
def vnm (v : Nat) : Nat := if v ≤ 6 then 56 + v else if v = 7 then 10 else 55 + v
theorem vof_iff {k n : Nat} (hk : k < 11) : n = vnm (k + 1) ↔ vof n = k + 1 := by
  unfold vof vnm
  constructor
  · intro h
    repeat' split at h
    all_goals repeat' split
    all_goals omega
  · intro h
    repeat' split at h
    all_goals repeat' split
    all_goals omega
theorem vof_rng (n : Nat) : vof n ≤ 11 := by unfold vof; repeat' split
                                             all_goals omega
def V2 (f x : Nat → Int32) (k : Nat) : Nat → Int32 := fun n => if 1 ≤ vof n ∧ vof n ≤ k then x n else f n
theorem V2_s {f x : Nat → Int32} {k : Nat} (hk : k < 11) : upd (V2 f x k) (vnm (k + 1)) (x (vnm (k + 1))) = V2 f x (k + 1) := by
  funext n
  rw [upd_s]
  unfold V2
  by_cases q : n = vnm (k + 1)
  · rw [if_pos q, ← q]
    have := (vof_iff hk).mp q
    rw [if_pos (by omega)]
  · have : vof n ≠ k + 1 := fun e => q ((vof_iff hk).mpr e)
    rw [if_neg q]
    by_cases q2 : 1 ≤ vof n ∧ vof n ≤ k
    · rw [if_pos q2, if_pos (by omega)]
    · rw [if_neg q2, if_neg (by omega)]
theorem KS5_tab : ∀ k, k < 11 → KS5w.getD k [] = KWC.getD (vnm (k + 1)) [] ∧ vnm (k + 1) < 67 ∧ KS5s.getD (k + 1) 0 = KS5s.getD k 0 + (KS5w.getD k []).length + 1 := by decide +kernel
theorem Ga1_s (n : Nat) (x v : Int32) (Δ : HS) : loopF Ga1 (n + 1) (x, v, Δ) = ( if 11 < v then ( loopF Gb1 FU (0, Δ) ) else ( (F_X11_wordEnd KS5 x Δ).bind fun u_51 => (F_X11_packed KS5 x u_51.1 12 Δ).bind fun u_54 => (F_X10_numberOf u_54.1 Δ).bind fun u_56 => bnd (mrg (fun j => j == 1) Δ u_56.2) fun σ_58 => bnd (cA' σ_58 3 2 (g_put 4500 ((σ_58 3).2.1 2) u_56.1 0)) fun σ_60 => bnd (cA' σ_60 3 3 (g_put 4500 ((σ_60 3).2.1 3) u_56.1 3)) fun σ_62 => bnd (cA' σ_62 3 4 (g_put 4500 ((σ_62 3).2.1 4) u_56.1 v)) fun σ_64 => bnd ((u_51.1 + 1)) fun (x_66 : Int32) => bnd (v + 1) fun (x_68 : Int32) => loopF Ga1 n (x_66, x_68, σ_64) ) ) := rfl
theorem ga_loop {cl : List Int} {Γ : HS} (hc : cnam cl Γ) (hl : cl.length < 4500) (h67 : 67 ≤ cl.length) (hK : ∀ c, c < 67 → cl.getD c 0 = pk (KWC.getD c [])) (f2 f3 f4 f5 : Nat → Int32) : ∀ d k n, k + d = 11 → d < n → loopF Ga1 n (J (KS5s.getD k 0 : Nat), J (k + 1 : Nat), gaS Γ (V2 f2 (fun _ => 0) k) (V2 f3 (fun _ => 3) k) (V2 f4 (fun n => J (vof n)) k) f5) = loopF Gb1 FU (0, gaS Γ (V2 f2 (fun _ => 0) 11) (V2 f3 (fun _ => 3) 11) (V2 f4 (fun n => J (vof n)) 11) f5) := by
  intro d
  induction d with
  | zero =>
    intro k n hk hn
    obtain ⟨n, rfl⟩ : ∃ e, n = e + 1 := ⟨n - 1, by omega⟩
    obtain rfl : k = 11 := by omega
    rw [Ga1_s, if_pos (by decide)]
  | succ d ih =>
    intro k n hk hn
    obtain ⟨n, rfl⟩ : ∃ e, n = e + 1 := ⟨n - 1, by omega⟩
    have hk11 : k < 11 := by omega
    obtain ⟨t1, t2, t3⟩ := KS5_tab k hk11
    have h5 : k < KS5w.length := hk11
    generalize hΔ : gaS Γ (V2 f2 (fun _ => 0) k) (V2 f3 (fun _ => 3) k) (V2 f4 (fun n => J (vof n)) k) f5 = Δ
    have hcΔ : cnam cl Δ := by rw [← hΔ]; exact hc
    obtain ⟨_, e1, rfl⟩ := c_wordEnd KS5_ok h5 Δ
    obtain ⟨_, e2, rfl⟩ := c_packed KS5_ok h5 12 (by omega) Δ
    have hz := pk_rng (KWC_nm (vnm (k + 1)) t2)
    rw [← t1] at hz
    obtain ⟨u, e3, c, c1, c2, c3⟩ := c_numberOf (z := pk (KS5w.getD k [])) hcΔ hl hz.1 hz.2
    have c4 : c = vnm (k + 1) ∧ u.2 = Δ := by
      rcases c3 with ⟨z1, z2, z3⟩ | ⟨z1, z2, -⟩
      · exact ⟨hc.2.2.1 c _ z1 (by omega) (by rw [z2, hK _ t2, t1]), z3⟩
      · exact absurd (by rw [hK _ t2, t1]) (z2 (vnm (k + 1)) (by omega))
    rw [Ga1_s, if_neg (by rw [show (11 : Int32) = J 11 from rfl, J_lt (by omega) (by omega) (by omega) (by omega)]; omega), e1, Option.bind_some]
    dsimp only
    rw [show (12 : Int32) = J ((12 : Nat) : Int) from rfl, e2, Option.bind_some]
    dsimp only
    rw [show F_X10_numberOf (L64 (dgF (dgw (KS5w.getD k [])) 12)) Δ = some u from e3, Option.bind_some, c1, c4.1, c4.2, mrg1_id]
    simp only [bndE]
    rw [← hΔ, show ∀ t2 t3 t4 t5, ((gaS Γ t2 t3 t4 t5) 3).2.1 2 = t2 from fun _ _ _ _ => rfl, gaS_2, show ∀ t2 t3 t4 t5, ((gaS Γ t2 t3 t4 t5) 3).2.1 3 = t3 from fun _ _ _ _ => rfl, gaS_3, show ∀ t2 t3 t4 t5, ((gaS Γ t2 t3 t4 t5) 3).2.1 4 = t4 from fun _ _ _ _ => rfl, gaS_4]
    have hv : ((vnm (k + 1) : Nat) : Int) < 4500 := by omega
    rw [q_g_put_in (n := 4500) (i := ((vnm (k + 1) : Nat) : Int)) (by omega) (by omega) (by omega), q_g_put_in (n := 4500) (i := ((vnm (k + 1) : Nat) : Int)) (by omega) (by omega) (by omega), q_g_put_in (n := 4500) (i := ((vnm (k + 1) : Nat) : Int)) (by omega) (by omega) (by omega), Int.toNat_natCast]
    have x2 := V2_s (f := f2) (x := fun _ => 0) hk11
    have x3 := V2_s (f := f3) (x := fun _ => 3) hk11
    have x4 := V2_s (f := f4) (x := fun n => J (vof n)) hk11
    rw [(vof_iff hk11).mp rfl] at x4
    rw [x2, x3, x4, show J (k + 1 : Nat) + 1 = J (k + 1 + 1 : Nat) by rw [J_lit, J_add]; rfl, show J ((KS5s.getD k 0 + (KS5w.getD k []).length : Nat) : Int) + 1 = J (KS5s.getD (k + 1) 0 : Nat) by rw [t3, J_lit, J_add]; rfl]
    exact ih (k + 1) n (by omega) (by omega)
theorem c_worthAny (hT : TKE T N kd vl rv pl) {Γ : HS} (h : TKc N kd vl pl Γ) {i : Nat} (hi : i ≤ 5000) : ∃ v, F_X10_worthOf (J (i : Nat)) Γ = some (v, Γ) := by
  by_cases q : i < N
  · exact ⟨_, c_worthOf hT h q⟩
  · have hN := TKE_N hT
    refine ⟨0, ?_⟩
    unfold F_X10_worthOf
    rw [if_neg (J_nlt0 (by omega) (by omega)), if_pos (by rw [h.1, J_le (by omega) (by omega) (by omega) (by omega)]; omega)]
theorem Gb1_s (n : Nat) (l : Int32) (Γ : HS) : loopF Gb1 (n + 1) (l, Γ) = if ((Γ 1).1 2) ≤ l then some ((0 : Int32), Γ) else (F_X10_kindOf l Γ).bind fun u_20 => bnd (mrg (fun j => j == 1) Γ u_20.2) fun σ_22 => (F_X10_worthOf (l + 1) σ_22).bind fun u_24 => bnd (mrg (fun j => j == 1) σ_22 u_24.2) fun σ_26 => bnd (fun  (σ_28 : HS) => ( bnd (l + 1) fun (x_32 : Int32) => loopF Gb1 n (x_32, σ_28) ) : HS → HR) fun j_29 => if u_20.1 < 230 then ( j_29  σ_26 ) else ( if 235 < u_20.1 then ( j_29  σ_26 ) else ( bnd ((g_at 4500 ((σ_26 3).2.1 2) u_24.1)) fun (x_40 : Int32) => if x_40 = 16001 then ( bnd (l + 1) fun (x_44 : Int32) => bnd (cA' σ_26 3 2 (g_put 4500 ((σ_26 3).2.1 2) u_24.1 x_44)) fun σ_46 => j_29  σ_46 ) else ( j_29  σ_26 ) ) ) := rfl
