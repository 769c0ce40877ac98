/-! laying's join: vars and arrays -/
variable {T N : Nat} {kd vl rv : Nat → Int} {pl : Nat → Nat}
theorem g_putN {n k y : Nat} {f : Nat → Int32} {v : Int32} (hk : k < n) (hn : n < 100000) : g_put n f (J (k : Nat)) v y = if y = k then v else f y := by
  unfold g_put
  rw [if_neg (gNn hk hn), J_natN (by omega), upd_s]
/-- a var laid, beside what the class got of it -/
theorem ly_var (hT : TKE T N kd vl rv pl) {G : Nat → HS} {Θ : HS} {cl : List Int} {σs ρ : MS} {is : Nat → Nat} {z x hi n : Nat} {Γ E : HS} (h : CIT T G Θ kd vl cl is z Γ E) (hv : VRD kd vl rv pl σs x hi (is z) (is (z + 1))) (hN : nsF Θ vl (is z + 1) = n) (hn : n < 100) (hx : x < 39990) (hA : AGM σs ρ) (hj : is (z + 1) ≤ T) : ∃ v : Int, LoB (J (x : Nat)) (J (n : Nat)) ρ = some ((0 : Int32), mA ρ 76 (upd (ρ.2 76) n (J v))) ∧ (E 4).2.1 11 n = J v ∧ -32768 ≤ v ∧ v ≤ 32767 := by
  obtain ⟨v1, v2, v3, v4, v5, v6, v7, v8, v9, v10⟩ := id hv
  have hW := it_one (Or.inr (Or.inl hv)) (h.1 (by omega))
  have hm := WEF_var hW v1
  have e17 : ρ.2 17 x = J 4 := by rw [hA.1 17 (by omega)]; exact v6
  have e20 : ρ.2 20 x = σs.2 20 x := hA.2.1 x (by rw [v6]; exact J_ne (by omega) (by omega) (by omega) (by omega) (by omega))
  have e11 : (E 4).2.1 11 n = if kd (is z + 3) = 45 then J (-(vl (is z + 4))) else J (vl (is z + 3)) := by
    rw [hm.1 4 (by omega), hN]
    unfold vrS
    rw [cA4g, if_pos rfl, g_putN hn (by omega), if_pos rfl]
  have l := loB_var hx hn e17
  rw [e20] at l
  rcases v10 with ⟨a, b, c, d⟩ | ⟨a, c, d⟩
  · have bd := (hT.2.2.2 (is z + 4) (by omega)).2.2.1 b
    rw [d] at l
    exact ⟨-(vl (is z + 4)), l, by rw [e11, if_pos a], by omega, by omega⟩
  · have bd := (hT.2.2.2 (is z + 3) (by omega)).2.2.1 a
    rw [d] at l
    exact ⟨vl (is z + 3), l, by rw [e11, if_neg (by omega)], by omega, by omega⟩
/-- an array laid -/
theorem ly_array (hT : TKE T N kd vl rv pl) {σs ρ : MS} {is : Nat → Nat} {z x hi n : Nat} (hv : ARD kd vl rv pl σs x hi (is z) (is (z + 1))) (hn : n < 20) (hx : x < 39990) (hA : AGM σs ρ) (hj : is (z + 1) ≤ T) {a : Nat} (h77 : 0 < n → ρ.2 77 n = J (a : Nat)) (ha : n = 0 → a = 0) : 0 ≤ vl (is z + 3) ∧ LoB (J (x : Nat)) (J (n : Nat)) ρ = some ((0 : Int32), mA ρ 77 (upd (ρ.2 77) (n + 1) (J (a + (vl (is z + 3)).toNat : Nat)))) := by
  obtain ⟨v1, v2, v3, v4, v5, v6, v7, v8, v9, v10, v11, v12, v13, v14⟩ := id hv
  have bd := (hT.2.2.2 (is z + 3) (by omega)).2.2.1 v4
  have e17 : ρ.2 17 x = J 5 := by rw [hA.1 17 (by omega)]; exact v9
  have e20 : ρ.2 20 x = J ((vl (is z + 3)).toNat : Nat) := by
    rw [hA.2.1 x (by rw [v9]; exact J_ne (by omega) (by omega) (by omega) (by omega) (by omega)), v13]; congr 1; omega
  refine ⟨bd.1, ?_⟩
  exact loB_array hx hn e17 h77 ha e20
/-- the head of an item with a name: the name's number -/
theorem lo_head {Θ : HS} {σs ρ : MS} {x u : Nat} (hx : x < 39900) (hT : TKE T N kd vl rv pl) (hu : u ≤ T) (hk : kd u = 2) (h19 : σs.2 19 x = J (x + 1 : Nat)) (hn : NMN rv pl σs (x + 1) u) (hA : AGM σs ρ) (hK : KE T kd vl rv Θ ρ) (hs : ksF Θ vl u ≠ 0) : F_X12_layOne (J (x : Nat)) ρ = LoB (J (x : Nat)) (J (nsF Θ vl u : Nat)) ρ := by
  have bd := (hT.2.2.2 u (by omega)).2.1 hk
  have k2 := (hK u hu hk).2.1 hs
  refine r_layOne (y := x + 1) (r := (rv u).toNat) (by omega) (by omega) (by omega) (by rw [hA.1 19 (by omega)]; exact h19) ?_ k2
  rw [hA.1 19 (by omega), hn.2.2]; congr 1; omega
/-- the head of an each -/
theorem lo_head0 {σs ρ : MS} {x : Nat} (hx : x < 39900) (h19 : σs.2 19 x = J (-1)) (hA : AGM σs ρ) : F_X12_layOne (J (x : Nat)) ρ = LoB (J (x : Nat)) 0 ρ := r_layOne0 (by omega) (by rw [hA.1 19 (by omega)]; exact h19)
/-- an each laid -/
theorem ly_each {σs ρ : MS} {x y e : Nat} (hx : x < 39900) (hy : y < 39990) (he : e < 20) (h17 : σs.2 17 x = J 8) (h21 : σs.2 21 x = J (y : Nat)) (hA : AGM σs ρ) (h84 : ρ.1 84 = J (e : Nat)) : LoB (J (x : Nat)) 0 ρ = some ((0 : Int32), mA (mI ρ 84 (J (e + 1 : Nat))) 75 (upd (ρ.2 75) e (σs.2 19 y))) := by
  refine loB_each (by omega) hy he (by rw [hA.1 17 (by omega)]; exact h17) h84 ?_ (by rw [hA.1 19 (by omega)])
  rw [hA.2.2 x (by rw [h17]; exact J_ne (by omega) (by omega) (by omega) (by omega) (by omega)) (by rw [h17]; exact J_ne (by omega) (by omega) (by omega) (by omega) (by omega)) (by rw [h17]; exact J_ne (by omega) (by omega) (by omega) (by omega) (by omega)) (by rw [h17]; exact J_ne (by omega) (by omega) (by omega) (by omega) (by omega))]; exact h21
