/-! every item: routines -/
variable {T N : Nat} {kd vl rv : Nat → Int} {pl : Nat → Nat}
theorem TKE_pl (hT : TKE T N kd vl rv pl) {i : Nat} (hi : i ≤ T + 1) : pl i ≤ 4096 := (hT.2.2.2 i hi).1
theorem aRule (hT : TKE T N kd vl rv pl) (hN : NMI T kd vl rv) (hp : plm T pl) (hpb : ∀ i, i ≤ T + 1 → pl i ≤ 5000) {σs σ : MS} {Γs : HS} {is : Nat → Nat} {n x lo hi b p q lim qq : Nat} {w : Int} (hK : rlK kd (is n) w qq lim) (h17 : σs.2 17 x = J w) (h18 : σs.2 18 x = J (pl (is n))) (hR : RTN kd vl rv pl σs Γs (is n) x lo hi b (is (n + 1)) p q) (hib : is n + 1 ≤ b) (hq : ∀ t, is n + 1 ≤ t → t < b → qp (kd t)) (hx : x < 39990) (hhi : hi ≤ 39000) (hj : is (n + 1) ≤ T) (hA : agA σs σ) (hC : CNn σ n) (hn : n ≤ 4500) : aItm T N kd vl rv pl σs Γs is n x σ := by
  obtain ⟨h, y, m, r, ⟨e1, e2⟩, e3, hS, h21, h17m, h18m, h19, ho, h6⟩ := hR
  have hr := STX_rng hS
  have hqq : qq = 5 ∨ qq = 6 := by unfold rlK at hK; omega
  have hpe := TKE_pl hT (i := is (n + 1) - 1) (by omega)
  obtain ⟨c, c1, c2⟩ := hC qq (by omega)
  obtain ⟨r1, r2⟩ := rRule (e := is (n + 1) - 1) (m := m) (rv := rv) (T := T) hpb hA hK hx (by omega) h17 h18 h21 h18m (by omega) (by omega) (by omega) hC hn c2 (by omega)
  refine ⟨_, r1, r2, fun τ Γ ta ha hD hG hTA hTC hST hΓ => ?_⟩
  obtain rfl := cN_of hD (by omega) c2 (by omega)
  exact fRule hT hN hp hpb hK hS e2 (by omega) hj hib hx (by omega) h17 h21 h19 hq (by rw [hΓ]; exact h6) hD hG ha hST
theorem aDef (hT : TKE T N kd vl rv pl) (hN : NMI T kd vl rv) (hp : plm T pl) (hpb : ∀ i, i ≤ T + 1 → pl i ≤ 5000) {σs σ : MS} {Γs : HS} {is : Nat → Nat} {n x hi p q nd : Nat} (hI : DFD kd vl rv pl σs Γs x hi (is n) (is (n + 1)) p q nd) (hhi : hi ≤ 39000) (hj : is (n + 1) ≤ T) (hA : agA σs σ) (hC : CNn σ n) (hn : n ≤ 4500) : aItm T N kd vl rv pl σs Γs is n x σ := by
  obtain ⟨k0, k1, k2, h17, h18, h19x, hNM, c, b, hb1, hcb, hR, -, -⟩ := hI
  obtain ⟨h, y, m, r, ⟨e1, e2⟩, e3, hS, h21, h17m, h18m, h19, ho, h6⟩ := hR
  have hr := STX_rng hS
  have hpe := TKE_pl hT (i := is (n + 1) - 1) (by omega)
  have hbc : (c = 0 ∧ b = is n + 4) ∨ (1 ≤ c ∧ b = is n + 3 + 2 * c) := by
    rcases hcb with ⟨z1, z2, -⟩ | ⟨z1, z2, -⟩
    · exact Or.inl ⟨z1, z2⟩
    · exact Or.inr ⟨z1, z2⟩
  have h20 : σs.2 20 x = J (if 0 < c then ((x + 2 + 0 : Nat) : Int) else -1) := by
    rcases hcb with ⟨z1, -, z3⟩ | ⟨z1, -, z3, -⟩
    · rw [if_neg (by omega)]; exact z3
    · rw [if_pos (by omega)]; exact z3
  have hNS : NMS kd rv pl σs (x + 2) c (is n + 3) := by
    rcases hcb with ⟨z1, -⟩ | ⟨-, -, -, z4⟩
    · intro k hk; omega
    · exact z4
  obtain ⟨cc, c1, c2⟩ := hC 4 (by omega)
  obtain ⟨r1, r2⟩ := rDef (e := is (n + 1) - 1) (m := m) (x := x) hT hpb hp hA k0 k1 (by omega) (by omega) h17 h18 h19x hNM h21 h18m (by omega) (by omega) hC hn c2 (by omega)
  refine ⟨_, r1, r2, fun τ Γ ta ha hD hG hTA hTC hST hΓ => ?_⟩
  obtain rfl := cN_of hD (by omega) c2 (by omega)
  exact fDef hT hN hp hpb k0 k1 k2 hbc hb1 h20 hNS hS e2 (by omega) hj (by omega) (by omega) h17 h21 h19 (by rw [hΓ]; exact h6) hD hG hTA hTC ha hST
/-- every item -/
theorem allItm (hT : TKE T N kd vl rv pl) (hN : NMI T kd vl rv) (hp : plm T pl) (hpb : ∀ i, i ≤ T + 1 → pl i ≤ 5000) {σs σ : MS} {Γs : HS} {is : Nat → Nat} {n x hi p q nd no ne : Nat} (hI : ITM kd vl rv pl σs Γs x hi (is n) (is (n + 1)) p q nd no ne) (hx : x < hi) (hhi : hi ≤ 39000) (hj : is (n + 1) ≤ T) (hA : agA σs σ) (hC : CNn σ n) (hn : n ≤ 4500) : aItm T N kd vl rv pl σs Γs is n x σ := by
  rcases hI with ⟨k0, -, h⟩ | ⟨k0, -, h⟩ | ⟨-, h⟩ | ⟨-, h⟩ | ⟨-, h⟩ | h | h | h
  · exact aRoom hT hN hp hpb k0 h hhi hj hA hC hn
  · exact aThing hT hN hp hpb k0 h hhi hj hA hC hn
  · exact aVerb hT hN hp hpb h (by omega) hhi hj hA hC hn
  · exact aVar hT hN hp hpb h (by omega) hhi hj hA hC hn
  · exact aArr hT hN hp hpb h (by omega) hhi hj hA hC hn
  · exact aDef hT hN hp hpb h hhi hj hA hC hn
  · obtain ⟨k0, k1, h17, h18, h19, hNM, c, c2, c20, hW, hR, -⟩ := h
    refine aRule hT hN hp hpb (Or.inl ⟨k0, rfl, rfl, rfl⟩) h17 h18 hR (by omega) (fun t t1 t2 => ?_) (by omega) hhi hj hA hC hn
    by_cases e : t = is n + 1
    · rw [e, k1]; exact qp_of (by omega) (by omega) (by omega) (by omega) (by omega)
    · exact WHS_words hW t (by omega) (by omega)
  · obtain ⟨k0, h17, h18, hR, -⟩ := h
    exact aRule hT hN hp hpb (Or.inr ⟨k0, rfl, rfl, rfl⟩) h17 h18 hR (Nat.le_refl _) (fun t t1 t2 => by omega) (by omega) hhi hj hA hC hn
