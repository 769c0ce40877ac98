/-! one item, whole: on, each, definitions -/
variable {T N : Nat} {kd vl rv : Nat → Int} {pl : Nat → Nat}
theorem fRule (hT : TKE T N kd vl rv pl) (hN : NMI T kd vl rv) (hp : plm T pl) (hpb : ∀ i, i ≤ T + 1 → pl i ≤ 5000) {σs σ τ : MS} {Γs Γ : HS} {is : Nat → Nat} {n h lo hi x y m b p q lim qq : Nat} {w : Int} (hK : rlK kd (is n) w qq lim) (hS : STX kd vl rv pl σs Γs h 1 lo hi y b (is (n + 1)) p q) (hh : h ≤ 93) (hhi : hi ≤ 39000) (hj : is (n + 1) ≤ T) (hib : is n + 1 ≤ b) (hx : x < 39990) (hm : m < 39990) (h17 : σs.2 17 x = J w) (h21 : σs.2 21 x = J (m : Nat)) (h19 : σs.2 19 m = J (y : Nat)) (hq : ∀ t, is n + 1 ≤ t → t < b → qp (kd t)) (h6 : (Γ 1).2.1 6 (is n) = J (is (n + 1) - 1 : Nat)) (hD : DR T kd vl rv is n σ Γ) (hG : G0 T N kd vl pl Γ) (ha : agA σs τ) (hST : STT T kd vl rv τ Γ) : fStp T N kd vl rv pl is σs n x σ (rlX pl σ (is n) (is (n + 1) - 1) lim qq (cN kd is qq n)) τ Γ := by
  have hNN := TKE_N hT
  have hr := STX_rng hS
  have hw : 7 ≤ w ∧ w ≤ 8 := by unfold rlK at hK; omega
  rcases iRule hT hpb (e := is (n + 1) - 1) hK (by omega) (by omega) (hpb _ (by omega)) h6 hD hG with h1 | ⟨h1, Δ, h2, h3, h4, h5, h7, h8⟩
  · exact Or.inl ⟨_, h1, by omega, fun _ => by omega, fun _ => Nat.le_refl _⟩
  · refine Or.inr ⟨h1, fun hb => ?_⟩
    have e16 : (Δ 3).1 16 = J 0 := by rw [m5_16 h3]; exact hG.2.1
    have c2 := hd_words hT hib (by omega) h4 e16 h5 hq h2
    obtain ⟨τ', g1, g2, g3⟩ := sRule hT hN hp hpb hS hh hhi hj ha hx hm h17 hw h21 h19 ⟨h4, e16, h5⟩ h7 (STT_m5 hST h3) hb
    refine ⟨τ', g1, g2, ?_⟩
    rcases g3 with ⟨y1, Θ, y2, y3, y4⟩ | ⟨f, w', y1, y2, y3, y4, y5⟩
    · exact Or.inl ⟨y1, Θ, CW_trans c2 y2, m5_trans h3 (m5_m3 y3), y4, DR_keep h8 (fun _ _ _ => rfl) rfl rfl (fun k hk => by rw [y3.1 4 (by omega)]) (fun k hk => y3.2.2 k (by omega) (by omega) (by omega))⟩
    · exact Or.inr ⟨f, w', y1, by omega, y3, CW_CF c2 y4 (m5_cfM h3), y5⟩
theorem fDef (hT : TKE T N kd vl rv pl) (hN : NMI T kd vl rv) (hp : plm T pl) (hpb : ∀ i, i ≤ T + 1 → pl i ≤ 5000) {σs σ τ : MS} {Γs Γ : HS} {is ta : Nat → Nat} {n h lo hi x y m b p q c : Nat} (k0 : kd (is n) = 235) (k1 : kd (is n + 1) = 2) (k2 : kd (is n + 2) = 40) (hbc : (c = 0 ∧ b = is n + 4) ∨ (1 ≤ c ∧ b = is n + 3 + 2 * c)) (hb1 : kd (b - 1) = 41) (h20 : σs.2 20 x = J (if 0 < c then ((x + 2 + 0 : Nat) : Int) else -1)) (hNS : NMS kd rv pl σs (x + 2) c (is n + 3)) (hS : STX kd vl rv pl σs Γs h 1 lo hi y b (is (n + 1)) p q) (hh : h ≤ 93) (hhi : hi ≤ 39000) (hj : is (n + 1) ≤ T) (hx : x + 2 + c < 39980) (hm : m < 39990) (h17 : σs.2 17 x = J 6) (h21 : σs.2 21 x = J (m : Nat)) (h19 : σs.2 19 m = J (y : Nat)) (h6 : (Γ 1).2.1 6 (is n) = J (is (n + 1) - 1 : Nat)) (hD : DR T kd vl rv is n σ Γ) (hG : G0 T N kd vl pl Γ) (hTA : TA T kd rv ta (is n) σ) (hTC : TAC T kd vl ta Γ) (ha : agA σs τ) (hST : STT T kd vl rv τ Γ) : fStp T N kd vl rv pl is σs n x σ (dfX pl (nmX rv pl σ (is n) 100 4 (cN kd is 4 n) 6 (cN kd is 4 n) x) (is n) (is (n + 1) - 1)) τ Γ := by
  have hNN := TKE_N hT
  have hr := STX_rng hS
  rcases iDef hT hN hpb hp (x := x) (e := is (n + 1) - 1) k0 k1 (by omega) (by omega) (hpb _ (by omega)) h6 hD hG hTA hTC with h1 | ⟨h1, Γ1, h2, h3, h4, h5⟩
  · refine Or.inl ⟨_, h1, by omega, fun _ => Nat.le_refl _, fun e => ?_⟩
    rw [h17, J_eq (by omega) (by omega) (by omega) (by omega), J_eq (by omega) (by omega) (by omega) (by omega)] at e; omega
  · refine Or.inr ⟨h1, fun hb => ?_⟩
    obtain ⟨τ', g1, g2, g3⟩ := dStp hT hN hp hpb k0 k1 k2 hbc hb1 h20 hNS hS hh hhi hj hx hm h17 h21 h19 hG.1 hG.2.1 h4 h3 h2 ha (STT_m5 hST h3) hb
    refine ⟨τ', g1, g2, ?_⟩
    rcases g3 with ⟨y1, Θ, y2, y3, y4⟩ | g3
    · exact Or.inl ⟨y1, Θ, y2, m5_trans h3 (m5_m3 y3), y4, DR_keep h5 (fun _ _ _ => rfl) rfl rfl (fun k hk => by rw [y3.1 4 (by omega)]) (fun k hk => y3.2.2 k (by omega) (by omega) (by omega))⟩
    · exact Or.inr g3
