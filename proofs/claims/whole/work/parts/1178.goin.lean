/-! a call goes in -/
variable {R : Nat → Nat → Int32} {nO nV nC nA ln : Nat} {room : Nat → Bool} {en : Nat → Nat} {TX : Nat → Int → Int → Prop} {DN : Nat → Nat → Nat → Prop}
def GiK (σ_41 : MS) : MR := bnd (mI σ_41 107 ((σ_41.1 107) - 1)) fun σ_45 => if (σ_45.1 104) = 4 then ( bnd (mI σ_45 104 0) fun σ_49 => some ((σ_49.1 110), σ_49) ) else ( some (0, σ_45) )
def GiE (rec : GF) (p0 p2 : Int32) (σ : MS) : MR := bnd (mI σ 107 ((σ.1 107) + 1)) fun σ_21 => bnd (mI σ_21 110 0) fun σ_23 => if p0 < 0 ∨ 40000 ≤ p0.toNatClampNeg then none else bnd ((σ_23.2 68 p0.toNatClampNeg)) fun (x_27 : Int32) => if x_27 < 0 ∨ 40000 ≤ x_27.toNatClampNeg then none else bnd ((σ_23.2 66 x_27.toNatClampNeg)) fun (x_31 : Int32) => if x_31 < 0 ∨ 40000 ≤ x_31.toNatClampNeg then none else bnd ((σ_23.2 66 x_31.toNatClampNeg)) fun (x_35 : Int32) => loopF (LsB rec 3 (p2 + 14) GiK) FU (x_35, σ_23)
def GiB (rec : GF) (p0 p2 : Int32) : ((Int32 × Int32 × MS) → MR) → Int32 × Int32 × MS → MR := fun again_16 s_15 => if s_15.2.1 < 0 then GiE rec p0 p2 s_15.2.2 else ( if s_15.2.1 < 0 ∨ 40000 ≤ s_15.2.1.toNatClampNeg then none else bnd (((p2 + 14) + (s_15.2.2.2 68 s_15.2.1.toNatClampNeg))) fun (x_67 : Int32) => bnd (s_15.1 + 1) fun (x_69 : Int32) => if s_15.1 < 0 ∨ 9000 ≤ s_15.1.toNatClampNeg then none else bnd ((s_15.2.2.2 114 s_15.1.toNatClampNeg)) fun (x_73 : Int32) => if x_67 < 0 ∨ 700 ≤ x_67.toNatClampNeg then none else bnd (mA s_15.2.2 111 (upd (s_15.2.2.2 111) x_67.toNatClampNeg x_73)) fun σ_77 => if s_15.2.1 < 0 ∨ 40000 ≤ s_15.2.1.toNatClampNeg then none else bnd ((σ_77.2 69 s_15.2.1.toNatClampNeg)) fun (x_81 : Int32) => again_16 (x_69, x_81, σ_77) )
theorem goIn_eq (rec : GF) (p0 p1 p2 : Int32) (σ : MS) : F_X12_goIn rec p0 p1 p2 σ = (F_X12_passes σ).bind fun u_1 => if u_1.1 = 0 then ( some (0, u_1.2) ) else ( if (u_1.2.1 107) = 30 then ( (F_X12_breaks 5 u_1.2).bind fun u_8 => some (u_8.1, u_8.2) ) else ( if p0 < 0 ∨ 40000 ≤ p0.toNatClampNeg then none else bnd ((u_1.2.2 67 p0.toNatClampNeg)) fun (x_13 : Int32) => loopF (GiB rec p0 p2) FU (p1, x_13, u_1.2) ) ) := rfl
theorem GiB_s (rec : GF) (p0 p2 : Int32) (n : Nat) (a b : Int32) (X : MS) : loopF (GiB rec p0 p2) (n + 1) (a, b, X) = if b < 0 then GiE rec p0 p2 X else ( if b < 0 ∨ 40000 ≤ b.toNatClampNeg then none else bnd (((p2 + 14) + (X.2 68 b.toNatClampNeg))) fun (x_67 : Int32) => bnd (a + 1) fun (x_69 : Int32) => if a < 0 ∨ 9000 ≤ a.toNatClampNeg then none else bnd ((X.2 114 a.toNatClampNeg)) fun (x_73 : Int32) => if x_67 < 0 ∨ 700 ≤ x_67.toNatClampNeg then none else bnd (mA X 111 (upd (X.2 111) x_67.toNatClampNeg x_73)) fun σ_77 => if b < 0 ∨ 40000 ≤ b.toNatClampNeg then none else bnd ((σ_77.2 69 b.toNatClampNeg)) fun (x_81 : Int32) => loopF (GiB rec p0 p2) n (x_69, x_81, σ_77) ) := rfl
/-- what is known of a routine that is called -/
def DNF (R : Nat → Nat → Int32) (nV nA ln : Nat) (TX : Nat → Int → Int → Prop) (DN : Nat → Nat → Nat → Prop) (Γ0 : HS) : Prop := ∀ k z c, DN k z c → c ≤ 6 ∧ k < 100 ∧ z < 39990 ∧ (∃ ps : Nat → Nat, R 20 z = J (if 0 < c then (ps 0 : Int) else -1) ∧ ∀ i, i < c → ps i < 39990 ∧ R 21 (ps i) = J (i : Nat) ∧ R 22 (ps i) = J (if i + 1 < c then (ps (i + 1) : Int) else -1)) ∧ ∃ (p q lo hi : Nat) (D : Nat → Nat → Prop) (Dq : Prop), (Γ0 5).2.1 4 k = J (c : Nat) ∧ (Γ0 5).2.1 2 k = J (p : Nat) ∧ hi ≤ 39990 ∧ q ≤ ln ∧ (∀ u, D p u → u < c) ∧ Dq ∧ RTQ (I1 Γ0 D) (I3 Γ0 D nV nA) R DN TX Dq z lo hi p q
/-- the arguments go to their places -/
def gpS (σ : MS) (b w : Nat) : Nat → MS
  | 0 => σ
  | i + 1 => mA (gpS σ b w i) 111 (upd ((gpS σ b w i).2 111) (b + i) (σ.2 114 (w + i)))
theorem gpS_o {σ : MS} {b w : Nat} : ∀ i, (gpS σ b w i).1 = σ.1 ∧ (∀ k, k ≠ 111 → (gpS σ b w i).2 k = σ.2 k) ∧ (∀ j, j < b → (gpS σ b w i).2 111 j = σ.2 111 j) ∧ ∀ u, u < i → (gpS σ b w i).2 111 (b + u) = σ.2 114 (w + u) := by
  intro i
  induction i with
  | zero => exact ⟨rfl, fun _ _ => rfl, fun _ _ => rfl, fun u hu => by omega⟩
  | succ i ih =>
    obtain ⟨a1, a2, a3, a4⟩ := ih
    refine ⟨a1, fun k hk => by unfold gpS; rw [mA_2, if_neg hk]; exact a2 k hk, fun j hj => ?_, fun u hu => ?_⟩
    · show upd _ _ _ _ = _
      rw [upd_s, if_neg (by omega)]; exact a3 j hj
    · show upd _ _ _ _ = _
      rw [upd_s]
      by_cases e : u = i
      · rw [e, if_pos rfl]
      · rw [if_neg (by omega)]; exact a4 u (by omega)
theorem GiB_go {rec : GF} {z dep w c : Nat} {ps : Nat → Nat} {σ : MS} (hd : dep ≤ 29) (hc : c ≤ 6) (hw : w + c ≤ 8990) (hp : ∀ i, i < c → ps i < 39990 ∧ σ.2 68 (ps i) = J (i : Nat) ∧ σ.2 69 (ps i) = J (if i + 1 < c then (ps (i + 1) : Int) else -1)) : ∀ dd i, i + dd = c → ∀ n, dd < n → loopF (GiB rec (J (z : Nat)) (J (14 * dep : Nat))) n (J (w + i : Nat), J (if i < c then (ps i : Int) else -1), gpS σ (14 * dep + 14) w i) = GiE rec (J (z : Nat)) (J (14 * dep : Nat)) (gpS σ (14 * dep + 14) w c) := by
  intro dd
  induction dd with
  | zero =>
    intro i hi n hn
    obtain ⟨n, rfl⟩ : ∃ m, n = m + 1 := ⟨n - 1, by omega⟩
    rw [GiB_s, if_neg (show ¬ i < c by omega), if_pos (by decide), show i = c by omega]
  | succ dd ih =>
    intro i hi n hn
    obtain ⟨n, rfl⟩ : ∃ m, n = m + 1 := ⟨n - 1, by omega⟩
    obtain ⟨h1, h2, h3⟩ := hp i (by omega)
    obtain ⟨o1, o2, o3, o4⟩ := gpS_o (σ := σ) (b := 14 * dep + 14) (w := w) i
    have en' := g_en (n := ps i) (by omega)
    have e14 : J (14 * dep : Nat) + 14 = J (14 * dep + 14 : Nat) := by rw [show (14 : Int32) = J 14 from rfl, J_add]; rfl
    rw [GiB_s, if_pos (show i < c by omega), if_neg (J_nlt0 (by omega) (by omega)), if_neg en', J_natN (by omega), o2 68 (by omega), h2, e14, J_add, show ((14 * dep + 14 : Nat) : Int) + (i : Nat) = ((14 * dep + 14 + i : Nat) : Int) by omega, bndE, J_suc, bndE, if_neg (g9k (by omega)), J_natN (by omega), o2 114 (by omega), bndE, if_neg (by rw [J_natN (by omega)]; rintro (h | h); exact J_nlt0 (by omega) (by omega) h; omega), J_natN (by omega), bndE]
    rw [J_natN (by omega)] at en'
    rw [if_neg en', show (mA (gpS σ (14 * dep + 14) w i) 111 (upd ((gpS σ (14 * dep + 14) w i).2 111) (14 * dep + 14 + i) (σ.2 114 (w + i)))).2 69 (ps i) = σ.2 69 (ps i) by rw [mA_2, if_neg (by omega), o2 69 (by omega)], h3, bndE]
    exact ih (i + 1) (by omega) n (by omega)
theorem CLH_ok {Γ0 : HS} (hDN : DNF R nV nA ln TX DN Γ0) : ∀ m dep, dep + m = 30 → ∀ d, 40 * (31 - dep) ≤ d → CLH R nO nV nC nA room en ln TX DN Γ0 dep d := by
  intro m
  induction m with
  | zero =>
    intro dep hdep d hd k z c q' bC w wk tp pw σ Γ hD ho hql h5 hS hR hσ hΓ hpw hargs htp hw hwk hbc
    obtain ⟨d, rfl⟩ : ∃ m, d = m + 1 := ⟨d - 1, by omega⟩
    obtain ⟨c6, k100, z1, -, p, q, lo, hi, D, Dq, t1, t2, -⟩ := hDN k z c hD
    obtain ⟨Δ, m1, m2⟩ := m_call (k := k) (c := c) (p0 := p) (STA_MC hS hΓ) (by omega) (op3_5 h5 ho) k100 hΓ.2.2.1 hpw hΓ.2.1 (by omega) hΓ.2.2.2.2.1 (by rw [h5]; exact t1) (by omega) (by omega) (by rw [h5]; exact t2)
    rw [q_gR_2, goIn_eq, r_passes hσ.1 hσ.2.2.1 hpw]
    rcases m2 with ⟨-, q2, -⟩ | ⟨q1, -, b⟩ | ⟨q1, b⟩
    · omega
    · rw [if_pos q1, Option.bind_some]
      dsimp only
      rw [if_neg (by decide), if_pos (show (mI σ 106 (J (pw + 1 : Nat))).1 107 = 30 by show σ.1 107 = 30; rw [hσ.2.1, show dep = 30 by omega]; rfl), show (5 : Int32) = J 5 from rfl, r_breaks (σ := mI σ 106 (J (pw + 1 : Nat))) hσ.1]
      have fr : rMk σ (bkS (mI σ 106 (J (pw + 1 : Nat))) 5) := rMk_trans (rMk_mI rMk_rfl (by omega)) bkS_fr
      exact ⟨0, _, rfl, hσ.2.2.2.1, hσ.2.2.2.2, Or.inr ⟨Δ, 1, FIN_brk hR fr b (by omega) rfl rfl, m1, by omega⟩⟩
    · rw [if_neg q1, Option.bind_some]
      dsimp only
      rw [if_pos rfl]
      have fr : rMk σ (bkS (mI σ 106 (J (pw + 1 : Nat))) 6) := rMk_trans (rMk_mI rMk_rfl (by omega)) bkS_fr
      exact ⟨0, _, rfl, hσ.2.2.2.1, hσ.2.2.2.2, Or.inr ⟨Δ, 1, FIN_brk hR fr b (by omega) rfl rfl, m1, by omega⟩⟩
  | succ m ih =>
    intro dep hdep d hd k z c q' bC w wk tp pw σ Γ hD ho hql h5 hS hR hσ hΓ hpw hargs htp hw hwk hbc
    obtain ⟨d, rfl⟩ : ∃ m, d = m + 1 := ⟨d - 1, by omega⟩
    obtain ⟨c6, k100, z1, ⟨ps, p20, ps1⟩, p, q, lo, hi, D, Dq, t1, t2, hhi, hq, hDp, hDq, hT⟩ := hDN k z c hD
    obtain ⟨h, y, mm, r, lo', r1, r2, r3, r4, r5, r6, r7, r8, r9, -⟩ := hT
    obtain ⟨Δ, m1, m2⟩ := m_call (k := k) (c := c) (p0 := p) (STA_MC hS hΓ) (by omega) (op3_5 h5 ho) k100 hΓ.2.2.1 hpw hΓ.2.1 (by omega) hΓ.2.2.2.2.1 (by rw [h5]; exact t1) (by omega) (by omega) (by rw [h5]; exact t2)
    rw [q_gR_2, goIn_eq, r_passes hσ.1 hσ.2.2.1 hpw]
    rcases m2 with ⟨q1, q2, b⟩ | ⟨q1, q2, -⟩ | ⟨q1, b⟩
    · rw [if_pos q1, Option.bind_some]
      dsimp only
      have hy : y < mm := by
        cases h with
        | zero => unfold STQ at r5; exact r5.elim
        | succ h => exact r5.2.1
      have hpr : p ≤ r := by
        cases h with
        | zero => unfold STQ at r5; exact r5.elim
        | succ h => exact r5.2.2.1
      have en' := g_en (n := z) (by omega)
      have en2 := en'
      rw [J_natN (by omega)] at en2
      have S1 : STA R nO nV nC nA room en ln TX (mI σ 106 (J (pw + 1 : Nat))) Γ := STA_keep hS (rWk_M (rMk_mI rMk_rfl (by omega))) cWk_rfl
      have G := GiB_go (rec := gR d) (z := z) (dep := dep) (w := w) (c := c) (ps := ps) (σ := mI σ 106 (J (pw + 1 : Nat))) (by omega) c6 (by omega) (fun i hi' => ⟨(ps1 i hi').1, (STA_R (x := ps i) S1 (k := 21) (by omega) (by omega)).trans (ps1 i hi').2.1, (STA_R (x := ps i) S1 (k := 22) (by omega) (by omega)).trans (ps1 i hi').2.2⟩) c 0 (by omega) FU (FU_gt (by omega))
      rw [if_neg (by decide), if_neg (show ¬ (mI σ 106 (J (pw + 1 : Nat))).1 107 = 30 by show ¬ σ.1 107 = 30; rw [hσ.2.1, show (30 : Int32) = J 30 from rfl, J_eq (by omega) (by omega) (by omega) (by omega)]; omega), if_neg en', J_natN (by omega), show (mI σ 106 (J (pw + 1 : Nat))).2 67 z = _ from (STA_R (x := z) S1 (k := 20) (by omega) (by omega)).trans p20, bndE, show (mI σ 106 (J (pw + 1 : Nat))) = gpS (mI σ 106 (J (pw + 1 : Nat))) (14 * dep + 14) w 0 from rfl]
      rw [show J (w : Nat) = J (w + 0 : Nat) from rfl, G]
      -- the frame
      obtain ⟨o1, o2, o3, o4⟩ := gpS_o (σ := mI σ 106 (J (pw + 1 : Nat))) (b := 14 * dep + 14) (w := w) c
      generalize hX : gpS (mI σ 106 (J (pw + 1 : Nat))) (14 * dep + 14) w c = X at o1 o2 o3 o4 ⊢
      have hX107 : X.1 107 = J (dep : Nat) := by rw [o1]; exact hσ.2.1
      have frX : rMk σ X := ⟨fun k a b c d => by rw [o1, mI_1, if_neg (by omega)], fun k a _ _ => by rw [o2 k a]; rfl⟩
      have frY : rMk σ (mI (mI X 107 (J (dep + 1 : Nat))) 110 0) := rMk_trans frX (rMk_mI (rMk_mI rMk_rfl (by omega)) (by omega))
      have SX : STA R nO nV nC nA room en ln TX (mI (mI X 107 (J (dep + 1 : Nat))) 110 0) Γ := STA_keep hS (rWk_M frY) cWk_rfl
      unfold GiE
      rw [hX107, J_suc, bndE, bndE, if_neg en', J_natN (by omega), show (mI (mI X 107 (J (dep + 1 : Nat))) 110 0).2 68 z = J (mm : Nat) from (STA_R (x := z) SX (k := 21) (by omega) (by omega)).trans r6, bndE, if_neg (g_en (by omega)), J_natN (by omega), show (mI (mI X 107 (J (dep + 1 : Nat))) 110 0).2 66 mm = J (y : Nat) from (STA_R (x := mm) SX (k := 19) (by omega) (by omega)).trans r8, bndE, if_neg (g_en (by omega)), J_natN (by omega), show (mI (mI X 107 (J (dep + 1 : Nat))) 110 0).2 66 y = R 19 y from STA_R (x := y) SX (k := 19) (by omega) (by omega), bndE, show J (14 * dep : Nat) + 14 = J (14 * (dep + 1) : Nat) by rw [show (14 : Int32) = J 14 from rfl, J_add]; congr 1]
      have hC' : SCX R nO nV nC nA room en ln TX DN Γ0 (40 * (31 - (dep + 1))) (dep + 1) tp (w + c) wk := ⟨by omega, htp, fun k z c h => (hDN k z c h).1, fun d hd => ih (dep + 1) (by omega) d hd, hw, hwk⟩
      have hK := (STV (b0 := bC) (q0 := q' + 3) (D := D) (Dq := Dq) (nA := nA) hC' h).2.1 d _ _ _ _ _ r5 (by omega) (by omega) (by omega)
      have cb : CFR Γ Δ tp dep := by
        rw [b]
        refine ⟨fun r r8 r9 r10 => ?_, fun j hj => rfl, fun j hj => ⟨?_, ?_⟩⟩
        · unfold calS wkS pcS
          simp only [cI_r, cA_r, if_neg r10]
        · show upd _ _ _ _ = _
          rw [upd_s, if_neg (by omega)]
        · show upd _ _ _ _ = _
          rw [upd_s, if_neg (by omega)]
      have rrY : RRl nO room nV nC (mI (mI X 107 (J (dep + 1 : Nat))) 110 0) Δ := RR_M hR frY (by rw [b]; rfl) (by rw [b]; rfl) (by rw [b]; rfl) (by rw [b]; rfl) (by rw [b]; exact fun h => h)
      have hSS : SSS R nO nV nC nA room en ln TX Γ0 D Dq (dep + 1) tp bC (q' + 3) p (w + c) wk (pw + 1) (mI (mI X 107 (J (dep + 1 : Nat))) 110 0) Δ := by
        refine ⟨⟨(cb.1 5 (by omega) (by omega) (by omega)).trans h5, STA_keep hS (rWk_M frY) cb.1, rrY, ⟨?_, rfl, ?_, ?_, ?_⟩, ?_, ?_, by omega⟩, fun _ => ⟨by omega, ?_, ?_⟩⟩
        · show X.1 104 = _
          rw [o1]; exact hσ.1
        · show X.1 106 = _
          rw [o1]; rfl
        · show X.1 113 = _
          rw [o1]; exact hσ.2.2.2.1
        · show X.1 115 = _
          rw [o1]; exact hσ.2.2.2.2
        · rw [b]
          refine ⟨hΓ.1, rfl, rfl, ?_, ?_, rfl⟩
          · show J (tp + c - c + 14 : Nat) = _
            rw [Nat.add_sub_cancel]
          · show J (tp + c - c : Nat) = _
            rw [Nat.add_sub_cancel]
        · intro u hu hu2
          have uc := hDp u hu
          have e1 : (mI (mI X 107 (J (dep + 1 : Nat))) 110 0).2 111 (14 * (dep + 1) + u) = σ.2 114 (w + u) := by
            show X.2 111 _ = _
            rw [show 14 * (dep + 1) + u = 14 * dep + 14 + u by omega, o4 u uc]; rfl
          rw [e1, show (Δ 10).2.1 6 (tp + u) = (Γ 10).2.1 6 (tp + u) by rw [b]; rfl]
          exact hargs u uc
        · rw [b, show dep + 1 - 1 = dep by omega]
          show upd _ _ _ _ = _
          rw [upd_s, if_pos rfl]
        · rw [b, show dep + 1 - 1 = dep by omega]
          show upd _ _ _ _ = _
          rw [upd_s, if_pos rfl]
      obtain ⟨τ, k1, Θ, kc, pw', ⟨b1, b2, b3, b4, b5, b6, b7, b8⟩, hO⟩ := hK.2 GiK FU (pw + 1) _ Δ (FU_gt (by omega)) hSS
      rw [k1]
      have hln := hS.2.2.2.2.2.1.2
      have frYR : RFR σ (mI (mI X 107 (J (dep + 1 : Nat))) 110 0) (14 * dep + 14) (w + c) wk := ⟨rWk_M frY, fun j hj => by show X.2 111 j = _; rw [o3 j hj]; rfl, fun j _ => by show X.2 114 j = _; rw [o2 114 (by omega)]; rfl, fun j _ => by show X.2 112 j = _; rw [o2 112 (by omega)]; rfl⟩
      rcases hO with ⟨n1, n2, n3, n4, n5, n6⟩ | ⟨n1, n2⟩ | ⟨n1, n2, n3, n4, n5, n6, n7, n8, n9, n10, n11⟩ | ⟨n1, -⟩
      · -- at its end
        have S3 : STA R nO nV nC nA room en ln TX τ Θ := STA_keep hSS.1.2.1 n5.1 n6.1
        have e5 := (n6.1 5 (by omega) (by omega) (by omega)).trans hSS.1.1
        obtain ⟨rt1, rt2, rt3⟩ := RTF_fr hSS.2 n6 hDq
        have he := q_m_end (d := dep) (STA_MC S3 n2) (by omega) (op1_5 e5 r9.1) n2.2.2.2.2.1 (by omega) n2.2.1 (by omega) rt3 rt2
        have fr4 : rMk τ (mI τ 107 (J (dep : Nat))) := rMk_mI rMk_rfl (by omega)
        refine ⟨0, mI τ 107 (J (dep : Nat)), ?_, b5, b6, Or.inl ⟨lvS (pcS Θ (r + 1)) tp dep bC (q' + 3) 0, 1 + kc + 1, pw', RR_M b2 fr4 rfl rfl rfl rfl (fun h => h), ⟨n1.1, rfl, n1.2.2.1, b5, b6⟩, ⟨n2.1, rfl, n2.2.2.1, rfl, rfl, rfl⟩, n4, VL_J (z := 0) (by omega) (by omega), ?_, by omega, ?_, ?_, CSP_trans (CSP_trans m1 b1) he, by omega⟩⟩
        · unfold GiK
          rw [n1.2.1, show J (dep + 1 : Nat) - 1 = J (dep : Nat) by rw [show (1 : Int32) = J 1 from rfl, J_sub]; congr 1; omega, bndE, if_neg (show ¬ (mI τ 107 (J (dep : Nat))).1 104 = 4 by show ¬ τ.1 104 = 4; rw [n1.1]; decide)]
        · show upd _ _ _ _ = _
          rw [upd_s, if_pos rfl]
        · exact RFR_trans frYR (RFR_trans (RFR_le n5 (by omega) (Nat.le_refl _) (Nat.le_refl _) : RFR _ τ (14 * dep + 14) (w + c) wk) ⟨rWk_M fr4, fun _ _ => rfl, fun _ _ => rfl, fun _ _ => rfl⟩ (Nat.le_refl _) (Nat.le_refl _) (Nat.le_refl _)) (Nat.le_refl _) (Nat.le_refl _) (Nat.le_refl _)
        · refine CFR_trans cb (CFR_trans (CFR_le n6 (Nat.le_refl _) (by omega) : CFR Δ Θ tp dep) (?_ : CFR Θ _ tp dep) (Nat.le_refl _) (Nat.le_refl _)) (Nat.le_refl _) (Nat.le_refl _)
          refine ⟨fun r r8 r9 r10 => ?_, fun j hj => ?_, fun j hj => ⟨rfl, rfl⟩⟩
          · unfold lvS psh pcS
            simp only [cI_r, cA_r, if_neg r10]
          · show upd _ _ _ _ = _
            rw [upd_s, if_neg (by omega)]; rfl
      · -- stopped
        have fr4 : rMk τ (mI τ 107 ((τ.1 107) - 1)) := rMk_mI rMk_rfl (by omega)
        refine ⟨0, mI τ 107 ((τ.1 107) - 1), ?_, b5, b6, Or.inr ⟨Θ, 1 + kc, ⟨RR_M b2 fr4 rfl rfl rfl rfl (fun h => h), rWk_trans (rWk_M frY) (rWk_trans b3 (rWk_M fr4)), cWk_trans cb.1 b4, n2⟩, CSP_trans m1 b1, by omega⟩⟩
        unfold GiK
        rw [bndE, if_neg]
        show ¬ τ.1 104 = 4
        rcases n2 with ⟨h, -⟩ | ⟨h, -⟩ <;> rw [h] <;> decide
      · -- returned
        have fr4 : rMk τ (mI (mI τ 107 (J (dep : Nat))) 104 0) := rMk_mI (rMk_mI rMk_rfl (by omega)) (by omega)
        rw [show dep + 1 - 1 = dep by omega] at n8 n10
        refine ⟨τ.1 110, mI (mI τ 107 (J (dep : Nat))) 104 0, ?_, b5, b6, Or.inl ⟨Θ, 1 + kc, pw', RR_M b2 fr4 rfl rfl rfl rfl (fun h => h), ⟨rfl, rfl, n6, b5, b6⟩, n10, n3, n9, n11, by omega, ?_, ?_, CSP_trans m1 b1, by omega⟩⟩
        · unfold GiK
          rw [n5, show J (dep + 1 : Nat) - 1 = J (dep : Nat) by rw [show (1 : Int32) = J 1 from rfl, J_sub]; congr 1; omega, bndE, if_pos (show (mI τ 107 (J (dep : Nat))).1 104 = 4 from n4)]; rfl
        · exact RFR_trans frYR (RFR_trans (RFR_le n7 (by omega) (Nat.le_refl _) (Nat.le_refl _) : RFR _ τ (14 * dep + 14) (w + c) wk) ⟨rWk_M fr4, fun _ _ => rfl, fun _ _ => rfl, fun _ _ => rfl⟩ (Nat.le_refl _) (Nat.le_refl _) (Nat.le_refl _)) (Nat.le_refl _) (Nat.le_refl _) (Nat.le_refl _)
        · exact CFR_trans cb n8 (Nat.le_refl _) (Nat.le_refl _)
      · exact absurd hDq n1
    · omega
    · rw [if_neg q1, Option.bind_some]
      dsimp only
      rw [if_pos rfl]
      have fr : rMk σ (bkS (mI σ 106 (J (pw + 1 : Nat))) 6) := rMk_trans (rMk_mI rMk_rfl (by omega)) bkS_fr
      exact ⟨0, _, rfl, hσ.2.2.2.1, hσ.2.2.2.2, Or.inr ⟨Δ, 1, FIN_brk hR fr b (by omega) rfl rfl, m1, by omega⟩⟩
