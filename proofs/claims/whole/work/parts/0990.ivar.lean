/-! rooms and variables are told and declared alike -/
variable {T N : Nat} {kd vl rv : Nat → Int} {pl : Nat → Nat}
theorem rNam {x y r fc c p lim : Nat} {w num : Int} (hr : r < 8000) (hx : x < 39990) (hy : y < 39990) (hK : namK w fc lim c num) {σ υ : MS} (hc : σ.1 fc = J (c : Nat)) (hc2 : c ≤ 5000) (h17 : σ.2 17 x = J w) (h19 : σ.2 19 x = J (y : Nat)) (h19y : σ.2 19 y = J (r : Nat)) (h18 : σ.2 18 y = J (p : Nat)) (h : D8 (J (x : Nat)) (J w) (namS σ (namF (flt σ) (!decide (σ.2 28 r = 0)) (decide (lim < c + 1)) p) fc c r w num x) = some ((0 : Int32), υ)) : F_X12_declareOne (J (x : Nat)) σ = some ((0 : Int32), υ) := by
  obtain ⟨u, e1, e2⟩ := nam_ok (Q := fun u => u = ((0 : Int32), υ)) hr hx hy hK hc hc2 h17 h19 h19y h18 (by rw [h]; exact Ok_some rfl)
  rw [e1, e2]
theorem DR_keep {is : Nat → Nat} {n : Nat} {σ υ : MS} {Γ Δ : HS} (h : DR T kd vl rv is n σ Γ) (h1 : ∀ k, 35 ≤ k → k ≤ 42 → υ.1 k = σ.1 k) (h28 : υ.2 28 = σ.2 28) (h29 : υ.2 29 = σ.2 29) (h4 : ∀ k, k = 0 ∨ k = 7 ∨ k = 12 → (Δ 4).2.1 k = (Γ 4).2.1 k) (h3 : ∀ k, k = 3 ∨ k = 4 → (Δ 3).2.1 k = (Γ 3).2.1 k) : DR T kd vl rv is n υ Δ := by
  obtain ⟨d1, d2, d3, d4⟩ := h
  refine ⟨CN7_keep d1 (fun q hq => h1 _ (by unfold fcq; split <;> omega) (by unfold fcq; split <;> omega)) (h4 0 (Or.inl rfl)), ?_, ?_, TB_keep d4 h28 h29 (h3 3 (Or.inl rfl)) (h3 4 (Or.inr rfl))⟩
  · unfold CLs; rw [h1 39 (by omega) (by omega), h4 12 (Or.inr (Or.inr rfl))]; exact d2
  · unfold FD; rw [h4 7 (Or.inr (Or.inl rfl)), h4 12 (Or.inr (Or.inr rfl))]; exact d3
theorem DR_noF {is : Nat → Nat} {n : Nat} {σ : MS} {b : Int32 × Int32} {Γ Δ : HS} (h : DR T kd vl rv is n σ Γ) (h4 : ∀ k, k = 0 ∨ k = 7 ∨ k = 12 → (Δ 4).2.1 k = (Γ 4).2.1 k) (h3 : ∀ k, k = 3 ∨ k = 4 → (Δ 3).2.1 k = (Γ 3).2.1 k) : DR T kd vl rv is n (noF σ b) Δ := DR_keep h (fun k k1 k2 => noF_i (by omega) (by omega)) rfl rfl h4 h3
theorem DR_nam {is : Nat → Nat} {n q r x : Nat} {σ : MS} {Γ : HS} {a : Int32 × Int32} {v w num : Int} (hD : DR T kd vl rv is n σ Γ) (hk : 230 ≤ kd (is n) ∧ kd (is n) ≤ 237) (h1 : kd (is n) ≠ 232) (h2 : kd (is n) ≠ 234) (hq : q < 7) (hB : TB T kd vl rv (namS σ a (fcq q) (cN kd is q n) r w num x) (tlS Γ q (cN kd is q n) v w num)) (hC : CN7 (namS σ a (fcq q) (cN kd is q n) r w num x) (tlS Γ q (cN kd is q n) v w num) (fun z => cN kd is z (n + 1))) : DR T kd vl rv is (n + 1) (namS σ a (fcq q) (cN kd is q n) r w num x) (tlS Γ q (cN kd is q n) v w num) := by
  refine ⟨hC, CLs_s hD.2.1 hk h2 ?_ rfl, FD_s hD.2.2.1 h1 h2 rfl rfl, hB⟩
  rw [namS_i (by omega) (by omega), if_neg (by unfold fcq; split <;> omega)]
theorem G0_tlS {Γ : HS} {q c : Nat} {v w num : Int} (h : G0 T N kd vl pl Γ) : G0 T N kd vl pl (tlS Γ q c v w num) := ⟨m5_TKc tlS_m5 h.1, h.2.1, h.2.2.1, h.2.2.2.1, h.2.2.2.2⟩
theorem CNn_c {σ : MS} {n q c : Nat} (h : CNn σ n) (hq : q < 7) (hn : n ≤ 4500) (hc : σ.1 (fcq q) = J (c : Nat)) (hc5 : c ≤ 5000) : c ≤ n + 11 := by
  obtain ⟨d, h1, h2⟩ := h q hq
  rw [h2, J_eq (by omega) (by omega) (by omega) (by omega)] at hc
  omega
def nmF (rv : Nat → Int) (pl : Nat → Nat) (σ : MS) (i lim c : Nat) : Int32 × Int32 := namF (flt σ) (!decide (σ.2 28 (rv (i + 1)).toNat = 0)) (decide (lim < c + 1)) (pl (i + 1))
def nmX (rv : Nat → Int) (pl : Nat → Nat) (σ : MS) (i lim q c : Nat) (w num : Int) (x : Nat) : MS := namS σ (nmF rv pl σ i lim c) (fcq q) c (rv (i + 1)).toNat w num x
theorem nmX_flt {σ : MS} {i lim q c x : Nat} {w num : Int} : flt (nmX rv pl σ i lim q c w num x) = nmF rv pl σ i lim c := namS_flt2
theorem nmX_no {σ : MS} {i lim q c x : Nat} {w num : Int} : noF (nmX rv pl σ i lim q c w num x) (nmF rv pl σ i lim c) = nmX rv pl σ i lim q c w num x := by
  have := noF_id (nmX rv pl σ i lim q c w num x)
  rw [nmX_flt] at this
  exact this
theorem nmX_agA {σs σ : MS} {i lim q c x : Nat} {w num : Int} (h : agA σs σ) (hf : 35 ≤ fcq q ∧ fcq q ≤ 42) : agA σs (nmX rv pl σ i lim q c w num x) := fun k k1 k2 => ((namS_rD0 (σ := σ) (a := nmF rv pl σ i lim c) (fc := fcq q) (c := c) (r := (rv (i + 1)).toNat) (x := x) (w := w) (num := num) hf).2 k (by omega) (by omega) (by omega)).trans (h k k1 k2)
theorem ntF_ne {a : Int32 × Int32} {g : Int} {p : Nat} (hg : 0 < g ∧ g ≤ 6) : ¬ (ntF a g p).1 = 0 := by
  unfold ntF
  by_cases h : a.1 = 0
  · rw [if_pos h]; exact Jg_ne hg
  · rw [if_neg h]
    split
    · exact Jg_ne hg
    · exact h
theorem namF_0 {σ : MS} {i lim c : Nat} (h : (nmF rv pl σ i lim c).1 = 0) : σ.2 28 (rv (i + 1)).toNat = 0 ∧ c < lim := by
  unfold nmF namF at h
  by_cases q1 : σ.2 28 (rv (i + 1)).toNat = 0
  · refine ⟨q1, ?_⟩
    by_cases q2 : lim < c + 1
    · rw [decide_eq_true q2, if_pos rfl] at h
      exact absurd h (ntF_ne (by omega))
    · omega
  · exfalso
    rw [decide_eq_false q1] at h
    split at h
    · exact absurd h (ntF_ne (by omega))
    · exact absurd h (ntF_ne (by omega))
theorem dT_nmX (hp : plm T pl) (hpb : ∀ i, i ≤ T + 1 → pl i ≤ 5000) {σ υ : MS} {b : Int32 × Int32} {i n q c x lim : Nat} {w num : Int} (hi : i + 1 ≤ T) (hb : nGe (pl i) (nmF rv pl σ i lim c) b) (h : υ = noF (nmX rv pl σ i lim q c w num x) b ∨ ∃ v : Int32, υ = noF (mI (nmX rv pl σ i lim q c w num x) 39 v) b) (hC : CNn σ n) (hn : n ≤ 4500) (hq : q < 7) (hc : σ.1 (fcq q) = J (c : Nat)) (hc5 : c ≤ 5000) (hk : kd i ≤ 235) (hw : 1 ≤ w ∧ w ≤ 6) (hwn : w = kd i - 229 ∧ q = qOf (kd i) ∧ num = (if kd i ≤ 232 then (c : Int) + 1 else c) ∧ lim = limK (kd i)) : dT kd rv pl n i x σ υ := by
  refine dT_nam (A := nmF rv pl σ i lim c) (namF_nGe ?_ (hpb _ (by omega))) hb h hC hq hc (CNn_c hC hq hn hc hc5) hk rfl hw (fun h0 => ⟨(namF_0 h0).1, by rw [← hwn.2.2.2]; exact (namF_0 h0).2⟩) ⟨hwn.1, hwn.2.1, hwn.2.2.1⟩
  have := hp i (i + 1) (by omega) (by omega); omega
theorem rNm (hT : TKE T N kd vl rv pl) {σs σ υ : MS} {x i lim q c : Nat} {w num : Int} (hA : agA σs σ) (hi : i + 1 ≤ T) (hk : kd (i + 1) = 2) (hx : x < 39980) (h17 : σs.2 17 x = J w) (h19 : σs.2 19 x = J (x + 1 : Nat)) (hN : NMN rv pl σs (x + 1) (i + 1)) (hK : namK w (fcq q) lim c num) (hc : σ.1 (fcq q) = J (c : Nat)) (hc5 : c ≤ 5000) (h : D8 (J (x : Nat)) (J w) (nmX rv pl σ i lim q c w num x) = some ((0 : Int32), υ)) : F_X12_declareOne (J (x : Nat)) σ = some ((0 : Int32), υ) := by
  have hv := SC_vl hT hi hk
  obtain ⟨n1, n2, n3⟩ := hN
  have er : J (rv (i + 1)) = J ((rv (i + 1)).toNat : Nat) := congrArg J (by omega)
  exact rNam (r := (rv (i + 1)).toNat) (y := x + 1) (p := pl (i + 1)) (by omega) (by omega) (by omega) hK hc hc5 (by rw [hA 17 (by omega) (by omega)]; exact h17) (by rw [hA 19 (by omega) (by omega)]; exact h19) (by rw [hA 19 (by omega) (by omega), n3]; exact er) (by rw [hA 18 (by omega) (by omega)]; exact n2) h
/-- a variable -/
theorem rVar (hT : TKE T N kd vl rv pl) (hpb : ∀ i, i ≤ T + 1 → pl i ≤ 5000) (hp : plm T pl) {σs σ : MS} {x hi i j n c : Nat} (hA : agA σs σ) (hI : VRD kd vl rv pl σs x hi i j) (hx : hi ≤ 39000) (hj : j ≤ T) (hC : CNn σ n) (hn : n ≤ 4500) (hc : σ.1 (fcq 2) = J (c : Nat)) (hc5 : c ≤ 5000) : F_X12_declareOne (J (x : Nat)) σ = some ((0 : Int32), nmX rv pl σ i 100 2 c 4 c x) ∧ dT kd rv pl n i x σ (nmX rv pl σ i 100 2 c 4 c x) := by
  obtain ⟨k0, k1, k2, k3, k4, k5, k6, k7, k8, k11⟩ := hI
  have hi1 : i + 1 ≤ T := by rcases k11 with ⟨-, -, h, -⟩ | ⟨-, h, -⟩ <;> omega
  constructor
  · refine rNm (w := 4) (num := (c : Nat)) (q := 2) (lim := 100) hT hA hi1 k1 (by omega) k5 k7 k8 (Or.inr (Or.inr (Or.inl ⟨rfl, rfl, rfl, rfl⟩))) hc hc5 ?_
    rw [D8_14 (Or.inr rfl)]
  · exact dT_nmX hp hpb hi1 nGe_rfl (Or.inl nmX_no.symm) hC hn (by omega) hc hc5 (by omega) (by omega) ⟨by omega, by rw [k0]; rfl, by rw [k0]; rfl, by rw [k0]; rfl⟩
theorem iVar (hT : TKE T N kd vl rv pl) (hN : NMI T kd vl rv) (hpb : ∀ i, i ≤ T + 1 → pl i ≤ 5000) {σs σ : MS} {Γ : HS} {is ta : Nat → Nat} {x hi j n : Nat} (hI : VRD kd vl rv pl σs x hi (is n) j) (hj : j ≤ T) (hD : DR T kd vl rv is n σ Γ) (hG : G0 T N kd vl pl Γ) (hTA : TA T kd rv ta (is n) σ) (hTC : TAC T kd vl ta Γ) : iStp T N kd vl rv pl is n j σ (nmX rv pl σ (is n) 100 2 (cN kd is 2 n) 4 (cN kd is 2 n) x) Γ := by
  obtain ⟨k0, k1, k2, k3, k4, k5, k6, k7, k8, k11⟩ := hI
  have hNN := TKE_N hT
  have hi1 : is n + 4 < j := by rcases k11 with ⟨-, -, h, -⟩ | ⟨-, h, -⟩ <;> omega
  obtain ⟨Γ1, e1, h⟩ := nm_step (x := x) (w := 4) (num := (cN kd is 2 n : Nat)) (q := 2) (lim := 100) hT hN hpb hD hG.1 hG.2.1 hTA hTC (by omega) k1 (by rw [k0]; rfl) (by omega) (Or.inr (Or.inr (Or.inl ⟨rfl, rfl, rfl, rfl⟩)))
  have e2 : F_X4_tellWord (J (is n : Nat)) Γ = some ((0 : Int32), Γ1) := by
    rw [tw_233 hT hG.1 (by omega) k0, show F_X4_tellItem (J (is n + 1 : Nat)) 4 2 100 Γ = _ from e1]; rfl
  rcases h with ⟨f, f1, f2, f3⟩ | ⟨f1, f2, f3, f4, f5⟩
  · refine Or.inl ⟨f, is n + 1, by omega, by omega, by omega, ?_, fun hb => by rw [nmX_flt]; exact f3 hb⟩
    subst f2
    exact tw_fail hT hG.1 hG.2.1 (by omega) e2 (fs_q hT ⟨hG.1.1, hG.1.2⟩ (by omega) (by rw [k0]; unfold qf; omega)) ⟨hG.1.1, hG.1.2⟩ rfl rfl (by omega) failS_cfM
  · subst f2
    have hm : m5 Γ (tlS Γ 2 (cN kd is 2 n) (vl (is n + 1)) 4 (cN kd is 2 n : Nat)) := tlS_m5
    have hG1 := G0_tlS (q := 2) (c := cN kd is 2 n) (v := vl (is n + 1)) (w := 4) (num := (cN kd is 2 n : Nat)) hG
    refine Or.inr ⟨by rw [nmX_flt]; exact f1, _, CW_trans (CW_go hT hG.1 (by omega) hG.2.1 e2 (fs_q hT hG1.1 (by omega) (by rw [k0]; unfold qf; omega)) rfl) (W2_p hT hG1.1 hG1.2.1 hG1.2.2.1 (i := is n + 1) (j := j) (by omega) (by omega) (fun t t1 t2 => ?_)), hm, hG1, DR_nam hD (by omega) (by omega) (by omega) (by omega) (f3 _) (f4 _)⟩
    · have q5 : ∀ k, (k = 2 ∨ k = 61 ∨ k = 45 ∨ k = 3 ∨ k = 59) → kd t = k → qp (kd t) := fun k hk e => by rw [e]; exact qp_of (by omega) (by omega) (by omega) (by omega) (by omega)
      rcases Nat.lt_or_ge t (is n + 3) with z | z
      · by_cases z1 : t = is n + 1
        · exact q5 2 (by omega) (by rw [z1]; exact k1)
        · exact q5 61 (by omega) (by rw [show t = is n + 2 by omega]; exact k2)
      · by_cases z0 : t = j - 1
        · exact q5 59 (by omega) (by rw [z0]; exact k3)
        · rcases k11 with ⟨m1, m2, m3, -⟩ | ⟨m1, m2, -⟩
          · by_cases z1 : t = is n + 3
            · exact q5 45 (by omega) (by rw [z1]; exact m1)
            · exact q5 3 (by omega) (by rw [show t = is n + 4 by omega]; exact m2)
          · exact q5 3 (by omega) (by rw [show t = is n + 3 by omega]; exact m1)
