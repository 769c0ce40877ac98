/-! the meanings of a text that is well formed: both, whole -/
variable {T N : Nat} {kd vl rv : Nat → Int} {pl : Nat → Nat}
def BdL : Int32 → MS → MR := fun t_33 σ_34 => bnd (mI σ_34 16 t_33) fun σ_38 => if (σ_38.1 14) = 0 then ((F_X12_lay σ_38).bind fun u_42 => some ((u_42.2.1 78), u_42.2)) else some ((-(σ_38.1 14)), σ_38)
def BdK : MS → MR := fun σ_29 => bnd BdL fun j_35 => if (σ_29.1 14) = 0 then j_35 (-1) σ_29 else j_35 (σ_29.1 15) σ_29
def BdJ : MS → MR := fun σ_25 => bnd BdK fun j_30 => if (σ_25.1 14) = 0 then (F_X12_holds σ_25).bind fun u_50 => if u_50.1 = 0 then (F_X12_note 6 (u_50.2.1 6) u_50.2).bind fun u_54 => j_30 u_54.2 else j_30 u_50.2 else j_30 σ_25
def BdI : MS → MR := fun σ_21 => bnd BdJ fun j_26 => if (σ_21.1 14) = 0 then (F_X12_resolve σ_21).bind fun u_60 => j_26 u_60.2 else j_26 σ_21
def BdH : MS → MR := fun u_19 => bnd BdI fun j_22 => if (u_19.1 14) = 0 then (F_X12_declare u_19).bind fun u_65 => (F_X12_declareSeen u_65.2).bind fun u_67 => j_22 u_67.2 else j_22 u_19
def Bu1 : ((Int32 × MS) → MR) → Int32 × MS → MR := fun again_6 s_5 => if (s_5.2.1 4) ≤ s_5.1 then (bnd (mI s_5.2 4 0) fun σ_11 => bnd (mI σ_11 14 0) fun σ_13 => bnd (mI σ_13 15 (-1)) fun σ_15 => (F_X12_lex σ_15).bind fun u_17 => (F_X12_parse u_17.2).bind fun u_19 => BdH u_19.2) else if s_5.1 < 0 ∨ 16000 ≤ s_5.1.toNatClampNeg then none else bnd ((s_5.2.2 3 s_5.1.toNatClampNeg)) fun (x_73 : Int32) => if s_5.1 < 0 ∨ 16000 ≤ s_5.1.toNatClampNeg then none else bnd (mA s_5.2 5 (upd (s_5.2.2 5) s_5.1.toNatClampNeg (vp_nar .byte x_73))) fun σ_77 => bnd (s_5.1 + 1) fun (x_79 : Int32) => again_6 (x_79, σ_77)
theorem build_eq (σ : MS) : F_X12_build σ = bnd (mI σ 0 0) fun σ_1 => bnd (mI σ_1 6 (σ_1.1 4)) fun σ_3 => loopF Bu1 FU (0, σ_3) := rfl
theorem BdK_f {σ : MS} {f : Int} {q : Nat} (h : flt σ = (J f, J (q : Nat))) (hf : 0 < f ∧ f ≤ 6) : BdK σ = some (J (-f), mI σ 16 (J (q : Nat))) := by
  have h14 : σ.1 14 = J f := congrArg Prod.fst h
  have h15 : σ.1 15 = J (q : Nat) := congrArg Prod.snd h
  unfold BdK BdL
  rw [bndE, if_neg (by rw [h14]; exact Jg_ne hf)]
  dsimp only
  rw [bndE, h15, if_neg (by rw [show (mI σ 16 (J (q : Nat))).1 14 = J f from h14]; exact Jg_ne hf), show (mI σ 16 (J (q : Nat))).1 14 = J f from h14, J_neg]
theorem BdK_c {σ : MS} (h : σ.1 14 = 0) : BdK σ = (F_X12_lay (mI σ 16 (-1))).bind fun u => some (u.2.1 78, u.2) := by
  unfold BdK BdL
  rw [bndE, if_pos h]
  dsimp only
  rw [bndE, if_pos (show (mI σ 16 (-1)).1 14 = 0 from h)]
/-- what the meanings leave of all else, in the reference -/
def rfB (σ τ : MS) : Prop := (∀ k, k < 14 ∨ 44 ≤ k → τ.1 k = σ.1 k) ∧ ∀ k, k < 14 ∨ 44 ≤ k → k ≠ 85 → τ.2 k = σ.2 k
theorem rfB_DS {σ τ : MS} (h : rDS σ τ) : rfB σ τ := ⟨fun k hk => h.1 k (by omega) (by omega) (by omega) (by omega) (by omega), fun k hk _ => h.2 k (by omega) (by omega) (by omega) (by omega)⟩
theorem rfB_J {lo hi : Nat} {σ τ υ : MS} (h : rfB σ τ) (i : rJ lo hi τ υ) : rfB σ υ := ⟨fun k hk => by rw [i.1 k (by omega) (by omega) (by omega) (by omega) (by omega), h.1 k hk], fun k hk h85 => by rw [i.2.1 k (by omega) (by omega) (by omega) (by omega), h.2 k hk h85]⟩
theorem rfB_mI {σ τ : MS} {k : Nat} {v : Int32} (h : rfB σ τ) (hk : 14 ≤ k ∧ k < 44) : rfB σ (mI τ k v) := ⟨fun j hj => by rw [mI_1, if_neg (by omega)]; exact h.1 j hj, h.2⟩
theorem rfB_85 {σ τ : MS} {g : Nat → Int32} (h : rfB σ τ) : rfB σ (mA τ 85 g) := ⟨h.1, fun j hj h85 => by rw [mA_2, if_neg h85]; exact h.2 j hj h85⟩
theorem hgood_of {G : Nat → HS} {Θ Γs : HS} {σs : MS} {c : Nat} {ls is ps ds os es : Nat → Nat} (hI : ITS kd vl rv pl σs Γs c ls is ps ds os es) (hcT : is c = T) (hHB : ∀ z, z < c → ∃ b, HBZ T vl G kd is z b) (hb : ∀ w, w < T → ¬ badW G Θ Γs kd vl c is w) : ∀ z, z < c → kd (is z) = 231 → ∀ u, is z ≤ u → u < is (z + 1) → kd u = 219 → kd (u + 1) = 2 → ksF Θ vl (u + 1) = 1 ∨ ksF Θ vl (u + 1) = 2 := by
  intro z hz hk u u1 u2 u3 u4
  have hm := ITS_lt hI
  have hle := is_le hm.1 (a := z + 1) (b := c) (by omega) (Nat.le_refl _)
  have he := ITM_end (hI z hz).1
  have u5 : u + 1 < is (z + 1) := by
    rcases Nat.lt_or_ge (u + 1) (is (z + 1)) with q | q
    · exact q
    · rw [show is (z + 1) - 1 = u by omega] at he; omega
  obtain ⟨b, b1, b2, b3, b4, b5⟩ := hHB z hz
  have hbo := b3 (u + 1) (by omega) (by have := b5 (by omega); omega) u5
  have hx := hb (u + 1) (by omega)
  rcases Classical.em (ksF Θ vl (u + 1) = 1 ∨ ksF Θ vl (u + 1) = 2) with q | q
  · exact q
  · exact absurd (Or.inr ⟨hbo, z, hz, by omega, u5, Or.inr (Or.inl ⟨hk, u3, u4, fun h => q (Or.inl h), fun h => q (Or.inr h)⟩)⟩) hx
/-- where STRING words stand -/
def TXw (T : Nat) (kd vl rv : Nat → Int) (pl : Nat → Nat) (w : Nat) (r v : Int) : Prop := ∃ t, t ≤ T ∧ kd t = 4 ∧ pl t = w ∧ rv t = r ∧ vl t = v
/-- a text whose meanings are whole, in both -/
def MIDW (T N : Nat) (kd vl rv : Nat → Int) (pl : Nat → Nat) (cl : List Int) (c : Nat) (ls is ps : Nat → Nat) (σ : MS) (Γ : HS) (υ : MS) (E : HS) : Prop := ∃ (G : Nat → HS) (Θ : HS) (τ : MS) (K : Nat → HS) (S : Nat → MS), MEN T N kd vl rv pl G Θ Γ σ τ (DNd kd σ Γ c ls is) ∧ SDN T N kd vl rv pl σ Γ c ls is S τ Θ ∧ VFE T kd vl rv Θ σ τ ∧ AGM σ τ ∧ DR T kd vl rv is c τ Θ ∧ (∀ r, r ≠ 3 → r ≠ 4 → Θ r = Γ r) ∧ (∀ k, k ≠ 0 → k ≠ 7 → k ≠ 12 → (Θ 4).2.1 k = (Γ 4).2.1 k) ∧ (Θ 4).1 = (Γ 4).1 ∧ rJ (ls 0) (ls c) τ υ ∧ AGM σ υ ∧ (∀ z, z ≤ c → GZ T kd vl (G (is z))) ∧ (∀ z, z < c → ∃ b, HBZ T vl G kd is z b) ∧ (∀ z, z < c → 235 ≤ kd (is z) → RTQ (op1 Γ) (lk3 G Θ Γ kd vl) υ.2 (DNd kd σ Γ c ls is) (TXw T kd vl rv pl) (kd (is z) = 235) (ls z) (ls z) (ls (z + 1)) (ps z) (ps (z + 1))) ∧ (∀ w, w < T → ¬ badW G Θ Γ kd vl c is w) ∧ K 0 = stG Θ ∧ K c = E ∧ CROW T G Θ kd vl cl is c K ∧ CT3 T N kd vl pl G Θ Γ T E ∧ CKP (stG Θ) E ∧ (∃ W, DOK E W) ∧ cN kd is 0 c ≤ 120 ∧ KE T kd vl rv Θ υ ∧ υ.1 14 = 0 ∧ rDS σ τ ∧ WHX kd is c E (cN kd is 0 c)
/-- the meanings: both find the same first fault, or both are whole -/
theorem mid_join {b : Nat → Int} {L m : Nat} {nm : Nat → List Int} {cl : List Int} (hT : TKE T N kd vl rv pl) (hN : NMI T kd vl rv) (hp : plm T pl) (hpb : ∀ i, i ≤ T + 1 → pl i ≤ 5000) (hF : NMF b L T m nm cl kd vl rv pl) {σ : MS} {Γ : HS} {c : Nat} {ls is ps ds os es : Nat → Nat} (hI : ITS kd vl rv pl σ Γ c ls is ps ds os es) (hz : ds 0 = 0 ∧ os 0 = 0 ∧ es 0 = 0) (hl : ls c ≤ 39000) (h0 : is 0 = 0) (hcT : is c = T) (hkT : kd T = 0) (h24 : σ.1 24 = J (lsX ls c 0)) (hrn : rnam m nm σ) (hm7 : m < 7000) (h14 : σ.1 14 = J 0) (h6 : σ.1 6 = J (pl T : Nat)) (hc : TKc N kd vl pl Γ) (hcn : cnam cl Γ) (hcl : cl.length < 4500) (h67 : 67 ≤ cl.length) (hK : ∀ c, c < 67 → cl.getD c 0 = pk (KWC.getD c [])) (h40 : ∀ q, q < 7 → (Γ 4).2.1 0 q = J (cN kd is q 0 : Nat)) (h47 : ∀ v, 1 ≤ v → v ≤ 11 → (Γ 4).2.1 7 v = J (bform v)) (hD : ∃ W, DOK Γ W) (hten : TEN Γ) (hi1 : ∀ x, x ≤ 120 → (Γ 4).2.1 1 x = 0) (hi4 : ∀ x, x ≤ 120 → (Γ 4).2.1 4 x = 0) : (∃ (f : Int) (w : Nat) (υ : MS) (X : HS), (0 < f ∧ f ≤ 6) ∧ w ≤ T ∧ BdH σ = some (J (-f), mI υ 16 (J (pl w : Nat))) ∧ rfB σ υ ∧ F_X4_giveAll Γ = some (J f, X) ∧ (X 3).1 17 = J (pl w : Nat) ∧ cfM Γ X) ∨ (∃ (υ : MS) (E : HS) (g : Nat → Int32), BdH σ = ((F_X12_lay (mI (mA υ 85 g) 16 (-1))).bind fun u => some (u.2.1 78, u.2)) ∧ rfB σ υ ∧ F_X4_giveAll Γ = some ((0 : Int32), E) ∧ MIDW T N kd vl rv pl cl c ls is ps σ Γ υ E) := by
  have hT1 := hT.1
  have hNT : N = T + 1 := by rcases hT.2.2.1 with ⟨-, h⟩ | ⟨h, -⟩ <;> omega
  have hm := ITS_lt hI
  obtain ⟨S0, τ, d1, d2, d3, d4⟩ := sec_all hT hN hp hpb hF hI hl h0 hcT hkT h24 hrn hm7 h14 hc hcn hcl h67 hK h40 h47
  have hBH : BdH σ = BdI τ := by
    unfold BdH
    rw [bndE, if_pos (by rw [h14]; rfl), d1, Option.bind_some]
    dsimp only
    rw [d2, Option.bind_some]
  have hR := rfB_DS d3
  rcases d4 with hS | ⟨f, w, f1, f2, ⟨⟨x, X⟩, f3, f4⟩, f5⟩
  · obtain ⟨G, Θ, a1, a2, a3, a4, a5, a6, a7, a8, a9, a10, a11, a12, a13, S, a14⟩ := meanings_start hT hN hp hpb hF hI hz hl h0 hcT hkT h24 hrn hm7 h14 hc hcn hcl h67 hK h40 h47 d1 d2 d3 hS
    have hflt : flt τ = (J 0, σ.1 15) := by rw [a7]; exact Prod.ext h14 rfl
    have t14 : τ.1 14 = 0 := congrArg Prod.fst hflt
    have hvl : ∀ u, u ≤ T → kd u = 2 → (vl u).toNat < cl.length := fun u hu hk => (hF u hu hk).2.1
    obtain ⟨υ, b1, b2, b3, b4, b5, b6, b7⟩ := r_resolve hI hl h0 hcT (by rw [d3.1 24 (by omega) (by omega) (by omega) (by omega) (by omega)]; exact h24) (TX := TXw T kd vl rv pl) (fun t ht hk => ⟨t, ht, hk, rfl, rfl, rfl⟩) a4 a5 a6 a2
    have hBI : BdI τ = BdJ υ := by
      unfold BdI
      rw [bndE, if_pos t14, b1, Option.bind_some]
    have e1 : Θ 1 = Γ 1 := a10 1 (by omega) (by omega)
    have e7 : Θ 7 = Γ 7 := a10 7 (by omega) (by omega)
    have e4 : ∀ k, k ≠ 0 → k ≠ 7 → k ≠ 12 → (Θ 4).2.1 k = (Γ 4).2.1 k := a11
    rcases third a4 (by omega) hvl a14 a5 a6 hI h0 hcT hkT b5 b6 a8 a3 a10 (cnam_congr hcn (by rw [e1]) (by rw [e1]) (by rw [e1])) (by obtain ⟨W, hW⟩ := hD; exact ⟨W, DOK_7 hW e7⟩) (TEN_4 hten (e4 10 (by omega) (by omega) (by omega))) with ⟨w, w1, w2, w3, X, w4, w5, w6⟩ | ⟨n1, K, n2, n3, n4, n5, n6, n7⟩
    · left
      have hυ := b4.2.1 w (Nat.zero_le _) w1 w2 (fun v _ hv => w3 v hv) (Or.inl (by rw [hflt]; rfl))
      refine ⟨3, w, υ, X, by omega, by omega, ?_, rfB_J hR b2, by rw [a1]; exact w4, w5, fun r r1 r3 r4 r5 r6 r7 => by rw [w6 r r1 r3 r4 r7, a10 r r3 r4]⟩
      rw [hBH, hBI]
      unfold BdJ
      rw [bndE, if_neg (by rw [show υ.1 14 = J 3 from congrArg Prod.fst hυ]; decide)]
      exact BdK_f hυ (by omega)
    · have hυ := b4.2.2 (fun w _ hw => n1 w hw)
      have u14 : υ.1 14 = 0 := by rw [show υ.1 14 = τ.1 14 from congrArg Prod.fst hυ]; exact t14
      have h4Θ : (K 0) 4 = Θ 4 := by rw [n2, stG_o (by omega)]
      have hDR := a9
      obtain ⟨⟨cn⟩, -⟩ : Nonempty (CN7 τ Θ (fun q => cN kd is q c)) ∧ True := ⟨⟨a9.1⟩, trivial⟩
      obtain ⟨c1, c2, c3⟩ := cn 0 (by omega)
      have hINM := INM_of hT hp a14
      have hn120 : cN kd is 0 c ≤ 120 := by
        rcases Nat.lt_or_ge (cN kd is 0 c) 2 with q | q
        · omega
        · obtain ⟨z, z1, z2, z3⟩ := obj_at c (Nat.le_refl _) a13 _ q (Nat.le_refl _)
          have := (hINM z z1 (by omega)).2.2.1 z2
          omega
      have hKE : KE T kd vl rv Θ υ := KE_K a4.2.2.2.2.1.2.1 ⟨b2.2.1 28 (by omega) (by omega) (by omega) (by omega), b2.2.1 29 (by omega) (by omega) (by omega) (by omega), b2.2.1 30 (by omega) (by omega) (by omega) (by omega)⟩
      have hgo := hgood_of hI hcT b6 n1
      obtain ⟨⟨x, υ'⟩, m1, ⟨g, rfl⟩, m3⟩ := meet hT hp a14 hI hl hcT n3 n4 (by rw [n5.2.1, stG_o (by omega)]; exact c1) hn120 (fun x hx => by rw [h4Θ, e4 1 (by omega) (by omega) (by omega)]; exact hi1 x hx) (fun x hx => by rw [h4Θ, e4 4 (by omega) (by omega) (by omega)]; exact hi4 x hx) hgo b3 hKE (by rw [b2.1 35 (by omega) (by omega) (by omega) (by omega) (by omega)]; exact c2) (by rw [b2.1 24 (by omega) (by omega) (by omega) (by omega) (by omega), d3.1 24 (by omega) (by omega) (by omega) (by omega) (by omega)]; exact h24)
      dsimp only at m3
      rcases m3 with ⟨rfl, m4, m5⟩ | ⟨rfl, m4⟩
      · right
        refine ⟨υ, K c, g, ?_, rfB_J hR b2, by rw [a1, n7]; exact m4, G, Θ, τ, K, S, a4, a14, a5, a6, a9, a10, a11, a12, b2, b3, b5, b6, fun z hz hk => b7 n1 z hz hk, n1, n2, rfl, n3, n4, n5, n6, hn120, hKE, u14, d3, m5⟩
        rw [hBH, hBI]
        unfold BdJ
        rw [bndE, if_pos u14, m1, Option.bind_some, if_neg (show ¬ (1 : Int32) = 0 by decide)]
        exact BdK_c u14
      · left
        refine ⟨6, T, noF (mA υ 85 g) (J 6, J (pl T : Nat)), failS (K c) pl 6 (N - 1), by omega, Nat.le_refl _, ?_, ?_, by rw [a1, n7]; exact m4, by rw [hNT]; rfl, fun r r1 r3 r4 r5 r6 r7 => ?_⟩
        · rw [hBH, hBI]
          unfold BdJ
          have h6' : (mA υ 85 g).1 6 = J (pl T : Nat) := by
            rw [show (mA υ 85 g).1 6 = υ.1 6 from rfl, b2.1 6 (by omega) (by omega) (by omega) (by omega) (by omega), d3.1 6 (by omega) (by omega) (by omega) (by omega) (by omega)]; exact h6
          rw [bndE, if_pos u14, m1, Option.bind_some, if_pos rfl, h6', show (6 : Int32) = J 6 from rfl, r_note, Option.bind_some, show ntF (flt (mA υ 85 g)) 6 (pl T) = (J 6, J (pl T : Nat)) by unfold ntF; exact if_pos u14]
          exact BdK_f (by rfl) (by omega)
        · have := rfB_85 (g := g) (rfB_J hR b2)
          exact ⟨fun k hk => by rw [← this.1 k hk]; show (if k = 14 then _ else if k = 15 then _ else _) = _; rw [if_neg (by omega), if_neg (by omega)], this.2⟩
        · unfold failS
          rw [cI_r, if_neg r3, cI_r, if_neg r3, n5.1 r r1 r3 r4 r7, stG_o r3, a10 r r3 r4]
  · left
    obtain ⟨g1, g2, g3⟩ := f4
    dsimp only at g1 g2 g3
    subst g1
    refine ⟨f, w, τ, X, f1, by omega, ?_, hR, f3, g2, g3⟩
    rw [hBH]
    unfold BdI BdJ
    rw [bndE, if_neg (by rw [show τ.1 14 = J f from congrArg Prod.fst f5]; exact Jg_ne f1)]
    dsimp only
    rw [bndE, if_neg (by rw [show τ.1 14 = J f from congrArg Prod.fst f5]; exact Jg_ne f1)]
    exact BdK_f f5 f1
