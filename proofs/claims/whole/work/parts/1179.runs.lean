/-! a rule is run: on, each -/
variable {R : Nat → Nat → Int32} {nO nV nC nA ln : Nat} {room : Nat → Bool} {en : Nat → Nat} {TX : Nat → Int → Int → Prop} {DN : Nat → Nat → Nat → Prop}
theorem block_eq (p0 p1 : Int32) (σ : MS) : F_X12_block_ p0 p1 σ = if p0 < 0 ∨ 40000 ≤ p0.toNatClampNeg then none else bnd ((σ.2 66 p0.toNatClampNeg)) fun (x_3 : Int32) => loopF (LsB (gR 1300) 3 p1 (fun σ => some (0, σ))) FU (x_3, σ) := rfl
/-- the machine's start -/
def runI (Γ : HS) (p : Nat) : HS := cI' (cI' (cI' (cI' (cI' Γ 10 9 (J (p : Nat))) 10 8 0) 10 7 14) 10 12 0) 10 14 0
theorem run_start {Γ : HS} {k p : Nat} (h : (Γ 5).2.1 2 k = J (p : Nat)) (hk : k < 320) : F_X3_run (J (k : Nat)) Γ = loopF RunB FU (0, runI Γ p) := by
  rw [run_eq]
  unfold F_X0_beginOf
  rw [q_g_at_in (by omega) (by omega) (by omega), show ((k : Nat) : Int).toNat = k by omega, h, bndE, Option.bind_some]
  dsimp only
  rw [bndE, mrgS, bndE, bndE, bndE, bndE, bndE]; rfl
/-- the machine waits: no routine is under way -/
def WAI (Γ : HS) : Prop := (Γ 10).1 14 ≠ 0 ∧ (Γ 10).1 12 = 0 ∧ (Γ 10).1 8 = 0 ∧ (Γ 10).1 7 = 0
theorem WAI_10 {Γ Δ : HS} (e : (Δ 10).1 = (Γ 10).1) (h : WAI Γ) : WAI Δ := by unfold WAI; rw [e]; exact h
theorem WAI_X {Δ : HS} (h : (Δ 10).1 14 ≠ 0) : WAI (runX Δ) := ⟨h, rfl, rfl, rfl⟩
/-- how a rule ends -/
def REN (pw' : Nat) (τ : MS) (x : Int32) (Δ : HS) : Prop := ((τ.1 104 = J 0 ∧ x = J 1 ∨ τ.1 104 = J 1 ∧ x = J 2) ∧ pw' ≤ 20000 ∧ τ.1 107 = J 0 ∧ τ.1 106 = J (pw' : Nat) ∧ (Δ 10).1 13 = J (pw' : Nat) ∧ (Δ 10).1 5 = J 0) ∨ (τ.1 104 = J 3 ∧ x = J 4 ∧ ∃ n : Int, 1 ≤ n ∧ n ≤ 6 ∧ τ.1 105 = J n ∧ (Δ 10).1 5 = J n) ∨ (τ.1 104 = J 2 ∧ x = J 3 ∧ (Δ 10).1 5 = J 0)
theorem R_run {Γ0 : HS} {D : Nat → Nat → Prop} {Dq : Prop} {z lo hi p q k pw : Nat} {σ : MS} {Γ : HS} (hDN : DNF R nV nA ln TX DN Γ0) (hT : RTQ (I1 Γ0 D) (I3 Γ0 D nV nA) R DN TX Dq z lo hi p q) (hDq : ¬ Dq) (hD : ∀ u, ¬ D p u) (hhi : hi ≤ 39990) (hq : q ≤ ln) (hk : (Γ0 5).2.1 2 k = J (p : Nat)) (hk2 : k < 320) (h5 : Γ 5 = Γ0 5) (hS : STA R nO nV nC nA room en ln TX σ Γ) (hR : RRl nO room nV nC σ Γ) (hσ : RVw σ 0 0 0 pw) (h13 : (Γ 10).1 13 = J (pw : Nat)) (hpw : pw ≤ 20000) (hb5 : (Γ 10).1 5 = J 0) : ∃ (y : Nat) (τ : MS) (x : Int32) (Δ : HS) (pw' : Nat), (∃ m : Nat, R 21 z = J (m : Nat) ∧ R 19 m = J (y : Nat) ∧ m < 39990) ∧ y < 39990 ∧ F_X12_block_ (J (y : Nat)) 0 σ = some ((0 : Int32), τ) ∧ F_X3_run (J (k : Nat)) Γ = some (x, Δ) ∧ RRl nO room nV nC τ Δ ∧ rWk σ τ ∧ cWk Γ Δ ∧ τ.1 113 = J 0 ∧ (τ.1 115 = J 0 ∧ WAI Δ) ∧ REN pw' τ x Δ := by
  obtain ⟨h, y, mm, r, lo', r1, r2, r3, r4, r5, r6, r7, r8, r9, -⟩ := hT
  have hln := hS.2.2.2.2.2.1.2
  have hy : y < mm := by
    cases h with
    | zero => unfold STQ at r5; exact r5.elim
    | succ h => exact r5.2.1
  have hpr : p ≤ r := by
    cases h with
    | zero => unfold STQ at r5; exact r5.elim
    | succ h => exact r5.2.2.1
  have hC : SCX R nO nV nC nA room en ln TX DN Γ0 (40 * (31 - 0)) 0 0 0 0 := ⟨by omega, by omega, fun k z c h => (hDN k z c h).1, fun d hd => CLH_ok hDN 30 0 rfl d hd, by omega, by omega⟩
  have hK := (STV (b0 := 0) (q0 := 0) (D := D) (Dq := Dq) (nA := nA) hC h).2.1 1300 _ _ _ _ _ r5 (by omega) (by omega) (by omega)
  have cI : cWk Γ (runI Γ p) := fun r r8 r9 r10 => by unfold runI; simp only [cI_r, if_neg r10]
  have hSS : SSS R nO nV nC nA room en ln TX Γ0 D Dq 0 0 0 0 p 0 0 pw σ (runI Γ p) := ⟨⟨(cI 5 (by omega) (by omega) (by omega)).trans h5, STA_keep hS rWk_rfl cI, RR_M hR rMk_rfl rfl rfl rfl rfl (fun _ => Or.inr hb5), hσ, ⟨rfl, rfl, h13, rfl, rfl, rfl⟩, fun u hu => absurd hu (hD u), hpw⟩, fun h => absurd h hDq⟩
  obtain ⟨τ, k1, Θ, kc, pw', ⟨b1, b2, b3, b4, b5, b6, b7, b8⟩, hO⟩ := hK.2 (fun σ => some (0, σ)) FU pw σ _ (FU_gt (by omega)) hSS
  have eb : F_X12_block_ (J (y : Nat)) 0 σ = some ((0 : Int32), τ) := by
    rw [block_eq, if_neg (g_en (by omega)), J_natN (by omega), show σ.2 66 y = R 19 y from STA_R (x := y) hS (k := 19) (by omega) (by omega), bndE]
    exact k1
  have hm : ∃ m : Nat, R 21 z = J (m : Nat) ∧ R 19 m = J (y : Nat) ∧ m < 39990 := ⟨mm, r6, r8, by omega⟩
  have run : ∀ (kk : Nat) (Δ : HS), kk ≤ 900000000 → CSP kk (runI Γ p) Δ → (Δ 10).1 14 ≠ 0 → F_X3_run (J (k : Nat)) Γ = some ((Δ 10).1 14, runX Δ) := fun kk Δ hkk hc h14 => by
    rw [run_start (by rw [h5]; exact hk) hk2]
    obtain ⟨m, hm⟩ : ∃ m, FU = (m + 1) + kk := ⟨FU - kk - 1, by have : FU = 1000000000000 := rfl; omega⟩
    rw [hm, show (0 : Int32) = J ((0 : Nat) : Int) from rfl, hc 0 (m + 1) (by omega), run_end (by omega) h14]
  have fin : ∀ Δ : HS, RRl nO room nV nC τ Δ → RRl nO room nV nC τ (runX Δ) := fun Δ h => RR_M h rMk_rfl rfl rfl rfl rfl (fun h => h)
  have cX : ∀ Δ : HS, cWk (runI Γ p) Δ → cWk Γ (runX Δ) := fun Δ h r r8 r9 r10 => by
    unfold runX
    simp only [cI_r, if_neg r10]
    rw [h r r8 r9 r10, cI r r8 r9 r10]
  rcases hO with ⟨n1, n2, n3, n4, n5, n6⟩ | ⟨n1, n2⟩ | ⟨n1, -⟩ | ⟨n1, n2, n3, n4, n5, n6, n7⟩
  · have S3 : STA R nO nV nC nA room en ln TX τ Θ := STA_keep hSS.1.2.1 n5.1 n6.1
    have e5 := (n6.1 5 (by omega) (by omega) (by omega)).trans hSS.1.1
    have he := m_end0 (STA_MC S3 n2) (by omega) (op1_5 e5 r9.1) n2.2.1
    have hr := run (kc + 1) _ (by omega) (CSP_trans b1 he) (by show (J 1 : Int32) ≠ 0; decide)
    refine ⟨y, τ, _, _, pw', hm, by omega, eb, hr, fin _ (RR_M b2 rMk_rfl rfl rfl rfl rfl (NBK_0 n2.1 rfl)), b3, cX _ (fun r r8 r9 r10 => ?_), b5, ⟨b6, WAI_X (by show (J 1 : Int32) ≠ 0; decide)⟩, Or.inl ⟨Or.inl ⟨n1.1, rfl⟩, n4, n1.2.1, n1.2.2.1, n2.2.2.1, b2.2.2.2.2.2.2.resolve_left (by rw [n2.1]; decide)⟩⟩
    unfold pcS
    simp only [cI_r, if_neg r10]
    exact b4 r r8 r9 r10
  · rcases n2 with ⟨c1, c2, c3⟩ | ⟨c1, c2⟩
    · exact ⟨y, τ, _, _, pw', hm, by omega, eb, run kc _ (by omega) b1 (by rw [c2]; decide), fin _ b2, b3, cX _ b4, b5, ⟨b6, WAI_X (by rw [c2]; decide)⟩, Or.inr (Or.inl ⟨c1, c2, c3⟩)⟩
    · exact ⟨y, τ, _, _, pw', hm, by omega, eb, run kc _ (by omega) b1 (by rw [c2]; decide), fin _ b2, b3, cX _ b4, b5, ⟨b6, WAI_X (by rw [c2]; decide)⟩, Or.inr (Or.inr ⟨c1, c2, b2.2.2.2.2.2.2.resolve_left (by rw [c2]; decide)⟩)⟩
  · exact absurd n1 hDq
  · exact ⟨y, τ, _, _, pw', hm, by omega, eb, run kc _ (by omega) b1 (by rw [n6]; decide), fin _ b2, b3, cX _ b4, b5, ⟨b6, WAI_X (by rw [n6]; decide)⟩, Or.inl ⟨Or.inr ⟨n3, n6⟩, n2, n4, n5, n7, b2.2.2.2.2.2.2.resolve_left (by rw [n6]; decide)⟩⟩
