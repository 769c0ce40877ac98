/-! what a call means: its end -/
variable {T N : Nat} {kd vl rv : Nat → Int} {pl : Nat → Nat}
def Wr (p1 : Int32) (σ : MS) : MR := (F_X12_wrong p1 σ).bind fun u_20 => some ((0 : Int32), u_20.2)
def Mce (p0 p1 cnt v : Int32) (σ : MS) : MR := (F_X12_is p0 6 σ).bind fun u_14 => if u_14.1 = 0 then Wr p1 u_14.2 else (F_X12_slotOf p0 u_14.2).bind fun u_25 => if 0 ≤ u_25.1 then Wr p1 u_25.2 else if v = cnt then some ((0 : Int32), u_25.2) else Wr p1 u_25.2
def Mc2 (p0 p1 cnt : Int32) : ((Int32 × Int32 × MS) → MR) → Int32 × Int32 × MS → MR := fun again s => if s.2.1 < 0 then Mce p0 p1 cnt s.1 s.2.2 else bnd (s.1 + 1) fun (x_51 : Int32) => if s.2.1 < 0 ∨ 40000 ≤ s.2.1.toNatClampNeg then none else bnd (s.2.2.2 22 s.2.1.toNatClampNeg) fun (x_55 : Int32) => again (x_51, x_55, s.2.2)
def Mc1 (rec : GF) (p0 p1 : Int32) : ((Int32 × Int32 × MS) → MR) → Int32 × Int32 × MS → MR := fun again s => if s.2.1 < 0 then (F_X12_is p0 6 s.2.2).bind fun u_7 => (if u_7.1 = 0 then Mce p0 p1 s.1 0 u_7.2 else if p0 < 0 ∨ 8000 ≤ p0.toNatClampNeg then none else bnd (u_7.2.2 30 p0.toNatClampNeg) fun (x_38 : Int32) => if x_38 < 0 ∨ 40000 ≤ x_38.toNatClampNeg then none else bnd (u_7.2.2 20 x_38.toNatClampNeg) fun (x_42 : Int32) => loopF (Mc2 p0 p1 s.1) FU (0, x_42, u_7.2)) else (rec 0 s.2.1 0 0 s.2.2).bind fun u_58 => bnd (s.1 + 1) fun (x_60 : Int32) => if s.2.1 < 0 ∨ 40000 ≤ s.2.1.toNatClampNeg then none else bnd (u_58.2.2 22 s.2.1.toNatClampNeg) fun (x_64 : Int32) => again (x_60, x_64, u_58.2)
theorem meanCall_eq (rec : GF) (p0 p1 p2 : Int32) (σ : MS) : F_X12_meanCall rec p0 p1 p2 σ = loopF (Mc1 rec p0 p1) FU (0, p2, σ) := rfl
theorem Mc1_s (rec : GF) (p0 p1 : Int32) (n : Nat) (c l : Int32) (τ : MS) : loopF (Mc1 rec p0 p1) (n + 1) (c, l, τ) = if l < 0 then (F_X12_is p0 6 τ).bind fun u_7 => (if u_7.1 = 0 then Mce p0 p1 c 0 u_7.2 else if p0 < 0 ∨ 8000 ≤ p0.toNatClampNeg then none else bnd (u_7.2.2 30 p0.toNatClampNeg) fun (x_38 : Int32) => if x_38 < 0 ∨ 40000 ≤ x_38.toNatClampNeg then none else bnd (u_7.2.2 20 x_38.toNatClampNeg) fun (x_42 : Int32) => loopF (Mc2 p0 p1 c) FU (0, x_42, u_7.2)) else (rec 0 l 0 0 τ).bind fun u_58 => bnd (c + 1) fun (x_60 : Int32) => if l < 0 ∨ 40000 ≤ l.toNatClampNeg then none else bnd (u_58.2.2 22 l.toNatClampNeg) fun (x_64 : Int32) => loopF (Mc1 rec p0 p1) n (x_60, x_64, u_58.2) := rfl
theorem Mc2_s (p0 p1 cnt : Int32) (n : Nat) (c l : Int32) (τ : MS) : loopF (Mc2 p0 p1 cnt) (n + 1) (c, l, τ) = if l < 0 then Mce p0 p1 cnt c τ else bnd (c + 1) fun (x_51 : Int32) => if l < 0 ∨ 40000 ≤ l.toNatClampNeg then none else bnd (τ.2 22 l.toNatClampNeg) fun (x_55 : Int32) => loopF (Mc2 p0 p1 cnt) n (x_51, x_55, τ) := rfl
theorem mc2_loop {p0 p1 cnt : Int32} {τ : MS} {z C : Nat} (hz : z + 2 + C < 39990) (h22 : ∀ k, k < C → τ.2 22 (z + 2 + k) = J (if k + 1 < C then ((z + 2 + k + 1 : Nat) : Int) else -1)) : ∀ d k n, k + d = C → d < n → loopF (Mc2 p0 p1 cnt) n (J (k : Nat), J (if k < C then ((z + 2 + k : Nat) : Int) else -1), τ) = Mce p0 p1 cnt (J (C : Nat)) τ := by
  intro d
  induction d with
  | zero =>
    intro k n hk hn
    obtain ⟨n, rfl⟩ : ∃ e, n = e + 1 := ⟨n - 1, by omega⟩
    rw [Mc2_s, if_neg (show ¬ k < C by omega), if_pos (by decide), show k = C by omega]
  | succ d ih =>
    intro k n hk hn
    obtain ⟨n, rfl⟩ : ∃ e, n = e + 1 := ⟨n - 1, by omega⟩
    have g := g_en (n := z + 2 + k) (by omega)
    rw [Mc2_s, if_pos (show k < C by omega), if_neg (J_nlt0 (by omega) (by omega)), bndE, if_neg g, bndE, (ng (n := z + 2 + k) (by omega)).2, h22 k (by omega), show J (k : Nat) + 1 = J (k + 1 : Nat) by rw [J_lit, J_add]; rfl]
    exact ih (k + 1) n (by omega) (by omega)
/-- rows but those of meanings are as they were -/
def AGM (σs τ : MS) : Prop := (∀ k, k = 17 ∨ k = 18 ∨ k = 19 ∨ k = 22 → τ.2 k = σs.2 k) ∧ (∀ y, σs.2 17 y ≠ J 41 → τ.2 20 y = σs.2 20 y) ∧ ∀ y, σs.2 17 y ≠ J 41 → σs.2 17 y ≠ J 42 → σs.2 17 y ≠ J 43 → σs.2 17 y ≠ J 33 → τ.2 21 y = σs.2 21 y
/-- what is known of definitions' names -/
def DFE (T : Nat) (kd vl rv : Nat → Int) (Θ Γs : HS) (σs σK : MS) (DN : Nat → Nat → Nat → Prop) : Prop := ∀ u, u ≤ T → kd u = 2 → ksF Θ vl u = 6 → ∃ z C : Nat, σK.2 30 (rv u).toNat = J (z : Nat) ∧ z + 2 + C < 39990 ∧ σs.2 17 z = J 6 ∧ C ≤ 4096 ∧ σs.2 20 z = J (if 0 < C then ((z + 2 : Nat) : Int) else -1) ∧ (∀ k, k < C → σs.2 22 (z + 2 + k) = J (if k + 1 < C then ((z + 2 + k + 1 : Nat) : Int) else -1)) ∧ (Γs 5).2.1 4 (nsF Θ vl u) = J (C : Nat) ∧ nsF Θ vl u < 100 ∧ DN (nsF Θ vl u) z C
/-- tables of names, kept -/
def K3 (σK τ : MS) : Prop := τ.2 28 = σK.2 28 ∧ τ.2 29 = σK.2 29 ∧ τ.2 30 = σK.2 30
theorem KE_K {Θ : HS} {σK τ : MS} (h : KE T kd vl rv Θ σK) (i : K3 σK τ) : KE T kd vl rv Θ τ := fun u hu hk => by rw [i.1, i.2.1]; exact h u hu hk
theorem srt_n {G : Nat → HS} {Θ : HS} {t : Nat} (h : kd (t - 1) ≠ 242) : srt G Θ kd vl t = (if snF G vl t = 0 then ksF Θ vl t else 7) ∧ nmb G Θ kd vl t = (if snF G vl t = 0 then nsF Θ vl t else (snF G vl t - 1).toNat) := ⟨if_neg h, if_neg h⟩
theorem r_callEnd (hT : TKE T N kd vl rv pl) (hN : NMI T kd vl rv) {G : Nat → HS} {Θ Γs : HS} {σs σK τ : MS} {DN : Nat → Nat → Nat → Prop} {i c s m D : Nat} {ts sl : Nat → Nat} (hK : KE T kd vl rv Θ σK) (hD : DFE T kd vl rv Θ Γs σs σK DN) (hC : SC T kd vl (G i) s m D ts sl) (hw : WS3 rv τ s m ts sl) (h3 : K3 σK τ) (hA : AGM σs τ) (hi : i ≤ T) (hk : kd i = 2) (hk1 : kd (i - 1) ≠ 242) (hk40 : kd (i + 1) = 40) (hc : c ≤ 5000) (hn : (Γs 1).2.1 6 i = J (c : Nat)) (rec : GF) (n : Nat) : ∃ υ, loopF (Mc1 rec (J (rv i)) (J (pl i : Nat))) (n + 1) (J (c : Nat), J (-1), τ) = some ((0 : Int32), υ) ∧ (badB G Θ Γs kd vl i → υ = noF τ (ntF (flt τ) 3 (pl i))) ∧ (¬ badB G Θ Γs kd vl i → υ = τ) := by
  have hE := KE_K hK h3
  have hv := SC_vl hT hi hk
  obtain ⟨b1, b2⟩ := srt_n (vl := vl) (G := G) (Θ := Θ) hk1
  have eW : Wr (J (pl i : Nat)) τ = some ((0 : Int32), noF τ (ntF (flt τ) 3 (pl i))) := by unfold Wr; rw [r_wrong]; rfl
  have bad : ¬ (srt G Θ kd vl i = 6 ∧ (Γs 1).2.1 6 i = (Γs 5).2.1 4 (nmb G Θ kd vl i)) → badB G Θ Γs kd vl i := fun h => Or.inl ⟨hk, hk1, Or.inl ⟨hk40, h⟩⟩
  have nbad : srt G Θ kd vl i = 6 → (Γs 1).2.1 6 i = (Γs 5).2.1 4 (nmb G Θ kd vl i) → ¬ badB G Θ Γs kd vl i := by
    rintro h1 h2 (⟨-, -, h | h | h | h⟩ | h | h)
    · exact h.2 ⟨h1, h2⟩
    · omega
    · omega
    · omega
    · omega
    · omega
  have e6 : F_X12_is (J (rv i)) 6 τ = some (J (if ksF Θ vl i = 6 then 1 else 0), τ) := r_is hT hE hi hk (c := 6) (by omega)
  have eS := r_slotOf hT hN hC hw hi hk
  rw [Mc1_s, if_pos (by decide), e6, Option.bind_some]
  by_cases q6 : ksF Θ vl i = 6
  · rw [if_pos q6] at e6 ⊢
    obtain ⟨z, C, z1, z2, z3, z4, z5, z6, z7, z8, z9⟩ := hD i hi hk q6
    have g8 := ng8 (r := rv i) (by omega)
    have gz := g_en (n := z) (by omega)
    rw [if_neg J1_ne, if_neg g8.1, g8.2, bndE]
    dsimp only
    rw [h3.2.2, z1, if_neg gz, (ng (n := z) (by omega)).2, bndE, hA.2.1 z (by rw [z3]; exact J_ne (by omega) (by omega) (by omega) (by omega) (by omega)), z5]
    have l := mc2_loop (p0 := J (rv i)) (p1 := J (pl i : Nat)) (cnt := J (c : Nat)) (τ := τ) z2 (fun k hk' => by rw [hA.1 22 (by omega)]; exact z6 k hk') C 0 FU (by omega) (FU_gt (by omega))
    rw [show (z + 2 + 0) = z + 2 from rfl] at l
    rw [show (0 : Int32) = J ((0 : Nat) : Int) from rfl, l]
    unfold Mce
    rw [e6, Option.bind_some, if_neg J1_ne]
    dsimp only
    rw [eS, Option.bind_some]
    rcases snF_of hT hC hi hk with ⟨j, j1, j2, j3, j4⟩ | ⟨j1, j2⟩
    · rw [if_pos (show (0 : Int32) ≤ J (snF G vl i - 1) by rw [show (0 : Int32) = J 0 from rfl, J_le (by omega) (by omega) (by omega) (by omega)]; omega), eW]
      have hb := bad (fun h => by rw [b1, if_neg (by omega)] at h; omega)
      exact ⟨_, rfl, fun _ => rfl, fun h => absurd hb h⟩
    · rw [if_neg (show ¬ (0 : Int32) ≤ J (snF G vl i - 1) by rw [show (0 : Int32) = J 0 from rfl, J_le (by omega) (by omega) (by omega) (by omega)]; omega)]
      rw [if_pos j2] at b1 b2
      by_cases qc : C = c
      · rw [if_pos (by rw [qc])]
        have hb := nbad (by rw [b1, q6]) (by rw [hn, b2, z7, qc])
        exact ⟨τ, rfl, fun h => absurd h hb, fun _ => rfl⟩
      · have hcc : ¬ J (C : Nat) = J (c : Nat) := by rw [J_eq (by omega) (by omega) (by omega) (by omega)]; omega
        rw [if_neg hcc, eW]
        have hb := bad (fun h => hcc (by rw [← z7, ← hn, h.2, b2]))
        exact ⟨_, rfl, fun _ => rfl, fun h => absurd hb h⟩
  · rw [if_neg q6] at e6 ⊢
    rw [if_pos J0_eq]
    unfold Mce
    dsimp only
    rw [e6, Option.bind_some, if_pos J0_eq, eW]
    have hb := bad (fun h => by
      rw [b1] at h
      split at h
      · exact q6 h.1
      · omega)
    exact ⟨_, rfl, fun _ => rfl, fun h => absurd hb h⟩
