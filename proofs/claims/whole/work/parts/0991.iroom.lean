/-! rooms are told and declared alike -/
variable {T N : Nat} {kd vl rv : Nat → Int} {pl : Nat → Nat}
theorem rRoom (hT : TKE T N kd vl rv pl) (hpb : ∀ i, i ≤ T + 1 → pl i ≤ 5000) (hp : plm T pl) {σs σ : MS} {x hi i j n c : Nat} (hA : agA σs σ) (hk : kd i = 230) (hI : PLC kd rv pl 1 σs x hi i j) (hx : hi ≤ 39000) (hj : j ≤ T) (hC : CNn σ n) (hn : n ≤ 4500) (hc : σ.1 (fcq 0) = J (c : Nat)) (hc5 : c ≤ 5000) : F_X12_declareOne (J (x : Nat)) σ = some ((0 : Int32), nmX rv pl σ i 120 0 c 1 (c + 1 : Nat) x) ∧ dT kd rv pl n i x σ (nmX rv pl σ i 120 0 c 1 (c + 1 : Nat) x) := by
  obtain ⟨k1, k2, k3, k4, k5, k6, k7, k8, k9, k10, -⟩ := hI
  constructor
  · refine rNm (w := 1) (num := (c + 1 : Nat)) (q := 0) (lim := 120) hT hA (by omega) k3 (by omega) k7 k9 k10 (Or.inl ⟨by omega, by omega, rfl, rfl, rfl⟩) hc hc5 ?_
    rw [D8_14 (Or.inl rfl)]
  · exact dT_nmX hp hpb (by omega) nGe_rfl (Or.inl nmX_no.symm) hC hn (by omega) hc hc5 (by omega) (by omega) ⟨by omega, by rw [hk]; rfl, by rw [hk]; rfl, by rw [hk]; rfl⟩
/-- between a place's braces -/
theorem pl_words {g : Int} {σ : MS} {f : Int} {lo hi c i j q : Nat} (h : LST kd σ (PE kd rv pl g σ) 0 lo hi f c i j 0 q) (hg : g = 1) : ∀ t, i ≤ t → t < j → qp (kd t) := by
  refine LST_all h (by omega) ?_ (fun t ht => by rw [ht]; exact qp_of (by omega) (by omega) (by omega) (by omega) (by omega))
  rintro lo hi x i j p q ⟨-, -, hP⟩ t h1 h2
  obtain ⟨w1, w2, -⟩ := PRT_words hP
  by_cases e : t = i
  · subst e
    refine w2 (fun h240 => ?_)
    obtain ⟨-, -, -, ⟨h, -⟩ | ⟨⟨-, h⟩, -⟩ | ⟨⟨-, h⟩, -⟩ | ⟨⟨h, -⟩, -⟩ | ⟨⟨h, -⟩, -⟩ | ⟨c, hc, ⟨h, -⟩, -⟩ | ⟨⟨h, -⟩, -⟩⟩ := hP <;> omega
  · exact w1 t (by omega) h2
theorem opM_9 {Γ : HS} {s D : Nat} : ((opM Γ s D) 3).1 9 = (Γ 3).1 9 := rfl
theorem cI14_self {Γ : HS} : ∃ v : Int32, Γ = cI' Γ 3 14 v := ⟨(Γ 3).1 14, (cI_self rfl).symm⟩
theorem iRoom (hT : TKE T N kd vl rv pl) (hN : NMI T kd vl rv) (hpb : ∀ i, i ≤ T + 1 → pl i ≤ 5000) {σs σ : MS} {Γ : HS} {is ta : Nat → Nat} {x hi j n : Nat} (k0 : kd (is n) = 230) (hI : PLC kd rv pl 1 σs x hi (is n) j) (hj : j ≤ T) (hD : DR T kd vl rv is n σ Γ) (hG : G0 T N kd vl pl Γ) (hTA : TA T kd rv ta (is n) σ) (hTC : TAC T kd vl ta Γ) : iStp T N kd vl rv pl is n j σ (nmX rv pl σ (is n) 120 0 (cN kd is 0 n) 1 (cN kd is 0 n + 1 : Nat) x) Γ := by
  obtain ⟨k1, k2, k3, k4, k5, k6, k7, k8, k9, k10, k11, k12, k13, k14, ff, cc, k15, k16⟩ := hI
  have hNN := TKE_N hT
  obtain ⟨Γ1, e1, h⟩ := nm_step (x := x) (w := 1) (num := (cN kd is 0 n + 1 : Nat)) (q := 0) (lim := 120) hT hN hpb hD hG.1 hG.2.1 hTA hTC (by omega) k3 (by rw [k0]; rfl) (by omega) (Or.inl ⟨by omega, by omega, rfl, rfl, rfl⟩)
  have e2 : F_X4_tellWord (J (is n : Nat)) Γ = some ((0 : Int32), Γ1) := by
    rw [tw_230 hT hG.1 (by omega) k0, show F_X4_tellItem (J (is n + 1 : Nat)) 1 0 120 Γ = _ from e1]; rfl
  rcases h with ⟨f, f1, f2, f3⟩ | ⟨f1, f2, f3, f4, f5⟩
  · refine Or.inl ⟨f, is n + 1, by omega, by omega, by omega, ?_, fun hb => by rw [nmX_flt]; exact f3 hb⟩
    subst f2
    exact tw_fail hT hG.1 hG.2.1 (by omega) e2 (fs_q hT ⟨hG.1.1, hG.1.2⟩ (by omega) (by rw [k0]; unfold qf; omega)) ⟨hG.1.1, hG.1.2⟩ rfl rfl (by omega) failS_cfM
  · subst f2
    have hm : m5 Γ (tlS Γ 0 (cN kd is 0 n) (vl (is n + 1)) 1 (cN kd is 0 n + 1 : Nat)) := tlS_m5
    have hG1 := G0_tlS (q := 0) (c := cN kd is 0 n) (v := vl (is n + 1)) (w := 1) (num := (cN kd is 0 n + 1 : Nat)) hG
    have c1 : CW W2 Γ (is n) _ (is n + 1) := CW_go hT hG.1 (by omega) hG.2.1 e2 (fs_q hT hG1.1 (by omega) (by rw [k0]; unfold qf; omega)) rfl
    have c2 := W2_p hT hG1.1 hG1.2.1 hG1.2.2.1 (i := is n + 1) (j := is n + 3) (by omega) (by omega) (fun t t1 t2 => by
      by_cases z1 : t = is n + 1
      · rw [z1, k3]; exact qp_of (by omega) (by omega) (by omega) (by omega) (by omega)
      · rw [show t = is n + 2 by omega, k4]; exact qp_of (by omega) (by omega) (by omega) (by omega) (by omega))
    have c3 := W2_p hT (m3_TKc opM_m3 hG1.1) (by rw [m3_16 (opM_m3 (s := 0) (D := 0))]; exact hG1.2.1) (by rw [opM_9 (s := 0) (D := 0)]; exact hG1.2.2.1) (i := is n + 3 + 1) (j := j - 1) (by omega) (by omega) (pl_words k16 rfl)
    obtain ⟨Θ, c4, g4, m4⟩ := c_brace hT hG1 (i := is n + 3) (j := j) k5 k6 (by omega) (by omega) c3 cI14_self
    have mΘ : m3 (tlS Γ 0 (cN kd is 0 n) (vl (is n + 1)) 1 (cN kd is 0 n + 1 : Nat)) Θ := m3_trans opM_m3 m4
    refine Or.inr ⟨by rw [nmX_flt]; exact f1, Θ, CW_trans c1 (CW_trans c2 c4), m5_trans hm (m5_m3 mΘ), g4, ?_⟩
    exact DR_keep (DR_nam hD (by omega) (by omega) (by omega) (by omega) (f3 _) (f4 _)) (fun _ _ _ => rfl) rfl rfl (fun k _ => by rw [mΘ.1 4 (by omega)]) (fun k hk => mΘ.2.2 k (by omega) (by omega) (by omega))
