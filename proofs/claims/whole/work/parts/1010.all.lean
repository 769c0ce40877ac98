/-! every item: declared whatever was before; whole, if nothing was wrong before -/
variable {T N : Nat} {kd vl rv : Nat → Int} {pl : Nat → Nat}
theorem cN_of {is : Nat → Nat} {n q c : Nat} {σ : MS} {Γ : HS} (hD : DR T kd vl rv is n σ Γ) (hq : q < 7) (hc : σ.1 (fcq q) = J (c : Nat)) (hc5 : c ≤ 5000) : c = cN kd is q n := by
  obtain ⟨-, h2, h3⟩ := hD.1 q hq
  dsimp only at h2 h3
  rw [h2, J_eq (by omega) (by omega) (by omega) (by omega)] at hc
  omega
/-- what an item comes to, on both sides -/
def aItm (T N : Nat) (kd vl rv : Nat → Int) (pl : Nat → Nat) (σs : MS) (Γs : HS) (is : Nat → Nat) (n x : Nat) (σ : MS) : Prop := ∃ υ, F_X12_declareOne (J (x : Nat)) σ = some ((0 : Int32), υ) ∧ dT kd rv pl n (is n) x σ υ ∧ ∀ (τ : MS) (Γ : HS) (ta : Nat → Nat), agA σs τ → DR T kd vl rv is n σ Γ → G0 T N kd vl pl Γ → TA T kd rv ta (is n) σ → TAC T kd vl ta Γ → STT T kd vl rv τ Γ → (Γ 1).2.1 6 = (Γs 1).2.1 6 → fStp T N kd vl rv pl is σs n x σ υ τ Γ
theorem aRoom (hT : TKE T N kd vl rv pl) (hN : NMI T kd vl rv) (hp : plm T pl) (hpb : ∀ i, i ≤ T + 1 → pl i ≤ 5000) {σs σ : MS} {Γs : HS} {is : Nat → Nat} {n x hi : Nat} (k0 : kd (is n) = 230) (hI : PLC kd rv pl 1 σs x hi (is n) (is (n + 1))) (hhi : hi ≤ 39000) (hj : is (n + 1) ≤ T) (hA : agA σs σ) (hC : CNn σ n) (hn : n ≤ 4500) : aItm T N kd vl rv pl σs Γs is n x σ := by
  obtain ⟨c, c1, c2⟩ := hC 0 (by omega)
  obtain ⟨r1, r2⟩ := rRoom hT hpb hp hA k0 hI hhi hj hC hn c2 (by omega)
  refine ⟨_, r1, r2, fun τ Γ ta ha hD hG hTA hTC hST _ => ?_⟩
  obtain rfl := cN_of hD (by omega) c2 (by omega)
  have hx : x < 39990 := by have := hI.2.1; omega
  exact fStp_of ha hx hI.2.2.2.2.2.2.1 (by omega) (iRoom hT hN hpb k0 hI hj hD hG hTA hTC)
theorem aThing (hT : TKE T N kd vl rv pl) (hN : NMI T kd vl rv) (hp : plm T pl) (hpb : ∀ i, i ≤ T + 1 → pl i ≤ 5000) {σs σ : MS} {Γs : HS} {is : Nat → Nat} {n x hi : Nat} (k0 : kd (is n) = 231) (hI : PLC kd rv pl 2 σs x hi (is n) (is (n + 1))) (hhi : hi ≤ 39000) (hj : is (n + 1) ≤ T) (hA : agA σs σ) (hC : CNn σ n) (hn : n ≤ 4500) : aItm T N kd vl rv pl σs Γs is n x σ := by
  have hT1 := hT.1
  have hij := hI.1
  obtain ⟨c, c1, c2⟩ := hC 0 (by omega)
  obtain ⟨d, xs, ls, ts, js, p1, p2, p3, p4, p5, p6, p7, p8, p9⟩ := PLC_parts hI
  obtain ⟨r1, r2⟩ := rThing hT hpb hp hA k0 hI hhi (by omega) hj hC hn c2 (by omega) p1 p2 p3 p4 p5 p6 p7 p8 (by omega)
  refine ⟨_, r1, r2, fun τ Γ ta ha hD hG hTA hTC hST _ => ?_⟩
  obtain rfl := cN_of hD (by omega) c2 (by omega)
  have hx : x < 39990 := by have := hI.2.1; omega
  exact fStp_of ha hx hI.2.2.2.2.2.2.1 (by omega) (iThing hT hN hpb hp k0 hI hj hD hG hTA hTC p6 p7 p8)
theorem aVerb (hT : TKE T N kd vl rv pl) (hN : NMI T kd vl rv) (hp : plm T pl) (hpb : ∀ i, i ≤ T + 1 → pl i ≤ 5000) {σs σ : MS} {Γs : HS} {is : Nat → Nat} {n x hi : Nat} (hI : VRB kd rv pl σs x hi (is n) (is (n + 1))) (hx : x < 39990) (hhi : hi ≤ 39000) (hj : is (n + 1) ≤ T) (hA : agA σs σ) (hC : CNn σ n) (hn : n ≤ 4500) : aItm T N kd vl rv pl σs Γs is n x σ := by
  obtain ⟨c, c1, c2⟩ := hC 1 (by omega)
  obtain ⟨d, hd, r1, r2⟩ := rVerb hT hpb hp hA hI hhi hj hC hn c2 (by omega)
  refine ⟨_, r1, r2, fun τ Γ ta ha hD hG hTA hTC hST _ => ?_⟩
  obtain rfl := cN_of hD (by omega) c2 (by omega)
  exact fStp_of ha hx hI.2.2.2.1 (by omega) (iVerb hT hN hpb hp hI.1 hI.2.1 hd hj hD hG hTA hTC)
theorem aVar (hT : TKE T N kd vl rv pl) (hN : NMI T kd vl rv) (hp : plm T pl) (hpb : ∀ i, i ≤ T + 1 → pl i ≤ 5000) {σs σ : MS} {Γs : HS} {is : Nat → Nat} {n x hi : Nat} (hI : VRD kd vl rv pl σs x hi (is n) (is (n + 1))) (hx : x < 39990) (hhi : hi ≤ 39000) (hj : is (n + 1) ≤ T) (hA : agA σs σ) (hC : CNn σ n) (hn : n ≤ 4500) : aItm T N kd vl rv pl σs Γs is n x σ := by
  obtain ⟨c, c1, c2⟩ := hC 2 (by omega)
  obtain ⟨r1, r2⟩ := rVar hT hpb hp hA hI hhi hj hC hn c2 (by omega)
  refine ⟨_, r1, r2, fun τ Γ ta ha hD hG hTA hTC hST _ => ?_⟩
  obtain rfl := cN_of hD (by omega) c2 (by omega)
  exact fStp_of ha hx hI.2.2.2.2.2.1 (by omega) (iVar hT hN hpb hI hj hD hG hTA hTC)
theorem aArr (hT : TKE T N kd vl rv pl) (hN : NMI T kd vl rv) (hp : plm T pl) (hpb : ∀ i, i ≤ T + 1 → pl i ≤ 5000) {σs σ : MS} {Γs : HS} {is : Nat → Nat} {n x hi : Nat} (hI : ARD kd vl rv pl σs x hi (is n) (is (n + 1))) (hx : x < 39990) (hhi : hi ≤ 39000) (hj : is (n + 1) ≤ T) (hA : agA σs σ) (hC : CNn σ n) (hn : n ≤ 4500) : aItm T N kd vl rv pl σs Γs is n x σ := by
  obtain ⟨c, c1, c2⟩ := hC 3 (by omega)
  obtain ⟨r1, r2⟩ := rArr hT hpb hp hA hI hhi hj hC hn c2 (by omega)
  refine ⟨_, r1, r2, fun τ Γ ta ha hD hG hTA hTC hST _ => ?_⟩
  obtain rfl := cN_of hD (by omega) c2 (by omega)
  exact fStp_of ha hx hI.2.2.2.2.2.2.2.2.1 (by omega) (iArr hT hN hpb hp hI hj hD hG hTA hTC)
