/-! the second going: its beginning, its end -/
variable {T N : Nat} {kd vl rv : Nat → Int} {pl : Nat → Nat}
/-- the names' table at the beginning -/
theorem OWL_of {v : Nat} (h : v ∈ OWL) : 1 ≤ v ∧ v ≤ 11 ∧ v ≠ 7 := by
  unfold OWL at h
  simp only [List.mem_cons, List.not_mem_nil, or_false] at h
  omega
theorem OWL_in {v : Nat} (h : 1 ≤ v ∧ v ≤ 11 ∧ v ≠ 7) : v ∈ OWL := by
  unfold OWL
  simp only [List.mem_cons, List.not_mem_nil, or_false]
  omega
theorem vnm_vof {n : Nat} (h : 1 ≤ vof n) : vnm (vof n) = n := by
  unfold vof at h ⊢
  unfold vnm
  repeat' split at h
  all_goals repeat' split
  all_goals omega
theorem vof_vnm {v : Nat} (h : 1 ≤ v ∧ v ≤ 11) : vof (vnm v) = v := by
  unfold vof vnm
  repeat' split
  all_goals omega
theorem vnm_lt {v : Nat} (h : 1 ≤ v ∧ v ≤ 11) : vnm v < 67 := by
  unfold vnm
  repeat' split
  all_goals omega
/-- a name is an own verb's, as both have it -/
theorem own_iff {b : Nat → Int} {L m : Nat} {nm : Nat → List Int} {cl : List Int} (hF : NMF b L T m nm cl kd vl rv pl) (hT : TKE T N kd vl rv pl) {Γ : HS} (hc : cnam cl Γ) (h67 : 67 ≤ cl.length) (hK : ∀ c, c < 67 → cl.getD c 0 = pk (KWC.getD c [])) {u v : Nat} (hu : u ≤ T) (hk : kd u = 2) (hv : 1 ≤ v ∧ v ≤ 11) : nm (rv u).toNat = KW v ↔ vof (vl u).toNat = v := by
  obtain ⟨f1, f2, f3, f4, f5, -⟩ := hF u hu hk
  have hvn := vnm_lt hv
  unfold KW
  rw [f3]
  constructor
  · intro h
    have := hc.2.2.1 (vl u).toNat (vnm v) f2 (by omega) (by rw [f4, h, hK _ hvn])
    rw [this]; exact vof_vnm hv
  · intro h
    have e : vnm v = (vl u).toNat := by rw [← h]; exact vnm_vof (by omega)
    refine (pk_inj f5 (KWC_nm _ hvn)).mp ?_
    rw [← f4, ← e, hK _ hvn]
theorem tab_0 {b : Nat → Int} {L m : Nat} {nm : Nat → List Int} {cl : List Int} (hF : NMF b L T m nm cl kd vl rv pl) (hT : TKE T N kd vl rv pl) {Γ : HS} (hc : cnam cl Γ) (h67 : 67 ≤ cl.length) (hK : ∀ c, c < 67 → cl.getD c 0 = pk (KWC.getD c [])) {σ : MS} (hO : OWI m nm OWL σ) {u : Nat} (hu : u ≤ T) (hk : kd u = 2) : (1 ≤ vof (vl u).toNat → σ.2 28 (rv u).toNat = J 3 ∧ σ.2 29 (rv u).toNat = J (vof (vl u).toNat : Nat) ∧ σ.2 30 (rv u).toNat = J (-1)) ∧ (vof (vl u).toNat = 0 → σ.2 28 (rv u).toNat = 0) := by
  obtain ⟨f1, f2, f3, f4, f5, -⟩ := hF u hu hk
  have hvl := SC_vl hT hu hk
  have h7 : vof (vl u).toNat ≠ 7 := by
    intro e
    have := vnm_vof (n := (vl u).toNat) (by omega)
    rw [e] at this
    have e2 : vnm 7 = 10 := rfl
    omega
  have hr := vof_rng (vl u).toNat
  obtain ⟨o1, o2⟩ := hO (rv u).toNat f1
  refine ⟨fun h => ?_, fun h => o2 (fun v hv e => ?_)⟩
  · exact o1 _ (OWL_in ⟨h, hr, h7⟩) ((own_iff hF hT hc h67 hK hu hk ⟨h, hr⟩).mpr rfl)
  · have hv := OWL_of hv
    have := (own_iff hF hT hc h67 hK hu hk ⟨hv.1, hv.2.1⟩).mp e
    omega
/-- what the class has when the second going begins -/
def stG (Γ : HS) : HS := cI' (cI' (cI' (cI' (cI' (cI' Γ 3 7 0) 3 8 0) 3 9 (-1)) 3 11 0) 3 12 0) 3 15 0
theorem itm_at {c : Nat} {is : Nat → Nat} : ∀ (d k i : Nat), k + d = c → is k ≤ i → i < is c → ∃ z, z < c ∧ is z ≤ i ∧ i < is (z + 1) := by
  intro d
  induction d with
  | zero => intro k i hk h1 h2; rw [show k = c by omega] at h1; omega
  | succ d ih =>
    intro k i hk h1 h2
    by_cases q : i < is (k + 1)
    · exact ⟨k, by omega, h1, q⟩
    · exact ih (k + 1) i (by omega) (by omega) h2
/-- what the class has gathered -/
def gaR (T : Nat) (kd vl : Nat → Int) (c : Nat) (is : Nat → Nat) (Γ Δ : HS) (t : Nat → Nat) : Prop := (∀ r, r ≠ 3 → Δ r = Γ r) ∧ (Δ 3).1 = (Γ 3).1 ∧ (∀ k, k ≠ 2 → k ≠ 3 → k ≠ 4 → k ≠ 5 → (Δ 3).2.1 k = (Γ 3).2.1 k) ∧ (∀ n, n < 4500 → (Δ 3).2.1 2 n = J (t n : Nat) ∧ (Δ 3).2.1 3 n = (if 1 ≤ vof n then J 3 else J 0) ∧ (1 ≤ vof n → (Δ 3).2.1 4 n = J (vof n : Nat)) ∧ (Δ 3).2.1 5 n = J 0) ∧ (∀ n, n < 4500 → (t n = 0 ↔ 1 ≤ vof n)) ∧ (∀ n, n < 4500 → t n = 0 ∨ t n = 16001 ∨ ∃ z, z < c ∧ kd (is z) ≤ 235 ∧ t n = is z + 1 ∧ (vl (is z + 1)).toNat = n) ∧ ∀ z, z < c → kd (is z) ≤ 235 → t (vl (is z + 1)).toNat ≤ is z + 1
theorem c_gather (hT : TKE T N kd vl rv pl) {cl : List Int} {Γ : HS} {c : Nat} {is : Nat → Nat} (hc : TKc N kd vl pl Γ) (hcn : cnam cl Γ) (hl : cl.length < 4500) (h67 : 67 ≤ cl.length) (hK : ∀ c, c < 67 → cl.getD c 0 = pk (KWC.getD c [])) (hit : ∀ i, i < N → 230 ≤ kd i → kd i ≤ 235 → ∃ z, z < c ∧ i = is z) (hge : ∀ z, z < c → 230 ≤ kd (is z)) (hk2 : ∀ z, z < c → kd (is z) ≤ 235 → kd (is z + 1) = 2 ∧ is z + 1 ≤ T) : ∃ (Δ : HS) (t : Nat → Nat), F_X4_gatherItems Γ = some ((0 : Int32), Δ) ∧ gaR T kd vl c is Γ Δ t := by
  obtain ⟨n1, n2, n3, n4⟩ := TKE_N hT
  obtain ⟨F, hF, hF2⟩ := FU_1
  have g := gaS_id Γ
  generalize e2 : (Γ 3).2.1 2 = a2 at g
  generalize e3 : (Γ 3).2.1 3 = a3 at g
  generalize e4 : (Γ 3).2.1 4 = a4 at g
  generalize e5 : (Γ 3).2.1 5 = a5 at g
  have h0 : F_X4_gatherItems Γ = loopF Ga1 FU (J (KS5s.getD 0 0 : Nat), J (0 + 1 : Nat), gaS Γ (V2 (g_fill 4500 a2 16001) (fun _ => 0) 0) (V2 (g_fill 4500 a3 0) (fun _ => 3) 0) (V2 a4 (fun n => J (vof n)) 0) (g_fill 4500 a5 0)) := by
    have hV : ∀ f x : Nat → Int32, V2 f x 0 = f := fun f x => funext fun n => if_neg (by omega)
    rw [hV, hV, hV, gather_eq]
    simp only [bndE]
    rw [e2, show ((cA' Γ 3 2 (g_fill 4500 a2 16001)) 3).2.1 3 = a3 from e3, show ∀ f, ((cA' (cA' Γ 3 2 (g_fill 4500 a2 16001)) 3 3 f) 3).2.1 5 = a5 from fun _ => e5]
    rw [show cA' (cA' (cA' Γ 3 2 (g_fill 4500 a2 16001)) 3 3 (g_fill 4500 a3 0)) 3 5 (g_fill 4500 a5 0) = gaS Γ (g_fill 4500 a2 16001) (g_fill 4500 a3 0) a4 (g_fill 4500 a5 0) by
      conv => lhs; rw [← g]
      rw [gaS_2, gaS_3, gaS_5]]
    rfl
  have h1 := ga_loop hcn hl h67 hK (g_fill 4500 a2 16001) (g_fill 4500 a3 0) a4 (g_fill 4500 a5 0) 11 0 FU (by omega) (FU_gt (by omega))
  have hv0 : ∀ n, vof n ≤ 11 := vof_rng
  obtain ⟨t2', t', h2, h3, h4, h5, h6⟩ := gb_loop hT hc hit hge hk2 (V2 (g_fill 4500 a3 0) (fun _ => 3) 11) (V2 a4 (fun n => J (vof n)) 11) (g_fill 4500 a5 0) N 0 FU (V2 (g_fill 4500 a2 16001) (fun _ => 0) 11) (fun n => if 1 ≤ vof n then 0 else 16001) (by omega) (FU_gt (by omega)) (fun n hn => by
    unfold V2
    by_cases q : 1 ≤ vof n
    · rw [if_pos ⟨q, hv0 n⟩, if_pos q]; rfl
    · rw [if_neg (by omega), if_neg q]; unfold g_fill; rw [if_pos hn]; rfl) ⟨fun n hn => by dsimp only; split <;> omega, fun n hn => by
    by_cases q : 1 ≤ vof n
    · exact Or.inl (if_pos q)
    · exact Or.inr (Or.inl (if_neg q)), fun z z1 z2 => by omega⟩
  refine ⟨_, t', h0.trans (h1.trans h2), fun r hr => if_neg hr, rfl, fun k k2 k3 k4 k5 => ?_, fun n hn => ⟨h3 n hn, ?_, fun hv => ?_, ?_⟩, h4, fun n hn => ?_, fun z z1 z2 => h6 z z1 ?_ z2⟩
  · show (if k = 2 then _ else if k = 3 then _ else if k = 4 then _ else if k = 5 then _ else (Γ 3).2.1 k) = _
    rw [if_neg k2, if_neg k3, if_neg k4, if_neg k5]
  · show V2 (g_fill 4500 a3 0) (fun _ => 3) 11 n = _
    unfold V2
    by_cases q : 1 ≤ vof n
    · rw [if_pos ⟨q, hv0 n⟩, if_pos q]; rfl
    · rw [if_neg (by omega), if_neg q]; unfold g_fill; rw [if_pos hn]; rfl
  · show V2 a4 (fun n => J (vof n)) 11 n = _
    unfold V2
    rw [if_pos ⟨hv, hv0 n⟩]
  · show g_fill 4500 a5 0 n = _
    unfold g_fill; rw [if_pos hn]; rfl
  · rcases h5 n hn with h | h | ⟨z, z1, z2, z3, z4⟩
    · exact Or.inl h
    · exact Or.inr (Or.inl h)
    · exact Or.inr (Or.inr ⟨z, z1, z2, z4⟩)
  · have := (hk2 z z1 z2).2; omega
