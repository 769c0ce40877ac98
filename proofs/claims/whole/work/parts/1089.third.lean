/-! the third going, whole -/
variable {T N : Nat} {kd vl rv : Nat → Int} {pl : Nat → Nat}
theorem W3_end (hT : TKE T N kd vl rv pl) {Γ : HS} (hc : TKc N kd vl pl Γ) (h16 : (Γ 3).1 16 = J 0) (h12 : (Γ 3).1 12 = J 0) (hkT : kd T = 0) (n : Nat) : loopF W3 (n + 2) (J (T : Nat), Γ) = E3 Γ := by
  obtain ⟨n1, n2, n3, n4⟩ := TKE_N hT
  have hN : N = T + 1 := by
    rcases hT.2.2.1 with ⟨-, h⟩ | ⟨h, -⟩
    · exact h
    · omega
  have hq2 : qf (kd T) := by rw [hkT]; unfold qf; omega
  rw [show n + 2 = n + 1 + 1 from rfl, W3_go hT hc (by omega) h16, if_pos (show (Γ 3).1 12 = 0 from h12), ci_no hT hc (by omega) ⟨by omega, by omega, by omega, by omega, by omega, by omega⟩, Option.bind_some, fs_q hT hc (by omega) hq2, Option.bind_some, W3_s]
  unfold W3
  rw [bndE, if_pos (by show (Γ 1).1 2 ≤ _; rw [hc.1, hN, J_le (by omega) (by omega) (by omega) (by omega)]; omega)]
theorem INM_of (hT : TKE T N kd vl rv pl) (hp : plm T pl) {σs : MS} {Γs : HS} {c : Nat} {ls is : Nat → Nat} {S : Nat → MS} {τ : MS} {Θ : HS} (h : SDN T N kd vl rv pl σs Γs c ls is S τ Θ) : INM kd vl Θ c is := by
  intro z hz hk
  obtain ⟨hS, h0, hm, hi, hfl, hc, hb, hr, hTB, hI, hI2⟩ := id h
  obtain ⟨w1, w2⟩ := hI2 z hz hk
  obtain ⟨e1, e2⟩ := kt hT hp h w2 w1
  obtain ⟨r1, r2, r3, r4⟩ := row_itm hp hS h0 hm hi hfl hz ⟨(hI z hz).1, hk⟩
  have hl := row_lim hp hS h0 hm hi hfl hc hz
  have hIz := (hI z hz).1
  have e28 : τ.2 28 = (S c).2 28 := hr.2 28 (by omega)
  have e29 : τ.2 29 = (S c).2 29 := hr.2 29 (by omega)
  rw [e28, r2] at e1
  obtain ⟨-, -, k3, k4⟩ := KE_of hT hp h (is z + 1) w2 w1
  have eks : ksF Θ vl (is z + 1) = kd (is z) - 229 := by
    rw [J_eq (by omega) (by omega) (by omega) (by omega)] at e1; omega
  have hin : inum kd is z ≤ limK (kd (is z)) := by
    unfold inum; split <;> omega
  have hlim : limK (kd (is z)) ≤ 200 := by
    unfold limK
    repeat' split
    all_goals omega
  have en : nsF Θ vl (is z + 1) = inum kd is z := by
    rcases e2 with e2 | ⟨e2, e3⟩
    · omega
    · rw [e29, r3] at e2
      have hns : nsF Θ vl (is z + 1) < 1000 := by
        rcases e3 with ⟨v1, v2, v3, -⟩ | ⟨z', z1, z2, z3, z4, z5, z6, -⟩
        · have := vof_rng (vl (is z + 1)).toNat; omega
        · have hl' := row_lim hp hS h0 hm hi hfl hc z1
          have hlim' : limK (kd (is z')) ≤ 200 := by
            unfold limK
            repeat' split
            all_goals omega
          rw [z6]
          unfold inum; split <;> omega
      rw [J_eq (by omega) (by omega) (by omega) (by omega)] at e2; omega
  have c11 : kd (is z) = 232 → 11 ≤ cN kd is (qOf (kd (is z))) z := fun e => by
    have := cN_le (kd := kd) (is := is) (q := qOf (kd (is z))) (a := 0) z
    rw [Nat.zero_add] at this
    have e0 : cN kd is (qOf (kd (is z))) 0 = 11 := by rw [e]; rfl
    omega
  refine ⟨eks, en, fun e => ?_, fun e => ?_, fun e => ?_, fun e => ?_⟩
  · have : limK (kd (is z)) = 120 := by unfold limK; rw [if_pos e]
    unfold inum at hin ⊢
    rw [if_pos (by omega)] at hin ⊢
    omega
  · have : limK (kd (is z)) = 60 := by rw [e]; rfl
    have := c11 e
    unfold inum at hin ⊢
    rw [if_pos (by omega)] at hin ⊢
    omega
  · have : limK (kd (is z)) = 100 := by rw [e]; rfl
    unfold inum at hin ⊢
    rw [if_neg (by omega)] at hin ⊢
    omega
  · have : limK (kd (is z)) = 20 := by rw [e]; rfl
    unfold inum at hin ⊢
    rw [if_neg (by omega)] at hin ⊢
    omega
/-- what the names of objects and verbs can be -/
theorem nam_of (hT : TKE T N kd vl rv pl) (hp : plm T pl) {σs : MS} {Γs : HS} {c : Nat} {ls is : Nat → Nat} {S : Nat → MS} {τ : MS} {Θ : HS} (h : SDN T N kd vl rv pl σs Γs c ls is S τ Θ) {u : Nat} (hu : u ≤ T) (hk : kd u = 2) : (ksF Θ vl u = 1 ∨ ksF Θ vl u = 2 → ∃ z, z < c ∧ kd (is z) = ksF Θ vl u + 229 ∧ nsF Θ vl u = inum kd is z) ∧ (ksF Θ vl u = 3 → 1 ≤ nsF Θ vl u ∧ nsF Θ vl u ≤ 60) := by
  have hN := INM_of hT hp h
  obtain ⟨e1, e2⟩ := kt hT hp h hu hk
  rcases e2 with e2 | ⟨-, ⟨v1, v2, v3, -⟩ | ⟨z, z1, z2, z3, z4, z5, z6, -⟩⟩
  · exact ⟨fun h => by omega, fun h => by omega⟩
  · have := vof_rng (vl u).toNat
    exact ⟨fun h => by omega, fun _ => by omega⟩
  · refine ⟨fun h => ⟨z, z1, by omega, z6⟩, fun h => ?_⟩
    have := (hN z z1 z3).2.2.2.1 (by omega)
    omega
theorem hfm_of (hT : TKE T N kd vl rv pl) (hp : plm T pl) {σs : MS} {Γs : HS} {c : Nat} {ls is : Nat → Nat} {S : Nat → MS} {τ : MS} {Θ : HS} (h : SDN T N kd vl rv pl σs Γs c ls is S τ Θ) (hV : VFE T kd vl rv Θ σs τ) (hA : AGM σs τ) : ∀ u, u ≤ T → kd u = 2 → ksF Θ vl u = 3 → 0 ≤ frm Θ vl u ∧ frm Θ vl u ≤ 2 ∧ nsF Θ vl u ≤ 60 := by
  intro u hu hk h3
  obtain ⟨F, -, a, b, -⟩ := hV u hu hk h3 τ hA ⟨rfl, rfl, rfl⟩
  exact ⟨by omega, by omega, ((nam_of hT hp h hu hk).2 h3).2⟩
theorem G0_CT3 (hT : TKE T N kd vl rv pl) {G : Nat → HS} {Θ Γs : HS} (h0 : G0 T N kd vl pl Θ) (hA : AGR T kd vl (G 0) (stG Θ)) (hr : ∀ r, r ≠ 3 → r ≠ 4 → Θ r = Γs r) : CT3 T N kd vl pl G Θ Γs 0 (stG Θ) := by
  refine ⟨⟨by rw [stG_o (by omega)]; exact h0.1.1, fun i hi => by rw [stG_o (by omega)]; exact h0.1.2 i hi⟩, ?_, hA, rfl, rfl, by rw [stG_o (by omega), hr 1 (by omega) (by omega)], by rw [stG_o (by omega), hr 5 (by omega) (by omega)]⟩
  rw [stG_3, if_neg (by omega), if_neg (by omega), if_neg (by omega), if_neg (by omega), if_neg (by omega), if_neg (by omega)]; exact h0.2.1
/-- the class's third going: a fault at the first bad word, or the story -/
theorem third {G : Nat → HS} {Θ Γs : HS} {σs σK : MS} {DN : Nat → Nat → Nat → Prop} (hE : MEN T N kd vl rv pl G Θ Γs σs σK DN) {cl : List Int} (hcl : cl.length ≤ 4500) (hvl : ∀ u, u ≤ T → kd u = 2 → (vl u).toNat < cl.length) {c : Nat} {ls is ps ds os es : Nat → Nat} {S : Nat → MS} (hSD : SDN T N kd vl rv pl σs Γs c ls is S σK Θ) (hV : VFE T kd vl rv Θ σs σK) (hAM : AGM σs σK) (hI : ITS kd vl rv pl σs Γs c ls is ps ds os es) (h0i : is 0 = 0) (hcT : is c = T) (hkT : kd T = 0) (hGZ : ∀ z, z ≤ c → GZ T kd vl (G (is z))) (hHB : ∀ z, z < c → ∃ b, HBZ T vl G kd is z b) (h0 : G0 T N kd vl pl Θ) (hA : AGR T kd vl (G 0) (stG Θ)) (hr : ∀ r, r ≠ 3 → r ≠ 4 → Θ r = Γs r) (hcn : cnam cl Θ) (hD : ∃ W, DOK Θ W) (hten : TEN Θ) : (∃ w, w < T ∧ badW G Θ Γs kd vl c is w ∧ (∀ v, v < w → ¬ badW G Θ Γs kd vl c is v) ∧ ∃ X, E2 Θ = some (J 3, X) ∧ (X 3).1 17 = J (pl w : Nat) ∧ ∀ r, r ≠ 1 → r ≠ 3 → r ≠ 4 → r ≠ 7 → X r = Θ r) ∨ ((∀ w, w < T → ¬ badW G Θ Γs kd vl c is w) ∧ ∃ K : Nat → HS, K 0 = stG Θ ∧ CROW T G Θ kd vl cl is c K ∧ CT3 T N kd vl pl G Θ Γs T (K c) ∧ CKP (stG Θ) (K c) ∧ (∃ W, DOK (K c) W) ∧ E2 Θ = E3 (K c)) := by
  obtain ⟨hT, hNI, hp, hpb, hX, hG⟩ := id hE
  have hT1 := hT.1
  have hTB : TB T kd vl rv σK Θ := hSD.2.2.2.2.2.2.2.2.1
  have hcn0 : cnam cl (stG Θ) := cnam_congr hcn (by rw [stG_o (by omega)]) (by rw [stG_o (by omega)]) (by rw [stG_o (by omega)])
  have hD0 : ∃ W, DOK (stG Θ) W := by
    obtain ⟨W, hW⟩ := hD
    exact ⟨W, DOK_7 hW (stG_o (by omega))⟩
  have key := c_items hE hTB hcl hvl hI (by omega) (hpre_of hI h0i) (INM_of hT hp hSD) (hfm_of hT hp hSD hV hAM) hGZ hHB c 0 (stG Θ) (by omega) (by rw [h0i]; exact G0_CT3 hT h0 hA hr) hcn0 hD0 (by rw [stG_o (by omega)])
  rw [h0i, hcT] at key
  have run : E2 Θ = loopF W3 FU (J (0 : Nat), stG Θ) := by
    unfold E2
    rw [startGoing_eq, Option.bind_some]; rfl
  have eFU : FU = 1000000000000 := rfl
  rcases key with ⟨w, w1, w2, w3, w4, X, x1, x2, x3⟩ | ⟨n1, E, e1, e2, K, k1, k2, k3, k4, k5⟩
  · refine Or.inl ⟨w, w2, w3, fun v hv => w4 v (Nat.zero_le _) hv, X, ?_, x2, fun r r1 r3 r4 r7 => by rw [x3 r r1 r3 r4 r7, stG_o r3]⟩
    rw [run]; exact x1 FU (by omega)
  · refine Or.inr ⟨fun w hw => n1 w (Nat.zero_le _) hw, K, k1, ⟨fun z hz => k3 z (Nat.zero_le _) hz, ?_, ?_⟩, by rw [k2]; exact e2, by rw [k2]; exact k4, by rw [k2]; exact k5, ?_⟩
    · rw [k1]; exact TEN_4 hten (by rw [stG_o (by omega)])
    · rw [k1, stG_3, if_pos rfl]; rfl
    · have e12 : (E 3).1 12 = J 0 := by
        rw [AGR_i e2.2.2.1 12 (by omega)]
        have := (hGZ c (Nat.le_refl _)).2.2
        rw [hcT] at this; exact this
      rw [run, k2, show FU = (FU - T - 2) + 2 + (T - 0) by omega, e1]
      exact W3_end hT e2.1 e2.2.1 e12 hkT _
