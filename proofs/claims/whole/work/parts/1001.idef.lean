/-! definitions: told and declared -/
variable {T N : Nat} {kd vl rv : Nat → Int} {pl : Nat → Nat}
def dfF (pl : Nat → Nat) (a : Int32 × Int32) (i e : Nat) : Int32 × Int32 := lenF a (pl e + 1) (pl i) (pl (i + 1))
def dfX (pl : Nat → Nat) (X : MS) (i e : Nat) : MS := noF X (dfF pl (flt X) i e)
theorem rDef (hT : TKE T N kd vl rv pl) (hpb : ∀ i, i ≤ T + 1 → pl i ≤ 5000) (hp : plm T pl) {σs σ : MS} {x i e m n c : Nat} (hA : agA σs σ) (k0 : kd i = 235) (k1 : kd (i + 1) = 2) (hx : x < 39980) (hm : m < 39990) (h17 : σs.2 17 x = J 6) (h18 : σs.2 18 x = J (pl i)) (h19 : σs.2 19 x = J (x + 1 : Nat)) (hN : NMN rv pl σs (x + 1) (i + 1)) (h21 : σs.2 21 x = J (m : Nat)) (he : σs.2 18 m = J (pl e + 1 : Nat)) (hi : i + 1 ≤ T) (hpe : pl e < 5000) (hC : CNn σ n) (hn : n ≤ 4500) (hc : σ.1 (fcq 4) = J (c : Nat)) (hc5 : c ≤ 5000) : F_X12_declareOne (J (x : Nat)) σ = some ((0 : Int32), dfX pl (nmX rv pl σ i 100 4 c 6 c x) i e) ∧ dT kd rv pl n i x σ (dfX pl (nmX rv pl σ i 100 4 c 6 c x) i e) := by
  have hpi := hpb i (by omega)
  have hpi1 := hpb (i + 1) (by omega)
  have hXA : agA σs (nmX rv pl σ i 100 4 c 6 c x) := nmX_agA hA (by unfold fcq; rw [if_neg (by omega)]; omega)
  constructor
  · refine rNm (w := 6) (num := (c : Nat)) (q := 4) (lim := 100) hT hA hi k1 hx h17 h19 hN (Or.inr (Or.inr (Or.inr (Or.inr ⟨rfl, rfl, rfl, rfl⟩)))) hc hc5 ?_
    rw [D8_6]
    obtain ⟨u, e1, e2⟩ := D24_ok (y := x + 1) (x := x) (m := m) (e := pl e + 1) (i := pl i) (P := pl (i + 1)) (w := 6) (σ := nmX rv pl σ i 100 4 c 6 c x) (by omega) hm (by omega) (by rw [hXA 21 (by omega) (by omega)]; exact h21) (by rw [hXA 18 (by omega) (by omega)]; exact he) (by rw [hXA 18 (by omega) (by omega)]; exact h18) ⟨by omega, by omega⟩ (Or.inl ⟨rfl, by rw [hXA 19 (by omega) (by omega)]; exact h19, by omega, by rw [hXA 18 (by omega) (by omega)]; exact hN.2.1⟩)
    rw [e1, e2]; rfl
  · refine dT_nmX hp hpb hi ?_ (Or.inl rfl) hC hn (by omega) hc hc5 (by omega) (by omega) ⟨by omega, by rw [k0]; rfl, by rw [k0]; rfl, by rw [k0]; rfl⟩
    rw [nmX_flt]
    have := hp i (i + 1) (by omega) (by omega)
    unfold dfF lenF
    split
    · exact nGe_rfl
    · exact nGe_nt (by omega) (by omega) hpi1
/-- a fault stays -/
def cDd (Γ Δ : HS) : Prop := cfM Γ Δ ∧ Δ 1 = Γ 1 ∧ (Δ 3).1 16 = (Γ 3).1 16 ∧ (Δ 3).1 17 = (Γ 3).1 17
theorem cDd_rfl {Γ : HS} : cDd Γ Γ := ⟨cfM_rfl, rfl, rfl, rfl⟩
theorem cDd_trans {Γ Δ Θ : HS} (h : cDd Γ Δ) (i : cDd Δ Θ) : cDd Γ Θ := ⟨cfM_trans h.1 i.1, by rw [i.2.1, h.2.1], by rw [i.2.2.1, h.2.2.1], by rw [i.2.2.2, h.2.2.2]⟩
theorem cDd_TKc {Γ Δ : HS} (h : cDd Γ Δ) (hc : TKc N kd vl pl Γ) : TKc N kd vl pl Δ := by unfold TKc; rw [h.2.1]; exact hc
theorem cDd_m3 {Γ Δ : HS} (h : m3 Γ Δ) : cDd Γ Δ := ⟨m3_cfM h, h.1 1 (by omega), m3_16 h, h.2.1 17 (by omega) (by omega) (by omega) (by omega) (by omega)⟩
theorem fail_no {Γ : HS} {f : Int} (g p : Int32) (h16 : (Γ 3).1 16 = J f) (hf : 0 < f ∧ f ≤ 6) : F_X4_fail g p Γ = some ((0 : Int32), Γ) := by
  unfold F_X4_fail
  rw [if_neg (by rw [h16]; exact Jg6_ne hf)]
theorem tl_dead (hT : TKE T N kd vl rv pl) {Γ : HS} {t : Nat} {f : Int} (hp : Int32) (hc : TKc N kd vl pl Γ) (h16 : (Γ 3).1 16 = J f) (hf : 0 < f ∧ f ≤ 6) (ht : t < N) : F_X4_tellLocal (J (t : Nat)) hp Γ = some ((0 : Int32), Γ) := by
  unfold F_X4_tellLocal
  rw [c_worthOf hT hc ht, Option.bind_some]
  simp only [bndE, mrg1_id]
  rw [fail_no _ _ h16 hf, fail_no _ _ h16 hf]
  repeat' split
  all_goals rfl
theorem see_any (p : Int32) (Γ : HS) : ∃ Δ, F_X4_see p Γ = some ((0 : Int32), Δ) ∧ m3 Γ Δ := ⟨_, rfl, m3_trans (m3_I (by omega)) (m3_trans (m3_A (by omega)) (m3_trans (m3_A (by omega)) (m3_I (by omega))))⟩
def Dl1 : ((Int32 × HS) → HR) → Int32 × HS → HR := (fun (again_12 : (Int32 × HS) → HR) (s_11 : Int32 × HS) => ( if ((s_11.2 1).1 2) ≤ s_11.1 then ( some (0, s_11.2) ) else ( (F_X10_kindOf s_11.1 s_11.2).bind fun u_18 => bnd (mrg (fun j => j == 1) s_11.2 u_18.2) fun σ_20 => if u_18.1 = 2 then ( bnd (fun (t_24 : Int32) (σ_25 : HS) => ( (F_X4_tellLocal s_11.1 t_24 σ_25).bind fun u_29 => (F_X10_worthOf s_11.1 u_29.2).bind fun u_31 => bnd (mrg (fun j => j == 1) u_29.2 u_31.2) fun σ_33 => (F_X4_see u_31.1 σ_33).bind fun u_35 => bnd (s_11.1 + 2) fun (x_37 : Int32) => again_12 (x_37, u_35.2) ) : Int32 → HS → HR) fun j_26 => if 6 ≤ ((σ_20 3).1 8) then ( j_26 0 σ_20 ) else ( j_26 1 σ_20 ) ) else ( some (0, σ_20) ) ) ))
theorem Dl1_s (n : Nat) (l : Int32) (Γ : HS) : loopF Dl1 (n + 1) (l, Γ) = if ((Γ 1).1 2) ≤ l then some ((0 : Int32), Γ) else (F_X10_kindOf l Γ).bind fun u_18 => bnd (mrg (fun j => j == 1) Γ u_18.2) fun σ_20 => if u_18.1 = 2 then (bnd (fun (t_24 : Int32) (σ_25 : HS) => ((F_X4_tellLocal l t_24 σ_25).bind fun u_29 => (F_X10_worthOf l u_29.2).bind fun u_31 => bnd (mrg (fun j => j == 1) u_29.2 u_31.2) fun σ_33 => (F_X4_see u_31.1 σ_33).bind fun u_35 => bnd (l + 2) fun (x_37 : Int32) => loopF Dl1 n (x_37, u_35.2) : HR)) fun j_26 => if 6 ≤ ((σ_20 3).1 8) then j_26 0 σ_20 else j_26 1 σ_20) else some ((0 : Int32), σ_20) := rfl
theorem tellDef_eq (p0 : Int32) (Γ : HS) : F_X4_tellDef p0 Γ = (F_X4_tellItem (p0 + 1) 6 4 100 Γ).bind fun u_1 => (F_X4_isTooLong p0 u_1.2).bind fun u_3 => bnd (fun (σ_5 : HS) => (bnd (cI' σ_5 3 8 0) fun σ_9 => loopF Dl1 FU ((p0 + 3), σ_9) : HR)) fun j_6 => if u_3.1 = 0 then j_6 u_3.2 else (F_X4_fail 5 (p0 + 1) u_3.2).bind fun u_46 => j_6 u_46.2 := rfl
/-- one name of a list; and its end -/
theorem dl_step (hT : TKE T N kd vl rv pl) {Γ : HS} {t n : Nat} (hc : TKc N kd vl pl Γ) (ht : t < N) : loopF Dl1 (n + 1) (J (t : Nat), Γ) = if kd t = 2 then ((F_X4_tellLocal (J (t : Nat)) (if 6 ≤ (Γ 3).1 8 then 0 else 1) Γ).bind fun u_29 => (F_X10_worthOf (J (t : Nat)) u_29.2).bind fun u_31 => (F_X4_see u_31.1 (mrg (fun j => j == 1) u_29.2 u_31.2)).bind fun u_35 => loopF Dl1 n (J (t + 2 : Nat), u_35.2)) else some ((0 : Int32), Γ) := by
  have hNN := TKE_N hT
  have hkr := kd_le hT ht
  rw [Dl1_s, if_neg (by rw [hc.1, J_le (by omega) (by omega) (by omega) (by omega)]; omega), c_kindOf hT hc ht, Option.bind_some]
  simp only [bndE, mrg1_id]
  have et : J (t : Nat) + 2 = J (t + 2 : Nat) := by rw [J_lit, J_add]; rfl
  rw [et]
  by_cases q : kd t = 2
  · rw [if_pos (show J (kd t) = 2 by rw [q]; rfl), if_pos q]
    by_cases q6 : 6 ≤ (Γ 3).1 8
    · rw [if_pos q6, if_pos q6]
    · rw [if_neg q6, if_neg q6]
  · rw [if_neg (show ¬ J (kd t) = 2 by rw [show (2 : Int32) = J 2 from rfl, J_eq (by omega) (by omega) (by omega) (by omega)]; exact q), if_neg q]
/-- a list behind a fault -/
theorem dl_dead (hT : TKE T N kd vl rv pl) {f : Int} (hf : 0 < f ∧ f ≤ 6) : ∀ (d t : Nat) (Γ : HS), t + d = N → TKc N kd vl pl Γ → (Γ 3).1 16 = J f → 1 ≤ d → ∃ Δ, (∀ n, d < n → loopF Dl1 n (J (t : Nat), Γ) = some ((0 : Int32), Δ)) ∧ cDd Γ Δ := by
  have hNN := TKE_N hT
  intro d
  induction d using Nat.strongRecOn with
  | ind d ih =>
    intro t Γ htd hc h16 hd
    by_cases q : kd t = 2
    · obtain ⟨Δ, e1, e2⟩ := see_any (J (vl t)) Γ
      have hd2 := cDd_m3 e2
      have st : ∀ n, loopF Dl1 (n + 1) (J (t : Nat), Γ) = loopF Dl1 n (J (t + 2 : Nat), Δ) := fun n => by
        rw [dl_step hT hc (by omega), if_pos q, tl_dead hT _ hc h16 hf (by omega), Option.bind_some, c_worthOf hT hc (by omega), Option.bind_some, mrg1_id, e1, Option.bind_some]
      by_cases q1 : d = 1
      · exfalso
        have : t = N - 1 := by omega
        rw [this, hNN.2.2.2] at q
        omega
      · by_cases q2 : d = 2
        · refine ⟨Δ, fun n hn => ?_, hd2⟩
          obtain ⟨n, rfl⟩ : ∃ z, n = z + 2 := ⟨n - 2, by omega⟩
          rw [show n + 2 = n + 1 + 1 by omega, st, Dl1_s, if_pos (by rw [(cDd_TKc hd2 hc).1, J_le (by omega) (by omega) (by omega) (by omega)]; omega)]
        · obtain ⟨Θ, e3, e4⟩ := ih (d - 2) (by omega) (t + 2) Δ (by omega) (cDd_TKc hd2 hc) (by rw [hd2.2.2.1]; exact h16) (by omega)
          refine ⟨Θ, fun n hn => ?_, cDd_trans hd2 e4⟩
          obtain ⟨n, rfl⟩ : ∃ z, n = z + 1 := ⟨n - 1, by omega⟩
          rw [st]
          exact e3 n (by omega)
    · refine ⟨Γ, fun n hn => ?_, cDd_rfl⟩
      obtain ⟨n, rfl⟩ : ∃ z, n = z + 1 := ⟨n - 1, by omega⟩
      rw [dl_step hT hc (by omega), if_neg q]
