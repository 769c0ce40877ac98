/-! where a thing is told to be -/
variable {T N : Nat} {kd vl rv : Nat → Int} {pl : Nat → Nat}
theorem WEF_obj {Θ : HS} {cl : List Int} {t : Nat} {Γ Δ : HS} (h : WEF Θ kd vl cl t Γ Δ) (hk : kd t = 230 ∨ kd t = 231) : m3 (obS Γ (nsF Θ vl (t + 1)) (if kd t = 230 then 1 else 0) (J (vl (t + 2)))) Δ := by
  unfold WEF at h; rw [if_pos hk] at h; exact h
theorem WEF_txt {Θ : HS} {cl : List Int} {t : Nat} {Γ Δ : HS} (h : WEF Θ kd vl cl t Γ Δ) (hk : kd t = 238) : m3 (dsS Γ (J (vl (t + 1)))) Δ := by
  unfold WEF at h; rw [if_neg (by omega), if_pos hk] at h; exact h
theorem WEF_trt {Θ : HS} {cl : List Int} {t : Nat} {Γ Δ : HS} (h : WEF Θ kd vl cl t Γ Δ) (hk : 206 ≤ kd t ∧ kd t ≤ 212) : m3 (IWtrait (J (kd t)) Γ) Δ := by
  unfold WEF at h; rw [if_neg (by omega), if_neg (by omega), if_pos hk] at h; exact h
theorem WEF_exi {Θ : HS} {cl : List Int} {t : Nat} {Γ Δ : HS} (h : WEF Θ kd vl cl t Γ Δ) (hk : kd t = 239) : m3 (exS Γ (J (kd (t + 1))) (J (nsF Θ vl (t + 2) : Nat))) Δ := by
  unfold WEF at h; rw [if_neg (by omega), if_neg (by omega), if_neg (by omega), if_pos hk] at h; exact h
theorem WEF_in {Θ : HS} {cl : List Int} {t : Nat} {Γ Δ : HS} (h : WEF Θ kd vl cl t Γ Δ) (hk : kd t = 219) : m3 (inS Γ (if kd (t + 1) = 228 then 1 else J (nsF Θ vl (t + 1) : Nat))) Δ := by
  unfold WEF at h; rw [if_neg (by omega), if_neg (by omega), if_neg (by omega), if_neg (by omega), if_pos hk] at h; exact h
theorem WEF_wrd {Θ : HS} {cl : List Int} {t : Nat} {Γ Δ : HS} (h : WEF Θ kd vl cl t Γ Δ) (hk : kd t = 240) : ∃ (o : Nat) (E : HS), 1 ≤ o ∧ o ≤ 120 ∧ (Γ 3).1 13 = J (o : Nat) ∧ OWN kd vl cl o (t + 1) Γ E ∧ m3 E Δ := by
  unfold WEF at h; rw [if_neg (by omega), if_neg (by omega), if_neg (by omega), if_neg (by omega), if_neg (by omega), if_pos hk] at h; exact h
theorem WEF_vrb {Θ : HS} {cl : List Int} {t : Nat} {Γ Δ : HS} (h : WEF Θ kd vl cl t Γ Δ) (hk : kd t = 232) : ∃ E : HS, VBW kd vl cl (nsF Θ vl (t + 1)) t Γ E ∧ m3 E Δ := by
  unfold WEF at h; rw [if_neg (by omega), if_neg (by omega), if_neg (by omega), if_neg (by omega), if_neg (by omega), if_neg (by omega), if_pos hk] at h; exact h
theorem WEF_var {Θ : HS} {cl : List Int} {t : Nat} {Γ Δ : HS} (h : WEF Θ kd vl cl t Γ Δ) (hk : kd t = 233) : m3 (vrS Γ (nsF Θ vl (t + 1)) (if kd (t + 3) = 45 then J (-(vl (t + 4))) else J (vl (t + 3)))) Δ := by
  unfold WEF at h; rw [if_neg (by omega), if_neg (by omega), if_neg (by omega), if_neg (by omega), if_neg (by omega), if_neg (by omega), if_neg (by omega), if_pos hk] at h; exact h
theorem gput_at {m n x : Nat} {f : Nat → Int32} {v : Int32} (h : n < m) (h2 : m < 100000) : g_put m f (J (n : Nat)) v x = if x = n then v else f x := by
  rw [q_g_put_in (i := (n : Nat)) (by omega) (by omega) (by omega), Int.toNat_natCast, upd_s]
/-- a thing's place, as a part leaves it -/
theorem WEF_start {Θ : HS} {cl : List Int} {g : Int} {σ : MS} {x hi i j n : Nat} {Γ Δ : HS} (hP : PRT kd rv pl g σ x hi i j) (h : WEF Θ kd vl cl i Γ Δ) (h13 : (Γ 3).1 13 = J (n : Nat)) (hn : n ≤ 120) : (Δ 4).2.1 4 n = (if kd i = 219 then (if kd (i + 1) = 228 then 1 else J (nsF Θ vl (i + 1) : Nat)) else (Γ 4).2.1 4 n) := by
  obtain ⟨hk, -⟩ := PRT_key hP
  by_cases q : kd i = 219
  · rw [if_pos q, (WEF_in h q).1 4 (by omega)]
    unfold inS
    rw [cA4, if_pos rfl, h13, gput_at (by omega) (by omega), if_pos rfl]
  rw [if_neg q]
  by_cases q1 : kd i = 238
  · rw [(WEF_txt h q1).1 4 (by omega)]
    unfold dsS
    rw [cA4, if_neg (by omega)]
  by_cases q2 : kd i = 239
  · rw [(WEF_exi h q2).1 4 (by omega)]
    unfold exS
    rw [cA4, if_neg (by omega)]
  by_cases q3 : kd i = 240
  · obtain ⟨o, E, -, -, -, a, b⟩ := WEF_wrd h q3
    rw [b.1 4 (by omega), (OWN_fr a).1 4 (by omega) (by omega)]
  · rw [(WEF_trt h (by omega)).1 4 (by omega)]
    unfold IWtrait
    rw [cA4, if_neg (by omega)]
theorem WEF_13 {Θ : HS} {cl : List Int} {g : Int} {σ : MS} {x hi i j : Nat} {Γ Δ : HS} (hP : PRT kd rv pl g σ x hi i j) (h : WEF Θ kd vl cl i Γ Δ) : (Δ 3).1 13 = (Γ 3).1 13 := by
  obtain ⟨hk, -⟩ := PRT_key hP
  have m := fun {Γ1 : HS} (hm : m3 Γ1 Δ) => hm.2.1 13 (by omega) (by omega) (by omega) (by omega) (by omega)
  by_cases q : kd i = 219
  · exact (m (WEF_in h q)).trans rfl
  by_cases q1 : kd i = 238
  · exact (m (WEF_txt h q1)).trans rfl
  by_cases q2 : kd i = 239
  · exact (m (WEF_exi h q2)).trans rfl
  by_cases q3 : kd i = 240
  · obtain ⟨o, E, -, -, -, a, b⟩ := WEF_wrd h q3
    rw [m b]
    obtain ⟨c, K, -, -, rfl, rfl, h⟩ := a
    have : ∀ e, e ≤ c → K e 3 = K 0 3 := by
      intro e
      induction e with
      | zero => intro _; rfl
      | succ e ih => intro he; rw [(AWR_D (h e (by omega))).2 3 (by omega) (by omega), ih (by omega)]
    rw [this c (Nat.le_refl _)]
  · exact (m (WEF_trt h (by omega))).trans rfl
def Tp1  : ((Int32 × Int32 × MS) → MR) → Int32 × Int32 × MS → MR := (fun (again_6 : (Int32 × Int32 × MS) → MR) (s_5 : Int32 × Int32 × MS) => ( if s_5.2.1 < 0 then ( some (s_5.1, s_5.2.2) ) else ( if s_5.2.1 < 0 ∨ 40000 ≤ s_5.2.1.toNatClampNeg then none else bnd (fun (v2_14 : Int32) (σ_15 : MS) => ( if s_5.2.1 < 0 ∨ 40000 ≤ s_5.2.1.toNatClampNeg then none else bnd ((σ_15.2 22 s_5.2.1.toNatClampNeg)) fun (x_21 : Int32) => again_6 (v2_14, x_21, σ_15) ) : Int32 → MS → MR) fun j_16 => if (s_5.2.2.2 17 s_5.2.1.toNatClampNeg) = 13 then ( if s_5.2.1 < 0 ∨ 40000 ≤ s_5.2.1.toNatClampNeg then none else bnd (fun (t_27 : Int32) (σ_28 : MS) => ( j_16 t_27 σ_28 ) : Int32 → MS → MR) fun j_29 => if 0 ≤ (s_5.2.2.2 19 s_5.2.1.toNatClampNeg) then ( if s_5.2.1 < 0 ∨ 40000 ≤ s_5.2.1.toNatClampNeg then none else bnd ((s_5.2.2.2 19 s_5.2.1.toNatClampNeg)) fun (x_36 : Int32) => if x_36 < 0 ∨ 40000 ≤ x_36.toNatClampNeg then none else bnd ((s_5.2.2.2 19 x_36.toNatClampNeg)) fun (x_40 : Int32) => if x_40 < 0 ∨ 8000 ≤ x_40.toNatClampNeg then none else j_29 (s_5.2.2.2 29 x_40.toNatClampNeg) s_5.2.2 ) else ( j_29 1 s_5.2.2 ) ) else ( j_16 s_5.1 s_5.2.2 ) ) ))
theorem toldPlace_eq (p0 : Int32) (σ : MS) : F_X12_toldPlace p0 σ = if p0 < 0 ∨ 40000 ≤ p0.toNatClampNeg then none else bnd (σ.2 20 p0.toNatClampNeg) fun x => loopF Tp1 FU (0, x, σ) := rfl
theorem Tp1_s (n : Nat) (a l : Int32) (τ : MS) : loopF Tp1 (n + 1) (a, l, τ) = if l < 0 then some (a, τ) else if l < 0 ∨ 40000 ≤ l.toNatClampNeg then none else if τ.2 17 l.toNatClampNeg = 13 then (if l < 0 ∨ 40000 ≤ l.toNatClampNeg then none else if 0 ≤ τ.2 19 l.toNatClampNeg then (if l < 0 ∨ 40000 ≤ l.toNatClampNeg then none else if τ.2 19 l.toNatClampNeg < 0 ∨ 40000 ≤ (τ.2 19 l.toNatClampNeg).toNatClampNeg then none else if τ.2 19 (τ.2 19 l.toNatClampNeg).toNatClampNeg < 0 ∨ 8000 ≤ (τ.2 19 (τ.2 19 l.toNatClampNeg).toNatClampNeg).toNatClampNeg then none else if l < 0 ∨ 40000 ≤ l.toNatClampNeg then none else loopF Tp1 n (τ.2 29 (τ.2 19 (τ.2 19 l.toNatClampNeg).toNatClampNeg).toNatClampNeg, τ.2 22 l.toNatClampNeg, τ)) else if l < 0 ∨ 40000 ≤ l.toNatClampNeg then none else loopF Tp1 n (1, τ.2 22 l.toNatClampNeg, τ)) else if l < 0 ∨ 40000 ≤ l.toNatClampNeg then none else loopF Tp1 n (a, τ.2 22 l.toNatClampNeg, τ) := rfl
/-- one part of a thing, for its place -/
theorem tp_part (hT : TKE T N kd vl rv pl) {σs υ : MS} {Θ : HS} {x hi i j : Nat} (hP : PRT kd rv pl 2 σs x hi i j) (hA : AGM σs υ) (hKE : KE T kd vl rv Θ υ) (hh : hi ≤ 39900) (hj : j ≤ T) (hg : kd i = 219 → kd (i + 1) = 2 → ksF Θ vl (i + 1) ≠ 0) (n : Nat) (a : Int32) : loopF Tp1 (n + 1) (a, J (x : Nat), υ) = loopF Tp1 n ((if kd i = 219 then (if kd (i + 1) = 228 then 1 else J (nsF Θ vl (i + 1) : Nat)) else a), σs.2 22 x, υ) := by
  obtain ⟨p1, p2, p3, hP⟩ := hP
  obtain ⟨en, en2⟩ := en_of (show x < 39990 by omega)
  rw [Tp1_s, if_neg (J_nlt0 (by omega) (by omega))]
  rw [en2] at en
  rw [en2]
  simp only [if_neg en]
  rw [ag_k hA (show (17 : Nat) = 17 ∨ 17 = 18 ∨ 17 = 19 ∨ 17 = 22 by omega) x, ag_k hA (show (22 : Nat) = 17 ∨ 22 = 18 ∨ 22 = 19 ∨ 22 = 22 by omega) x, ag_k hA (show (19 : Nat) = 17 ∨ 19 = 18 ∨ 19 = 19 ∨ 19 = 22 by omega) x]
  rcases hP with ⟨m0, m1, m2, m3, m4, m5, m6⟩ | ⟨m0, m1, m2, m3, m4⟩ | ⟨m0, m1, m2, m3, m4, m5, m6, m7, m8, m9, m10⟩ | ⟨m0, m1, m2, m3, m4, m5, m6, m7⟩ | ⟨m0, m1, m2, m3, m4, m5, m6, m7, m8⟩ | ⟨e, he, m0, m1, m2, m3, m4, m5, m6⟩ | ⟨m0, m1, m2, m3, m4, m5, m6⟩
  · rw [m4, if_neg (by decide), if_neg (show ¬ kd i = 219 by omega)]
  · omega
  · omega
  · rw [m4, if_pos (show J 13 = 13 from rfl), m7, if_neg (show ¬ (0 : Int32) ≤ J (-1) by decide), if_pos m0.2, if_pos m1]
  · have hv := SC_vl hT (show i + 1 ≤ T by omega) m1
    obtain ⟨gn, gn2⟩ := en_of (show x + 1 < 39990 by omega)
    obtain ⟨q1, q2, q3⟩ := m8
    obtain ⟨k1, k2, k3, k4⟩ := hKE (i + 1) (by omega) m1
    rw [m4, if_pos (show J 13 = 13 from rfl), m7, if_pos (show (0 : Int32) ≤ J (x + 1 : Nat) by rw [show (0 : Int32) = J 0 from rfl, J_le (by omega) (by omega) (by omega) (by omega)]; omega), if_neg gn, gn2, ag_k hA (show (19 : Nat) = 17 ∨ 19 = 18 ∨ 19 = 19 ∨ 19 = 22 by omega) (x + 1), q3, if_neg (show ¬ (J (rv (i + 1)) < 0 ∨ 8000 ≤ (J (rv (i + 1))).toNatClampNeg) by rintro (c | c); exact J_nlt0 (by omega) (by omega) c; rw [J_nat (by omega) (by omega)] at c; omega), J_nat (by omega) (by omega), k2 (hg m0.2 m1), if_pos m0.2, if_neg (show ¬ kd (i + 1) = 228 by omega)]
  · rw [m3, if_neg (by decide), if_neg (show ¬ kd i = 219 by omega)]
  · rw [m4, if_neg (by decide), if_neg (show ¬ kd i = 219 by omega)]
/-- a thing's place, by both -/
theorem r_told (hT : TKE T N kd vl rv pl) {σs υ : MS} {Θ : HS} {cl : List Int} {x hi i j n : Nat} {Γ E : HS} (hI : PLC kd rv pl 2 σs x hi i j) (hk : kd i = 231) (hF : FLT Θ kd vl cl i j Γ E) (hA : AGM σs υ) (hKE : KE T kd vl rv Θ υ) (hh : hi ≤ 39900) (hj : j ≤ T) (h17 : σs.2 17 x = J 2) (hn : nsF Θ vl (i + 1) = n) (hn2 : 1 ≤ n ∧ n ≤ 120) (h0 : (Γ 4).2.1 4 n = 0) (hg : ∀ u, i ≤ u → u < j → kd u = 219 → kd (u + 1) = 2 → ksF Θ vl (u + 1) ≠ 0) : F_X12_toldPlace (J (x : Nat)) υ = some ((E 4).2.1 4 n, υ) := by
  have hx1 := hI.2.1
  obtain ⟨f, cc, xs, it, H, f1, f2, f3, f4, f5, f6, f7, f8, f9, f10⟩ := pl_row hI (Or.inr hk) hF
  obtain ⟨en, en2⟩ := en_of (show x < 39990 by omega)
  have e1 := WEF_obj f7 (Or.inr hk)
  have h13 : (H 0 3).1 13 = J (n : Nat) := by
    rw [e1.2.1 13 (by omega) (by omega) (by omega) (by omega) (by omega), ← hn]; rfl
  have h40 : (H 0 4).2.1 4 n = 0 := by
    rw [e1.1 4 (by omega)]
    unfold obS
    rw [cA4, if_neg (by omega), cA4, if_neg (by omega)]
    exact h0
  have hH13 : ∀ k, k ≤ cc → (H k 3).1 13 = J (n : Nat) := by
    intro k
    induction k with
    | zero => intro _; exact h13
    | succ k ih =>
      intro hkc
      obtain ⟨-, hi', hP, -⟩ := f6 k (by omega)
      rw [WEF_13 hP (f8 k (by omega))]; exact ih (by omega)
  have key : ∀ d k, k + d = cc → ∀ m, d < m → loopF Tp1 m ((H k 4).2.1 4 n, J (if k < cc then (xs k : Int) else -1), υ) = some ((H cc 4).2.1 4 n, υ) := by
    intro d
    induction d with
    | zero =>
      intro k hkc m hm
      obtain rfl : k = cc := by omega
      obtain ⟨m, rfl⟩ : ∃ e, m = e + 1 := ⟨m - 1, by omega⟩
      rw [if_neg (by omega), Tp1_s, if_pos (by decide)]
    | succ d ih =>
      intro k hkc m hm
      obtain ⟨m, rfl⟩ : ∃ e, m = e + 1 := ⟨m - 1, by omega⟩
      obtain ⟨g1, hi', hP, g2, g3⟩ := f6 k (by omega)
      have g4 := f10 k (by omega)
      have g5 := f10 (k + 1) (by omega)
      rw [if_pos (show k < cc by omega), tp_part hT hP hA hKE (by omega) (by omega) (fun a b => hg (it k) (by omega) (by omega) a b), f3 k (by omega), ← WEF_start hP (f8 k (by omega)) (hH13 k (by omega)) hn2.2]
      exact ih (k + 1) (by omega) m (by omega)
  rw [toldPlace_eq, if_neg en, bndE, en2, ag_20 hA h17 (by omega), f1, f2]
  have hcc := f10 cc (Nat.le_refl _)
  have := key cc 0 (by omega) FU (FU_gt (by have := hT.1; omega))
  rw [h40] at this
  rw [show (if cc = 0 then -1 else (xs 0 : Int)) = (if 0 < cc then (xs 0 : Int) else -1) by split <;> split <;> first | rfl | omega, this, f9.1 4 (by omega)]
