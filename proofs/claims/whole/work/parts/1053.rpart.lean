/-! rooms and things: their parts' names have their meanings -/
variable {T N : Nat} {kd vl rv : Nat → Int} {pl : Nat → Nat}
def Q101 (again : Int32 × MS → MR) (l : Int32) (σ : MS) : MR := if l < 0 ∨ 40000 ≤ l.toNatClampNeg then none else bnd (σ.2 22 l.toNatClampNeg) fun (x_106 : Int32) => again (x_106, σ)
def Q109 (again : Int32 × MS → MR) (l : Int32) (σ : MS) : MR := if l < 0 ∨ 40000 ≤ l.toNatClampNeg then none else bnd (σ.2 19 l.toNatClampNeg) fun (x_114 : Int32) => if x_114 < 0 ∨ 40000 ≤ x_114.toNatClampNeg then none else (F_X12_wrong (σ.2 18 x_114.toNatClampNeg) σ).bind fun u_118 => Q101 again l u_118.2
def Q121 (again : Int32 × MS → MR) (l : Int32) (σ : MS) : MR := if l < 0 ∨ 40000 ≤ l.toNatClampNeg then none else if (σ.2 17 l.toNatClampNeg) = 13 then (if l < 0 ∨ 40000 ≤ l.toNatClampNeg then none else if (σ.2 19 l.toNatClampNeg) < 0 then Q101 again l σ else (if l < 0 ∨ 40000 ≤ l.toNatClampNeg then none else bnd (σ.2 19 l.toNatClampNeg) fun (x_135 : Int32) => if x_135 < 0 ∨ 40000 ≤ x_135.toNatClampNeg then none else (F_X12_is (σ.2 19 x_135.toNatClampNeg) 1 σ).bind fun u_139 => if u_139.1 = 0 then (if l < 0 ∨ 40000 ≤ l.toNatClampNeg then none else bnd (u_139.2.2 19 l.toNatClampNeg) fun (x_145 : Int32) => if x_145 < 0 ∨ 40000 ≤ x_145.toNatClampNeg then none else (F_X12_is (u_139.2.2 19 x_145.toNatClampNeg) 2 u_139.2).bind fun u_149 => if u_149.1 = 0 then Q109 again l u_149.2 else Q101 again l u_149.2) else Q101 again l u_139.2)) else Q101 again l σ
def L92 (K : MS → MR) : ((Int32 × MS) → MR) → Int32 × MS → MR := fun again s => if s.1 < 0 then K s.2 else if s.1 < 0 ∨ 40000 ≤ s.1.toNatClampNeg then none else if (s.2.2 17 s.1.toNatClampNeg) = 12 then (if s.1 < 0 ∨ 40000 ≤ s.1.toNatClampNeg then none else bnd (s.2.2 19 s.1.toNatClampNeg) fun (x_160 : Int32) => if x_160 < 0 ∨ 40000 ≤ x_160.toNatClampNeg then none else (F_X12_is (s.2.2 19 x_160.toNatClampNeg) 1 s.2).bind fun u_164 => if u_164.1 = 0 then Q109 again s.1 u_164.2 else Q121 again s.1 u_164.2) else Q121 again s.1 s.2
theorem L92_s (K : MS → MR) (n : Nat) (l : Int32) (τ : MS) : loopF (L92 K) (n + 1) (l, τ) = if l < 0 then K τ else if l < 0 ∨ 40000 ≤ l.toNatClampNeg then none else if (τ.2 17 l.toNatClampNeg) = 12 then (if l < 0 ∨ 40000 ≤ l.toNatClampNeg then none else bnd (τ.2 19 l.toNatClampNeg) fun (x_160 : Int32) => if x_160 < 0 ∨ 40000 ≤ x_160.toNatClampNeg then none else (F_X12_is (τ.2 19 x_160.toNatClampNeg) 1 τ).bind fun u_164 => if u_164.1 = 0 then Q109 (loopF (L92 K) n) l u_164.2 else Q121 (loopF (L92 K) n) l u_164.2) else Q121 (loopF (L92 K) n) l τ := rfl
/-- the form of a verb's rule's WHATs -/
def frm (Θ : HS) (vl : Nat → Int) (v : Nat) : Int := ((Θ 4).2.1 7 (nsF Θ vl v)).toInt
def goodWh (Θ : HS) (kd vl : Nat → Int) (v t : Nat) : Prop := kd t = 255 ∨ (nsF Θ vl v = 11 ∧ 200 ≤ kd t ∧ kd t ≤ 205) ∨ (nsF Θ vl v ≠ 11 ∧ (kd t = 228 ∨ (kd t = 2 ∧ ksF Θ vl t = 2)))
/-- the bad words of the item that starts at a, outside of its block -/
def badA (Θ : HS) (kd vl : Nat → Int) (a t : Nat) : Prop :=
  (kd a = 230 ∧ kd (t - 2) = 239 ∧ kd t = 2 ∧ ksF Θ vl t ≠ 1)
  ∨ (kd a = 231 ∧ kd (t - 1) = 219 ∧ kd t = 2 ∧ ksF Θ vl t ≠ 1 ∧ ksF Θ vl t ≠ 2)
  ∨ (kd a = 236 ∧ t = a + 1 ∧ ksF Θ vl t ≠ 3)
  ∨ (kd a = 236 ∧ t = a + 2 ∧ kd t ≠ 123 ∧ ksF Θ vl (a + 1) = 3 ∧ ¬ (1 ≤ frm Θ vl (a + 1) ∧ goodWh Θ kd vl (a + 1) t))
  ∨ (kd a = 236 ∧ t = a + 3 ∧ kd (a + 2) ≠ 123 ∧ kd t ≠ 123 ∧ ksF Θ vl (a + 1) = 3 ∧ ¬ (2 ≤ frm Θ vl (a + 1) ∧ goodWh Θ kd vl (a + 1) t))
theorem badA_k {Θ : HS} {a t : Nat} (ha : kd a ≠ 236) (h : kd t ≠ 2) : ¬ badA Θ kd vl a t := by
  rintro (h' | h' | h' | h' | h')
  · exact h h'.2.2.1
  · exact h h'.2.2.1
  · exact ha h'.1
  · exact ha h'.1
  · exact ha h'.1
theorem r_part (hT : TKE T N kd vl rv pl) (hp : plm T pl) (hpb : ∀ i, i ≤ T + 1 → pl i ≤ 5000) {σs τ : MS} {Θ : HS} {g : Int} {t hi i j a : Nat} (hP : PRT kd rv pl g σs t hi i j) (hg : (g = 1 ∧ kd a = 230) ∨ (g = 2 ∧ kd a = 231)) (hA : AGM σs τ) (hKE : KE T kd vl rv Θ τ) (hh : hi ≤ 39900) (hj : j ≤ T) : ∃ b : Int32 × Int32, (∀ (K : MS → MR) (n : Nat), loopF (L92 K) (n + 1) (J (t : Nat), τ) = loopF (L92 K) n (σs.2 22 t, noF τ b)) ∧ NT pl (badA Θ kd vl a) i j (flt τ) b := by
  obtain ⟨p1, p2, p3, hP⟩ := hP
  obtain ⟨en, en2⟩ := en_of (show t < 39990 by omega)
  have ha : kd a ≠ 236 := by omega
  have e17 := ag_k hA (show (17 : Nat) = 17 ∨ 17 = 18 ∨ 17 = 19 ∨ 17 = 22 by omega) t
  -- goes on
  have go : ∀ (K : MS → MR) (n : Nat) (υ : MS), AGM σs υ → Q101 (loopF (L92 K) n) (J (t : Nat)) υ = loopF (L92 K) n (σs.2 22 t, υ) := by
    intro K n υ hυ
    unfold Q101
    rw [if_neg en, bndE, en2, ag_k hυ (by omega)]
  have noA : ∀ b, AGM σs (noF τ b) := fun b => AGM_noF hA
  have self : noF τ (flt τ) = τ := noF_id τ
  have pl1 : ∀ (K : MS → MR) (n : Nat) (w : Int), σs.2 17 t = J w → 0 ≤ w ∧ w < 1000 ∧ w ≠ 12 ∧ w ≠ 13 → loopF (L92 K) (n + 1) (J (t : Nat), τ) = loopF (L92 K) n (σs.2 22 t, τ) := by
    intro K n w h hw
    rw [L92_s, if_neg (J_nlt0 (by omega) (by omega)), if_neg en, en2, e17, h, if_neg (show ¬ J w = 12 from J_n (v := 12) (by omega) (by omega) (by omega))]
    unfold Q121
    rw [if_neg en, en2, e17, h, if_neg (show ¬ J w = 13 from J_n (v := 13) (by omega) (by omega) (by omega))]
    exact go K n τ hA
  have plain : ∀ w : Int, σs.2 17 t = J w → 0 ≤ w ∧ w < 1000 ∧ w ≠ 12 ∧ w ≠ 13 → (∀ u, i ≤ u → u < j → ¬ badA Θ kd vl a u) → ∃ b : Int32 × Int32, (∀ (K : MS → MR) (n : Nat), loopF (L92 K) (n + 1) (J (t : Nat), τ) = loopF (L92 K) n (σs.2 22 t, noF τ b)) ∧ NT pl (badA Θ kd vl a) i j (flt τ) b := by
    intro w h hw hb
    exact ⟨flt τ, fun K n => by rw [self]; exact pl1 K n w h hw, NT_none hb⟩
  have nk : ∀ u, kd u ≠ 2 → ¬ badA Θ kd vl a u := fun u hu => badA_k ha hu
  -- a fault at a name's node
  have bad : ∀ (K : MS → MR) (n y w : Nat), y < 39990 → σs.2 19 t = J (y : Nat) → σs.2 18 y = J (pl w : Nat) → Q109 (loopF (L92 K) n) (J (t : Nat)) τ = loopF (L92 K) n (σs.2 22 t, noF τ (ntF (flt τ) 3 (pl w))) := by
    intro K n y w hy h19 h18
    obtain ⟨gn, gn2⟩ := en_of hy
    unfold Q109
    rw [if_neg en, bndE, en2, ag_k hA (by omega), h19, if_neg gn, gn2, ag_k hA (by omega), h18, r_wrong, Option.bind_some]
    exact go K n _ (noA _)
  rcases hP with ⟨k0, k1, k2, k3, k4, k5, k6⟩ | ⟨k0, k1, k2, k3, k4⟩ | ⟨k0, k1, k2, k3, k4, k5, k6, k7, k8, k9, k10⟩ | ⟨k0, k1, k2, k3, k4, k5, k6, k7⟩ | ⟨k0, k1, k2, k3, k4, k5, k6, k7, k8⟩ | ⟨c, hc, k0, k1, k2, k3, k4, k5, k6⟩ | ⟨k0, k1, k2, k3, k4, k5, k6⟩
  · refine plain 10 k4 (by omega) (fun u u1 u2 => nk u ?_)
    by_cases e1 : u = i
    · rw [e1]; omega
    by_cases e2 : u = i + 1
    · rw [e2]; omega
    · rw [show u = j - 1 by omega]; omega
  · refine plain 11 k3 (by omega) (fun u u1 u2 => nk u ?_)
    by_cases e1 : u = i
    · rw [e1]; omega
    · rw [show u = j - 1 by omega]; omega
  · -- an exit
    obtain ⟨hn1, hn2, hn3⟩ := k9
    obtain ⟨gn, gn2⟩ := en_of (show t + 1 < 39990 by omega)
    have hiT : i + 2 ≤ T := by omega
    have hbad : badA Θ kd vl a (i + 2) ↔ ksF Θ vl (i + 2) ≠ 1 := by
      constructor
      · rintro (h' | h' | h' | h' | h')
        · exact h'.2.2.2
        · omega
        · omega
        · omega
        · omega
      · intro h'; exact Or.inl ⟨by omega, by rw [show i + 2 - 2 = i by omega]; exact k0.2, k3, h'⟩
    have ot : ∀ u, i ≤ u → u < j → u ≠ i + 2 → ¬ badA Θ kd vl a u := fun u u1 u2 u3 => nk u (by
      by_cases e1 : u = i
      · rw [e1]; omega
      by_cases e2 : u = i + 1
      · rw [e2]; omega
      · rw [show u = j - 1 by omega]; omega)
    have wide : ∀ b, NT pl (badA Θ kd vl a) (i + 2) (i + 2 + 1) (flt τ) b → NT pl (badA Θ kd vl a) i j (flt τ) b := fun b hb => NT_wide hp hb (by omega) (by omega) (by omega) (fun u u1 u2 => ot u u1 (by omega) (by omega)) (fun u u1 u2 => ot u (by omega) u2 (by omega))
    have head : ∀ (K : MS → MR) (n : Nat), loopF (L92 K) (n + 1) (J (t : Nat), τ) = if (J (if ksF Θ vl (i + 2) = 1 then 1 else 0)) = 0 then Q109 (loopF (L92 K) n) (J (t : Nat)) τ else Q121 (loopF (L92 K) n) (J (t : Nat)) τ := by
      intro K n
      have en3 := en
      rw [L92_s, if_neg (J_nlt0 (by omega) (by omega)), if_neg en, en2, e17, k6, if_pos (show J 12 = 12 from rfl)]
      rw [en2] at en3
      rw [if_neg en3, bndE, ag_k hA (by omega) t, k8, if_neg gn, gn2, ag_k hA (by omega) (t + 1), hn3, show F_X12_is (J (rv (i + 2))) 1 τ = _ from r_is hT hKE hiT k3 (c := 1) (by omega), Option.bind_some]
    by_cases q : ksF Θ vl (i + 2) = 1
    · refine ⟨flt τ, fun K n => ?_, wide _ (NT_one hpb (by omega) (fun h => absurd q (hbad.mp h)) (fun _ => rfl))⟩
      rw [head, if_pos q, if_neg J1_ne]
      unfold Q121
      rw [if_neg en, en2, e17, k6, if_neg (show ¬ J 12 = 13 by decide), self]
      exact go K n τ hA
    · refine ⟨ntF (flt τ) 3 (pl (i + 2)), fun K n => ?_, wide _ (NT_one hpb (by omega) (fun _ => rfl) (fun h => absurd (hbad.mpr q) h))⟩
      rw [head, if_neg q, if_pos J0_eq]
      exact bad K n (t + 1) (i + 2) (by omega) k8 hn2
  · -- in player
    refine ⟨flt τ, fun K n => ?_, NT_none (fun u u1 u2 => nk u ?_)⟩
    · rw [L92_s, if_neg (J_nlt0 (by omega) (by omega)), if_neg en, en2, e17, k4, if_neg (show ¬ J 13 = 12 by decide), self]
      unfold Q121
      rw [if_neg en, en2, e17, k4, if_pos (show J 13 = 13 from rfl)]
      rw [en2] at en
      rw [if_neg en, ag_k hA (by omega) t, k7, if_pos (by decide)]
      rw [← en2] at en
      exact go K n τ hA
    · by_cases e1 : u = i
      · rw [e1]; omega
      by_cases e2 : u = i + 1
      · rw [e2]; omega
      · rw [show u = j - 1 by omega]; omega
  · -- in a room or a thing
    obtain ⟨hn1, hn2, hn3⟩ := k8
    obtain ⟨gn, gn2⟩ := en_of (show t + 1 < 39990 by omega)
    have hiT : i + 1 ≤ T := by omega
    have hbad : badA Θ kd vl a (i + 1) ↔ (ksF Θ vl (i + 1) ≠ 1 ∧ ksF Θ vl (i + 1) ≠ 2) := by
      constructor
      · rintro (h' | h' | h' | h' | h')
        · omega
        · exact h'.2.2.2
        · omega
        · omega
        · omega
      · intro h'; exact Or.inr (Or.inl ⟨by omega, by rw [show i + 1 - 1 = i by omega]; exact k0.2, k1, h'⟩)
    have ot : ∀ u, i ≤ u → u < j → u ≠ i + 1 → ¬ badA Θ kd vl a u := fun u u1 u2 u3 => nk u (by
      by_cases e1 : u = i
      · rw [e1]; omega
      · rw [show u = j - 1 by omega]; omega)
    have wide : ∀ b, NT pl (badA Θ kd vl a) (i + 1) (i + 1 + 1) (flt τ) b → NT pl (badA Θ kd vl a) i j (flt τ) b := fun b hb => NT_wide hp hb (by omega) (by omega) (by omega) (fun u u1 u2 => ot u u1 (by omega) (by omega)) (fun u u1 u2 => ot u (by omega) u2 (by omega))
    have head : ∀ (K : MS → MR) (n : Nat), loopF (L92 K) (n + 1) (J (t : Nat), τ) = if (J (if ksF Θ vl (i + 1) = 1 then 1 else 0)) = 0 then (if (J (if ksF Θ vl (i + 1) = 2 then 1 else 0)) = 0 then Q109 (loopF (L92 K) n) (J (t : Nat)) τ else Q101 (loopF (L92 K) n) (J (t : Nat)) τ) else Q101 (loopF (L92 K) n) (J (t : Nat)) τ := by
      intro K n
      rw [L92_s, if_neg (J_nlt0 (by omega) (by omega)), if_neg en, en2, e17, k4, if_neg (show ¬ J 13 = 12 by decide)]
      unfold Q121
      rw [if_neg en, en2, e17, k4, if_pos (show J 13 = 13 from rfl)]
      rw [en2] at en
      rw [if_neg en, ag_k hA (by omega) t, k7, if_neg (J_nlt0 (by omega) (by omega)), if_neg en, bndE, if_neg gn, gn2, ag_k hA (by omega) (t + 1), hn3, show F_X12_is (J (rv (i + 1))) 1 τ = _ from r_is hT hKE hiT k1 (c := 1) (by omega), Option.bind_some]
      by_cases q1 : ksF Θ vl (i + 1) = 1
      · rw [if_pos q1, if_neg J1_ne, if_neg J1_ne]
      · rw [if_neg q1, if_pos J0_eq, if_pos J0_eq, if_neg en, bndE]
        dsimp only
        rw [ag_k hA (by omega) t, k7, if_neg gn, gn2, ag_k hA (by omega) (t + 1), hn3, show F_X12_is (J (rv (i + 1))) 2 τ = _ from r_is hT hKE hiT k1 (c := 2) (by omega), Option.bind_some]
    by_cases q1 : ksF Θ vl (i + 1) = 1
    · refine ⟨flt τ, fun K n => ?_, wide _ (NT_one hpb (by omega) (fun h => absurd q1 (hbad.mp h).1) (fun _ => rfl))⟩
      rw [head, if_pos q1, if_neg J1_ne, self]
      exact go K n τ hA
    · by_cases q2 : ksF Θ vl (i + 1) = 2
      · refine ⟨flt τ, fun K n => ?_, wide _ (NT_one hpb (by omega) (fun h => absurd q2 (hbad.mp h).2) (fun _ => rfl))⟩
        rw [head, if_neg q1, if_pos J0_eq, if_pos q2, if_neg J1_ne, self]
        exact go K n τ hA
      · refine ⟨ntF (flt τ) 3 (pl (i + 1)), fun K n => ?_, wide _ (NT_one hpb (by omega) (fun _ => rfl) (fun h => absurd (hbad.mpr ⟨q1, q2⟩) h))⟩
        rw [head, if_neg q1, if_pos J0_eq, if_neg q2, if_pos J0_eq]
        exact bad K n (t + 1) (i + 1) (by omega) k7 hn2
  · refine plain 14 k3 (by omega) (fun u u1 u2 => ?_)
    by_cases e1 : u = i
    · exact nk u (by rw [e1]; omega)
    by_cases e2 : u = j - 1
    · exact nk u (by rw [e2]; omega)
    rintro (h' | h' | h' | h' | h')
    · omega
    · by_cases e3 : u = i + 1
      · rw [e3, show i + 1 - 1 = i by omega] at h'; omega
      · rcases NMS_words k6 (u - 1) (by omega) (by omega) with h | h
        · omega
        · omega
    · omega
    · omega
    · omega
  · refine plain 15 k4 (by omega) (fun u u1 u2 => nk u ?_)
    by_cases e1 : u = i
    · rw [e1]; omega
    · rw [show u = j - 1 by omega]; omega
