/-! laying's join: the numbers of items, and what no item tells -/
variable {T N : Nat} {kd vl rv : Nat → Int} {pl : Nat → Nat}
theorem it_at {is : Nat → Nat} {q : Nat} : ∀ m i, cN kd is q 0 ≤ i → i < cN kd is q m → ∃ z, z < m ∧ q = qOf (kd (is z)) ∧ cN kd is q z = i := by
  intro m
  induction m with
  | zero => intro i h1 h2; omega
  | succ m ih =>
    intro i h1 h2
    by_cases e : i < cN kd is q m
    · obtain ⟨z, z1, z2⟩ := ih i h1 e
      exact ⟨z, by omega, z2⟩
    · rw [cN_s] at h2
      by_cases e2 : q = qOf (kd (is m))
      · rw [if_pos e2] at h2
        exact ⟨m, by omega, e2, by omega⟩
      · rw [if_neg e2] at h2
        omega
theorem qOf_inv {k : Int} (h : 230 ≤ k ∧ k ≤ 237) : (0 = qOf k → k ≤ 231) ∧ (1 = qOf k → k = 232) ∧ (2 = qOf k → k = 233) ∧ (3 = qOf k → k = 234) ∧ (5 = qOf k → k = 236) ∧ (6 = qOf k → k = 237) := by
  have hk : k = 230 ∨ k = 231 ∨ k = 232 ∨ k = 233 ∨ k = 234 ∨ k = 235 ∨ k = 236 ∨ k = 237 := by omega
  rcases hk with rfl | rfl | rfl | rfl | rfl | rfl | rfl | rfl <;> decide
theorem enF_keep {is : Nat → Nat} {n k : Nat} (h : k ≤ cN kd is 3 n) : ∀ d, enF kd vl is (n + d) k = enF kd vl is n k := by
  intro d
  induction d with
  | zero => rfl
  | succ d ih =>
    have := cN_le (kd := kd) (is := is) (q := 3) (a := n) d
    rw [show n + (d + 1) = n + d + 1 by omega, enF_s, if_pos (by omega), ih]
/-- a row of the class that no item writes -/
theorem cl_rest {G : Nat → HS} {Θ : HS} {cl : List Int} {σs : MS} {Γs : HS} {c : Nat} {ls is ps ds os es : Nat → Nat} (hI : ITS kd vl rv pl σs Γs c ls is ps ds os es) (hN : INM kd vl Θ c is) (hon : ∀ z, z < c → kd (is z) = 236 → cN kd is 5 z < 200) {K : Nat → HS} (hK : CROW T G Θ kd vl cl is c K) {k x : Nat} (h : (1 ≤ k ∧ k ≤ 5 ∧ (x ≤ 1 ∨ cN kd is 0 c < x)) ∨ (k = 6 ∧ (x < 12 ∨ 6 * cN kd is 0 c + 6 ≤ x)) ∨ (k = 8 ∧ x ≤ 11)) : (K c 4).2.1 k x = (K 0 4).2.1 k x := by
  have := row_slot hI hN hon hK (k := k) (x := x) (a := 0) c (by omega) (fun z _ z2 hh => by
    rcases hh with ⟨a1, a2, a⟩ | ⟨a1, a⟩ | ⟨a1, a2, a3⟩ | ⟨a1, a2, a3, a4⟩
    · have := inum_le (kd := kd) (is := is) (z := z) (c := c) (by omega) a2
      omega
    · have := (hN z (by omega) (by omega)).2.2.2.1 a1
      omega
    · omega
    · omega)
  rw [Nat.zero_add] at this
  exact this
theorem wh_up {s wh : Nat → Nat} {n fr : Nat} (h0 : s 0 = 0) (hw : ∀ x, x ≤ n → x ≠ 1 → wh x = s x) (hw1 : wh 1 = fr) (hn : ∀ x, n < x → wh x = 0) (hl : ∀ k, k ≤ n → s k ≤ n) (hf : wh fr = 0) (hs : ∀ k, 1 ≤ k → k ≤ n → itn s n k = 0) (x : Nat) : ∃ k, upP wh k x = 0 := by
  have z0 : ∃ k, upP wh k 0 = 0 := ⟨0, rfl⟩
  have up : ∀ x, (∃ k, upP wh k (wh x) = 0) → ∃ k, upP wh k x = 0 := fun x ⟨k, hk⟩ => ⟨k + 1, hk⟩
  have f : ∃ k, upP wh k fr = 0 := up fr (by rw [hf]; exact z0)
  have o : ∃ k, upP wh k 1 = 0 := up 1 (by rw [hw1]; exact f)
  have key : ∀ m x, x ≤ n → itn s m x = 0 → ∃ k, upP wh k x = 0 := by
    intro m
    induction m with
    | zero =>
      intro x _ h
      have e : x = 0 := h
      rw [e]; exact z0
    | succ m ih =>
      intro x hx h
      by_cases q : x = 1
      · rw [q]; exact o
      · refine up x ?_
        rw [hw x hx q]
        refine ih (s x) (hl x hx) ?_
        have := itn_add (s := s) (a := 1) (k := x) m
        rw [show itn s 1 x = s x from rfl] at this
        rw [← this]; exact h
  by_cases q : x ≤ n
  · by_cases q0 : x = 0
    · rw [q0]; exact z0
    · exact key n x q (hs x (by omega) q)
  · exact up x (by rw [hn x (by omega)]; exact z0)
theorem bform_rng (v : Nat) : 0 ≤ bform v ∧ bform v ≤ 2 := by
  unfold bform
  repeat' split
  all_goals omega
/-- what an on's words mean, in both -/
theorem wh_val {Θ : HS} {v t : Nat} (h : goodWh Θ kd vl v t) (hn : kd t = 2 → ksF Θ vl t = 2 → 1 ≤ nsF Θ vl t ∧ nsF Θ vl t ≤ 120) : 0 ≤ whV Θ kd vl t ∧ whV Θ kd vl t ≤ 1000 ∧ whR Θ kd vl t = if (whV Θ kd vl t).toNat = 0 then -1 else ((whV Θ kd vl t).toNat : Int) := by
  have key : ∀ k : Nat, whV Θ kd vl t = k → k ≤ 1000 → (whR Θ kd vl t = if k = 0 then -1 else (k : Int)) → 0 ≤ whV Θ kd vl t ∧ whV Θ kd vl t ≤ 1000 ∧ whR Θ kd vl t = if (whV Θ kd vl t).toNat = 0 then -1 else ((whV Θ kd vl t).toNat : Int) := fun k e hk hr => by
    rw [e, Int.toNat_natCast]
    exact ⟨by omega, by omega, hr⟩
  rcases h with g | ⟨-, g1, g2⟩ | ⟨-, g | ⟨g1, g2⟩⟩
  · refine key 0 ?_ (by omega) ?_
    · unfold whV; rw [if_pos g]; rfl
    · unfold whR; rw [if_pos g, if_pos rfl]
  · refine key (kd t - 199).toNat ?_ (by omega) ?_
    · unfold whV; rw [if_neg (by omega), if_neg (by omega), if_neg (by omega)]; omega
    · unfold whR; rw [if_neg (by omega), if_neg (by omega), if_neg (by omega), if_neg (by omega)]; omega
  · refine key 1 ?_ (by omega) ?_
    · unfold whV; rw [if_neg (by omega), if_pos g]; rfl
    · unfold whR; rw [if_neg (by omega), if_pos g, if_neg (by omega)]; rfl
  · obtain ⟨n1, n2⟩ := hn g1 g2
    refine key (nsF Θ vl t) ?_ (by omega) ?_
    · unfold whV; rw [if_neg (by omega), if_neg (by omega), if_pos g1]
    · unfold whR; rw [if_neg (by omega), if_neg (by omega), if_pos g1, if_neg (by omega)]
/-- an exit leads to a room -/
theorem exit_room (hT : TKE T N kd vl rv pl) (hp : plm T pl) {G : Nat → HS} {Θ Γs : HS} {σs τ : MS} {c z : Nat} {ls is ps ds os es : Nat → Nat} {S : Nat → MS} (hG : GRW T N kd vl pl G) (hD : SDN T N kd vl rv pl σs Γs c ls is S τ Θ) (hI : ITS kd vl rv pl σs Γs c ls is ps ds os es) (hZ : ∀ z, z ≤ c → GZ T kd vl (G (is z))) (hbad : ∀ t, t < T → ¬ badW G Θ Γs kd vl c is t) (hz : z < c) (hj : is (z + 1) ≤ T) (hk : kd (is z) = 230 ∨ kd (is z) = 231) {u : Nat} (u1 : is z ≤ u) (u2 : u < is (z + 1)) (hu : kd u = 239) : ∃ z', z' < c ∧ kd (is z') = 230 ∧ nsF Θ vl (u + 2) = inum kd is z' := by
  have hN := INM_of hT hp hD
  obtain ⟨hIt, -, -, hlt, -⟩ := hI z hz
  have hP : PLC kd rv pl (kd (is z) - 229) σs (ls z) (ls (z + 1)) (is z) (is (z + 1)) := by
    rcases hIt with ⟨a0, a1, a2⟩ | ⟨a0, a1, a2⟩ | ⟨a1, b1, -⟩ | ⟨a1, b1, -⟩ | ⟨a1, b1, -⟩ | ⟨k0, -⟩ | ⟨k0, -⟩ | ⟨k0, -⟩
    · rw [a0]; exact a2
    · rw [a0]; exact a2
    all_goals omega
  have hwk : (kd (is z) - 229 = 1 ∧ kd (is z) = 230) ∨ (kd (is z) - 229 = 2 ∧ kd (is z) = 231) := by omega
  have hH := FWH_place hT hG hz hN hwk hP hj (hZ z (by omega))
  have good : ∀ t, is z ≤ t → t < is (z + 1) → ¬ badA Θ kd vl (is z) t := fun t t1 t2 hb' => hbad t (by omega) (Or.inr ⟨(hH t t1 t2).1, z, hz, t1, t2, hb'⟩)
  obtain ⟨x1, x2, x3, -⟩ := (hH u u1 u2).2.2.2.2.1 hu
  have e : ksF Θ vl (u + 2) = 1 := by
    by_cases q : ksF Θ vl (u + 2) = 1
    · exact q
    · exact absurd (Or.inl ⟨x1, by rw [show u + 2 - 2 = u by omega]; exact hu, x3, q⟩) (good (u + 2) (by omega) (by omega))
  obtain ⟨z', y1, y2, y3⟩ := (nam_of hT hp hD (show u + 2 ≤ T by omega) x3).1 (Or.inl e)
  exact ⟨z', y1, by omega, y3⟩
