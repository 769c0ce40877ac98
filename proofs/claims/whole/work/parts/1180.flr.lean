/-! what is known at a routine's beginning; numbers of names -/
variable {T N : Nat} {kd vl rv : Nat → Int} {pl : Nat → Nat}
theorem flx0 {G : Nat → HS} {Θ Γs : HS} {σs σK : MS} {DN : Nat → Nat → Nat → Prop} (hE : MEN T N kd vl rv pl G Θ Γs σs σK DN) {n lo hi x i j p q : Nat} (h : STX kd vl rv pl σs Γs n 1 lo hi x i j p q) (hn : n ≤ 93) (hj : j ≤ T) (hi1 : 1 ≤ i) {s m : Nat} {ts sl : Nat → Nat} (hC : SC T kd vl (G i) s m 0 ts sl) (h9 : (G i 3).1 9 = J (-1)) : ∃ B, FL Γs (LDW G Θ kd vl) p q (LB s sl) B := by
  obtain ⟨hT, hN, hp, hpb, hX, hG⟩ := id hE
  obtain ⟨n1, n2, n3, n4⟩ := TKE_N hT
  cases n with
  | zero => exact absurd h (by simp [STX])
  | succ n =>
    have hr := STX_rng h
    unfold STX at h
    obtain ⟨b1, b2, b3, b4, h⟩ := h
    rcases h with ⟨g0, -⟩ | ⟨g1, f, c, j', a1, a2, a3, a4, a5, a6⟩ | ⟨g2, -⟩ | ⟨g', g3, -⟩
    · omega
    · obtain ⟨xs, ls, is, js, ps, c1, c2, c3, c4, c5, c6, c7, c8, c9, c10, c11⟩ := a6
      have hrng := LST_rng c4 c9 c10
      have c9' : ∀ k, k < c → is k < js k ∧ is (k + 1) = js k := fun k hk => ⟨(c9 k hk).1, by rw [(c9 k hk).2]; split <;> omega⟩
      have his : ∀ k, k < c → js k ≤ is c := fun k hk => by
        have := hrng (c - (k + 1)) (k + 1) (by omega)
        rw [show k + 1 + (c - (k + 1)) = c by omega] at this
        have := c9' k hk; omega
      have hi0 : ∀ k, k ≤ c → i + 1 ≤ is k := fun k hk => by
        have := hrng (k - 0) 0 (by omega)
        rw [show 0 + (k - 0) = k by omega] at this; omega
      have hG1 : G (i + 1) = opM (G i) s 0 := g_f hT hG (by omega) (by rw [a1]; unfold qt; omega) (fs_open hT (hG.1 i (by omega)).1 (by omega) a1 hC (by omega))
      have hC1 : SC T kd vl (G (is 0)) s m (0 + 1) ts sl := by rw [c5, hG1]; exact opM_SC hC (by omega)
      have hk0' : ∀ k, k < c → kd (is k - 1) ≠ 242 := fun k hk => by
        by_cases q : k = 0
        · rw [q, c5, show i + 1 - 1 = i by omega, a1]; omega
        · have b9 := (c9' (k - 1) (by omega)).2
          rw [show k - 1 + 1 = k by omega] at b9
          rw [b9]
          have := STX_last _ _ _ _ _ _ _ _ _ (c4 (k - 1) (by omega)).2.2
          omega
      have key : ∀ k, k ≤ c → FLR T kd vl G Θ Γs 0 (is 0) (is k) (ps 0) (ps k) s (0 + 1) ts sl := by
        intro k
        induction k with
        | zero => intro _; exact ⟨s, m, ts, sl, hC1, Nat.le_refl _, fun k hk => ⟨rfl, rfl⟩, fun _ => rfl, by rw [c5, hG1]; exact h9, fun d hd => rfl, FL_nil⟩
        | succ k ihk =>
          intro hk
          obtain ⟨s1, m1, ts1, sl1, y1, y2, y3, y4, y5, y6, y7⟩ := ihk (by omega)
          have hh := his k (by omega)
          obtain ⟨s2, m2, ts2, sl2, z1, z2, z3, z4, z5, z6, z7⟩ := flx (Θ := Θ) hE n 0 _ _ _ _ _ _ _ (c4 k (by omega)).2.2 (by omega) (by have := hi0 k (by omega); omega) (hk0' k (by omega)) s1 m1 (0 + 1) ts1 sl1 y1 y5 (by omega) (by unfold bO; simp; omega)
          rw [(c9' k (by omega)).2]
          refine ⟨s2, m2, ts2, sl2, z1, by omega, fun t ht => ?_, fun h => absurd rfl h, z5, fun d hd => by rw [z6 d hd, y6 d hd], FL_app y7 z7⟩
          rw [(z3 t (by omega)).1, (z3 t (by omega)).2]; exact y3 t ht
      obtain ⟨s', m', ts', sl', y1, y2, y3, y4, y5, y6, y7⟩ := key c (Nat.le_refl _)
      rw [c7, c8] at y7
      exact ⟨_, y7⟩
    · omega
    · rcases g3 with h | h | h <;> omega
/-- the routine whole, with its end -/
theorem fl_rtn {Γ : HS} {LD : Nat → Nat → Prop} {p r : Nat} {A B : Nat → Prop} (h : FL Γ LD p r A B) (ho : op1 Γ r 0) : ∃ S : Nat → Nat → Prop, S p = A ∧ FLS Γ LD S p (r + 1) p (r + 1) := by
  obtain ⟨S, s1, s2, s3⟩ := h
  have hr := FLS_rng s3
  refine ⟨fun t => if t ≤ r then S t else fun _ => False, by dsimp only; rw [if_pos hr]; exact s1, ?_⟩
  refine FLS_app (FLS_congr s3 (Nat.le_refl _) (by omega) (fun t t1 t2 => if_pos t2) (Nat.le_refl _) (Nat.le_refl _)) (FLS_one (Or.inl ⟨0, ho, by omega, by omega, rfl, fun u hu => ?_⟩))
  dsimp only at hu
  rw [if_neg (by omega)] at hu
  exact hu.elim
/-- numbers of vars and arrays -/
theorem nums_of (hT : TKE T N kd vl rv pl) (hp : plm T pl) {σs : MS} {Γs : HS} {c : Nat} {ls is : Nat → Nat} {S : Nat → MS} {τ : MS} {Θ : HS} (h : SDN T N kd vl rv pl σs Γs c ls is S τ Θ) : ∀ u, u ≤ T → kd u = 2 → (ksF Θ vl u = 4 → nsF Θ vl u < cN kd is 2 c) ∧ (ksF Θ vl u = 5 → nsF Θ vl u < cN kd is 3 c) := by
  intro u hu hk
  obtain ⟨e1, e2⟩ := kt hT hp h hu hk
  rcases e2 with e2 | ⟨-, e2 | ⟨z, z1, z2, z3, z4, z5, z6, -⟩⟩
  · omega
  · omega
  · have hin : nsF Θ vl u = (if kd (is z) ≤ 232 then cN kd is (qOf (kd (is z))) z + 1 else cN kd is (qOf (kd (is z))) z) := z6
    have lt : ∀ q, qOf (kd (is z)) = q → cN kd is q z < cN kd is q c := fun q hq => by
      have h1 : cN kd is q (z + 1) = cN kd is q z + 1 := by
        rw [show cN kd is q (z + 1) = if q = qOf (kd (is z)) then cN kd is q z + 1 else cN kd is q z from rfl, if_pos hq.symm]
      have h2 := cN_le (kd := kd) (is := is) (q := q) (a := z + 1) (c - (z + 1))
      rw [show z + 1 + (c - (z + 1)) = c by omega] at h2
      omega
    refine ⟨fun k4 => ?_, fun k5 => ?_⟩
    · rw [if_neg (by omega), show kd (is z) = 233 by omega] at hin
      have := lt 2 (by rw [show kd (is z) = 233 by omega]; rfl)
      have e : qOf 233 = 2 := rfl
      rw [e] at hin
      omega
    · rw [if_neg (by omega), show kd (is z) = 234 by omega] at hin
      have := lt 3 (by rw [show kd (is z) = 234 by omega]; rfl)
      have e : qOf 234 = 3 := rfl
      rw [e] at hin
      omega
