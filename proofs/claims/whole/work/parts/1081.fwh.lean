/-! rooms, things, verbs, vars and arrays have their words as they must be -/
variable {T N : Nat} {kd vl rv : Nat → Int} {pl : Nat → Nat}
/-- the piece in which a word lies -/
theorem LST_at {σ : MS} {E : Nat → Nat → Nat → Nat → Nat → Nat → Nat → Prop} {lo hi c i j p q : Nat} {f : Int} (h : LST kd σ E 0 lo hi f c i j p q) : ∀ t, i ≤ t → t < j → ∃ lo' hi' x i' j' p' q', E lo' hi' x i' j' p' q' ∧ i ≤ i' ∧ i' ≤ t ∧ t < j' ∧ j' ≤ j := by
  obtain ⟨xs, ls, is, js, ps, b1, b2, b3, b4, b5, b6, b7, b8, b9, b10, b11⟩ := h
  have es : ∀ k, k < c → is (k + 1) = js k := fun k hk => by
    rw [(b9 k hk).2]; split <;> omega
  have mono : ∀ d k, k + d ≤ c → is k ≤ is (k + d) := by
    intro d
    induction d with
    | zero => intro k _; exact Nat.le_refl _
    | succ d ih =>
      intro k hk
      have := ih k (by omega)
      have a := (b9 (k + d) (by omega)).1
      have b := es (k + d) (by omega)
      rw [show k + (d + 1) = k + d + 1 by omega]; omega
  have key : ∀ k, k ≤ c → ∀ t, is 0 ≤ t → t < is k → ∃ lo' hi' x i' j' p' q', E lo' hi' x i' j' p' q' ∧ is 0 ≤ i' ∧ i' ≤ t ∧ t < j' ∧ j' ≤ is c := by
    intro k
    induction k with
    | zero => intro _ t h1 h2; omega
    | succ k ih =>
      intro hk t h1 h2
      by_cases q1 : t < is k
      · exact ih (by omega) t h1 q1
      · have e := es k (by omega)
        have m1 := mono k 0 (by omega)
        have m2 := mono (c - (k + 1)) (k + 1) (by omega)
        rw [show k + 1 + (c - (k + 1)) = c by omega] at m2
        rw [Nat.zero_add] at m1
        exact ⟨_, _, _, _, _, _, _, (b4 k (by omega)).2.2, m1, by omega, by omega, by omega⟩
  intro t h1 h2
  obtain ⟨lo', hi', x, i', j', p', q', d1, d2, d3, d4, d5⟩ := key c (Nat.le_refl c) t (by omega) (by omega)
  exact ⟨lo', hi', x, i', j', p', q', d1, by omega, d3, d4, by omega⟩
/-- in a room or thing no name is seen -/
theorem g_place0 (hT : TKE T N kd vl rv pl) {G : Nat → HS} (hG : GRW T N kd vl pl G) {i b j : Nat} (hib : i ≤ b) (hbj : b + 1 < j) (hj : j ≤ T) (hq : ∀ t, i ≤ t → t < b → qh (kd t)) (hb : kd b = 123) (hq2 : ∀ t, b + 1 ≤ t → t < j - 1 → qh (kd t)) (hZ : GZ T kd vl (G i)) : ∀ t, i ≤ t → t < j → (G t 3).1 12 = J 0 ∧ ∀ u, u ≤ T → kd u = 2 → (G t 3).2.1 5 (vl u).toNat = 0 := by
  obtain ⟨n1, n2, n3, n4⟩ := TKE_N hT
  have sc0 : ∀ {Γ : HS} {D : Nat}, SC T kd vl Γ 0 0 D (fun _ => 0) (fun _ => 0) → ∀ u, u ≤ T → kd u = 2 → (Γ 3).2.1 5 (vl u).toNat = 0 := fun h u hu hk => h.2.2.2.2.2.2.2.1 u hu hk (fun k hk' => by omega)
  obtain ⟨z1, z2⟩ := q_g_flat hT hG hib (by omega) hq hZ
  have a1 := g_a hT hG (t := b) (by omega) (by omega) (fs_open hT (hG.1 b (by omega)).1 (show b < N by omega) hb z1.1 (by omega))
  have s1 := SC_AGR (opM_SC z1.1 (by omega)) a1
  have e9 : (G (b + 1) 3).1 9 = J (-1) := by rw [AGR_i a1 9 (by omega)]; exact z1.2.1
  have e12 : (G (b + 1) 3).1 12 = J 0 := by rw [AGR_i a1 12 (by omega)]; exact z1.2.2
  have ar := fun (t : Nat) (h1 : b + 1 ≤ t) (h2 : t ≤ j - 1) => g_ht hT hG (i := b + 1) (j := j - 1) (by omega) hq2 e9 h1 h2
  intro t t1 t2
  by_cases q : t ≤ b
  · have hA := g_ht hT hG (i := i) (j := b) (by omega) hq hZ.2.1 t1 q
    have hz := GZ_AGR hZ hA
    exact ⟨hz.2.2, sc0 hz.1⟩
  · have hA := ar t (by omega) (by omega)
    have s2 := SC_AGR s1 hA
    exact ⟨by rw [AGR_i hA 12 (by omega)]; exact e12, fun u hu hk => s2.2.2.2.2.2.2.2.1 u hu hk (fun k hk' => by omega)⟩
theorem NMS_NML {σ : MS} {n c i : Nat} (h : NMS kd rv pl σ n c i) (hc : 1 ≤ c) (he : kd (i + 2 * c - 1) ≠ 44 ∧ kd (i + 2 * c - 1) ≠ 2) : NML kd i c := ⟨fun e he => (h e he).2.1, fun e he => (h e (by omega)).2.2.2 he, he.1, he.2⟩
/-- names with their commas are no other words -/
theorem NML_k {i c t : Nat} (h : NML kd i c) (h1 : i ≤ t) (h2 : t + 1 < i + 2 * c) : kd t = 2 ∨ kd t = 44 := by
  by_cases q : (t - i) % 2 = 0
  · left
    have := h.1 ((t - i) / 2) (by omega)
    rw [show i + 2 * ((t - i) / 2) = t by omega] at this; exact this
  · right
    have := h.2.1 ((t - i) / 2) (by omega)
    rw [show i + 2 * ((t - i) / 2) + 1 = t by omega] at this; exact this
/-- what an item's name means -/
def INM (kd vl : Nat → Int) (Θ : HS) (c : Nat) (is : Nat → Nat) : Prop := ∀ z, z < c → kd (is z) ≤ 235 → ksF Θ vl (is z + 1) = kd (is z) - 229 ∧ nsF Θ vl (is z + 1) = inum kd is z ∧ (kd (is z) ≤ 231 → 1 ≤ inum kd is z ∧ inum kd is z ≤ 120) ∧ (kd (is z) = 232 → 12 ≤ inum kd is z ∧ inum kd is z ≤ 60) ∧ (kd (is z) = 233 → inum kd is z < 100) ∧ (kd (is z) = 234 → inum kd is z < 20)
theorem FWH_place (hT : TKE T N kd vl rv pl) {G : Nat → HS} (hG : GRW T N kd vl pl G) {Θ : HS} {σs : MS} {c z : Nat} {ls is : Nat → Nat} (hz : z < c) (hN : INM kd vl Θ c is) {w : Int} (hw : (w = 1 ∧ kd (is z) = 230) ∨ (w = 2 ∧ kd (is z) = 231)) (hI : PLC kd rv pl w σs (ls z) (ls (z + 1)) (is z) (is (z + 1))) (hj : is (z + 1) ≤ T) (hZ : GZ T kd vl (G (is z))) : FWH T kd vl G Θ (is z) (is (z + 1)) := by
  obtain ⟨k1, k2, k3, k4, k5, k6, k7, k8, k9, k10, k11, k12, k13, k14, f, cc, k15, k16⟩ := hI
  have hwords := LST_all (P := fun u => qh (kd u)) k16 (by omega) (fun lo hi x i j p q h u u1 u2 => PRT_qh h.2.2 u u1 u2) (fun t ht => qh_k ht (by omega))
  have h0 := g_place0 hT hG (i := is z) (b := is z + 3) (j := is (z + 1)) (by omega) (by omega) hj (fun t t1 t2 => by
    by_cases e1 : t = is z
    · rw [e1]; exact qh_of (by omega) (by omega) (by omega) (by omega)
    by_cases e2 : t = is z + 1
    · rw [e2]; exact qh_k k3 (by omega)
    · rw [show t = is z + 2 by omega]; exact qh_k k4 (by omega)) k5 (fun t t1 t2 => hwords t (by omega) t2) hZ
  obtain ⟨i1, i2, i3, -⟩ := hN z hz (by omega)
  intro t t1 t2
  obtain ⟨a1, a2⟩ := h0 t t1 t2
  refine ⟨fun hb => hb.1 a1, a2, ?_⟩
  have triv : (¬ (230 ≤ kd t ∧ kd t ≤ 237)) → kd t ≠ 239 → kd t ≠ 219 → kd t ≠ 240 → FWT kd vl Θ (is z) (is (z + 1)) t := fun b1 b2 b3 b4 => ⟨by omega, fun h => by omega, fun h => absurd h b2, fun h => absurd h b3, fun h => absurd h b4, fun h => by omega, fun h => by omega⟩
  by_cases e1 : t = is z
  · rw [e1]
    exact ⟨by omega, fun _ => ⟨rfl, by omega, k3, by omega, by rw [i2]; exact (i3 (by omega)).1, by rw [i2]; exact (i3 (by omega)).2⟩, fun h => by omega, fun h => by omega, fun h => by omega, fun h => by omega, fun h => by omega⟩
  by_cases e2 : t < is z + 4
  · refine triv ?_ ?_ ?_ ?_
    all_goals
      by_cases e3 : t = is z + 1
      · rw [e3]; omega
      by_cases e4 : t = is z + 2
      · rw [e4]; omega
      · rw [show t = is z + 3 by omega]; omega
  by_cases e5 : t = is (z + 1) - 1
  · rw [← e5] at k6
    exact triv (by omega) (by omega) (by omega) (by omega)
  · obtain ⟨lo', hi', x, i', j', p', q', ⟨-, -, hP⟩, d2, d3, d4, d5⟩ := LST_at k16 t (by omega) (by omega)
    obtain ⟨p1, p2, p3, hP⟩ := hP
    have last : t = j' - 1 → kd t = 59 := fun e => by rw [e]; exact p3
    rcases hP with ⟨m0, m1, m2, m3, m4, m5, m6⟩ | ⟨m0, m1, m2, m3, m4⟩ | ⟨m0, m1, m2, m3, m4, m5, m6, m7, m8, m9, m10⟩ | ⟨m0, m1, m2, m3, m4, m5, m6, m7⟩ | ⟨m0, m1, m2, m3, m4, m5, m6, m7, m8⟩ | ⟨e, he, m0, m1, m2, m3, m4, m5, m6⟩ | ⟨m0, m1, m2, m3, m4, m5, m6⟩
    · refine triv ?_ ?_ ?_ ?_
      all_goals
        by_cases f1 : t = i'
        · rw [f1]; omega
        by_cases f2 : t = i' + 1
        · rw [f2]; omega
        · have := last (by omega); omega
    · refine triv ?_ ?_ ?_ ?_
      all_goals
        by_cases f1 : t = i'
        · rw [f1]; omega
        · have := last (by omega); omega
    · by_cases f1 : t = i'
      · rw [f1]
        exact ⟨by omega, fun h => by omega, fun h => ⟨by omega, by omega, m3, by omega⟩, fun h => by omega, fun h => by omega, fun h => by omega, fun h => by omega⟩
      · refine triv ?_ ?_ ?_ ?_
        all_goals
          by_cases f2 : t = i' + 1
          · rw [f2]; omega
          by_cases f3 : t = i' + 2
          · rw [f3]; omega
          · have := last (by omega); omega
    · by_cases f1 : t = i'
      · rw [f1]
        exact ⟨by omega, fun h => by omega, fun h => by omega, fun h => ⟨by omega, by omega, Or.inl m1⟩, fun h => by omega, fun h => by omega, fun h => by omega⟩
      · refine triv ?_ ?_ ?_ ?_
        all_goals
          by_cases f2 : t = i' + 1
          · rw [f2]; omega
          · have := last (by omega); omega
    · by_cases f1 : t = i'
      · rw [f1]
        exact ⟨by omega, fun h => by omega, fun h => by omega, fun h => ⟨by omega, by omega, Or.inr m1⟩, fun h => by omega, fun h => by omega, fun h => by omega⟩
      · refine triv ?_ ?_ ?_ ?_
        all_goals
          by_cases f2 : t = i' + 1
          · rw [f2]; omega
          · have := last (by omega); omega
    · have hn : NML kd (i' + 1) e := NMS_NML m6 he (by rw [show i' + 1 + 2 * e - 1 = j' - 1 by omega, p3]; omega)
      by_cases f1 : t = i'
      · rw [f1]
        exact ⟨by omega, fun h => by omega, fun h => by omega, fun h => by omega, fun h => ⟨by omega, e, he, hn, by omega⟩, fun h => by omega, fun h => by omega⟩
      · by_cases f2 : t = j' - 1
        · have := last f2
          exact triv (by omega) (by omega) (by omega) (by omega)
        · have := NML_k hn (t := t) (by omega) (by omega)
          exact triv (by omega) (by omega) (by omega) (by omega)
    · by_cases f1 : t = i'
      · exact triv (by rw [f1]; omega) (by rw [f1]; omega) (by rw [f1]; omega) (by rw [f1]; omega)
      · have := last (by omega)
        exact triv (by omega) (by omega) (by omega) (by omega)
theorem FWH_flat (hT : TKE T N kd vl rv pl) {G : Nat → HS} (hG : GRW T N kd vl pl G) {Θ : HS} {i j : Nat} (hj : j ≤ T) (hq : ∀ t, i ≤ t → t < j → qh (kd t)) (hZ : GZ T kd vl (G i)) (h : ∀ t, i ≤ t → t < j → FWT kd vl Θ i j t) : FWH T kd vl G Θ i j := by
  intro t t1 t2
  have hA := g_ht hT hG hj hq hZ.2.1 t1 (by omega)
  have hz := GZ_AGR hZ hA
  exact ⟨fun hb => hb.1 hz.2.2, fun u hu hk => hz.1.2.2.2.2.2.2.2.1 u hu hk (fun k hk' => by omega), h t t1 t2⟩
/-- the words of verbs, vars, arrays -/
theorem FWH_item (hT : TKE T N kd vl rv pl) {G : Nat → HS} (hG : GRW T N kd vl pl G) {Θ : HS} {σs : MS} {c z : Nat} {ls is : Nat → Nat} (hz : z < c) (hN : INM kd vl Θ c is) (hI : VRB kd rv pl σs (ls z) (ls (z + 1)) (is z) (is (z + 1)) ∨ VRD kd vl rv pl σs (ls z) (ls (z + 1)) (is z) (is (z + 1)) ∨ ARD kd vl rv pl σs (ls z) (ls (z + 1)) (is z) (is (z + 1))) (hj : is (z + 1) ≤ T) (hZ : GZ T kd vl (G (is z))) : FWH T kd vl G Θ (is z) (is (z + 1)) := by
  rcases hI with ⟨b1, b2, b3, b4, b5, b6, b7, cc, b8, b9, b10, b11, b12, b13⟩ | ⟨b1, b2, b3, b4, b5, b6, b7, b8, b9, b10⟩ | ⟨b1, b2, b3, b4, b5, b6, b7, b8, -⟩
  · obtain ⟨i1, i2, i3, i4, -⟩ := hN z hz (by omega)
    have hn : NML kd (is z + 2) cc := NMS_NML b10 b8 (by rw [show is z + 2 + 2 * cc - 1 = is z + 1 + 2 * cc by omega]; omega)
    have hk : ∀ t, is z ≤ t → t < is (z + 1) → t = is z ∨ kd t = 2 ∨ kd t = 44 ∨ (213 ≤ kd t ∧ kd t ≤ 215) ∨ kd t = 59 := fun t t1 t2 => by
      by_cases e1 : t = is z
      · exact Or.inl e1
      by_cases e2 : t = is z + 1
      · rw [e2]; omega
      by_cases e3 : t < is z + 1 + 2 * cc
      · have := NML_k hn (t := t) (by omega) (by omega); omega
      by_cases e4 : t = is z + 1 + 2 * cc
      · rw [e4]; omega
      by_cases e5 : t = is (z + 1) - 1
      · rw [e5]; omega
      · have : t = is z + 2 + 2 * cc := by omega
        rw [this]; omega
    refine FWH_flat hT hG hj (fun t t1 t2 => ?_) hZ (fun t t1 t2 => ?_)
    · rcases hk t t1 t2 with h | h
      · rw [h]; exact qh_of (by omega) (by omega) (by omega) (by omega)
      · exact qh_of (by omega) (by omega) (by omega) (by omega)
    · rcases hk t t1 t2 with h | h
      · rw [h]
        refine ⟨by omega, fun h => by omega, fun h => by omega, fun h => by omega, fun h => by omega, fun _ => ⟨b2, ⟨by omega, by rw [i2]; exact (i4 b1).2⟩, cc, b8, hn, by omega, fun h5 => ?_⟩, fun h => by omega⟩
        rw [show is z + 2 + 2 * cc - 1 = is z + 1 + 2 * cc by omega] at h5
        rw [show is z + 2 + 2 * cc = is z + 2 + 2 * cc from rfl]
        omega
      · exact ⟨by omega, fun h => by omega, fun h => by omega, fun h => by omega, fun h => by omega, fun h => by omega, fun h => by omega⟩
  · obtain ⟨i1, i2, -⟩ := hN z hz (by omega)
    have hk : ∀ t, is z ≤ t → t < is (z + 1) → t = is z ∨ kd t = 2 ∨ kd t = 61 ∨ kd t = 45 ∨ kd t = 3 ∨ kd t = 59 := fun t t1 t2 => by
      by_cases e1 : t = is z
      · exact Or.inl e1
      by_cases e2 : t = is z + 1
      · rw [e2]; omega
      by_cases e3 : t = is z + 2
      · rw [e3]; omega
      by_cases e5 : t = is (z + 1) - 1
      · rw [e5]; omega
      by_cases e4 : t = is z + 3
      · rw [e4]; omega
      · rw [show t = is z + 4 by omega]; omega
    refine FWH_flat hT hG hj (fun t t1 t2 => ?_) hZ (fun t t1 t2 => ?_)
    · rcases hk t t1 t2 with h | h
      · rw [h]; exact qh_of (by omega) (by omega) (by omega) (by omega)
      · exact qh_of (by omega) (by omega) (by omega) (by omega)
    · rcases hk t t1 t2 with h | h
      · rw [h]
        exact ⟨by omega, fun h => by omega, fun h => by omega, fun h => by omega, fun h => by omega, fun h => by omega, fun _ => ⟨b2, by omega, by omega, by omega⟩⟩
      · exact ⟨by omega, fun h => by omega, fun h => by omega, fun h => by omega, fun h => by omega, fun h => by omega, fun h => by omega⟩
  · have hk : ∀ t, is z ≤ t → t < is (z + 1) → t = is z ∨ kd t = 2 ∨ kd t = 91 ∨ kd t = 93 ∨ kd t = 3 ∨ kd t = 59 := fun t t1 t2 => by
      by_cases e1 : t = is z
      · exact Or.inl e1
      by_cases e2 : t = is z + 1
      · rw [e2]; omega
      by_cases e3 : t = is z + 2
      · rw [e3]; omega
      by_cases e4 : t = is z + 3
      · rw [e4]; omega
      by_cases e5 : t = is z + 4
      · rw [e5]; omega
      · rw [show t = is z + 5 by omega]; omega
    refine FWH_flat hT hG hj (fun t t1 t2 => ?_) hZ (fun t t1 t2 => ?_)
    · rcases hk t t1 t2 with h | h
      · rw [h]; exact qh_of (by omega) (by omega) (by omega) (by omega)
      · exact qh_of (by omega) (by omega) (by omega) (by omega)
    · rcases hk t t1 t2 with h | h
      · rw [h]
        exact ⟨by omega, fun h => by omega, fun h => by omega, fun h => by omega, fun h => by omega, fun h => by omega, fun h => by omega⟩
      · exact ⟨by omega, fun h => by omega, fun h => by omega, fun h => by omega, fun h => by omega, fun h => by omega, fun h => by omega⟩
