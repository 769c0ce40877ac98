/-! each item has its meaning: the reference's loop -/
variable {T N : Nat} {kd vl rv : Nat → Int} {pl : Nat → Nat}
def L49 (K : MS → MR) (X : Int32) : ((Int32 × MS) → MR) → Int32 × MS → MR := fun again s => if s.1 < 0 then (if X < 0 ∨ 40000 ≤ X.toNatClampNeg then none else bnd (s.2.2 21 X.toNatClampNeg) fun (x_56 : Int32) => if x_56 < 0 ∨ 40000 ≤ x_56.toNatClampNeg then none else (G_X12_meanBlock (s.2.2 19 x_56.toNatClampNeg) s.2).bind fun u_60 => K u_60.2) else (F_X12_see s.1 s.2).bind fun u_63 => if s.1 < 0 ∨ 40000 ≤ s.1.toNatClampNeg then none else bnd (u_63.2.2 22 s.1.toNatClampNeg) fun (x_67 : Int32) => again (x_67, u_63.2)
def R31 (K : MS → MR) (X t : Int32) (σ : MS) : MR := if ¬ (t = 0 ∨ t = 1) then none else bnd (mI σ 43 t) fun σ_37 => bnd (mI σ_37 33 0) fun σ_39 => bnd (mI σ_39 34 0) fun σ_41 => if (σ_41.1 43) = 0 then loopF (L49 K X) FU (-1, σ_41) else (if X < 0 ∨ 40000 ≤ X.toNatClampNeg then none else loopF (L49 K X) FU (σ_41.2 20 X.toNatClampNeg, σ_41))
def Rj17 (K : MS → MR) (X w : Int32) (σ : MS) : MR := if 6 ≤ w then (if w = 6 then R31 K X 1 σ else R31 K X 0 σ) else K σ
def Rj13 (K : MS → MR) (X w : Int32) (σ : MS) : MR := if w = 7 then (F_X12_resolveOn X σ).bind fun u_80 => Rj17 K X w u_80.2 else Rj17 K X w σ
def Rj84 (K : MS → MR) (X w : Int32) (σ : MS) : MR := if X < 0 ∨ 40000 ≤ X.toNatClampNeg then none else bnd (σ.2 20 X.toNatClampNeg) fun (x_89 : Int32) => loopF (L92 (Rj13 K X w)) FU (x_89, σ)
def Rnx (again : Int32 × MS → MR) (X : Int32) (σ : MS) : MR := if X < 0 ∨ 40000 ≤ X.toNatClampNeg then none else bnd (σ.2 22 X.toNatClampNeg) fun (x_26 : Int32) => again (x_26, σ)
def Rs1 : ((Int32 × MS) → MR) → Int32 × MS → MR := fun again s => if s.1 < 0 then some (0, s.2) else if s.1 < 0 ∨ 40000 ≤ s.1.toNatClampNeg then none else bnd (s.2.2 17 s.1.toNatClampNeg) fun (x_10 : Int32) => if x_10 = 1 then Rj84 (Rnx again s.1) s.1 x_10 s.2 else if x_10 = 2 then Rj84 (Rnx again s.1) s.1 x_10 s.2 else Rj13 (Rnx again s.1) s.1 x_10 s.2
theorem resolve_eq (σ : MS) : F_X12_resolve σ = loopF Rs1 FU (σ.1 24, σ) := by
  unfold F_X12_resolve
  refine loopF_congr (funext fun again => funext fun s => ?_) FU _
  unfold Rs1 Rj84 Rj13 Rj17 R31 L92 L49 Q121 Q109 Q101 Rnx
  simp only [bndE]
theorem Rs1_s (n : Nat) (l : Int32) (τ : MS) : loopF Rs1 (n + 1) (l, τ) = if l < 0 then some ((0 : Int32), τ) else if l < 0 ∨ 40000 ≤ l.toNatClampNeg then none else bnd (τ.2 17 l.toNatClampNeg) fun (x_10 : Int32) => if x_10 = 1 then Rj84 (Rnx (loopF Rs1 n) l) l x_10 τ else if x_10 = 2 then Rj84 (Rnx (loopF Rs1 n) l) l x_10 τ else Rj13 (Rnx (loopF Rs1 n) l) l x_10 τ := rfl
theorem L49_s (K : MS → MR) (X : Int32) (n : Nat) (l : Int32) (τ : MS) : loopF (L49 K X) (n + 1) (l, τ) = if l < 0 then (if X < 0 ∨ 40000 ≤ X.toNatClampNeg then none else bnd (τ.2 21 X.toNatClampNeg) fun (x_56 : Int32) => if x_56 < 0 ∨ 40000 ≤ x_56.toNatClampNeg then none else (G_X12_meanBlock (τ.2 19 x_56.toNatClampNeg) τ).bind fun u_60 => K u_60.2) else (F_X12_see l τ).bind fun u_63 => if l < 0 ∨ 40000 ≤ l.toNatClampNeg then none else bnd (u_63.2.2 22 l.toNatClampNeg) fun (x_67 : Int32) => loopF (L49 K X) n (x_67, u_63.2) := rfl
/-- what resolving an item leaves alone -/
def rJ (lo hi : Nat) (σ τ : MS) : Prop := (∀ k, k ≠ 14 → k ≠ 15 → k ≠ 33 → k ≠ 34 → k ≠ 43 → τ.1 k = σ.1 k) ∧ (∀ k, k ≠ 20 → k ≠ 21 → k ≠ 31 → k ≠ 32 → τ.2 k = σ.2 k) ∧ ∀ k y, k ≠ 31 → k ≠ 32 → (y < lo ∨ hi ≤ y) → τ.2 k y = σ.2 k y
theorem rJ_rB {lo hi : Nat} {σ τ : MS} (h : rB lo hi σ τ) : rJ lo hi σ τ := ⟨fun k a b c d _ => h.1 k a b c d, h.2.1, h.2.2⟩
theorem rJ_rfl {lo hi : Nat} {σ : MS} : rJ lo hi σ σ := rJ_rB rB_rfl
theorem rJ_trans {lo hi : Nat} {σ τ υ : MS} (h : rJ lo hi σ τ) (i : rJ lo hi τ υ) : rJ lo hi σ υ := ⟨fun k a b c d e => by rw [i.1 k a b c d e, h.1 k a b c d e], fun k a b c d => by rw [i.2.1 k a b c d, h.2.1 k a b c d], fun k y a b c => by rw [i.2.2 k y a b c, h.2.2 k y a b c]⟩
theorem rJ_wide {lo hi lo' hi' : Nat} {σ τ : MS} (h : rJ lo' hi' σ τ) (h1 : lo ≤ lo') (h2 : hi' ≤ hi) : rJ lo hi σ τ := ⟨h.1, h.2.1, fun k y a b c => h.2.2 k y a b (by omega)⟩
theorem rJ_noF {lo hi : Nat} {σ : MS} {a : Int32 × Int32} : rJ lo hi σ (noF σ a) := rJ_rB (rB_rM rM_noF)
theorem rJ_mI {lo hi k : Nat} {σ : MS} {v : Int32} (h : k = 33 ∨ k = 34 ∨ k = 43) : rJ lo hi σ (mI σ k v) := ⟨fun j a b c d e => by rw [mI_1, if_neg (by omega)], fun _ _ _ _ _ => rfl, fun _ _ _ _ _ => rfl⟩
theorem K3_rJ {lo hi : Nat} {σK τ υ : MS} (h : K3 σK τ) (i : rJ lo hi τ υ) : K3 σK υ := ⟨by rw [i.2.1 28 (by omega) (by omega) (by omega) (by omega)]; exact h.1, by rw [i.2.1 29 (by omega) (by omega) (by omega) (by omega)]; exact h.2.1, by rw [i.2.1 30 (by omega) (by omega) (by omega) (by omega)]; exact h.2.2⟩
/-- a def's list is seen -/
theorem r_dlist {σs : MS} {x m y c i : Nat} (hx : x + 2 + c < 39980) (hm : m < 39990) (h17 : σs.2 17 x = J 6) (h21 : σs.2 21 x = J (m : Nat)) (h19 : σs.2 19 m = J (y : Nat)) (hc : c ≤ 6) (hS : NMS kd rv pl σs (x + 2) c (i + 3)) : ∀ (d k : Nat) (τ : MS), k + d = c → AGM σs τ → WS3 rv τ k k (fun z => i + 3 + 2 * z) (fun z => z) → ∃ τ', (∀ (K : MS → MR) (n : Nat), d < n → loopF (L49 K (J (x : Nat))) n (J (if k < c then ((x + 2 + k : Nat) : Int) else -1), τ) = ((G_X12_meanBlock (J (y : Nat)) τ').bind fun u => K u.2)) ∧ rB (x + 2) (x + 2 + c) τ τ' ∧ AGM σs τ' ∧ WS3 rv τ' c c (fun z => i + 3 + 2 * z) (fun z => z) ∧ flt τ' = flt τ ∧ (∀ t, k ≤ t → t < c → τ'.2 21 (x + 2 + t) = J (t : Nat)) ∧ ∀ t, t < k → τ'.2 21 (x + 2 + t) = τ.2 21 (x + 2 + t) := by
  intro d
  induction d with
  | zero =>
    intro k τ hk hA hw
    obtain rfl : k = c := by omega
    refine ⟨τ, fun K n hn => ?_, rB_rfl, hA, hw, rfl, fun t t1 t2 => by omega, fun t _ => rfl⟩
    obtain ⟨n, rfl⟩ : ∃ e, n = e + 1 := ⟨n - 1, by omega⟩
    obtain ⟨en, en2⟩ := en_of (show x < 39990 by omega)
    obtain ⟨gn, gn2⟩ := en_of hm
    rw [if_neg (show ¬ k < k by omega), L49_s, if_pos (by decide), if_neg en, bndE, en2, ag_21 hA h17 (by omega), h21, if_neg gn, gn2, ag_k hA (by omega), h19]
  | succ d ih =>
    intro k τ hk hA hw
    have hkc : k < c := by omega
    obtain ⟨⟨s1, s2, s3⟩, s4, s5, -⟩ := hS k hkc
    obtain ⟨en, en2⟩ := en_of (show x + 2 + k < 39990 by omega)
    have e19 : τ.2 19 (x + 2 + k) = J (rv (i + 3 + 2 * k)) := by rw [ag_k hA (by omega)]; exact s3
    have er := r_see (show x + 2 + k < 39990 by omega) hw.1 hw.2.1 (show k < 14 by omega) (show k < 14 by omega)
    rw [e19] at er
    have hw2 := WS3_seeR (y := x + 2 + k) (t := i + 3 + 2 * k) hw (show k < 14 by omega)
    rw [ext_id rfl, ext_id rfl] at hw2
    have hA2 := AGM_seeR (s := k) (m := k) (r := J (rv (i + 3 + 2 * k))) hA s1
    obtain ⟨τ', a1, a2, a3, a4, a5, a6, a7⟩ := ih (k + 1) _ (by omega) hA2 hw2
    refine ⟨τ', fun K n hn => ?_, rB_trans (rB_seeR (by omega) (by omega)) a2, a3, a4, a5, fun t t1 t2 => ?_, fun t ht => ?_⟩
    rotate_left
    · by_cases e : t = k
      · rw [e, a7 k (by omega)]
        show upd _ _ _ _ = _
        rw [upd_s, if_pos rfl]
      · exact a6 t (by omega) t2
    · rw [a7 t (by omega)]
      show upd _ _ _ _ = _
      rw [upd_s, if_neg (by omega)]
    obtain ⟨n, rfl⟩ : ∃ e, n = e + 1 := ⟨n - 1, by omega⟩
    rw [if_pos hkc, L49_s, if_neg (J_nlt0 (by omega) (by omega)), er, Option.bind_some, if_neg en, bndE, en2]
    dsimp only
    rw [ag_k hA2 (by omega), s5, show (if k + 1 < c then J (x + 2 + k + 1 : Nat) else J (-1)) = J (if k + 1 < c then ((x + 2 + (k + 1) : Nat) : Int) else -1) by split <;> rfl]
    exact a1 K n (by omega)
/-- the parts of a room or a thing -/
theorem r_parts (hT : TKE T N kd vl rv pl) (hp : plm T pl) (hpb : ∀ i, i ≤ T + 1 → pl i ≤ 5000) {σs : MS} {Θ : HS} {g : Int} {a c hi : Nat} {xs ls is js : Nat → Nat} (h22 : ∀ k, k < c → σs.2 22 (xs k) = J (if k + 1 < c then (xs (k + 1) : Int) else -1)) (hP : ∀ k, k < c → PRT kd rv pl g σs (xs k) (ls (k + 1)) (is k) (js k)) (hij : ∀ k, k < c → is (k + 1) = js k) (hls : ∀ k, k ≤ c → ls k ≤ hi) (hhi : hi ≤ 39000) (hg : (g = 1 ∧ kd a = 230) ∨ (g = 2 ∧ kd a = 231)) (hic : ∀ k, k ≤ c → is k ≤ T) : ∀ (d k : Nat) (τ : MS), k + d = c → AGM σs τ → KE T kd vl rv Θ τ → ∃ b : Int32 × Int32, (∀ (K : MS → MR) (n : Nat), d < n → loopF (L92 K) n (J (if k < c then (xs k : Int) else -1), τ) = K (noF τ b)) ∧ NT pl (badA Θ kd vl a) (is k) (is c) (flt τ) b := by
  have mono : ∀ d k, k + d = c → is k ≤ is c := by
    intro d
    induction d with
    | zero => intro k hk; rw [show k = c by omega]; exact Nat.le_refl _
    | succ d ih => intro k hk; have := ih (k + 1) (by omega); have b := hij k (by omega); have := (hP k (by omega)).1; omega
  intro d
  induction d with
  | zero =>
    intro k τ hk hA hKE
    obtain rfl : k = c := by omega
    refine ⟨flt τ, fun K n hn => ?_, NT_none (fun w w1 w2 => by omega)⟩
    obtain ⟨n, rfl⟩ : ∃ e, n = e + 1 := ⟨n - 1, by omega⟩
    rw [if_neg (show ¬ k < k by omega), L92_s, if_pos (by decide), noF_id]
  | succ d ih =>
    intro k τ hk hA hKE
    have hkc : k < c := by omega
    have hpk := hP k hkc
    have hi := hij k hkc
    have hm1 := mono d (k + 1) (by omega)
    obtain ⟨b, all, n1⟩ := r_part hT hp hpb hpk hg hA hKE (by have := hls (k + 1) (by omega); omega) (by rw [← hi]; exact hic _ (by omega))
    obtain ⟨b2, e2, n2⟩ := ih (k + 1) (noF τ b) (by omega) (AGM_noF hA) hKE
    refine ⟨b2, fun K n hn => ?_, NT_lr hp hpb (k := is (k + 1)) (by rw [hi]; exact n1) (by rw [noF_flt] at n2; exact n2) (by have := hpk.1; omega) hm1 (by have := hic c (Nat.le_refl _); omega)⟩
    obtain ⟨n, rfl⟩ : ∃ e, n = e + 1 := ⟨n - 1, by omega⟩
    rw [if_pos hkc, all, h22 k hkc, e2 K n (by omega), noF_noF]
