/-! taking out, putting in, being in: both on their rows -/
def To1 (p0 : Int32) (j_11 : MS → MR) : ((Int32 × MS) → MR) → Int32 × MS → MR := (fun (again_36 : (Int32 × MS) → MR) (s_35 : Int32 × MS) => ( if s_35.1 < 0 ∨ 121 ≤ s_35.1.toNatClampNeg then none else if (s_35.2.2 89 s_35.1.toNatClampNeg) = p0 then ( if p0 < 0 ∨ 121 ≤ p0.toNatClampNeg then none else if s_35.1 < 0 ∨ 121 ≤ s_35.1.toNatClampNeg then none else bnd (mA s_35.2 89 (upd (s_35.2.2 89) s_35.1.toNatClampNeg (s_35.2.2 89 p0.toNatClampNeg))) fun σ_47 => j_11  σ_47 ) else ( if s_35.1 < 0 ∨ 121 ≤ s_35.1.toNatClampNeg then none else bnd ((s_35.2.2 89 s_35.1.toNatClampNeg)) fun (x_52 : Int32) => again_36 (x_52, s_35.2) ) ))
def Tc1 (p0 : Int32) (j_9 : HS → HR) : ((Int32 × Int32 × HS) → HR) → Int32 × Int32 × HS → HR := (fun (again_26 : (Int32 × Int32 × HS) → HR) (s_25 : Int32 × Int32 × HS) => ( bnd (fun  (σ_29 : HS) => ( bnd ((g_at 121 ((σ_29 9).2.1 2) p0)) fun (x_33 : Int32) => bnd (cA' σ_29 9 2 (g_put 121 ((σ_29 9).2.1 2) s_25.1 x_33)) fun σ_35 => j_9  σ_35 ) : HS → HR) fun j_30 => if 120 ≤ s_25.2.1 then ( j_30  s_25.2.2 ) else ( if s_25.1 = 0 then ( j_30  s_25.2.2 ) else ( bnd ((g_at 121 ((s_25.2.2 9).2.1 2) s_25.1)) fun (x_43 : Int32) => if x_43 = p0 then ( j_30  s_25.2.2 ) else ( bnd ((g_at 121 ((s_25.2.2 9).2.1 2) s_25.1)) fun (x_48 : Int32) => bnd (s_25.2.1 + 1) fun (x_50 : Int32) => again_26 (x_48, x_50, s_25.2.2) ) ) ) ))
def Wi1 (p1 : Int32) : ((Int32 × MS) → MR) → Int32 × MS → MR := (fun (again_2 : (Int32 × MS) → MR) (s_1 : Int32 × MS) => ( bnd (fun  (σ_5 : MS) => ( if s_1.1 = 0 then ( some (0, σ_5) ) else ( some (1, σ_5) ) ) : MS → MR) fun j_6 => if s_1.1 = 0 then ( j_6  s_1.2 ) else ( if s_1.1 = p1 then ( j_6  s_1.2 ) else ( if s_1.1 < 0 ∨ 121 ≤ s_1.1.toNatClampNeg then none else bnd ((s_1.2.2 87 s_1.1.toNatClampNeg)) fun (x_20 : Int32) => again_2 (x_20, s_1.2) ) ) ))
def Wc1 (p1 : Int32) : ((Int32 × Int32 × HS) → HR) → Int32 × Int32 × HS → HR := (fun (again_2 : (Int32 × Int32 × HS) → HR) (s_1 : Int32 × Int32 × HS) => ( if 120 < s_1.2.1 then ( some (0, s_1.2.2) ) else ( if s_1.1 = 0 then ( some (0, s_1.2.2) ) else ( if s_1.1 = p1 then ( some (1, s_1.2.2) ) else ( bnd ((g_at 121 ((s_1.2.2 9).2.1 0) s_1.1)) fun (x_14 : Int32) => bnd (s_1.2.1 + 1) fun (x_16 : Int32) => again_2 (x_14, x_16, s_1.2.2) ) ) ) ))
theorem takeOut_eq (p0 : Int32) (σ : MS) : F_X12_takeOut p0 σ = if p0 < 0 ∨ 121 ≤ p0.toNatClampNeg then none else bnd ((σ.2 87 p0.toNatClampNeg)) fun (x_3 : Int32) => if x_3 = 0 then ( some (0, σ) ) else ( if x_3 < 0 ∨ 121 ≤ x_3.toNatClampNeg then none else bnd (fun  (σ_10 : MS) => ( if p0 < 0 ∨ 121 ≤ p0.toNatClampNeg then none else bnd (mA σ_10 87 (upd (σ_10.2 87) p0.toNatClampNeg 0)) fun σ_16 => if p0 < 0 ∨ 121 ≤ p0.toNatClampNeg then none else bnd (mA σ_16 89 (upd (σ_16.2 89) p0.toNatClampNeg 0)) fun σ_20 => some (0, σ_20) ) : MS → MR) fun j_11 => if (σ.2 88 x_3.toNatClampNeg) = p0 then ( if p0 < 0 ∨ 121 ≤ p0.toNatClampNeg then none else if x_3 < 0 ∨ 121 ≤ x_3.toNatClampNeg then none else bnd (mA σ 88 (upd (σ.2 88) x_3.toNatClampNeg (σ.2 89 p0.toNatClampNeg))) fun σ_28 => j_11  σ_28 ) else ( if x_3 < 0 ∨ 121 ≤ x_3.toNatClampNeg then none else bnd ((σ.2 88 x_3.toNatClampNeg)) fun (x_33 : Int32) => loopF (To1 p0 j_11) FU (x_33, σ) ) ) := rfl
theorem ctakeOut_eq (p0 : Int32) (Γ : HS) : F_X6_takeOut p0 Γ = bnd ((g_at 121 ((Γ 9).2.1 0) p0)) fun (x_1 : Int32) => if x_1 = 0 then ( some (0, Γ) ) else ( bnd ((g_at 121 ((Γ 9).2.1 1) x_1)) fun (x_6 : Int32) => bnd (fun  (σ_8 : HS) => ( bnd (cA' σ_8 9 2 (g_put 121 ((σ_8 9).2.1 2) p0 0)) fun σ_12 => bnd (cA' σ_12 9 0 (g_put 121 ((σ_12 9).2.1 0) p0 0)) fun σ_14 => some (0, σ_14) ) : HS → HR) fun j_9 => if x_6 = p0 then ( bnd ((g_at 121 ((Γ 9).2.1 2) p0)) fun (x_18 : Int32) => bnd (cA' Γ 9 1 (g_put 121 ((Γ 9).2.1 1) x_1 x_18)) fun σ_20 => j_9  σ_20 ) else ( bnd ((g_at 121 ((Γ 9).2.1 1) x_1)) fun (x_23 : Int32) => loopF (Tc1 p0 j_9) FU (x_23, 0, Γ) ) ) := rfl
theorem within_eq (p0 p1 : Int32) (σ : MS) : F_X12_within p0 p1 σ = loopF (Wi1 p1) FU (p0, σ) := rfl
theorem isWithin_eq (p0 p1 : Int32) (Γ : HS) : F_X6_isWithin p0 p1 Γ = loopF (Wc1 p1) FU (p0, 0, Γ) := rfl
theorem To1_s (p0 : Int32) (j_11 : MS → MR) (n : Nat) (a : Int32) (X : MS) : loopF (To1 p0 j_11) (n + 1) (a, X) = ( if a < 0 ∨ 121 ≤ a.toNatClampNeg then none else if (X.2 89 a.toNatClampNeg) = p0 then ( if p0 < 0 ∨ 121 ≤ p0.toNatClampNeg then none else if a < 0 ∨ 121 ≤ a.toNatClampNeg then none else bnd (mA X 89 (upd (X.2 89) a.toNatClampNeg (X.2 89 p0.toNatClampNeg))) fun σ_47 => j_11  σ_47 ) else ( if a < 0 ∨ 121 ≤ a.toNatClampNeg then none else bnd ((X.2 89 a.toNatClampNeg)) fun (x_52 : Int32) => loopF (To1 p0 j_11) n (x_52, X) ) ) := rfl
theorem Tc1_s (p0 : Int32) (j_9 : HS → HR) (n : Nat) (a b : Int32) (X : HS) : loopF (Tc1 p0 j_9) (n + 1) (a, b, X) = ( bnd (fun  (σ_29 : HS) => ( bnd ((g_at 121 ((σ_29 9).2.1 2) p0)) fun (x_33 : Int32) => bnd (cA' σ_29 9 2 (g_put 121 ((σ_29 9).2.1 2) a x_33)) fun σ_35 => j_9  σ_35 ) : HS → HR) fun j_30 => if 120 ≤ b then ( j_30  X ) else ( if a = 0 then ( j_30  X ) else ( bnd ((g_at 121 ((X 9).2.1 2) a)) fun (x_43 : Int32) => if x_43 = p0 then ( j_30  X ) else ( bnd ((g_at 121 ((X 9).2.1 2) a)) fun (x_48 : Int32) => bnd (b + 1) fun (x_50 : Int32) => loopF (Tc1 p0 j_9) n (x_48, x_50, X) ) ) ) ) := rfl
theorem Wi1_s (p1 : Int32) (n : Nat) (a : Int32) (X : MS) : loopF (Wi1 p1) (n + 1) (a, X) = ( bnd (fun  (σ_5 : MS) => ( if a = 0 then ( some (0, σ_5) ) else ( some (1, σ_5) ) ) : MS → MR) fun j_6 => if a = 0 then ( j_6  X ) else ( if a = p1 then ( j_6  X ) else ( if a < 0 ∨ 121 ≤ a.toNatClampNeg then none else bnd ((X.2 87 a.toNatClampNeg)) fun (x_20 : Int32) => loopF (Wi1 p1) n (x_20, X) ) ) ) := rfl
theorem Wc1_s (p1 : Int32) (n : Nat) (a b : Int32) (X : HS) : loopF (Wc1 p1) (n + 1) (a, b, X) = ( if 120 < b then ( some (0, X) ) else ( if a = 0 then ( some (0, X) ) else ( if a = p1 then ( some (1, X) ) else ( bnd ((g_at 121 ((X 9).2.1 0) a)) fun (x_14 : Int32) => bnd (b + 1) fun (x_16 : Int32) => loopF (Wc1 p1) n (x_14, x_16, X) ) ) ) ) := rfl
def RT (σ : MS) (pa fi nx : Nat → Nat) : Prop := ∀ i, i ≤ 120 → σ.2 87 i = J (pa i : Nat) ∧ σ.2 88 i = J (fi i : Nat) ∧ σ.2 89 i = J (nx i : Nat)
def CTr (Γ : HS) (pa fi nx : Nat → Nat) : Prop := ∀ i, i ≤ 120 → (Γ 9).2.1 0 i = J (pa i : Nat) ∧ (Γ 9).2.1 1 i = J (fi i : Nat) ∧ (Γ 9).2.1 2 i = J (nx i : Nat)
/-- only the tree changes -/
def ofT (σ τ : MS) : Prop := τ.1 = σ.1 ∧ ∀ k, k ≠ 87 → k ≠ 88 → k ≠ 89 → τ.2 k = σ.2 k
def ocT (Γ Δ : HS) : Prop := (∀ r, r ≠ 9 → Δ r = Γ r) ∧ (Δ 9).1 = (Γ 9).1 ∧ ∀ k, 3 ≤ k → (Δ 9).2.1 k = (Γ 9).2.1 k
theorem ofT_rfl {σ : MS} : ofT σ σ := ⟨rfl, fun _ _ _ _ => rfl⟩
theorem ofT_trans {σ τ υ : MS} (h : ofT σ τ) (g : ofT τ υ) : ofT σ υ := ⟨g.1.trans h.1, fun k a b c => by rw [g.2 k a b c, h.2 k a b c]⟩
theorem ofT_mA {σ τ : MS} {k : Nat} {f : Nat → Int32} (h : ofT σ τ) (hk : k = 87 ∨ k = 88 ∨ k = 89) : ofT σ (mA τ k f) := ⟨h.1, fun j a b c => by rw [mA_2, if_neg (by omega)]; exact h.2 j a b c⟩
theorem ocT_rfl {Γ : HS} : ocT Γ Γ := ⟨fun _ _ => rfl, rfl, fun _ _ => rfl⟩
theorem ocT_trans {Γ Δ Θ : HS} (h : ocT Γ Δ) (g : ocT Δ Θ) : ocT Γ Θ := ⟨fun r hr => by rw [g.1 r hr, h.1 r hr], g.2.1.trans h.2.1, fun k hk => by rw [g.2.2 k hk, h.2.2 k hk]⟩
theorem ocT_cA {Γ Δ : HS} {k : Nat} {f : Nat → Int32} (h : ocT Γ Δ) (hk : k < 3) : ocT Γ (cA' Δ 9 k f) := ⟨fun r hr => by rw [cA_r, if_neg hr]; exact h.1 r hr, h.2.1, fun j hj => by show updA _ _ _ _ = _; rw [updA_s, if_neg (by omega)]; exact h.2.2 j hj⟩
theorem mrg9 {Γ Δ : HS} (h : ∀ r, r ≠ 9 → Δ r = Γ r) : mrg (fun j => j == 9) Γ Δ = Δ := mrgE (fun r hr => h r (by rintro rfl; exact absurd hr (by decide)))
theorem upJ {f : Nat → Int32} {g : Nat → Nat} {k v : Nat} (h : ∀ i, i ≤ 120 → f i = J (g i : Nat)) : ∀ i, i ≤ 120 → upd f k (J (v : Nat)) i = J (uN g k v i : Nat) := fun i hi => by
  rw [upd_s, uN_s]; split; rfl; exact h i hi
theorem RT_87 {σ : MS} {pa fi nx : Nat → Nat} {k v : Nat} (h : RT σ pa fi nx) : RT (mA σ 87 (upd (σ.2 87) k (J (v : Nat)))) (uN pa k v) fi nx := fun i hi => ⟨by rw [mA_2, if_pos rfl]; exact upJ (fun i hi => (h i hi).1) i hi, by rw [mA_2, if_neg (by omega)]; exact (h i hi).2.1, by rw [mA_2, if_neg (by omega)]; exact (h i hi).2.2⟩
theorem RT_88 {σ : MS} {pa fi nx : Nat → Nat} {k v : Nat} (h : RT σ pa fi nx) : RT (mA σ 88 (upd (σ.2 88) k (J (v : Nat)))) pa (uN fi k v) nx := fun i hi => ⟨by rw [mA_2, if_neg (by omega)]; exact (h i hi).1, by rw [mA_2, if_pos rfl]; exact upJ (fun i hi => (h i hi).2.1) i hi, by rw [mA_2, if_neg (by omega)]; exact (h i hi).2.2⟩
theorem RT_89 {σ : MS} {pa fi nx : Nat → Nat} {k v : Nat} (h : RT σ pa fi nx) : RT (mA σ 89 (upd (σ.2 89) k (J (v : Nat)))) pa fi (uN nx k v) := fun i hi => ⟨by rw [mA_2, if_neg (by omega)]; exact (h i hi).1, by rw [mA_2, if_neg (by omega)]; exact (h i hi).2.1, by rw [mA_2, if_pos rfl]; exact upJ (fun i hi => (h i hi).2.2) i hi⟩
theorem CT_0 {Γ : HS} {pa fi nx : Nat → Nat} {k v : Nat} (h : CTr Γ pa fi nx) : CTr (cA' Γ 9 0 (upd ((Γ 9).2.1 0) k (J (v : Nat)))) (uN pa k v) fi nx := fun i hi => ⟨upJ (fun i hi => (h i hi).1) i hi, (h i hi).2.1, (h i hi).2.2⟩
theorem CT_1 {Γ : HS} {pa fi nx : Nat → Nat} {k v : Nat} (h : CTr Γ pa fi nx) : CTr (cA' Γ 9 1 (upd ((Γ 9).2.1 1) k (J (v : Nat)))) pa (uN fi k v) nx := fun i hi => ⟨(h i hi).1, upJ (fun i hi => (h i hi).2.1) i hi, (h i hi).2.2⟩
theorem CT_2 {Γ : HS} {pa fi nx : Nat → Nat} {k v : Nat} (h : CTr Γ pa fi nx) : CTr (cA' Γ 9 2 (upd ((Γ 9).2.1 2) k (J (v : Nat)))) pa fi (uN nx k v) := fun i hi => ⟨(h i hi).1, (h i hi).2.1, upJ (fun i hi => (h i hi).2.2) i hi⟩
theorem g121 {x : Nat} (h : x ≤ 120) : ¬ (J (x : Nat) < 0 ∨ 121 ≤ (J (x : Nat)).toNatClampNeg) := by
  rw [J_natN (by omega)]; rintro (q | q); exact J_nlt0 (by omega) (by omega) q; omega
theorem J_eqN {a b : Nat} (ha : a < 100000) (hb : b < 100000) : (J (a : Nat) = J (b : Nat)) = (a = b) := by
  rw [J_eq (by omega) (by omega) (by omega) (by omega)]; exact propext ⟨fun h => by omega, fun h => by omega⟩
theorem J_z0 {a : Nat} (ha : a < 100000) : (J (a : Nat) = 0) = (a = 0) := J_eqN (b := 0) ha (by omega)
/-- the search for the sibling ahead -/
theorem To1_go {x : Nat} (hx : 1 ≤ x ∧ x ≤ 120) {j11 : MS → MR} {σ : MS} {pa fi nx : Nat → Nat} (h : RT σ pa fi nx) : ∀ (l : List Nat) (a : Nat), chL nx (a :: l) a → (∀ b, b ∈ a :: l → b ≤ 120) → a ≠ x → x ∈ l → ∀ n, l.length < n → loopF (To1 (J (x : Nat)) j11) n (J (a : Nat), σ) = j11 (mA σ 89 (upd (σ.2 89) (predL (a :: l) x) (J (nx x : Nat)))) := by
  intro l
  induction l with
  | nil => intro a _ _ _ hm; cases hm
  | cons b l ih =>
    intro a hc hb hax hm n hn
    obtain ⟨n, rfl⟩ : ∃ e, n = e + 1 := ⟨n - 1, by omega⟩
    have ha := hb a (List.mem_cons_self ..)
    have hbb := hb b (List.mem_cons_of_mem _ (List.mem_cons_self ..))
    have g := g121 ha
    have hab : nx a = b := hc.2.2.1
    rw [To1_s, if_neg g, J_natN (by omega), (h a ha).2.2, hab]
    rw [J_natN (by omega)] at g
    by_cases q : b = x
    · have ep : predL (a :: b :: l) x = a := if_pos q
      rw [if_pos (by rw [q]), if_neg (g121 hx.2), if_neg g, bndE, J_natN (by omega), (h x hx.2).2.2, ep]
    · have ep : predL (a :: b :: l) x = predL (b :: l) x := if_neg q
      rw [if_neg (by rw [J_eqN (by omega) (by omega)]; exact q), if_neg g, bndE, ep]
      refine ih b (by rw [← hab]; exact hab ▸ hc.2.2) (fun c hc' => hb c (List.mem_cons_of_mem _ hc')) q ?_ n (by rw [List.length_cons] at hn; omega)
      rcases List.mem_cons.mp hm with e | e
      · exact absurd e.symm q
      · exact e
theorem Tc1_go {x : Nat} (hx : 1 ≤ x ∧ x ≤ 120) {j9 : HS → HR} {Γ : HS} {pa fi nx : Nat → Nat} (h : CTr Γ pa fi nx) : ∀ (l : List Nat) (a c : Nat), chL nx (a :: l) a → (∀ b, b ∈ a :: l → b ≤ 120) → a ≠ x → x ∈ l → c + l.length ≤ 120 → ∀ n, l.length < n → loopF (Tc1 (J (x : Nat)) j9) n (J (a : Nat), J (c : Nat), Γ) = j9 (cA' Γ 9 2 (upd ((Γ 9).2.1 2) (predL (a :: l) x) (J (nx x : Nat)))) := by
  intro l
  induction l with
  | nil => intro a c _ _ _ hm; cases hm
  | cons b l ih =>
    intro a c hc hb hax hm hcl n hn
    obtain ⟨n, rfl⟩ : ∃ e, n = e + 1 := ⟨n - 1, by omega⟩
    have ha := hb a (List.mem_cons_self ..)
    have hbb := hb b (List.mem_cons_of_mem _ (List.mem_cons_self ..))
    have hab : nx a = b := hc.2.2.1
    rw [List.length_cons] at hcl hn
    have ga : ∀ f : Nat → Int32, g_at 121 f (J (a : Nat)) = f a := fun f => by rw [q_g_at_in (by omega) (by omega) (by omega)]; rfl
    have gx : ∀ f : Nat → Int32, g_at 121 f (J (x : Nat)) = f x := fun f => by rw [q_g_at_in (by omega) (by omega) (by omega)]; rfl
    rw [Tc1_s, bndE, if_neg (by rw [show (120 : Int32) = J 120 from rfl, J_le (by omega) (by omega) (by omega) (by omega)]; omega), if_neg (by rw [J_z0 (by omega)]; exact hc.2.1), ga, (h a ha).2.2, hab, bndE]
    by_cases q : b = x
    · have ep : predL (a :: b :: l) x = a := if_pos q
      rw [if_pos (by rw [q])]
      dsimp only
      rw [gx, (h x hx.2).2.2, bndE, q_g_put_in (by omega) (by omega) (by omega), ep]; rfl
    · have ep : predL (a :: b :: l) x = predL (b :: l) x := if_neg q
      rw [if_neg (by rw [J_eqN (by omega) (by omega)]; exact q), bndE, bndE, J_suc, ep]
      refine ih b (c + 1) (by rw [← hab]; exact hab ▸ hc.2.2) (fun c hc' => hb c (List.mem_cons_of_mem _ hc')) q ?_ (by omega) n (by omega)
      rcases List.mem_cons.mp hm with e | e
      · exact absurd e.symm q
      · exact e
