/-! two sides: how a node and its code are made of those of its sides -/
variable {T N : Nat} {kd vl rv : Nat → Int} {pl : Nat → Nat}
theorem nd2_A {σ : MS} {n : Nat} {k p x y z : Int} (j : Nat) (m : Nat) (hm : m ≠ n) : (nd2 σ n k p x y z).2 j m = σ.2 j m := by
  have h1 : ∀ (f : Nat → Int32) (v : Int32), upd f n v m = f m := fun f v => by rw [upd_s, if_neg hm]
  show (mA (mA (mA (nod σ n k p) 19 _) 20 _) 21 _).2 j m = _
  simp only [sA, sB, sD, mA_2, nod_A]
  by_cases q1 : j = 21
  · subst q1; simp [h1]
  · by_cases q2 : j = 20
    · subst q2; simp [h1]
    · by_cases q3 : j = 19
      · subst q3; simp [h1]
      · by_cases q4 : j = 22
        · subst q4; simp [h1]
        · by_cases q5 : j = 18
          · subst q5; simp [h1]
          · by_cases q6 : j = 17
            · subst q6; simp [h1]
            · simp [q1, q2, q3, q4, q5, q6]
theorem nd2_17 {σ : MS} {n : Nat} {k p x y z : Int} : (nd2 σ n k p x y z).2 17 n = J k := by show upd _ _ _ _ = _; rw [upd_s, if_pos rfl]
theorem nd2_18 {σ : MS} {n : Nat} {k p x y z : Int} : (nd2 σ n k p x y z).2 18 n = J p := by show upd _ _ _ _ = _; rw [upd_s, if_pos rfl]
theorem nd2_19 {σ : MS} {n : Nat} {k p x y z : Int} : (nd2 σ n k p x y z).2 19 n = J x := by show upd _ _ _ _ = _; rw [upd_s, if_pos rfl]
theorem nd2_20 {σ : MS} {n : Nat} {k p x y z : Int} : (nd2 σ n k p x y z).2 20 n = J y := by show upd _ _ _ _ = _; rw [upd_s, if_pos rfl]
theorem nd2_21 {σ : MS} {n : Nat} {k p x y z : Int} : (nd2 σ n k p x y z).2 21 n = J z := by show upd _ _ _ _ = _; rw [upd_s, if_pos rfl]
theorem nd2_22 {σ : MS} {n : Nat} {k p x y z : Int} : (nd2 σ n k p x y z).2 22 n = J (-1) := by show upd _ _ _ _ = _; rw [upd_s, if_pos rfl]
theorem rX_nd2 {σ : MS} {n m : Nat} {k p x y z : Int} (h : m ≤ n) : rX m σ (nd2 σ n k p x y z) := fun j _ _ q hq => nd2_A j q (by omega)
theorem rfP_nd2 {σ : MS} {n : Nat} {k p x y z : Int} : rfP σ (nd2 σ n k p x y z) := rfP_trans rfP_nod (rfP_trans (rfP_mA (by omega)) (rfP_trans (rfP_mA (by omega)) (rfP_mA (by omega))))
theorem RN_nd2 {σ : MS} {a dp nn : Nat} {k p x y z : Int} (h : RN T kd vl rv pl σ a dp nn) : RN T kd vl rv pl (nd2 σ nn k p x y z) a dp (nn + 1) := RN_mA (RN_mA (RN_mA (RN_nod h k p) (by omega) (by omega) (by omega)) (by omega) (by omega) (by omega)) (by omega) (by omega) (by omega)
theorem RX_nd2 {σ : MS} {f : Int} {q nn : Nat} {k p x y z : Int} (h : RX T kd vl rv pl σ f q nn) : RX T kd vl rv pl (nd2 σ nn k p x y z) f q (nn + 1) := RX_mA (RX_mA (RX_mA (RX_nod h k p) (by omega) (by omega) (by omega)) (by omega) (by omega) (by omega)) (by omega) (by omega) (by omega)
theorem EXP_nd2 {σ : MS} {Γ : HS} {n lo hi x i j p q m : Nat} {k p' x' y z : Int} (h : EXP kd vl rv pl σ Γ n lo hi x i j p q) (hm : hi ≤ m) : EXP kd vl rv pl (nd2 σ m k p' x' y z) Γ n lo hi x i j p q := by
  refine EXP_ag n lo hi x i j p q (fun w w1 w2 => ?_) ⟨fun _ _ _ => rfl, fun _ _ _ => rfl⟩ h
  have g : ∀ j, (nd2 σ m k p' x' y z).2 j w = σ.2 j w := fun j => nd2_A j w (by omega)
  exact ⟨g 17, g 18, g 19, fun _ => g 20, fun _ _ _ _ => g 21, fun _ => g 22⟩
theorem EXP_c1 {σ : MS} {Γ : HS} {n lo hi x i j p q l : Nat} {o : Int} (h : EXP kd vl rv pl σ Γ n lo hi x i j p q) (hl : q ≤ l) : EXP kd vl rv pl σ (ca1 Γ l o) n lo hi x i j p q := EXP_ag n lo hi x i j p q (fun _ _ _ => ⟨rfl, rfl, rfl, fun _ => rfl, fun _ _ _ _ => rfl, fun _ => rfl⟩) ⟨fun r _ r2 => (cXt_ca1 (a := 0) hl).1 r r2, fun _ _ _ => rfl⟩ h
theorem EXP_c3 {σ : MS} {Γ : HS} {n lo hi x i j p q l : Nat} {o v : Int} (h : EXP kd vl rv pl σ Γ n lo hi x i j p q) (hl : q ≤ l) : EXP kd vl rv pl σ (ca3 Γ l o v) n lo hi x i j p q := EXP_ag n lo hi x i j p q (fun _ _ _ => ⟨rfl, rfl, rfl, fun _ => rfl, fun _ _ _ _ => rfl, fun _ => rfl⟩) ⟨fun r _ r2 => (cXt_ca3 (a := 0) hl).1 r r2, fun _ _ _ => rfl⟩ h
theorem csp_n {Γ : HS} {l r : Nat} {v : Int} (h : r ≠ l) (h2 : r ≠ l + 1) : ((csp Γ l v) 5).2.1 0 r = (Γ 5).2.1 0 r := by
  show upd _ _ _ _ = _; rw [upd_s, if_neg h2, upd_s, if_neg h]
theorem EXP_sp {σ : MS} {Γ : HS} {n lo hi x i j p q l : Nat} {v : Int} (h : EXP kd vl rv pl σ Γ n lo hi x i j p q) (hl : q ≤ l ∨ l + 1 < p) : EXP kd vl rv pl σ (csp Γ l v) n lo hi x i j p q := EXP_ag n lo hi x i j p q (fun _ _ _ => ⟨rfl, rfl, rfl, fun _ => rfl, fun _ _ _ _ => rfl, fun _ => rfl⟩) ⟨fun r r1 r2 => csp_n (by omega) (by omega), fun _ _ _ => rfl⟩ h
theorem EXP_I {σ : MS} {Γ : HS} {n lo hi x i j p q k : Nat} {v : Int32} (h : EXP kd vl rv pl σ Γ n lo hi x i j p q) : EXP kd vl rv pl (mI σ k v) Γ n lo hi x i j p q := EXP_ag (σ := σ) (Γ := Γ) _ _ _ _ _ _ _ _ (fun _ _ _ => ⟨rfl, rfl, rfl, fun _ => rfl, fun _ _ _ _ => rfl, fun _ => rfl⟩) ⟨fun _ _ _ => rfl, fun _ _ _ => rfl⟩ h
theorem rvO_plain {i : Nat} {c : Int} (h : kd i = c) (h2 : 8 < c) (h3 : c < 200) : rvO kd vl rv i = c := by
  unfold rvO rvS
  rw [if_neg (by omega), if_neg (by omega), if_neg (by omega), if_neg (by omega), if_neg (by omega), if_neg (by omega), if_neg (by omega), if_neg (by omega), if_neg (by omega), h]
theorem rvO_dbl {i : Nat} {c d : Int} (h : kd i = c) (h2 : c = 5 ∧ d = 317 ∨ c = 6 ∧ d = 289 ∨ c = 7 ∧ d = 316 ∨ c = 8 ∧ d = 318) : rvO kd vl rv i = d := by
  unfold rvO rvS
  rw [if_neg (by omega), if_neg (by omega), if_neg (by omega), if_neg (by omega)]
  rcases h2 with ⟨h2, h3⟩ | ⟨h2, h3⟩ | ⟨h2, h3⟩ | ⟨h2, h3⟩
  · rw [if_pos (by omega), h3]
  · rw [if_neg (by omega), if_pos (by omega), h3]
  · rw [if_neg (by omega), if_neg (by omega), if_pos (by omega), h3]
  · rw [if_neg (by omega), if_neg (by omega), if_neg (by omega), if_pos (by omega), h3]
theorem bin_step {τ u : MS} {Δ v : HS} {h h' nn nn' nn2 x y a ac a' ln ln' ln2 : Nat} {w d o p : Int} (e1 : EXP kd vl rv pl τ Δ h nn nn' x a ac ln ln') (e2 : EXP kd vl rv pl u v h' nn' nn2 y (ac + 1) a' ln' ln2) (hx : rX nn' τ u) (hc : cXt ln' ac Δ v) (hb : bTb (kd ac) w d o) : EXP kd vl rv pl (nd2 u nn2 w p x y d) (ca1 v ln2 o) (max h (h' + 10000) + 1) nn (nn2 + 1) nn2 a a' ln (ln2 + 1) := by
  have r1 := EXP_rng e1
  have r2 := EXP_rng e2
  unfold EXP
  refine ⟨by omega, by omega, by omega, by omega, by omega, Or.inr (Or.inr (Or.inr (Or.inr (Or.inr (Or.inr (Or.inr (Or.inr (Or.inr (Or.inl ⟨h, by omega, h', by omega, w, d, o, x, y, ac, ln', ln2, nn', hb, rfl, nd2_17, nd2_19, nd2_20, nd2_21, op1_ca1, by omega, ?_, ?_⟩)))))))))⟩
  · exact EXP_c1 (EXP_nd2 (EXP_ext e1 hx hc (Nat.le_refl _) (Nat.le_refl _) (Nat.le_refl _)) (by omega)) (by omega)
  · exact EXP_c1 (EXP_nd2 e2 (by omega)) (by omega)
theorem log_step {τ u : MS} {Δ v : HS} {h h' nn nn' nn2 x y a ac a' ln ln' ln2 : Nat} {w o p : Int} (e1 : EXP kd vl rv pl τ Δ h nn nn' x a ac ln ln') (e2 : EXP kd vl rv pl u v h' nn' nn2 y (ac + 1) a' (ln' + 3) ln2) (hx : rX nn' τ u) (hc : cXt (ln' + 3) (ac + 1) (ca3 (cps kd Δ ac) ln' o 0) v) (hb : lTb (kd ac) w o) : EXP kd vl rv pl (nd2 u nn2 w p x y 0) (csp (ca1 v ln2 7) (ln' + 1) ((ln2 + 1 : Nat) : Int)) (max h (h' + 2000) + 1) nn (nn2 + 1) nn2 a a' ln (ln2 + 1) := by
  have r1 := EXP_rng e1
  have r2 := EXP_rng e2
  unfold EXP
  refine ⟨by omega, by omega, by omega, by omega, by omega, Or.inr (Or.inr (Or.inr (Or.inr (Or.inr (Or.inr (Or.inr (Or.inr (Or.inl ⟨h, by omega, h', by omega, w, o, x, y, ac, ln', ln2, nn', hb, rfl, nd2_17, nd2_19, nd2_20, ?_, ?_, by omega, ?_, ?_⟩))))))))⟩
  · refine ⟨?_, ?_, ?_⟩
    · rw [csp_n (by omega) (by omega), (cXt_ca1 (a := 0) (Nat.le_refl ln2)).1 ln' (by omega), hc.1 ln' (by omega)]
      exact op3_ca3.1
    · show upd _ _ _ _ = _; rw [upd_s, if_neg (by omega), upd_s, if_pos rfl]
    · show upd _ _ _ _ = _; rw [upd_s, if_pos rfl]
  · unfold op1
    rw [csp_n (by omega) (by omega)]; exact op1_ca1
  · refine EXP_sp (EXP_c1 (EXP_nd2 (EXP_ext (ln := ln') (a := ac) e1 hx ?_ (Nat.le_refl _) (Nat.le_refl _) (Nat.le_refl _)) (by omega)) (by omega)) (Or.inl (by omega))
    exact cXt_trans (cXt_trans (cXt_cps (kd := kd) (b := ac)) (cXt_ca3 (Nat.le_refl ln')) (Nat.le_refl ln') (Nat.le_refl ac)) hc (by omega) (by omega)
  · exact EXP_sp (EXP_c1 (EXP_nd2 e2 (by omega)) (by omega)) (Or.inr (by omega))
/-- what stands while a row of operands is read -/
def LPn (T N : Nat) (kd vl rv : Nat → Int) (pl : Nat → Nat) (B : Nat) (σ : MS) (Γ : HS) (a dp ln nn lvl : Nat) (s : Int32 × MS) (t : Int32 × HS) (k : Nat) : Prop :=
  (∃ (h a' ln' nn' x n : Nat), s.1 = J x ∧ t.1 = J n ∧ T + 2 - a' ≤ k ∧ n ≤ a' - a ∧ s.2.2 22 x = J (-1) ∧ RN T kd vl rv pl s.2 a' dp nn' ∧ CN T N kd vl pl t.2 a' dp ln' ∧ EXP kd vl rv pl s.2 t.2 h nn nn' x a a' ln ln' ∧ (nn' ≤ nn + 3 * (a' - a) ∧ h ≤ 84000 * (31 - dp) + 10000 * min 3 (lvl - 2) + 2000 * (lvl - 6) + (a' - a)) ∧ ln' ≤ ln + 4 * (a' - a) ∧ rX nn σ s.2 ∧ cXt ln a Γ t.2 ∧ rfP σ s.2 ∧ cfP Γ t.2) ∨ SRes T N kd vl rv pl B σ Γ s t
theorem LPn_of {B : Nat} {σ : MS} {Γ : HS} {a dp ln nn lvl : Nat} {u : Int32 × MS} {v : Int32 × HS} (h : ERes T N kd vl rv pl B σ Γ a dp ln nn lvl u v) : LPn T N kd vl rv pl B σ Γ a dp ln nn lvl (u.1, u.2) (0, v.2) (T + 2) := by
  rcases h with ⟨h, a', ln', nn', x, e1, e2, e3⟩ | h
  · exact Or.inl ⟨h, a', ln', nn', x, 0, e1, rfl, by omega, by omega, e2, e3⟩
  · exact Or.inr h
theorem LPn_done {B : Nat} {σ : MS} {Γ : HS} {a dp ln nn lvl k : Nat} {s : Int32 × MS} {t : Int32 × HS} {y : Int32} (h : LPn T N kd vl rv pl B σ Γ a dp ln nn lvl s t k) : ERes T N kd vl rv pl B σ Γ a dp ln nn lvl (s.1, s.2) (y, t.2) := by
  rcases h with ⟨h, a', ln', nn', x, n, e1, _, _, _, e2, e3⟩ | h
  · exact Or.inl ⟨h, a', ln', nn', x, e1, e2, e3⟩
  · exact Or.inr h
theorem CN_lt (hT : TKE T N kd vl rv pl) {Γ : HS} {a dp ln n : Nat} (h : CN T N kd vl pl Γ a dp ln) (hn : n ≤ T) : ¬ ((Γ 1).1 2 ≤ J (n : Int)) := by
  obtain ⟨n1, n2, n3, n4⟩ := TKE_N hT
  rw [h.1.1, J_le (by omega) (by omega) (by omega) (by omega)]; omega
theorem ERes_B {B C a dp ln nn l l' : Nat} {σ : MS} {Γ : HS} {u : Int32 × MS} {v : Int32 × HS} (h : ERes T N kd vl rv pl B σ Γ a dp ln nn l u v) (hB : B ≤ C) (hl : l ≤ l') : ERes T N kd vl rv pl C σ Γ a dp ln nn l' u v := by
  rcases h with ⟨h, a', ln', nn', x, e1, e2, e3, e4, e5, e6, e7⟩ | h
  · exact Or.inl ⟨h, a', ln', nn', x, e1, e2, e3, e4, e5, by omega, e7⟩
  · exact Or.inr (SRes_B h hB)
