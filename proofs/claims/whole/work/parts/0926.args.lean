/-! both read what stands between brackets alike -/
variable {T N : Nat} {kd vl rv : Nat → Int} {pl : Nat → Nat}
theorem r_open_y (hT : TKE T N kd vl rv pl) {σ : MS} {a dp nn : Nat} (h : RN T kd vl rv pl σ a dp nn) {c : Int} (hc : sgnOk c = true) (hk : kd a = c) (hd : dp < 30) : F_X12_open (J c) σ = some (J 0, psd (opn σ (dp + 1 : Nat)) a) := by
  unfold F_X12_open
  rw [r_isSign hT h hc, Option.bind_some]
  simp only [bnd]
  rw [if_pos hk, if_neg J1_ne, r_opens hT h, Option.bind_some, if_neg (by omega)]
  have h2 : RN T kd vl rv pl (opn σ ((dp : Int) + 1)) a (dp + 1) nn := RN_opn (d := dp + 1) h (by omega)
  dsimp only
  rw [r_need hT h2 hc, Option.bind_some, if_pos hk]; rfl
theorem r_open_x (hT : TKE T N kd vl rv pl) {σ : MS} {a dp nn : Nat} (h : RN T kd vl rv pl σ a dp nn) {c : Int} (hc : sgnOk c = true) (hk : kd a = c) (hd : dp = 30) : F_X12_open (J c) σ = some (J 0, opn (stp σ 5 (pl a)) 31) := by
  unfold F_X12_open
  rw [r_isSign hT h hc, Option.bind_some]
  simp only [bnd]
  rw [if_pos hk, if_neg J1_ne, r_opens hT h, Option.bind_some, if_pos hd]
  have h2 : RX T kd vl rv pl (opn (stp σ 5 (pl a)) ((dp : Int) + 1)) 5 (pl a) nn := RX_opn (RX_stp h)
  dsimp only
  rw [x_need hT h2, Option.bind_some, hd]; rfl
theorem r_open_n (hT : TKE T N kd vl rv pl) {σ : MS} {a dp nn : Nat} (h : RN T kd vl rv pl σ a dp nn) {c : Int} (hc : sgnOk c = true) (hk : kd a ≠ c) : F_X12_open (J c) σ = some (J 0, stp σ (unf kd a) (pl a)) := by
  unfold F_X12_open
  rw [r_isSign hT h hc, Option.bind_some]
  simp only [bnd]
  rw [if_neg hk, if_pos J0_eq, r_need hT h hc, if_neg hk]; rfl
theorem r_shut (hT : TKE T N kd vl rv pl) {σ : MS} {a dp nn : Nat} (h : RN T kd vl rv pl σ a dp nn) {c : Int} (hc : sgnOk c = true) (hd : 0 < dp) : F_X12_shut (J c) σ = some (J 0, opn (if kd a = c then psd σ a else stp σ (unf kd a) (pl a)) (dp - 1 : Nat)) := by
  unfold F_X12_shut
  rw [r_need hT h hc, Option.bind_some]
  have e : (if kd a = c then psd σ a else stp σ (unf kd a) (pl a)).1 26 = J dp := by
    split
    · exact h.2.2.1
    · exact h.2.2.1
  simp only [bnd]
  rw [e, show J (dp : Int) - 1 = J ((dp - 1 : Nat) : Int) by rw [J_lit, J_sub]; exact congrArg J (by show (dp : Int) - 1 = _; omega)]
  rfl
theorem rX_psd {n a : Nat} {σ : MS} : rX n σ (psd σ a) := rX_mI
theorem rX_opn {n : Nat} {d : Int} {σ : MS} : rX n σ (opn σ d) := rX_mI
theorem rX_stp {n p : Nat} {f : Int} {σ : MS} : rX n σ (stp σ f p) := fun _ _ _ _ _ => rfl
theorem cXt_cps {ln a b : Nat} {Γ : HS} : cXt ln a Γ (cps kd Γ b) := cXt_trans cXt_I cXt_I (Nat.le_refl _) (Nat.le_refl _)
theorem cXt_cop {ln a : Nat} {d : Int} {Γ : HS} : cXt ln a Γ (cop Γ d) := cXt_I
theorem cfP_cop {d : Int} {Γ : HS} : cfP Γ (cop Γ d) := cfP_I2
theorem cXt_A6 {ln a b : Nat} {Γ : HS} {x : Int32} (h : a ≤ b) : cXt ln a Γ (cA' Γ 1 6 (upd ((Γ 1).2.1 6) b x)) := ⟨fun r hr => rfl, fun t ht => by show upd _ _ _ _ = _; rw [upd_s, if_neg (by omega)]⟩
/-- pieces, with their places -/
def LSTf (kd : Nat → Int) (σ : MS) (E : Nat → Nat → Nat → Nat → Nat → Nat → Nat → Prop) (sep : Nat) (f : Int) (c i j p q : Nat) (xs ls is js ps : Nat → Nat) : Prop :=
  CHN σ c xs f ∧ (∀ k, k < c → ls k ≤ xs k ∧ xs k < ls (k + 1) ∧ E (ls k) (ls (k + 1)) (xs k) (is k) (js k) (ps k) (ps (k + 1))) ∧ is 0 = i ∧ is c = j ∧ ps 0 = p ∧ ps c = q ∧ (∀ k, k < c → is k < js k ∧ is (k + 1) = if k + 1 < c then js k + sep else js k) ∧ (∀ k, k < c → ps k < ps (k + 1)) ∧ ∀ k, k + 1 < c → sep = 1 → kd (js k) = 44
theorem LSTf_LST {σ : MS} {E : Nat → Nat → Nat → Nat → Nat → Nat → Nat → Prop} {sep lo hi c i j p q : Nat} {f : Int} {xs ls is js ps : Nat → Nat} (h : LSTf kd σ E sep f c i j p q xs ls is js ps) (h1 : lo ≤ ls 0) (h2 : ls c ≤ hi) : LST kd σ E sep lo hi f c i j p q := by
  obtain ⟨a1, a2, a3, a4, a5, a6, a7, a8, a9⟩ := h
  exact ⟨xs, ls, is, js, ps, a1, h1, h2, a2, a3, a4, a5, a6, a7, a8, a9⟩
theorem LSTf_nil {σ : MS} {E : Nat → Nat → Nat → Nat → Nat → Nat → Nat → Prop} {sep n i p : Nat} : LSTf kd σ E sep (-1) 0 i i p p (fun _ => 0) (fun _ => n) (fun _ => i) (fun _ => 0) (fun _ => p) :=
  ⟨⟨rfl, fun k hk => by omega⟩, fun k hk => by omega, rfl, rfl, rfl, rfl, fun k hk => by omega, fun k hk => by omega, fun k hk => by omega⟩
theorem LSTf_one {σ : MS} {E : Nat → Nat → Nat → Nat → Nat → Nat → Nat → Prop} {sep lo hi x i j p q : Nat} (h : E lo hi x i j p q) (h1 : lo ≤ x) (h2 : x < hi) (h3 : i < j) (h4 : p < q) (h5 : σ.2 22 x = J (-1)) : LSTf kd σ E sep x 1 i j p q (fun _ => x) (fun k => if k = 0 then lo else hi) (fun k => if k = 0 then i else j) (fun _ => j) (fun k => if k = 0 then p else q) := by
  refine ⟨⟨rfl, fun k hk => ?_⟩, fun k hk => ?_, rfl, rfl, rfl, rfl, fun k hk => ?_, fun k hk => ?_, fun k hk => by omega⟩
  · rw [if_neg (by omega)]; exact h5
  · rw [show k = 0 by omega]; exact ⟨h1, h2, h⟩
  · rw [show k = 0 by omega]; exact ⟨h3, rfl⟩
  · rw [show k = 0 by omega]; exact h4
theorem LSTf_snoc {σ τ : MS} {E F : Nat → Nat → Nat → Nat → Nat → Nat → Nat → Prop} {sep c i j p q x j' q' hi : Nat} {f : Int} {xs ls is js ps : Nat → Nat} (h : LSTf kd σ E sep f c i j p q xs ls is js ps) (hc : 0 < c) (hE : ∀ k, k < c → E (ls k) (ls (k + 1)) (xs k) (is k) (js k) (ps k) (ps (k + 1)) → F (ls k) (ls (k + 1)) (xs k) (is k) (js k) (ps k) (ps (k + 1))) (hF : F (ls c) hi x (j + sep) j' q q') (h1 : ls c ≤ x) (h2 : x < hi) (h3 : j + sep < j') (h4 : q < q') (hk : sep = 1 → kd j = 44) (t1 : ∀ k, k + 1 < c → τ.2 22 (xs k) = σ.2 22 (xs k)) (t2 : τ.2 22 (xs (c - 1)) = J x) (t3 : τ.2 22 x = J (-1)) : LSTf kd τ F sep f (c + 1) i j' p q' (fun k => if k = c then x else xs k) (fun k => if k = c + 1 then hi else ls k) (fun k => if k = c then j + sep else if k = c + 1 then j' else is k) (fun k => if k = c then j' else js k) (fun k => if k = c + 1 then q' else ps k) := by
  obtain ⟨a1, a2, a3, a4, a5, a6, a7, a8, a9⟩ := h
  have hjc : js (c - 1) = j := by
    have := (a7 (c - 1) (by omega)).2
    rw [if_neg (by omega), show c - 1 + 1 = c by omega] at this
    rw [← this]; exact a4
  refine ⟨⟨?_, fun k hk2 => ?_⟩, fun k hk2 => ?_, ?_, ?_, ?_, ?_, fun k hk2 => ?_, fun k hk2 => ?_, fun k hk2 hs => ?_⟩
  all_goals try dsimp only
  · rw [a1.1, if_neg (by omega), if_neg (by omega), if_neg (by omega)]
  · by_cases q1 : k = c
    · rw [if_pos q1, if_neg (by omega)]; exact t3
    · rw [if_neg q1, if_pos (by omega)]
      by_cases q2 : k + 1 = c
      · rw [if_pos q2, show k = c - 1 by omega]; exact t2
      · rw [if_neg q2, t1 k (by omega), a1.2 k (by omega), if_pos (by omega)]
  · by_cases q1 : k = c
    · subst q1
      simp only [if_true, if_neg (show ¬ k = k + 1 by omega)]
      rw [a6]; exact ⟨h1, h2, hF⟩
    · rw [if_neg q1, if_neg (show ¬ k = c + 1 by omega), if_neg (show ¬ k + 1 = c + 1 by omega), if_neg q1, if_neg (show ¬ k = c + 1 by omega), if_neg q1, if_neg (show ¬ k = c + 1 by omega), if_neg (show ¬ k + 1 = c + 1 by omega)]
      have := a2 k (by omega)
      exact ⟨this.1, this.2.1, hE k (by omega) this.2.2⟩
  · rw [if_neg (by omega), if_neg (by omega)]; exact a3
  · rw [if_neg (by omega), if_pos rfl]
  · rw [if_neg (by omega)]; exact a5
  · rw [if_pos rfl]
  · by_cases q1 : k = c
    · subst q1
      simp only [if_true, if_neg (show ¬ k + 1 = k by omega), if_neg (show ¬ k + 1 < k + 1 by omega)]
      exact ⟨h3, trivial⟩
    · have := a7 k (by omega)
      rw [if_neg q1, if_neg (show ¬ k = c + 1 by omega), if_neg q1, if_pos (show k + 1 < c + 1 by omega)]
      refine ⟨this.1, ?_⟩
      by_cases q2 : k + 1 = c
      · rw [if_pos q2, show k = c - 1 by omega, hjc]
      · rw [if_neg q2, if_neg (by omega), this.2, if_pos (by omega)]
  · by_cases q1 : k = c
    · subst q1; rw [if_neg (by omega), if_pos rfl, a6]; exact h4
    · rw [if_neg (by omega), if_neg (by omega)]; exact a8 k (by omega)
  · by_cases q1 : k + 1 = c
    · rw [if_neg (by omega), show k = c - 1 by omega, hjc]; exact hk hs
    · rw [if_neg (by omega)]; exact a9 k (by omega) hs
/-- what arguments give -/
def ARes (T N : Nat) (kd vl rv : Nat → Int) (pl : Nat → Nat) (B : Nat) (σ : MS) (Γ : HS) (nm a dp ln nn : Nat) (u : Int32 × MS) (v : Int32 × HS) : Prop :=
  (∃ (h c a' q' nn' : Nat) (f : Int), u.1 = J f ∧ RN T kd vl rv pl u.2 (a' + 1) dp nn' ∧ CN T N kd vl pl v.2 (a' + 1) dp (q' + 3) ∧ LST kd u.2 (EXP kd vl rv pl u.2 v.2 h) 1 nn nn' f c (a + 1) a' ln q' ∧ kd a' = 41 ∧ a < a' ∧ ln ≤ q' ∧ (v.2 1).2.1 6 nm = J c ∧ op3 v.2 q' 40 nm ∧ (nn' ≤ nn + 3 * (a' - a) ∧ h + 50000 ≤ 84000 * (31 - dp) + (a' - a) ∧ dp ≤ 30) ∧ q' ≤ ln + 4 * (a' - (a + 1)) ∧ c ≤ a' - a ∧ rX nn σ u.2 ∧ cXt ln nm Γ v.2 ∧ rfP σ u.2 ∧ cfP Γ v.2)
  ∨ SRes T N kd vl rv pl B σ Γ u v
theorem SRes_mono {B : Nat} {σ τ : MS} {Γ Δ : HS} {u : Int32 × MS} {v : Int32 × HS} (h : SRes T N kd vl rv pl B τ Δ u v) (h1 : rfP σ τ) (h2 : cfP Γ Δ) : SRes T N kd vl rv pl B σ Γ u v := by
  obtain ⟨f, f', w, nn', a1, a2, a3, a4, a5, a6, a7, a8⟩ := h
  exact ⟨f, f', w, nn', a1, a2, a3, a4, a5, rfP_trans h1 a6, cfP_trans h2 a7, a8⟩
theorem SRes_B {B C : Nat} {σ : MS} {Γ : HS} {u : Int32 × MS} {v : Int32 × HS} (h : SRes T N kd vl rv pl B σ Γ u v) (h1 : B ≤ C) : SRes T N kd vl rv pl C σ Γ u v := by
  obtain ⟨f, f', w, nn', a1, a2, a3, a4, a5, a6⟩ := h
  exact ⟨f, f', w, nn', a1, a2, a3, a4, by omega, a6⟩
/-- the end of arguments, behind a fault -/
theorem args_stop (hT : TKE T N kd vl rv pl) {B nn' : Nat} {σ0 σ : MS} {Γ0 Γ : HS} {f f' : Int} {w : Nat} (a1 : RX T kd vl rv pl σ f (pl w) nn') (a2 : CX N kd vl pl Γ f' w) (a3 : f = fxO kd f' w) (a4 : w ≤ T) (a5 : nn' ≤ B) (a6 : rfP σ0 σ) (a7 : cfP Γ0 Γ) {x : Int} (hx : -1 ≤ x ∧ x < 40000) {nm : Int32} {cnt : Int32} : Ok2 ((F_X12_shut 41 σ).bind fun u_10 => some (J x, u_10.2)) (bnd (cI' Γ 2 4 (((Γ 2).1 4) - 1)) fun σ_8 => (F_X2_need 41 σ_8).bind fun u_10 => bnd (cA' u_10.2 1 6 (g_put 16001 ((u_10.2 1).2.1 6) nm cnt)) fun σ_12 => (F_X0_add_ 40 nm σ_12).bind fun u_14 => bnd (mrg (fun j => j == 5) σ_12 u_14.2) fun σ_16 => some ((0 : Int32), σ_16)) (SRes T N kd vl rv pl B σ0 Γ0) := by
  refine Ok2_sep (Q := fun u' => RX T kd vl rv pl u'.2 f (pl w) nn' ∧ rfP σ0 u'.2 ∧ u'.1 = J x) (R := fun v' => CX N kd vl pl v'.2 f' w ∧ cfP Γ0 v'.2) ?_ ?_ (fun u' v' b c => ⟨f, f', w, nn', b.1, c.1, a3, a4, a5, b.2.1, c.2, x, b.2.2, hx.1, hx.2⟩)
  · rw [show (41 : Int32) = J 41 from rfl, x_shut hT a1, Option.bind_some]
    exact Ok_some ⟨RX_opn a1, rfP_trans a6 (rfP_mI (by omega)), rfl⟩
  · refine Ok_bnd ?_
    refine Ok_bind (Ok_mono (y_need (c := 41) hT (CX_cop a2) (by omega)) (fun r2 hr2 => ?_))
    refine Ok_bnd ?_
    refine y_add3' (CX_A6 hr2.1) 40 nm (g := fun _ σ_16 => some ((0 : Int32), σ_16)) (fun z Θ _ _ hΘ hc2 => Ok_some ⟨hΘ, ?_⟩)
    exact cfP_trans (cfP_trans a7 (cfP_trans cfP_I2 hr2.2)) (cfP_trans cfP_A6 hc2)
