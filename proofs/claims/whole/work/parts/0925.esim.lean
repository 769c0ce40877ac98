/-! both read an expression alike: what is wanted -/
theorem Ok2_lpos {α β : Type} {c : Prop} [Decidable c] {A B : Option α} {n : Option β} {Q : α → β → Prop} (q : c) (h : Ok2 A n Q) : Ok2 (if c then A else B) n Q := by rw [if_pos q]; exact h
theorem Ok2_lneg {α β : Type} {c : Prop} [Decidable c] {A B : Option α} {n : Option β} {Q : α → β → Prop} (q : ¬ c) (h : Ok2 B n Q) : Ok2 (if c then A else B) n Q := by rw [if_neg q]; exact h
theorem Ok2_rpos {α β : Type} {c : Prop} [Decidable c] {m : Option α} {A B : Option β} {Q : α → β → Prop} (q : c) (h : Ok2 m A Q) : Ok2 m (if c then A else B) Q := by rw [if_pos q]; exact h
theorem Ok2_rneg {α β : Type} {c : Prop} [Decidable c] {m : Option α} {A B : Option β} {Q : α → β → Prop} (q : ¬ c) (h : Ok2 m B Q) : Ok2 m (if c then A else B) Q := by rw [if_neg q]; exact h
theorem Ok2_lbnd {α β γ : Type} {e : γ} {f : γ → Option α} {n : Option β} {Q : α → β → Prop} (h : Ok2 (f e) n Q) : Ok2 (bnd e f) n Q := h
theorem Ok2_rbnd {α β γ : Type} {e : γ} {f : γ → Option β} {n : Option α} {Q : α → β → Prop} (h : Ok2 n (f e) Q) : Ok2 n (bnd e f) Q := h
theorem Ok2_lsome {α β γ : Type} {a : α} {f : α → Option γ} {n : Option β} {Q : γ → β → Prop} (h : Ok2 (f a) n Q) : Ok2 ((some a).bind f) n Q := h
theorem Ok2_rsome {α β γ : Type} {a : α} {f : α → Option γ} {n : Option β} {Q : β → γ → Prop} (h : Ok2 n (f a) Q) : Ok2 n ((some a).bind f) Q := h
theorem Ok2_of {α β : Type} {m : Option α} {n : Option β} {Q : α → Prop} {R : β → Prop} {S : α → β → Prop} (h : Ok m Q) (i : Ok n R) (c : ∀ a b, Q a → R b → S a b) : Ok2 m n S := Ok2_sep h i c
variable {T N : Nat} {kd vl rv : Nat → Int} {pl : Nat → Nat}
/-- the fault's number, as it is told -/
def fxO (kd : Nat → Int) (f : Int) (w : Nat) : Int := if kd w = 1 then 1 else f
/-- rows of nodes below n are as they were -/
def rX (n : Nat) (σ τ : MS) : Prop := ∀ k, 17 ≤ k → k ≤ 22 → ∀ y, y < n → τ.2 k y = σ.2 k y
/-- code below, and notes of words below, are as they were -/
def cXt (ln a : Nat) (Γ Δ : HS) : Prop := (∀ r, r < ln → (Δ 5).2.1 0 r = (Γ 5).2.1 0 r) ∧ ∀ t, t < a → (Δ 1).2.1 6 t = (Γ 1).2.1 6 t
theorem rX_rfl {n : Nat} {σ : MS} : rX n σ σ := fun _ _ _ _ _ => rfl
theorem rX_trans {n m : Nat} {σ τ υ : MS} (h : rX n σ τ) (i : rX m τ υ) (hm : n ≤ m) : rX n σ υ := fun k a b y hy => by rw [i k a b y (by omega), h k a b y hy]
theorem rX_le {n m : Nat} {σ τ : MS} (h : rX m σ τ) (hn : n ≤ m) : rX n σ τ := fun k a b y hy => h k a b y (by omega)
theorem cXt_rfl {ln a : Nat} {Γ : HS} : cXt ln a Γ Γ := ⟨fun _ _ => rfl, fun _ _ => rfl⟩
theorem cXt_trans {ln a ln' a' : Nat} {Γ Δ Θ : HS} (h : cXt ln a Γ Δ) (i : cXt ln' a' Δ Θ) (h1 : ln ≤ ln') (h2 : a ≤ a') : cXt ln a Γ Θ := ⟨fun r hr => by rw [i.1 r (by omega), h.1 r hr], fun t ht => by rw [i.2 t (by omega), h.2 t ht]⟩
/-- both have met the same fault -/
def SRes (T N : Nat) (kd vl rv : Nat → Int) (pl : Nat → Nat) (B : Nat) (σ : MS) (Γ : HS) (u : Int32 × MS) (v : Int32 × HS) : Prop := ∃ (f f' : Int) (w nn' : Nat), RX T kd vl rv pl u.2 f (pl w) nn' ∧ CX N kd vl pl v.2 f' w ∧ f = fxO kd f' w ∧ w ≤ T ∧ nn' ≤ B ∧ rfP σ u.2 ∧ cfP Γ v.2 ∧ ∃ x : Int, u.1 = J x ∧ -1 ≤ x ∧ x < 40000
/-- an expression is read -/
def ERes (T N : Nat) (kd vl rv : Nat → Int) (pl : Nat → Nat) (B : Nat) (σ : MS) (Γ : HS) (a dp ln nn lvl : Nat) (u : Int32 × MS) (v : Int32 × HS) : Prop :=
  (∃ h a' ln' nn' x : Nat, u.1 = J x ∧ u.2.2 22 x = J (-1) ∧ RN T kd vl rv pl u.2 a' dp nn' ∧ CN T N kd vl pl v.2 a' dp ln' ∧ EXP kd vl rv pl u.2 v.2 h nn nn' x a a' ln ln' ∧ (nn' ≤ nn + 3 * (a' - a) ∧ h ≤ 84000 * (31 - dp) + 10000 * min 3 (lvl - 2) + 2000 * (lvl - 6) + (a' - a)) ∧ ln' ≤ ln + 4 * (a' - a) ∧ rX nn σ u.2 ∧ cXt ln a Γ v.2 ∧ rfP σ u.2 ∧ cfP Γ v.2)
  ∨ SRes T N kd vl rv pl B σ Γ u v
def preE (T B a dp ln nn lvl : Nat) : Prop := nn + 3 * (T + 1 - a) + 20 * (32 - dp) + 2 * lvl ≤ B ∧ B ≤ 38000 ∧ ln + 4 * (T + 1 - a) ≤ 39000
def simE (T N : Nat) (kd vl rv : Nat → Int) (pl : Nat → Nat) (ri ci lvl dp : Nat) : Prop := ∀ (B a ln nn d1 d2 : Nat) (σ : MS) (Γ : HS), RN T kd vl rv pl σ a dp nn → CN T N kd vl pl Γ a dp ln → preE T B a dp ln nn lvl → 9 * (31 - dp) + lvl ≤ d1 → 9 * (31 - dp) + lvl ≤ d2 → Ok2 (gE d1 ri 0 0 0 σ) (gG d2 ci 0 0 0 Γ) (ERes T N kd vl rv pl B σ Γ a dp ln nn lvl)
theorem rg {σ : MS} {a dp nn : Nat} (hT : TKE T N kd vl rv pl) (h : RN T kd vl rv pl σ a dp nn) : ¬ (σ.1 25 < 0 ∨ 16010 ≤ (σ.1 25).toNatClampNeg) ∧ (σ.1 25).toNatClampNeg = a := by
  have := hT.1
  have := h.2.2.2.2.2.2.1
  rw [h.2.1, J_natN (by omega)]
  exact ⟨by rintro (h | h); exact J_nlt0 (by omega) (by omega) h; omega, rfl⟩
theorem ng {n : Nat} (h : n < 40000) : ¬ (J (n : Int) < 0 ∨ 40000 ≤ (J (n : Int)).toNatClampNeg) ∧ (J (n : Int)).toNatClampNeg = n := by
  rw [J_natN (by omega)]
  exact ⟨by rintro (h | h); exact J_nlt0 (by omega) (by omega) h; omega, rfl⟩
theorem nod_A {σ : MS} {n : Nat} {k p : Int} (j : Nat) : (nod σ n k p).2 j = if j = 22 then upd (σ.2 22) n (J (-1)) else if j = 21 then upd (σ.2 21) n (J (-1)) else if j = 20 then upd (σ.2 20) n (J (-1)) else if j = 19 then upd (σ.2 19) n (J (-1)) else if j = 18 then upd (σ.2 18) n (J p) else if j = 17 then upd (σ.2 17) n (J k) else σ.2 j := rfl
theorem rX_nod {σ : MS} {n : Nat} {k p : Int} : rX n σ (nod σ n k p) := by
  intro j h1 h2 y hy
  rw [nod_A]
  repeat' split
  all_goals first | rfl | (subst_vars; rw [upd_s, if_neg (by omega)])
theorem rX_mA {σ : MS} {n m k : Nat} {x : Int32} (h : n ≤ m) : rX n σ (mA σ k (upd (σ.2 k) m x)) := by
  intro j h1 h2 y hy
  rw [mA_2]
  split
  · subst_vars; rw [upd_s, if_neg (by omega)]
  · rfl
theorem rX_mI {σ : MS} {n k : Nat} {x : Int32} : rX n σ (mI σ k x) := fun _ _ _ _ _ => rfl
theorem cXt_I {Γ : HS} {ln a r k : Nat} {v : Int32} : cXt ln a Γ (cI' Γ r k v) := ⟨fun r hr => by rw [cI_r]; split <;> (try subst_vars) <;> rfl, fun t ht => by rw [cI_r]; split <;> (try subst_vars) <;> rfl⟩
theorem cXt_ca1 {Γ : HS} {ln a l : Nat} {o : Int} (h : ln ≤ l) : cXt ln a Γ (ca1 Γ l o) := ⟨fun r hr => by show upd _ _ _ _ = _; rw [upd_s, if_neg (by omega)], fun t ht => rfl⟩
theorem cXt_ca3 {Γ : HS} {ln a l : Nat} {o v : Int} (h : ln ≤ l) : cXt ln a Γ (ca3 Γ l o v) := ⟨fun r hr => by show upd _ _ _ _ = _; rw [upd_s, if_neg (by omega), upd_s, if_neg (by omega), upd_s, if_neg (by omega)], fun t ht => rfl⟩
theorem op1_ca1 {Γ : HS} {l : Nat} {o : Int} : op1 (ca1 Γ l o) l o := by show upd _ _ _ _ = _; rw [upd_s, if_pos rfl]
theorem op3_ca3 {Γ : HS} {l : Nat} {o v : Int} : op3 (ca3 Γ l o v) l o v := by
  refine ⟨?_, ?_, ?_⟩
  · show upd _ _ _ _ = _; rw [upd_s, if_neg (by omega), upd_s, if_neg (by omega), upd_s, if_pos rfl]
  · show upd _ _ _ _ = _; rw [upd_s, if_neg (by omega), upd_s, if_pos rfl]
  · show upd _ _ _ _ = _; rw [upd_s, if_pos rfl]
theorem cfP_ca1 {Γ : HS} {l : Nat} {o : Int} : cfP Γ (ca1 Γ l o) := cfP_5 oth5_ca1
theorem cfP_ca3 {Γ : HS} {l : Nat} {o v : Int} : cfP Γ (ca3 Γ l o v) := cfP_5 oth5_ca3
theorem CN_ca1 {Γ : HS} {a dp l : Nat} {o : Int} (h : CN T N kd vl pl Γ a dp l) (hl : l < 40000) : CN T N kd vl pl (ca1 Γ l o) a dp (l + 1) := CN_5 h oth5_ca1 rfl (by omega)
theorem CN_ca3 {Γ : HS} {a dp l : Nat} {o v : Int} (h : CN T N kd vl pl Γ a dp l) (hl : l < 39990) : CN T N kd vl pl (ca3 Γ l o v) a dp (l + 3) := CN_5 h oth5_ca3 rfl (by omega)
/-- an expression's row and code stay what they are when rows and code are added behind -/
theorem EXP_ext {σ τ : MS} {Γ Δ : HS} {n lo hi x i j p q m ln a : Nat} (h : EXP kd vl rv pl σ Γ n lo hi x i j p q) (hr : rX m σ τ) (hc : cXt ln a Γ Δ) (h1 : hi ≤ m) (h2 : q ≤ ln) (h3 : j ≤ a) : EXP kd vl rv pl τ Δ n lo hi x i j p q := by
  refine EXP_ag n lo hi x i j p q (fun y y1 y2 => ?_) ⟨fun r r1 r2 => hc.1 r (by omega), fun t t1 t2 => hc.2 t (by omega)⟩ h
  exact ⟨hr 17 (by omega) (by omega) y (by omega), hr 18 (by omega) (by omega) y (by omega), hr 19 (by omega) (by omega) y (by omega), fun _ => hr 20 (by omega) (by omega) y (by omega), fun _ _ _ _ => hr 21 (by omega) (by omega) y (by omega), fun _ => hr 22 (by omega) (by omega) y (by omega)⟩
/-- behind a fault, for both -/
theorem sE (hT : TKE T N kd vl rv pl) {B nn : Nat} {σ σ0 : MS} {Γ Γ0 : HS} {f f' : Int} {w : Nat} (h : RX T kd vl rv pl σ f (pl w) nn) (i : CX N kd vl pl Γ f' w) (hB : nn + 1 ≤ B) (hB2 : B ≤ 38500) (hf : f = fxO kd f' w) (hw : w ≤ T) (h1 : rfP σ0 σ) (h2 : cfP Γ0 Γ) {d1 d2 : Nat} (hd : 8 ≤ d1) (hd2 : 8 ≤ d2) (k : Nat) : (k = 0 → Ok2 (gE d1 0 0 0 0 σ) (gG d2 0 0 0 0 Γ) (SRes T N kd vl rv pl B σ0 Γ0)) ∧ (k = 1 → Ok2 (gE d1 1 0 0 0 σ) (gG d2 1 0 0 0 Γ) (SRes T N kd vl rv pl B σ0 Γ0)) ∧ (k = 2 → Ok2 (gE d1 2 0 0 0 σ) (gG d2 2 0 0 0 Γ) (SRes T N kd vl rv pl B σ0 Γ0)) ∧ (k = 4 → Ok2 (gE d1 4 0 0 0 σ) (gG d2 3 0 0 0 Γ) (SRes T N kd vl rv pl B σ0 Γ0)) ∧ (k = 5 → Ok2 (gE d1 5 0 0 0 σ) (gG d2 4 0 0 0 Γ) (SRes T N kd vl rv pl B σ0 Γ0)) ∧ (k = 6 → Ok2 (gE d1 6 0 0 0 σ) (gG d2 5 0 0 0 Γ) (SRes T N kd vl rv pl B σ0 Γ0)) ∧ (k = 7 → Ok2 (gE d1 7 0 0 0 σ) (gG d2 6 0 0 0 Γ) (SRes T N kd vl rv pl B σ0 Γ0)) ∧ (k = 8 → 9 ≤ d1 → 9 ≤ d2 → ∀ x : Int32, Ok2 (gE d1 8 0 0 0 σ) (gG d2 7 x 0 0 Γ) (SRes T N kd vl rv pl B σ0 Γ0)) := by
  have hc : ∀ (u : Int32 × MS) (v : Int32 × HS), xR T kd vl rv pl f (pl w) (nn + 1) σ u → xC N kd vl pl f' w Γ v → SRes T N kd vl rv pl B σ0 Γ0 u v := by
    rintro u v ⟨a1, a2, x, a3, a4, a5⟩ ⟨b1, b2⟩
    exact ⟨f, f', w, nn + 1, a1, b1, hf, hw, hB, rfP_trans h1 a2, cfP_trans h2 b2, x, a3, a4, by omega⟩
  exact ⟨fun _ => Ok2_sep (xE0 hT h (by omega) (by omega)) (yG0 hT i (by omega)) hc, fun _ => Ok2_sep (xE1 hT h (by omega) (by omega)) (yG1 hT i (by omega)) hc, fun _ => Ok2_sep (xE2 hT h (by omega) (by omega)) (yG2 hT i (by omega)) hc, fun _ => Ok2_sep (xE4 hT h (by omega) (by omega)) (yG3 hT i (by omega)) hc, fun _ => Ok2_sep (xE5 hT h (by omega) (by omega)) (yG4 hT i (by omega)) hc, fun _ => Ok2_sep (xE6 hT h (by omega) (by omega)) (yG5 hT i (by omega)) hc, fun _ => Ok2_sep (xE7 hT h (by omega) (by omega)) (yG6 hT i (by omega)) hc, fun _ _ _ x => Ok2_sep (xE8 hT h (by omega) (by omega)) (yG7 hT i (by omega) x) hc⟩
