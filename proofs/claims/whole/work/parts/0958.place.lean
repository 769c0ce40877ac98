/-! rooms and things -/
variable {T N : Nat} {kd vl rv : Nat → Int} {pl : Nat → Nat}
def Lend (nn : Nat) (σ : MS) : MR := (F_X12_shut 125 σ).bind fun u_43 => some (J (nn : Nat), u_43.2)
def Lr (p0 : Int32) (nn : Nat) : (Int32 × MS → MR) → Int32 × MS → MR := fun again s => if (s.2.1 27) = 0 then (F_X12_isSign 125 s.2).bind fun u_47 => if u_47.1 = 0 then (F_X12_part p0 u_47.2).bind fun u_51 => if 0 ≤ s.1 then (if s.1 < 0 ∨ 40000 ≤ s.1.toNatClampNeg then none else bnd (mA u_51.2 22 (upd (u_51.2.2 22) s.1.toNatClampNeg u_51.1)) fun σ_61 => again (u_51.1, σ_61)) else (if J (nn : Nat) < 0 ∨ 40000 ≤ nn then none else bnd (mA u_51.2 20 (upd (u_51.2.2 20) nn u_51.1)) fun σ_66 => again (u_51.1, σ_66)) else Lend nn u_47.2 else Lend nn s.2
theorem Lr_s (p0 : Int32) (nn n : Nat) (l : Int32) (σ : MS) : loopF (Lr p0 nn) (n + 1) (l, σ) = if (σ.1 27) = 0 then (F_X12_isSign 125 σ).bind fun u_47 => if u_47.1 = 0 then (F_X12_part p0 u_47.2).bind fun u_51 => if 0 ≤ l then (if l < 0 ∨ 40000 ≤ l.toNatClampNeg then none else bnd (mA u_51.2 22 (upd (u_51.2.2 22) l.toNatClampNeg u_51.1)) fun σ_61 => loopF (Lr p0 nn) n (u_51.1, σ_61)) else (if J (nn : Nat) < 0 ∨ 40000 ≤ nn then none else bnd (mA u_51.2 20 (upd (u_51.2.2 20) nn u_51.1)) fun σ_66 => loopF (Lr p0 nn) n (u_51.1, σ_66)) else Lend nn u_47.2 else Lend nn σ := rfl
theorem Lq_s (P : HS → HR) (n : Nat) (i : Int32) (Γ : HS) : loopF (Lq P) (n + 1) (i, Γ) = if ((Γ 1).1 2) ≤ i then Kce Γ else if ((Γ 2).1 3) = 125 then Kce Γ else if ((Γ 2).1 3) = 0 then Kce Γ else (P Γ).bind fun u => loopF (Lq P) n (i + 1, u.2) := rfl
theorem x_lr (hT : TKE T N kd vl rv pl) {B : Nat} {σ0 σ : MS} {f : Int} {w : Nat} (h : rXX T kd vl rv pl B σ0 f w σ) (p0 : Int32) (nn n : Nat) (l : Int32) : Ok (loopF (Lr p0 nn) (n + 1) (l, σ)) fun u => rXX T kd vl rv pl B σ0 f w u.2 ∧ u.1 = J (nn : Nat) := by
  rw [Lr_s, if_neg (by rw [h.1.choose_spec.1.2.1]; exact J1_ne)]
  exact Ok_bind (Ok_mono (xx_shut hT h 125) (fun u hu => Ok_some ⟨hu, rfl⟩))
theorem y_lq (hT : TKE T N kd vl rv pl) {Γ0 Γ : HS} {f' : Int} {w : Nat} (h : yXX N kd vl pl Γ0 f' w Γ) (P : HS → HR) (n : Nat) (i : Int32) : Ok (loopF (Lq P) (n + 1) (i, Γ)) fun u => yXX N kd vl pl Γ0 f' w u.2 := by
  rw [Lq_s]
  refine Ok_ite (fun _ => y_kce hT h) (fun _ => Ok_ite (fun _ => y_kce hT h) (fun _ => ?_))
  rw [if_pos (show ((Γ 2).1 3) = 0 by rw [h.1.2.2.1]; rfl)]
  exact y_kce hT h
/-- a part where the text ends -/
theorem x_pend (hT : TKE T N kd vl rv pl) {B a dp nn : Nat} {σ0 σ : MS} {p0 : Int32} (h1 : RN T kd vl rv pl σ a dp nn) (hk : kd a = 0) (hB : nn + 9 ≤ B ∧ B ≤ 38000) (h7 : rfP σ0 σ) : Ok (F_X12_part p0 σ) fun u => rXX T kd vl rv pl B σ0 (unf kd a) a u.2 ∧ u.1 = J (nn : Nat) := by
  have r1 := RN_nod h1 10 (pl a)
  have fin : Ok2 ((F_X12_unfit (nod σ nn 10 (pl a))).bind fun u_39 => (F_X12_need 59 u_39.2).bind fun u_15 => some (J (nn : Nat), u_15.2)) (some ((0 : Int32), (fun _ => (fun _ => (0 : Int32), fun _ _ => (0 : Int32), fun _ _ => (0 : Int64)) : HS))) (fun u _ => rXX T kd vl rv pl B σ0 (unf kd a) a u.2 ∧ u.1 = J (nn : Nat)) :=
    Ok2_le (r_unfit hT r1) (Ok2_sep (Ok_bind (Ok_mono (xx_need hT (B := B) ⟨⟨nn + 1, RX_stp r1, by omega⟩, rfP_trans h7 (rfP_trans rfP_nod rfP_stp)⟩ 59) (fun u hu => Ok_some (Q := fun u : Int32 × MS => rXX T kd vl rv pl B σ0 (unf kd a) a u.2 ∧ u.1 = J (nn : Nat)) ⟨hu, rfl⟩))) (Ok_some (Q := fun _ => True) trivial) (fun a b c _ => c))
  have g7 : ¬ (nod σ nn 10 (pl a)).2 7 a = 1 := by
    rw [(RN_at hT r1).1, hk]; decide
  have key : Ok2 (F_X12_part p0 σ) (some ((0 : Int32), (fun _ => (fun _ => (0 : Int32), fun _ _ => (0 : Int32), fun _ _ => (0 : Int64)) : HS))) (fun u _ => rXX T kd vl rv pl B σ0 (unf kd a) a u.2 ∧ u.1 = J (nn : Nat)) := by
    unfold F_X12_part
    refine Ok2_lbnd (Ok2_lneg (rg hT h1).1 (Ok2_lbnd (Ok2_le (pt_e hT h1 (by omega)) ?_)))
    refine Ok2_le (tk0 hT r1 (k := 40) (c := 38) (by omega) rfl (by omega)) (Ok2_lbnd (Ok2_lpos J0_eq (Ok2_lbnd ?_)))
    by_cases hp : p0 = 0
    · refine Ok2_lpos hp (Ok2_le (tk0 hT r1 (k := 5) (c := 12) (by omega) rfl (by omega)) (Ok2_lpos J0_eq (Ok2_lbnd (Ok2_lpos hp ?_))))
      exact Ok2_le (tk0 hT r1 (k := 12) (c := 39) (by omega) rfl (by omega)) (Ok2_lpos J0_eq (Ok2_lbnd (Ok2_lpos hp (Ok2_lbnd (Ok2_lpos hp (Ok2_lbnd (Ok2_lpos hp fin)))))))
    · refine Ok2_lneg hp (Ok2_lbnd (Ok2_lneg hp (Ok2_lbnd (Ok2_lneg hp ?_))))
      refine Ok2_le (tk0 hT r1 (k := 18) (c := 19) (by omega) rfl (by omega)) (Ok2_lpos J0_eq (Ok2_lbnd (Ok2_lneg hp ?_)))
      refine Ok2_le (tk0 hT r1 (k := 50) (c := 40) (by omega) rfl (by omega)) (Ok2_lpos J0_eq (Ok2_lbnd (Ok2_lneg hp (Ok2_lbnd (Ok2_lneg (rg hT r1).1 ?_)))))
      dsimp only
      rw [(rg hT r1).2]
      exact Ok2_lneg g7 fin
  obtain ⟨r, s, e, -, q⟩ := key
  exact ⟨r, e, q⟩
def PE (kd rv : Nat → Int) (pl : Nat → Nat) (g : Int) (σ : MS) : Nat → Nat → Nat → Nat → Nat → Nat → Nat → Prop := fun lo hi t i j p q => lo = t ∧ q = p + 1 ∧ PRT kd rv pl g σ t hi i j
/-- a room or a thing: node x, from word i to word j -/
def PLC (kd rv : Nat → Int) (pl : Nat → Nat) (w : Int) (σ : MS) (x hi i j : Nat) : Prop := i + 4 < j ∧ x + 3 ≤ hi ∧ kd (i + 1) = 2 ∧ kd (i + 2) = 4 ∧ kd (i + 3) = 123 ∧ kd (j - 1) = 125 ∧ σ.2 17 x = J w ∧ σ.2 18 x = J (pl i) ∧ σ.2 19 x = J (x + 1 : Nat) ∧ NMN rv pl σ (x + 1) (i + 1) ∧ σ.2 21 x = J (x + 2 : Nat) ∧ σ.2 17 (x + 2) = J 35 ∧ σ.2 18 (x + 2) = J (pl (i + 2)) ∧ σ.2 20 (x + 2) = J (rv (i + 2)) ∧ ∃ (f : Int) (c : Nat), σ.2 20 x = J f ∧ LST kd σ (PE kd rv pl w σ) 0 (x + 3) hi f c (i + 4) (j - 1) 0 c
def PlR (T N : Nat) (kd vl rv : Nat → Int) (pl : Nat → Nat) (w : Int) (B : Nat) (σ : MS) (Γ : HS) (a dp ln nn : Nat) (u : Int32 × MS) (v : Int32 × HS) : Prop :=
  u.1 = J (nn : Nat) ∧ ((∃ a' nn', RN T kd vl rv pl u.2 a' dp nn' ∧ CN T N kd vl pl v.2 a' dp ln ∧ PLC kd rv pl w u.2 nn nn' a a' ∧ u.2.2 22 nn = J (-1) ∧ nn' ≤ nn + 3 * (a' - a) ∧ rX nn σ u.2 ∧ cXt ln 5000 Γ v.2 ∧ rfP σ u.2 ∧ cfP Γ v.2)
  ∨ ∃ f f' w, rXX T kd vl rv pl B σ f w u.2 ∧ yXX N kd vl pl Γ f' w v.2 ∧ f = fxO kd f' w ∧ w ≤ T)
theorem lr_stop (hT : TKE T N kd vl rv pl) {w' : Int} {B a dp ln nn : Nat} {σ0 τ : MS} {Γ0 Δ : HS} {f f' : Int} {w : Nat} (x1 : rXX T kd vl rv pl B σ0 f w τ) (x2 : yXX N kd vl pl Γ0 f' w Δ) (x3 : f = fxO kd f' w) (x4 : w ≤ T) (p0 : Int32) (P : HS → HR) (n m : Nat) (l i : Int32) : Ok2 (loopF (Lr p0 nn) (n + 1) (l, τ)) (loopF (Lq P) (m + 1) (i, Δ)) (PlR T N kd vl rv pl w' B σ0 Γ0 a dp ln nn) :=
  Ok2_sep (x_lr hT x1 p0 nn n l) (y_lq hT x2 P m i) (fun u v b c => ⟨b.2, Or.inr ⟨f, f', w, b.1, c, x3, x4⟩⟩)
