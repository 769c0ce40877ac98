/-! blocks -/
variable {T N : Nat} {kd vl rv : Nat → Int} {pl : Nat → Nat}
def Kend (v : Int32) (σ_7 : MS) : MR := (F_X12_shut 125 σ_7).bind fun u_11 => (F_X12_node 34 0 u_11.2).bind fun u_13 => if u_13.1 < 0 ∨ 40000 ≤ u_13.1.toNatClampNeg then none else bnd (mA u_13.2 19 (upd (u_13.2.2 19) u_13.1.toNatClampNeg v)) fun σ_17 => some (u_13.1, σ_17)
def Kr (d : Nat) : (Int32 × Int32 × MS → MR) → Int32 × Int32 × MS → MR := fun again s => if (s.2.2.1 27) = 0 then (F_X12_isSign 125 s.2.2).bind fun u_21 => if u_21.1 = 0 then (gS d 1 0 0 0 u_21.2).bind fun u_25 => if 0 ≤ s.2.1 then (if s.2.1 < 0 ∨ 40000 ≤ s.2.1.toNatClampNeg then none else bnd (mA u_25.2 22 (upd (u_25.2.2 22) s.2.1.toNatClampNeg u_25.1)) fun σ_36 => again (s.1, u_25.1, σ_36)) else again (u_25.1, u_25.1, u_25.2) else Kend s.1 u_21.2 else Kend s.1 s.2.2
def Kce (σ : HS) : HR := (F_X2_shut 125 σ).bind fun u_11 => some ((0 : Int32), u_11.2)
def Kq (e : Nat) : (Int32 × HS → HR) → Int32 × HS → HR := fun again s => if ((s.2 1).1 2) ≤ s.1 then Kce s.2 else if ((s.2 2).1 3) = 125 then Kce s.2 else if ((s.2 2).1 3) = 0 then Kce s.2 else (gB e 1 0 0 0 s.2).bind fun u_22 => again (s.1 + 1, u_22.2)
theorem blk_r (d : Nat) (σ : MS) : F_X12_block (gS d) σ = (F_X12_open 123 σ).bind fun u_1 => loopF (Kr d) FU (-1, -1, u_1.2) := rfl
theorem blk_c (e : Nat) (Γ : HS) : F_X2_block (gB e) Γ = (F_X2_open 123 Γ).bind fun u_1 => loopF (Kq e) FU (0, u_1.2) := rfl
theorem Kr_s (d n : Nat) (f l : Int32) (σ : MS) : loopF (Kr d) (n + 1) (f, l, σ) = if (σ.1 27) = 0 then (F_X12_isSign 125 σ).bind fun u_21 => if u_21.1 = 0 then (gS d 1 0 0 0 u_21.2).bind fun u_25 => if 0 ≤ l then (if l < 0 ∨ 40000 ≤ l.toNatClampNeg then none else bnd (mA u_25.2 22 (upd (u_25.2.2 22) l.toNatClampNeg u_25.1)) fun σ_36 => loopF (Kr d) n (f, u_25.1, σ_36)) else loopF (Kr d) n (u_25.1, u_25.1, u_25.2) else Kend f u_21.2 else Kend f σ := rfl
theorem Kq_s (e n : Nat) (i : Int32) (Γ : HS) : loopF (Kq e) (n + 1) (i, Γ) = if ((Γ 1).1 2) ≤ i then Kce Γ else if ((Γ 2).1 3) = 125 then Kce Γ else if ((Γ 2).1 3) = 0 then Kce Γ else (gB e 1 0 0 0 Γ).bind fun u_22 => loopF (Kq e) n (i + 1, u_22.2) := rfl
theorem x_blk (hT : TKE T N kd vl rv pl) {B : Nat} {σ0 σ : MS} {f : Int} {w : Nat} (h : rXX T kd vl rv pl B σ0 f w σ) (hB : B ≤ 38800) (d n : Nat) (v l : Int32) : Ok (loopF (Kr d) (n + 1) (v, l, σ)) fun u => rXX T kd vl rv pl (B + 1) σ0 f w u.2 ∧ ∃ y : Nat, u.1 = J y ∧ y ≤ B := by
  rw [Kr_s, if_neg (by rw [h.1.choose_spec.1.2.1]; exact J1_ne)]
  exact xx_bend hT h hB v
theorem y_kce (hT : TKE T N kd vl rv pl) {Γ0 Γ : HS} {f' : Int} {w : Nat} (h : yXX N kd vl pl Γ0 f' w Γ) : Ok (Kce Γ) fun u => yXX N kd vl pl Γ0 f' w u.2 := Ok_bind (Ok_mono (y_shut hT h.1 (c := 125) (by omega)) (fun v hv => Ok_some ⟨hv.1, cfP_trans h.2 hv.2⟩))
theorem y_blk (hT : TKE T N kd vl rv pl) {Γ0 Γ : HS} {f' : Int} {w : Nat} (h : yXX N kd vl pl Γ0 f' w Γ) (e n : Nat) (i : Int32) : Ok (loopF (Kq e) (n + 1) (i, Γ)) fun u => yXX N kd vl pl Γ0 f' w u.2 := by
  rw [Kq_s]
  refine Ok_ite (fun _ => y_kce hT h) (fun _ => Ok_ite (fun _ => y_kce hT h) (fun _ => ?_))
  rw [if_pos (show ((Γ 2).1 3) = 0 by rw [h.1.2.2.1]; rfl)]
  exact y_kce hT h
theorem blk_stop (hT : TKE T N kd vl rv pl) {B a dp ln nn : Nat} {σ0 τ : MS} {Γ0 Δ : HS} {f f' : Int} {w : Nat} (hB : B ≤ 38000) (hB1 : 1 ≤ B) (x1 : rXX T kd vl rv pl (B - 1) σ0 f w τ) (x2 : yXX N kd vl pl Γ0 f' w Δ) (x3 : f = fxO kd f' w) (x4 : w ≤ T) (d e n m : Nat) (v l i : Int32) : Ok2 (loopF (Kr d) (n + 1) (v, l, τ)) (loopF (Kq e) (m + 1) (i, Δ)) (StR T N kd vl rv pl 1 B σ0 Γ0 a dp ln nn) := by
  refine Ok2_sep (x_blk hT x1 (by omega) d n v l) (y_blk hT x2 e m i) (fun u v b c => Or.inr ?_)
  obtain ⟨y, hy1, hy2⟩ := b.2
  exact SRes_of (xx_B b.1 (by omega)) c x3 x4 ⟨y, hy1, by omega, by omega⟩
/-- a statement where the text ends -/
theorem x_send (hT : TKE T N kd vl rv pl) {B a dp nn d : Nat} {σ0 σ : MS} (h1 : RN T kd vl rv pl σ a dp nn) (hk : kd a = 0) (hB : nn + 9 ≤ B ∧ B ≤ 38000) (h7 : rfP σ0 σ) : Ok (gS (d + 1) 1 0 0 0 σ) fun u => rXX T kd vl rv pl B σ0 (unf kd a) a u.2 ∧ u.1 = J (nn : Nat) := by
  rw [q_gS_1]
  have key : Ok2 (F_X12_statement (gS d) σ) (some ((0 : Int32), (fun _ => (fun _ => (0 : Int32), fun _ _ => (0 : Int32), fun _ _ => (0 : Int64)) : HS))) (fun u _ => rXX T kd vl rv pl B σ0 (unf kd a) a u.2 ∧ u.1 = J (nn : Nat)) := by
    refine rs_nam hT h1 (by omega) (by omega) ?_
    rw [rn_x hT (RN_nod h1 30 (pl a)) (by omega) (by omega) (fun σ => (F_X12_need 59 σ).bind fun u_15 => some (J (nn : Nat), u_15.2))]
    refine Ok2_sep (sa_stop hT (by omega) (by omega) (by omega) ⟨⟨nn + 2, RX_mA (nm2_RX (RN_nod h1 30 (pl a)) (by omega)) (by omega) (by omega) (by omega), by omega⟩, rfP_trans h7 (rfP_trans rfP_nod (rfP_trans nm2_rfP (rfP_mA (by omega))))⟩) (Ok_some (Q := fun _ => True) trivial) (fun a b c _ => c)
  obtain ⟨r, s, e, -, q⟩ := key
  exact ⟨r, e, q⟩
