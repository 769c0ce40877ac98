/-! a statement's end, and what is behind a fault -/
variable {T N : Nat} {kd vl rv : Nat → Int} {pl : Nat → Nat}
def preS (T B a dp ln nn : Nat) : Prop := nn + 3 * (T + 1 - a) + 60 * (32 - dp) + 50 ≤ B ∧ B ≤ 38000 ∧ ln + 7 * (T + 1 - a) ≤ 39000
theorem sG_expr (hT : TKE T N kd vl rv pl) {B a dp ln nn : Nat} {σ : MS} {Γ : HS} (h1 : RN T kd vl rv pl σ a dp nn) (h2 : CN T N kd vl pl Γ a dp ln) (hp : preE T B a dp ln nn 8) (hdp : dp ≤ 30) : Ok2 (G_X12_expression σ) (G_X2_expression Γ) (ERes T N kd vl rv pl B σ Γ a dp ln nn 8) := sim_expr hT hdp B a ln nn 300 300 σ Γ h1 h2 hp (by omega) (by omega)
theorem sG_prim (hT : TKE T N kd vl rv pl) {B a dp ln nn : Nat} {σ : MS} {Γ : HS} (h1 : RN T kd vl rv pl σ a dp nn) (h2 : CN T N kd vl pl Γ a dp ln) (hp : preE T B a dp ln nn 1) (hdp : dp ≤ 30) : Ok2 (G_X12_primary σ) (G_X2_primary Γ) (ERes T N kd vl rv pl B σ Γ a dp ln nn 1) := sim_prim hT hdp B a ln nn 300 300 σ Γ h1 h2 hp (by omega) (by omega)
/-- both behind the same fault -/
def BX (T N : Nat) (kd vl rv : Nat → Int) (pl : Nat → Nat) (B : Nat) (σ0 : MS) (Γ0 : HS) (f f' : Int) (w : Nat) (σ : MS) (Γ : HS) : Prop := (∃ nn, RX T kd vl rv pl σ f (pl w) nn ∧ nn ≤ B) ∧ CX N kd vl pl Γ f' w ∧ f = fxO kd f' w ∧ w ≤ T ∧ rfP σ0 σ ∧ cfP Γ0 Γ
def rXX (T : Nat) (kd vl rv : Nat → Int) (pl : Nat → Nat) (B : Nat) (σ0 : MS) (f : Int) (w : Nat) (σ : MS) : Prop := (∃ nn, RX T kd vl rv pl σ f (pl w) nn ∧ nn ≤ B) ∧ rfP σ0 σ
theorem xx_mA {B : Nat} {σ0 σ : MS} {f : Int} {w k : Nat} {g : Nat → Int32} (h : rXX T kd vl rv pl B σ0 f w σ) (hk : ¬ (k < 17 ∨ 22 < k)) : rXX T kd vl rv pl B σ0 f w (mA σ k g) := by
  obtain ⟨⟨nn, a, b⟩, c⟩ := h
  exact ⟨⟨nn, RX_mA a (by omega) (by omega) (by omega), b⟩, rfP_trans c (rfP_mA hk)⟩
theorem xx_need (hT : TKE T N kd vl rv pl) {B : Nat} {σ0 σ : MS} {f : Int} {w : Nat} (h : rXX T kd vl rv pl B σ0 f w σ) (c : Int32) : Ok (F_X12_need c σ) fun u => rXX T kd vl rv pl B σ0 f w u.2 := by
  obtain ⟨⟨nn, a, b⟩, d⟩ := h
  rw [x_need hT a]; exact Ok_some ⟨⟨nn, a, b⟩, d⟩
theorem xx_needKey (hT : TKE T N kd vl rv pl) {B : Nat} {σ0 σ : MS} {f : Int} {w : Nat} (h : rXX T kd vl rv pl B σ0 f w σ) (c : Int32) : Ok (F_X12_needKey c σ) fun u => rXX T kd vl rv pl B σ0 f w u.2 := by
  obtain ⟨⟨nn, a, b⟩, d⟩ := h
  rw [x_needKey hT a]; exact Ok_some ⟨⟨nn, a, b⟩, d⟩
theorem xx_attribute (hT : TKE T N kd vl rv pl) {B : Nat} {σ0 σ : MS} {f : Int} {w : Nat} (h : rXX T kd vl rv pl B σ0 f w σ) : Ok (F_X12_attribute σ) fun u => rXX T kd vl rv pl B σ0 f w u.2 := by
  obtain ⟨⟨nn, a, b⟩, d⟩ := h
  rw [x_attribute hT a]; exact Ok_some ⟨⟨nn, a, b⟩, d⟩
theorem xx_shut (hT : TKE T N kd vl rv pl) {B : Nat} {σ0 σ : MS} {f : Int} {w : Nat} (h : rXX T kd vl rv pl B σ0 f w σ) (c : Int32) : Ok (F_X12_shut c σ) fun u => rXX T kd vl rv pl B σ0 f w u.2 := by
  obtain ⟨⟨nn, a, b⟩, d⟩ := h
  rw [x_shut hT a]; exact Ok_some ⟨⟨nn, RX_opn a, b⟩, rfP_trans d (rfP_mI (by omega))⟩
theorem xx_expr (hT : TKE T N kd vl rv pl) {B : Nat} {σ0 σ : MS} {f : Int} {w : Nat} (h : rXX T kd vl rv pl B σ0 f w σ) (hB : B ≤ 38900) : Ok (G_X12_expression σ) fun u => rXX T kd vl rv pl (B + 1) σ0 f w u.2 := by
  obtain ⟨⟨nn, a, b⟩, d⟩ := h
  exact Ok_mono (xE0 hT a (by omega) (d := 300) (by omega)) (fun u hu => ⟨⟨nn + 1, hu.1, by omega⟩, rfP_trans d hu.2.1⟩)
theorem xx_args (hT : TKE T N kd vl rv pl) {B : Nat} {σ0 σ : MS} {f : Int} {w : Nat} (h : rXX T kd vl rv pl B σ0 f w σ) (hB : B ≤ 38900) : Ok (G_X12_arguments σ) fun u => rXX T kd vl rv pl (B + 1) σ0 f w u.2 := by
  obtain ⟨⟨nn, a, b⟩, d⟩ := h
  exact Ok_mono (xE8 hT a (by omega) (d := 300) (by omega)) (fun u hu => ⟨⟨nn + 1, hu.1, by omega⟩, rfP_trans d hu.2.1⟩)
theorem xx_B {B C : Nat} {σ0 σ : MS} {f : Int} {w : Nat} (h : rXX T kd vl rv pl B σ0 f w σ) (hB : B ≤ C) : rXX T kd vl rv pl C σ0 f w σ := by
  obtain ⟨⟨nn, a, b⟩, d⟩ := h
  exact ⟨⟨nn, a, by omega⟩, d⟩
def yXX (N : Nat) (kd vl : Nat → Int) (pl : Nat → Nat) (Γ0 : HS) (f' : Int) (w : Nat) (Γ : HS) : Prop := CX N kd vl pl Γ f' w ∧ cfP Γ0 Γ
theorem yy_need (hT : TKE T N kd vl rv pl) {Γ0 Γ : HS} {f' : Int} {w : Nat} (h : yXX N kd vl pl Γ0 f' w Γ) {c : Int} (hc : c ≠ 0 ∧ 0 ≤ c ∧ c < 1000) : Ok (F_X2_need (J c) Γ) fun u => yXX N kd vl pl Γ0 f' w u.2 := Ok_mono (y_need hT h.1 hc) (fun _ hu => ⟨hu.1, cfP_trans h.2 hu.2⟩)
theorem yy_expr (hT : TKE T N kd vl rv pl) {Γ0 Γ : HS} {f' : Int} {w : Nat} (h : yXX N kd vl pl Γ0 f' w Γ) : Ok (G_X2_expression Γ) fun u => yXX N kd vl pl Γ0 f' w u.2 := Ok_mono (yG0 hT h.1 (d := 300) (by omega)) (fun _ hu => ⟨hu.1, cfP_trans h.2 hu.2⟩)
theorem yy_attribute (hT : TKE T N kd vl rv pl) {Γ0 Γ : HS} {f' : Int} {w : Nat} (h : yXX N kd vl pl Γ0 f' w Γ) (o : Int32) : Ok (F_X2_attribute o Γ) fun u => yXX N kd vl pl Γ0 f' w u.2 := Ok_mono (y_attribute hT h.1 o) (fun _ hu => ⟨hu.1, cfP_trans h.2 hu.2⟩)
theorem yy_add {Γ0 Γ : HS} {f' : Int} {w : Nat} (h : yXX N kd vl pl Γ0 f' w Γ) (o : Int32) {Q : Int32 × HS → Prop} {g : HS → HR} (hg : ∀ Δ, yXX N kd vl pl Γ0 f' w Δ → Ok (g Δ) Q) : Ok ((F_X0_add o Γ).bind fun u => bnd (mrg (fun j => j == 5) Γ u.2) g) Q := y_add' h.1 o (fun Δ h1 h2 => hg Δ ⟨h1, cfP_trans h.2 h2⟩)
theorem yy_add3 {Γ0 Γ : HS} {f' : Int} {w : Nat} (h : yXX N kd vl pl Γ0 f' w Γ) (o v : Int32) {Q : Int32 × HS → Prop} {g : Int32 → HS → HR} (hg : ∀ (z : Int) Δ, -2 ≤ z → z ≤ 40000 → yXX N kd vl pl Γ0 f' w Δ → Ok (g (J z) Δ) Q) : Ok ((F_X0_add_ o v Γ).bind fun u => bnd (mrg (fun j => j == 5) Γ u.2) (g u.1)) Q := y_add3' h.1 o v (fun z Δ a b h1 h2 => hg z Δ a b ⟨h1, cfP_trans h.2 h2⟩)
theorem yy_aim {Γ0 Γ : HS} {f' : Int} {w : Nat} (h : yXX N kd vl pl Γ0 f' w Γ) {z : Int} (hz : -2 ≤ z) (hz2 : z ≤ 40000) {Q : Int32 × HS → Prop} {g : HS → HR} (hg : ∀ Δ, yXX N kd vl pl Γ0 f' w Δ → Ok (g Δ) Q) : Ok ((F_X0_aim (J z) Γ).bind fun u => bnd (mrg (fun j => j == 5) Γ u.2) g) Q := y_aim' h.1 hz hz2 (fun Δ h1 h2 => hg Δ ⟨h1, cfP_trans h.2 h2⟩)
/-- what a statement, a block, give -/
def fuB (g dp : Nat) : Nat := 3 * (31 - dp) + (2 - 2 * g)
def StR (T N : Nat) (kd vl rv : Nat → Int) (pl : Nat → Nat) (g B : Nat) (σ : MS) (Γ : HS) (a dp ln nn : Nat) (u : Int32 × MS) (v : Int32 × HS) : Prop :=
  (∃ h a' ln' nn' x : Nat, (u.1 = J x ∧ h ≤ fuB g dp) ∧ u.2.2 22 x = J (-1) ∧ RN T kd vl rv pl u.2 a' dp nn' ∧ CN T N kd vl pl v.2 a' dp ln' ∧ STX kd vl rv pl u.2 v.2 h g nn nn' x a a' ln ln' ∧ nn' ≤ nn + 3 * (a' - a) ∧ ln' ≤ ln + 7 * (a' - a) ∧ rX nn σ u.2 ∧ cXt ln a Γ v.2 ∧ rfP σ u.2 ∧ cfP Γ v.2)
  ∨ SRes T N kd vl rv pl B σ Γ u v
theorem SRes_of {B : Nat} {σ : MS} {Γ : HS} {f f' : Int} {w : Nat} {u : Int32 × MS} {v : Int32 × HS} (h1 : rXX T kd vl rv pl B σ f w u.2) (h2 : yXX N kd vl pl Γ f' w v.2) (h3 : f = fxO kd f' w) (h4 : w ≤ T) (h5 : ∃ x : Int, u.1 = J x ∧ -1 ≤ x ∧ x < 40000) : SRes T N kd vl rv pl B σ Γ u v := by
  obtain ⟨⟨nn, a, b⟩, d⟩ := h1
  exact ⟨f, f', w, nn, a, h2.1, h3, h4, b, d, h2.2, h5⟩
theorem of_SRes {B : Nat} {σ : MS} {Γ : HS} {u : Int32 × MS} {v : Int32 × HS} (h : SRes T N kd vl rv pl B σ Γ u v) : ∃ f f' w, rXX T kd vl rv pl B σ f w u.2 ∧ yXX N kd vl pl Γ f' w v.2 ∧ f = fxO kd f' w ∧ w ≤ T ∧ ∃ x : Int, u.1 = J x ∧ -1 ≤ x ∧ x < 40000 := by
  obtain ⟨f, f', w, nn, a, b, c, d, e, g, i, k⟩ := h
  exact ⟨f, f', w, ⟨⟨nn, a, e⟩, g⟩, ⟨b, i⟩, c, d, k⟩
/-- what is behind a fault, for both, told apart -/
theorem stop2 {B : Nat} {σ : MS} {Γ : HS} {f f' : Int} {w : Nat} {m : MR} {n : HR} {x : Int} (h1 : Ok m fun u => rXX T kd vl rv pl B σ f w u.2 ∧ u.1 = J x) (h2 : Ok n fun v => yXX N kd vl pl Γ f' w v.2) (h3 : f = fxO kd f' w) (h4 : w ≤ T) (hx : -1 ≤ x ∧ x < 40000) : Ok2 m n (SRes T N kd vl rv pl B σ Γ) :=
  Ok2_sep h1 h2 (fun _ _ a b => SRes_of a.1 b h3 h4 ⟨x, a.2, hx.1, hx.2⟩)
/-- the ; of a statement -/
theorem st_end (hT : TKE T N kd vl rv pl) {B a ac dp ln ln' nn nn' : Nat} {σ0 σ : MS} {Γ0 Γ : HS} (h1 : RN T kd vl rv pl σ ac dp nn') (h2 : CN T N kd vl pl Γ ac dp ln') (h3 : PST kd vl rv pl σ Γ nn' nn a ac ln ln') (h4 : σ.2 22 nn = J (-1)) (h5 : σ.2 18 nn = J (pl a)) (h6 : a < ac) (h7 : ln < ln') (h8 : nn < nn') (h9 : nn' ≤ nn + 3 * (ac + 1 - a)) (h10 : ln' ≤ ln + 7 * (ac + 1 - a)) (h11 : rX nn σ0 σ) (h12 : cXt ln a Γ0 Γ) (h13 : rfP σ0 σ) (h14 : cfP Γ0 Γ) (hB : nn' ≤ B) (hB2 : B ≤ 38500) : Ok2 ((F_X12_need 59 σ).bind fun u_15 => some (J (nn : Nat), u_15.2)) ((F_X2_need 59 Γ).bind fun u_21 => some ((0 : Int32), u_21.2)) (StR T N kd vl rv pl 0 B σ0 Γ0 a dp ln nn) := by
  have hac := h1.2.2.2.2.2.2.1
  rw [show F_X12_need 59 σ = _ from r_need hT h1 (c := 59) (by decide), show F_X2_need 59 Γ = _ from c_need hT h2 (c := 59) (by omega)]
  refine Ok2_lsome (Ok2_rsome (Ok2_some ?_))
  by_cases q : kd ac = 59
  · rw [if_pos q, if_pos q]
    have hacT := TKE_lt hT hac (by omega) (by omega)
    refine Or.inl ⟨1, ac + 1, ln', nn', nn, ⟨rfl, by unfold fuB; omega⟩, h4, RN_psd h1 hacT, CN_cps hT h2 hacT, ?_, h9, h10, rX_trans h11 rX_psd (Nat.le_refl nn), cXt_trans h12 cXt_cps (Nat.le_refl ln) (Nat.le_refl a), rfP_trans h13 rfP_psd, cfP_trans h14 cfP_cps⟩
    refine ⟨Nat.le_refl _, h8, by omega, by omega, Or.inl ⟨rfl, h7, h5, Or.inl ⟨ac, rfl, q, ?_⟩⟩⟩
    exact PST_ag (σ := σ) (Γ := Γ) (lo := nn) (fun _ _ _ => ⟨rfl, rfl, rfl, fun _ => rfl, fun _ _ _ _ => rfl, fun _ => rfl⟩) ⟨fun _ _ _ => rfl, fun _ _ _ => rfl⟩ (Nat.le_refl _) h8 h3 (by omega) h7
  · rw [if_neg q, if_neg q]
    exact Or.inr (SRes_unf hT (x := nn) (y := 0) h1 h2 hB h13 h14 ⟨by omega, by omega⟩)
theorem st_stop (hT : TKE T N kd vl rv pl) {B nn : Nat} {σ0 σ : MS} {Γ0 Γ : HS} {f f' : Int} {w : Nat} (h1 : rXX T kd vl rv pl B σ0 f w σ) (h2 : yXX N kd vl pl Γ0 f' w Γ) : Ok ((F_X12_need 59 σ).bind fun u_15 => some (J (nn : Nat), u_15.2)) (fun u => rXX T kd vl rv pl B σ0 f w u.2 ∧ u.1 = J (nn : Nat)) ∧ Ok ((F_X2_need 59 Γ).bind fun u_21 => some ((0 : Int32), u_21.2)) (fun v => yXX N kd vl pl Γ0 f' w v.2) :=
  ⟨Ok_bind (Ok_mono (xx_need hT h1 59) (fun u hu => Ok_some ⟨hu, rfl⟩)), Ok_bind (Ok_mono (yy_need hT h2 (c := 59) (by omega)) (fun u hu => Ok_some hu))⟩
