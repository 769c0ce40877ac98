/-! the class's statement, by its key; both -/
variable {T N : Nat} {kd vl rv : Nat → Int} {pl : Nat → Nat}
theorem po_any (p : Int32) (Γ : HS) : ∃ x, F_X2_plainOp p Γ = some (x, Γ) := by
  unfold F_X2_plainOp
  repeat' split
  all_goals exact ⟨_, rfl⟩
theorem po_no {k : Int} (Γ : HS) (h0 : 0 ≤ k ∧ k ≤ 256) (h : ¬ (k = 243 ∨ k = 245 ∨ k = 246 ∨ k = 247 ∨ k = 251 ∨ k = 252 ∨ k = 253 ∨ k = 254)) : F_X2_plainOp (J k) Γ = some (-1, Γ) := by
  have ne : ∀ c : Int, 0 ≤ c → c ≤ 256 → k ≠ c → ¬ J k = J c := fun c c1 c2 c3 e => by rw [J_eq (by omega) (by omega) (by omega) (by omega)] at e; exact c3 e
  unfold F_X2_plainOp
  rw [if_neg (show ¬ J k = 243 from ne 243 (by omega) (by omega) (by omega)), if_neg (show ¬ J k = 245 from ne 245 (by omega) (by omega) (by omega)), if_neg (show ¬ J k = 246 from ne 246 (by omega) (by omega) (by omega)), if_neg (show ¬ J k = 247 from ne 247 (by omega) (by omega) (by omega)), if_neg (show ¬ J k = 251 from ne 251 (by omega) (by omega) (by omega)), if_neg (show ¬ J k = 252 from ne 252 (by omega) (by omega) (by omega)), if_neg (show ¬ J k = 253 from ne 253 (by omega) (by omega) (by omega)), if_neg (show ¬ J k = 254 from ne 254 (by omega) (by omega) (by omega))]
theorem cs_p (hT : TKE T N kd vl rv pl) {Γ : HS} {a dp ln d : Nat} {m : MR} {Q : Int32 × MS → Int32 × HS → Prop} {O : Int32} (h2 : CN T N kd vl pl Γ a dp ln) (haT : a < T) (hO : F_X2_plainOp (J (kd a)) Γ = some (O, Γ)) (hO2 : ¬ O = -1) (h8 : ¬ J (kd a) = 248) (h0 : ¬ J (kd a) = 250) (g : Ok2 m ((F_X2_plainStatement O (cps kd Γ a)).bind fun u_49 => (F_X2_need 59 u_49.2).bind fun u_21 => some ((0 : Int32), u_21.2)) Q) : Ok2 m (F_X2_statement (gB d) Γ) Q := by
  unfold F_X2_statement
  rw [h2.2.2.1]
  exact Ok2_re hO (Ok2_rneg h8 (Ok2_rneg h0 (Ok2_rbnd (Ok2_rneg hO2 (Ok2_re (c_pass hT h2 haT) g)))))
theorem cs_if (hT : TKE T N kd vl rv pl) {Γ : HS} {a dp ln d : Nat} {m : MR} {Q : Int32 × MS → Int32 × HS → Prop} (h2 : CN T N kd vl pl Γ a dp ln) (haT : a < T) (hk : kd a = 248) (g : Ok2 m ((gB d 2 0 0 0 (cps kd Γ a)).bind fun u_7 => some ((0 : Int32), u_7.2)) Q) : Ok2 m (F_X2_statement (gB d) Γ) Q := by
  obtain ⟨x, hx⟩ := po_any (J (kd a)) Γ
  unfold F_X2_statement
  rw [h2.2.2.1]
  exact Ok2_re hx (Ok2_rpos (by rw [hk]; rfl) (Ok2_re (c_pass hT h2 haT) g))
theorem cs_wh (hT : TKE T N kd vl rv pl) {Γ : HS} {a dp ln d : Nat} {m : MR} {Q : Int32 × MS → Int32 × HS → Prop} (h2 : CN T N kd vl pl Γ a dp ln) (haT : a < T) (hk : kd a = 250) (g : Ok2 m ((gB d 3 0 0 0 (cps kd Γ a)).bind fun u_7 => some ((0 : Int32), u_7.2)) Q) : Ok2 m (F_X2_statement (gB d) Γ) Q := by
  obtain ⟨x, hx⟩ := po_any (J (kd a)) Γ
  unfold F_X2_statement
  rw [h2.2.2.1]
  exact Ok2_re hx (Ok2_rneg (by rw [hk]; decide) (Ok2_rpos (by rw [hk]; rfl) (Ok2_re (c_pass hT h2 haT) g)))
theorem cs_say (hT : TKE T N kd vl rv pl) {Γ : HS} {a dp ln d : Nat} {m : MR} {Q : Int32 × MS → Int32 × HS → Prop} (h2 : CN T N kd vl pl Γ a dp ln) (hk : kd a = 241) (g : Ok2 m ((F_X2_say (cps kd Γ a)).bind Gs) Q) : Ok2 m (F_X2_statement (gB d) Γ) Q := by
  unfold F_X2_statement
  rw [h2.2.2.1]
  refine Ok2_re (po_no Γ (by omega) (by omega)) (Ok2_rneg (by rw [hk]; decide) (Ok2_rneg (by rw [hk]; decide) (Ok2_rbnd (Ok2_rpos rfl (Ok2_re (a := (J 1, cps kd Γ a)) ?_ (Ok2_rneg J1_ne g))))))
  rw [show F_X2_accept 241 Γ = _ from c_accept hT h2 (c := 241) (by omega), if_pos hk]
theorem cs_let (hT : TKE T N kd vl rv pl) {Γ : HS} {a dp ln d : Nat} {m : MR} {Q : Int32 × MS → Int32 × HS → Prop} (h2 : CN T N kd vl pl Γ a dp ln) (hk : kd a = 242) (g : Ok2 m ((F_X2_let (cps kd Γ a)).bind fun u_49 => (F_X2_need 59 u_49.2).bind fun u_21 => some ((0 : Int32), u_21.2)) Q) : Ok2 m (F_X2_statement (gB d) Γ) Q := by
  unfold F_X2_statement
  rw [h2.2.2.1]
  refine Ok2_re (po_no Γ (by omega) (by omega)) (Ok2_rneg (by rw [hk]; decide) (Ok2_rneg (by rw [hk]; decide) (Ok2_rbnd (Ok2_rpos rfl (Ok2_re (a := (J 0, Γ)) ?_ (Ok2_rpos J0_eq (Ok2_re (a := (J 1, cps kd Γ a)) ?_ (Ok2_rneg J1_ne g))))))))
  · rw [show F_X2_accept 241 Γ = _ from c_accept hT h2 (c := 241) (by omega), if_neg (by omega)]
  · rw [show F_X2_accept 242 Γ = _ from c_accept hT h2 (c := 242) (by omega), if_pos hk]
theorem cs_nam (hT : TKE T N kd vl rv pl) {Γ : HS} {a dp ln d : Nat} {m : MR} {Q : Int32 × MS → Int32 × HS → Prop} (h2 : CN T N kd vl pl Γ a dp ln) (hk0 : 0 ≤ kd a ∧ kd a ≤ 256) (hk : ¬ (kd a = 241 ∨ kd a = 242 ∨ kd a = 243 ∨ kd a = 245 ∨ kd a = 246 ∨ kd a = 247 ∨ kd a = 248 ∨ kd a = 250 ∨ kd a = 251 ∨ kd a = 252 ∨ kd a = 253 ∨ kd a = 254)) (g : kd a = 2 → Ok2 m ((F_X2_named Γ).bind fun u_49 => (F_X2_need 59 u_49.2).bind fun u_21 => some ((0 : Int32), u_21.2)) Q) (g2 : kd a ≠ 2 → Ok2 m ((F_X2_fail 2 Γ).bind fun u_49 => (F_X2_need 59 u_49.2).bind fun u_21 => some ((0 : Int32), u_21.2)) Q) : Ok2 m (F_X2_statement (gB d) Γ) Q := by
  have ne : ∀ c : Int, 0 ≤ c → c ≤ 256 → kd a ≠ c → ¬ J (kd a) = J c := fun c c1 c2 c3 e => by rw [J_eq (by omega) (by omega) (by omega) (by omega)] at e; exact c3 e
  unfold F_X2_statement
  rw [h2.2.2.1]
  refine Ok2_re (po_no Γ (by omega) (by omega)) (Ok2_rneg (ne 248 (by omega) (by omega) (by omega)) (Ok2_rneg (ne 250 (by omega) (by omega) (by omega)) (Ok2_rbnd (Ok2_rpos rfl (Ok2_re (a := (J 0, Γ)) ?_ (Ok2_rpos J0_eq (Ok2_re (a := (J 0, Γ)) ?_ (Ok2_rpos J0_eq ?_))))))))
  · rw [show F_X2_accept 241 Γ = _ from c_accept hT h2 (c := 241) (by omega), if_neg (by omega)]
  · rw [show F_X2_accept 242 Γ = _ from c_accept hT h2 (c := 242) (by omega), if_neg (by omega)]
  · dsimp only
    rw [h2.2.2.1]
    by_cases q : kd a = 2
    · exact Ok2_rpos (by rw [q]; rfl) (g q)
    · exact Ok2_rneg (ne 2 (by omega) (by omega) q) (g2 q)
/-- rows of nodes below, but what an if's node is told -/
def rI (x nn : Nat) (σ τ : MS) : Prop := ∀ k, 17 ≤ k → k ≤ 22 → ∀ y, y < nn → (y ≠ x ∨ k = 17 ∨ k = 18 ∨ k = 22) → τ.2 k y = σ.2 k y
def IfR (T N : Nat) (kd vl rv : Nat → Int) (pl : Nat → Nat) (B : Nat) (σ : MS) (Γ : HS) (a dp ln nn x : Nat) (u : Int32 × MS) (v : Int32 × HS) : Prop :=
  (∃ h a' ln' nn' : Nat, (RN T kd vl rv pl u.2 a' dp nn' ∧ h ≤ 3 * (31 - dp) + 1) ∧ CN T N kd vl pl v.2 a' dp ln' ∧ STX kd vl rv pl u.2 v.2 h 2 x nn' x a a' ln ln' ∧ ln < ln' ∧ nn ≤ nn' ∧ nn' ≤ nn + 3 * (a' - a) ∧ ln' ≤ ln + 7 * (a' - a) ∧ rI x nn σ u.2 ∧ cXt ln a Γ v.2 ∧ rfP σ u.2 ∧ cfP Γ v.2)
  ∨ ∃ f f' w, rXX T kd vl rv pl B σ f w u.2 ∧ yXX N kd vl pl Γ f' w v.2 ∧ f = fxO kd f' w ∧ w ≤ T
def simB (T N : Nat) (kd vl rv : Nat → Int) (pl : Nat → Nat) (dp : Nat) : Prop := ∀ (B a ln nn d1 d2 : Nat) (σ : MS) (Γ : HS), RN T kd vl rv pl σ a dp nn → CN T N kd vl pl Γ a dp ln → preS T B a dp ln nn → 3 * (31 - dp) ≤ d1 → 3 * (31 - dp) ≤ d2 → Ok2 (gS d1 0 0 0 0 σ) (gB d2 0 0 0 0 Γ) (StR T N kd vl rv pl 1 B σ Γ a dp ln nn)
def simF (T N : Nat) (kd vl rv : Nat → Int) (pl : Nat → Nat) (dp : Nat) : Prop := ∀ (B a ln nn x d1 d2 : Nat) (σ : MS) (Γ : HS), RN T kd vl rv pl σ a dp nn → CN T N kd vl pl Γ a dp ln → preS T B a dp ln nn → x < nn → σ.2 17 x = J 27 → σ.2 21 x = J (-1) → 3 * (31 - dp) + 1 ≤ d1 → 3 * (31 - dp) + 1 ≤ d2 → Ok2 (gS d1 2 (J (x : Nat)) 0 0 σ) (gB d2 2 0 0 0 Γ) (IfR T N kd vl rv pl B σ Γ a dp ln nn x)
def simS (T N : Nat) (kd vl rv : Nat → Int) (pl : Nat → Nat) (dp : Nat) : Prop := ∀ (B a ln nn d1 d2 : Nat) (σ : MS) (Γ : HS), RN T kd vl rv pl σ a dp nn → CN T N kd vl pl Γ a dp ln → preS T B a dp ln nn → 3 * (31 - dp) + 2 ≤ d1 → 3 * (31 - dp) + 2 ≤ d2 → Ok2 (gS d1 1 0 0 0 σ) (gB d2 1 0 0 0 Γ) (StR T N kd vl rv pl 0 B σ Γ a dp ln nn)
theorem nod18 {σ : MS} {n : Nat} {k p : Int} : (nod σ n k p).2 18 n = J p := by show upd _ _ _ _ = _; rw [upd_s, if_pos rfl]
theorem nod22 {σ : MS} {n : Nat} {k p : Int} : (nod σ n k p).2 22 n = J (-1) := by rw [nod_A, if_pos rfl, upd_s, if_pos rfl]
theorem St0_mk (hT : TKE T N kd vl rv pl) {B a dp ln nn : Nat} {σ : MS} {Γ : HS} (h1 : RN T kd vl rv pl σ a dp nn) (h2 : CN T N kd vl pl Γ a dp ln) (hp : preS T B a dp ln nn) (hdp : dp ≤ 30) (haT : a < T) {v : Int} {V : Int32} (hV : V = J v) : St0 T N kd vl rv pl B σ Γ a dp ln nn v (mA (psd (nod σ nn 30 (pl a)) a) 17 (upd ((nod σ nn 30 (pl a)).2 17) nn V)) (cps kd Γ a) := by
  refine ⟨RN_mA (RN_psd (RN_nod h1 30 (pl a)) haT) (by omega) (by omega) (by omega), CN_cps hT h2 haT, ?_, nod18 (σ := σ) (k := 30), nod22 (σ := σ) (k := 30) (p := (pl a : Nat)), ?_, cXt_cps, ?_, cfP_cps, hp, hdp, haT⟩
  · show upd _ _ _ _ = _; rw [upd_s, if_pos rfl, hV]
  · exact rX_trans rX_nod (rX_trans rX_psd (rX_mA (σ := psd (nod σ nn 30 (pl a)) a) (Nat.le_refl nn)) (Nat.le_refl nn)) (Nat.le_refl nn)
  · exact rfP_trans rfP_nod (rfP_trans rfP_psd (rfP_mA (by omega)))
theorem St0_set (hT : TKE T N kd vl rv pl) {B a dp ln nn : Nat} {σ : MS} {Γ : HS} (h1 : RN T kd vl rv pl σ a dp nn) (h2 : CN T N kd vl pl Γ a dp ln) (hp : preS T B a dp ln nn) (hdp : dp ≤ 30) (haT : a < T) {t : Int} {V : Int32} (hV : V = J t) {τ : MS} (hτ : τ = mI (mA (mA (nod σ nn 30 (pl a)) 17 (upd ((nod σ nn 30 (pl a)).2 17) nn 26)) 21 (upd ((mA (nod σ nn 30 (pl a)) 17 (upd ((nod σ nn 30 (pl a)).2 17) nn 26)).2 21) nn V)) 25 ((mA (mA (nod σ nn 30 (pl a)) 17 (upd ((nod σ nn 30 (pl a)).2 17) nn 26)) 21 (upd ((mA (nod σ nn 30 (pl a)) 17 (upd ((nod σ nn 30 (pl a)).2 17) nn 26)).2 21) nn V)).1 25 + 1)) : St0 T N kd vl rv pl B σ Γ a dp ln nn 26 τ (cps kd Γ a) ∧ τ.2 21 nn = J t := by
  have r0 : RN T kd vl rv pl (mA (mA (nod σ nn 30 (pl a)) 17 (upd ((nod σ nn 30 (pl a)).2 17) nn 26)) 21 (upd ((mA (nod σ nn 30 (pl a)) 17 (upd ((nod σ nn 30 (pl a)).2 17) nn 26)).2 21) nn V)) a dp (nn + 1) := RN_mA (RN_mA (RN_nod h1 30 (pl a)) (by omega) (by omega) (by omega)) (by omega) (by omega) (by omega)
  rw [r0.2.1, show J (a : Nat) + 1 = J (a + 1 : Nat) by rw [J_lit, J_add]; rfl] at hτ
  subst hτ
  refine ⟨⟨RN_psd r0 haT, CN_cps hT h2 haT, ?_, nod18 (σ := σ) (k := 30), nod22 (σ := σ) (k := 30) (p := (pl a : Nat)), ?_, cXt_cps, ?_, cfP_cps, hp, hdp, haT⟩, ?_⟩
  · show upd _ _ _ _ = _; rw [upd_s, if_pos rfl]; rfl
  · exact rX_trans rX_nod (rX_trans (rX_mA (Nat.le_refl nn)) (rX_trans (rX_mA (Nat.le_refl nn)) (rX_psd (a := a)) (Nat.le_refl nn)) (Nat.le_refl nn)) (Nat.le_refl nn)
  · exact rfP_trans rfP_nod (rfP_trans (rfP_mA (by omega)) (rfP_trans (rfP_mA (by omega)) (rfP_psd (a := a))))
  · show upd _ _ _ _ = _; rw [upd_s, if_pos rfl, hV]
