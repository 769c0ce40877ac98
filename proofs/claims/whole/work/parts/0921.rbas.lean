/-! the reference's reading: single words -/
variable {T N : Nat} {kd vl rv : Nat → Int} {pl : Nat → Nat}
variable {σ : MS} {a dp nn : Nat}
theorem r_isKey (hT : TKE T N kd vl rv pl) (h : RN T kd vl rv pl σ a dp nn) {k : Int} {c : Nat} (hc : c < 57) (hk : KRL.getD c 0 = k) : F_X12_isKey (J k) σ = some (J (if kd a = 200 + c then 1 else 0), σ) := by
  obtain ⟨htk, h25, h26, h27, -, -, ha, -⟩ := h
  obtain ⟨k1, k2, k3⟩ := htk a ha
  have hTL := hT.1
  have hr := KRL_rng c hc
  have hv := rvO_rng hT ha
  have hkk := rkO_rng (kd a)
  have hs := tk_key hT ha hc hk
  unfold F_X12_isKey
  simp (disch := omega) only [bnd, h25, h27, J_lit, J_add, J_sub, J_mul, J_neg, J_lt, J_le, J_eq, J_natN, J_nat, Int.toNat_natCast, tnl, tnc, k1, k3, if_neg]
  by_cases q : kd a = 200 + c
  · obtain ⟨e1, e2⟩ := hs.mpr q
    rw [if_pos q, if_pos e1, if_pos e2]; rfl
  · rw [if_neg q]
    by_cases q2 : rkO (kd a) = 1
    · rw [if_pos q2, if_neg (fun e => q (hs.mp ⟨q2, e⟩))]; rfl
    · rw [if_neg q2]; rfl
theorem r_took (hT : TKE T N kd vl rv pl) (h : RN T kd vl rv pl σ a dp nn) {c : Int} (hc : sgnOk c = true) : F_X12_took (J c) σ = some (if kd a = c then (J 1, psd σ a) else (J 0, σ)) := by
  unfold F_X12_took
  rw [r_isSign hT h hc, Option.bind_some]
  by_cases q : kd a = c
  · rw [if_pos q, if_neg J1_ne, if_pos q]
    simp only [bnd]
    rw [h.2.1, show J (a : Nat) + 1 = J (a + 1 : Nat) by rw [J_lit, J_add]; rfl]; rfl
  · rw [if_neg q, if_pos J0_eq, if_neg q]; rfl
theorem r_tookKey (hT : TKE T N kd vl rv pl) (h : RN T kd vl rv pl σ a dp nn) {k : Int} {c : Nat} (hc : c < 57) (hk : KRL.getD c 0 = k) : F_X12_tookKey (J k) σ = some (if kd a = 200 + c then (J 1, psd σ a) else (J 0, σ)) := by
  unfold F_X12_tookKey
  rw [r_isKey hT h hc hk, Option.bind_some]
  by_cases q : kd a = 200 + c
  · rw [if_pos q, if_neg J1_ne, if_pos q]
    simp only [bnd]
    rw [h.2.1, show J (a : Nat) + 1 = J (a + 1 : Nat) by rw [J_lit, J_add]; rfl]; rfl
  · rw [if_neg q, if_pos J0_eq, if_neg q]; rfl
/-- the fault of a word that does not fit -/
def unf (kd : Nat → Int) (a : Nat) : Int := if kd a = 1 then 1 else 2
theorem r_unfit (hT : TKE T N kd vl rv pl) (h : RN T kd vl rv pl σ a dp nn) : F_X12_unfit σ = some (J 0, stp σ (unf kd a) (pl a)) := by
  obtain ⟨htk, h25, h26, h27, -, -, ha, -⟩ := h
  obtain ⟨k1, k2, k3⟩ := htk a ha
  have hTL := hT.1
  have hkk := rkO_rng (kd a)
  have hs := tk_bad hT ha
  unfold F_X12_unfit F_X12_fails
  simp (disch := omega) only [bnd, h25, h27, J_natN, k1, k2, J_nlt0, if_neg, false_or]
  have g1 : ¬ (J (a : Int) < 0 ∨ 16010 ≤ a) := by rintro (h | h); exact J_nlt0 (by omega) (by omega) h; omega
  rw [if_pos (show J 0 = 0 from rfl), if_pos (show J 0 = 0 from rfl), Option.bind_some, Option.bind_some]
  unfold unf stp
  by_cases q : kd a = 1
  · rw [if_pos q, if_pos (by rw [show (6 : Int32) = J 6 from rfl, J_eq (by omega) (by omega) (by omega) (by omega)]; exact hs.mpr q)]; rfl
  · rw [if_neg q, if_neg (by rw [show (6 : Int32) = J 6 from rfl, J_eq (by omega) (by omega) (by omega) (by omega)]; exact fun e => q (hs.mp e))]; rfl
theorem r_need (hT : TKE T N kd vl rv pl) (h : RN T kd vl rv pl σ a dp nn) {c : Int} (hc : sgnOk c = true) : F_X12_need (J c) σ = some (J 0, if kd a = c then psd σ a else stp σ (unf kd a) (pl a)) := by
  unfold F_X12_need
  rw [r_took hT h hc, Option.bind_some]
  by_cases q : kd a = c
  · rw [if_pos q, if_neg J1_ne, if_pos q]; rfl
  · rw [if_neg q, if_pos J0_eq, if_neg q]; dsimp only; rw [r_unfit hT h, Option.bind_some]; rfl
theorem r_needKey (hT : TKE T N kd vl rv pl) (h : RN T kd vl rv pl σ a dp nn) {k : Int} {c : Nat} (hc : c < 57) (hk : KRL.getD c 0 = k) : F_X12_needKey (J k) σ = some (J 0, if kd a = 200 + c then psd σ a else stp σ (unf kd a) (pl a)) := by
  unfold F_X12_needKey
  rw [r_tookKey hT h hc hk, Option.bind_some]
  by_cases q : kd a = 200 + c
  · rw [if_pos q, if_neg J1_ne, if_pos q]; rfl
  · rw [if_neg q, if_pos J0_eq, if_neg q]; dsimp only; rw [r_unfit hT h, Option.bind_some]; rfl
theorem r_needKind (hT : TKE T N kd vl rv pl) (h : RN T kd vl rv pl σ a dp nn) {k : Int} (hk : k = 2 ∨ k = 3 ∨ k = 4) : F_X12_needKind (J k) σ = some (if kd a = k then (J (rvO kd vl rv a), psd σ a) else (J 0, stp σ (unf kd a) (pl a))) := by
  have hu := r_unfit hT h
  obtain ⟨htk, h25, h26, h27, -, -, ha, -⟩ := h
  obtain ⟨k1, k2, k3⟩ := htk a ha
  have hTL := hT.1
  have hkk := rkO_rng (kd a)
  have hs := tk_kind hT ha hk
  unfold F_X12_needKind
  simp only [bnd, hu, Option.bind_some, h25, h27]
  have g1 : ¬ (J (a : Int) < 0 ∨ 16010 ≤ (J (a : Int)).toNatClampNeg) := by
    rw [J_natN (by omega)]; rintro (h | h); exact J_nlt0 (by omega) (by omega) h; omega
  rw [if_pos (show J 0 = 0 from rfl), if_neg g1, if_neg g1, J_natN (by omega), k1]
  by_cases q : kd a = k
  · rw [if_pos q, if_pos (by rw [J_eq (by omega) (by omega) (by omega) (by omega)]; exact hs.mpr q), show J (a : Nat) + 1 = J (a + 1 : Nat) by rw [J_lit, J_add]; rfl]
    rw [show (mI σ 25 (J (a + 1 : Nat))).2 9 a = σ.2 9 a from rfl, k3]; rfl
  · rw [if_neg q, if_neg (by rw [J_eq (by omega) (by omega) (by omega) (by omega)]; exact fun e => q (hs.mp e))]; rfl
/-- one more stands open -/
def opn (σ : MS) (d : Int) : MS := mI σ 26 (J d)
theorem r_opens (hT : TKE T N kd vl rv pl) (h : RN T kd vl rv pl σ a dp nn) : F_X12_opens σ = some (J 0, if dp = 30 then opn (stp σ 5 (pl a)) (dp + 1) else opn σ (dp + 1)) := by
  obtain ⟨htk, h25, h26, h27, -, -, ha, hdp⟩ := h
  obtain ⟨k1, k2, k3⟩ := htk a ha
  have hTL := hT.1
  unfold F_X12_opens F_X12_fails
  simp only [bnd, h25, h26, h27]
  have g1 : ¬ (J (a : Int) < 0 ∨ 16010 ≤ (J (a : Int)).toNatClampNeg) := by
    rw [J_natN (by omega)]; rintro (h | h); exact J_nlt0 (by omega) (by omega) h; omega
  rw [if_pos (show J 0 = 0 from rfl), if_neg g1, if_pos (show J 0 = 0 from rfl), Option.bind_some, J_natN (by omega), k2]
  by_cases q : dp = 30
  · rw [if_pos q, if_pos (by rw [q]; rfl)]
    unfold opn stp
    rw [show (mI (mI (mI σ 27 1) 14 5) 15 (J (pl a : Int))).1 26 = σ.1 26 from rfl, h26, show J (dp : Int) + 1 = J ((dp : Int) + 1) by rw [J_lit, J_add]]; rfl
  · rw [if_neg q, if_neg (by rw [show (30 : Int32) = J 30 from rfl, J_eq (by omega) (by omega) (by omega) (by omega)]; omega)]
    rw [show J (dp : Int) + 1 = J ((dp : Int) + 1) by rw [J_lit, J_add]]; rfl
/-- a node is made -/
def nod (σ : MS) (n : Nat) (k p : Int) : MS := mI (mA (mA (mA (mA (mA (mA σ 17 (upd (σ.2 17) n (J k))) 18 (upd (σ.2 18) n (J p))) 19 (upd (σ.2 19) n (J (-1)))) 20 (upd (σ.2 20) n (J (-1)))) 21 (upd (σ.2 21) n (J (-1)))) 22 (upd (σ.2 22) n (J (-1)))) 23 (J (n + 1 : Nat))
theorem r_node {n : Nat} (h : σ.1 23 = J n) (hn : n < 40000) (k p : Int) : F_X12_node (J k) (J p) σ = some (J n, nod σ n k p) := by
  unfold F_X12_node
  have g1 : ¬ (J (n : Int) < 0 ∨ 40000 ≤ (J (n : Int)).toNatClampNeg) := by
    rw [J_natN (by omega)]; rintro (h | h); exact J_nlt0 (by omega) (by omega) h; omega
  simp only [bnd, mA_1, mI_1, mA_2, h]
  rw [if_neg g1, if_neg g1, if_neg g1, if_neg g1, if_neg g1, if_neg g1, J_natN (by omega), show J (n : Nat) + 1 = J (n + 1 : Nat) by rw [J_lit, J_add]; rfl]
  rfl
def sA (σ : MS) (n : Nat) (v : Int) : MS := mA σ 19 (upd (σ.2 19) n (J v))
def sB (σ : MS) (n : Nat) (v : Int) : MS := mA σ 20 (upd (σ.2 20) n (J v))
def sD (σ : MS) (n : Nat) (v : Int) : MS := mA σ 21 (upd (σ.2 21) n (J v))
def sT (σ : MS) (n : Nat) (v : Int) : MS := mA σ 22 (upd (σ.2 22) n (J v))
def sW (σ : MS) (n : Nat) (v : Int) : MS := mA σ 17 (upd (σ.2 17) n (J v))
def nd2 (σ : MS) (n : Nat) (k p x y z : Int) : MS := sD (sB (sA (nod σ n k p) n x) n y) n z
theorem r_two {n : Nat} (h : σ.1 23 = J n) (hn : n < 40000) (k p x y z : Int) : F_X12_two (J k) (J p) (J x) (J y) (J z) σ = some (J n, nd2 σ n k p x y z) := by
  unfold F_X12_two
  have g1 : ¬ (J (n : Int) < 0 ∨ 40000 ≤ (J (n : Int)).toNatClampNeg) := by
    rw [J_natN (by omega)]; rintro (h | h); exact J_nlt0 (by omega) (by omega) h; omega
  rw [r_node h hn, Option.bind_some]
  simp only [bnd]
  rw [if_neg g1, if_neg g1, if_neg g1, J_natN (by omega)]
  rfl
theorem r_attribute (hT : TKE T N kd vl rv pl) (h : RN T kd vl rv pl σ a dp nn) : F_X12_attribute σ = some (if 206 ≤ kd a ∧ kd a ≤ 211 then (J (kd a - 206), psd σ a) else (J 0, stp σ (unf kd a) (pl a))) := by
  have hu := r_unfit hT h
  obtain ⟨htk, h25, h26, h27, -, -, ha, -⟩ := h
  obtain ⟨k1, k2, k3⟩ := htk a ha
  have hTL := hT.1
  have hkk := rkO_rng (kd a)
  have hok := TKE_ok hT ha
  have hkr := kdOk_rng hok
  unfold F_X12_attribute
  simp only [bnd, hu, Option.bind_some, h25, h27]
  have g1 : ¬ (J (a : Int) < 0 ∨ 16010 ≤ (J (a : Int)).toNatClampNeg) := by
    rw [J_natN (by omega)]; rintro (h | h); exact J_nlt0 (by omega) (by omega) h; omega
  rw [if_pos (show J 0 = 0 from rfl), if_neg g1, if_neg g1, if_neg g1, J_natN (by omega), k1, k3]
  have hv := rvO_rng hT ha
  by_cases q1 : rkO (kd a) = 1
  · rw [if_pos (by rw [q1]; rfl)]
    have h2 : 200 ≤ kd a := by
      unfold rkO at q1
      repeat' split at q1
      all_goals omega
    have hrv : rvO kd vl rv a = KRL.getD (kd a - 200).toNat 0 := by
      unfold rvO rvS
      rw [if_neg (by omega), if_neg (by omega), if_neg (by omega), if_pos h2]
    obtain ⟨t1, t2⟩ := KRL_51 (kd a - 200).toNat (by omega)
    rw [show (51 : Int32) = J 51 from rfl, hrv]
    have hv2 := KRL_rng (kd a - 200).toNat (by omega)
    by_cases q2 : 51 ≤ KRL.getD (kd a - 200).toNat 0
    · rw [if_neg (by rw [J_lt (by omega) (by omega) (by omega) (by omega)]; omega), if_pos (by have := t1.mp q2; omega), show J (a : Nat) + 1 = J (a + 1 : Nat) by rw [J_lit, J_add]; rfl]
      rw [show (mI σ 25 (J (a + 1 : Nat))).2 9 a = σ.2 9 a from rfl, k3, hrv, J_sub, t2 q2]
      rw [show ((kd a - 200).toNat : Int) - 6 = kd a - 206 by omega]; rfl
    · rw [if_pos (by rw [J_lt (by omega) (by omega) (by omega) (by omega)]; omega), if_neg (by intro h; exact q2 (t1.mpr (by omega)))]; rfl
  · rw [if_neg (by rw [show (1 : Int32) = J 1 from rfl, J_eq (by omega) (by omega) (by omega) (by omega)]; exact q1)]
    rw [if_neg (by intro h; apply q1; unfold rkO; repeat' split
                   all_goals omega)]; rfl
/-! the same where a fault was met -/
variable {f : Int} {p : Nat}
theorem x_isSign (h : RX T kd vl rv pl σ f p nn) (c : Int32) : F_X12_isSign c σ = some (J 0, σ) := by
  unfold F_X12_isSign; rw [h.2.1, if_neg J1_ne]; rfl
theorem x_isKey (h : RX T kd vl rv pl σ f p nn) (c : Int32) : F_X12_isKey c σ = some (J 0, σ) := by
  unfold F_X12_isKey; rw [h.2.1, if_neg J1_ne]; rfl
theorem x_took (h : RX T kd vl rv pl σ f p nn) (c : Int32) : F_X12_took c σ = some (J 0, σ) := by
  unfold F_X12_took; rw [x_isSign h, Option.bind_some, if_pos J0_eq]; rfl
theorem x_tookKey (h : RX T kd vl rv pl σ f p nn) (c : Int32) : F_X12_tookKey c σ = some (J 0, σ) := by
  unfold F_X12_tookKey; rw [x_isKey h, Option.bind_some, if_pos J0_eq]; rfl
theorem x_at (hT : TKE T N kd vl rv pl) (h : RX T kd vl rv pl σ f p nn) : ¬ (σ.1 25 < 0 ∨ 16010 ≤ (σ.1 25).toNatClampNeg) := by
  obtain ⟨-, -, -, -, -, b, hb, e⟩ := h
  have := hT.1
  rw [e, J_natN (by omega)]; rintro (h | h); exact J_nlt0 (by omega) (by omega) h; omega
theorem x_unfit (hT : TKE T N kd vl rv pl) (h : RX T kd vl rv pl σ f p nn) : F_X12_unfit σ = some (J 0, σ) := by
  have g1 := x_at hT h
  unfold F_X12_unfit F_X12_fails
  simp only [bnd]
  rw [if_neg g1, if_neg g1, h.2.1, if_neg J1_ne, if_neg J1_ne, Option.bind_some]
  split <;> rfl
theorem x_need (hT : TKE T N kd vl rv pl) (h : RX T kd vl rv pl σ f p nn) (c : Int32) : F_X12_need c σ = some (J 0, σ) := by
  unfold F_X12_need; rw [x_took h, Option.bind_some, if_pos J0_eq, x_unfit hT h]; rfl
theorem x_needKey (hT : TKE T N kd vl rv pl) (h : RX T kd vl rv pl σ f p nn) (c : Int32) : F_X12_needKey c σ = some (J 0, σ) := by
  unfold F_X12_needKey; rw [x_tookKey h, Option.bind_some, if_pos J0_eq, x_unfit hT h]; rfl
theorem x_needKind (hT : TKE T N kd vl rv pl) (h : RX T kd vl rv pl σ f p nn) (c : Int32) : F_X12_needKind c σ = some (J 0, σ) := by
  unfold F_X12_needKind; simp only [bnd]; rw [h.2.1, if_neg J1_ne, x_unfit hT h]; rfl
theorem x_attribute (hT : TKE T N kd vl rv pl) (h : RX T kd vl rv pl σ f p nn) : F_X12_attribute σ = some (J 0, σ) := by
  unfold F_X12_attribute; simp only [bnd]; rw [h.2.1, if_neg J1_ne, x_unfit hT h]; rfl
theorem RX_opn {d : Int32} (h : RX T kd vl rv pl σ f p nn) : RX T kd vl rv pl (mI σ 26 d) f p nn := ⟨h.1, h.2.1, h.2.2.1, h.2.2.2.1, h.2.2.2.2.1, h.2.2.2.2.2⟩
theorem x_opens (h : RX T kd vl rv pl σ f p nn) : F_X12_opens σ = some (J 0, mI σ 26 (σ.1 26 + 1)) := by
  unfold F_X12_opens; simp only [bnd]; rw [h.2.1, if_neg J1_ne]; rfl
theorem x_open (hT : TKE T N kd vl rv pl) (h : RX T kd vl rv pl σ f p nn) (c : Int32) : F_X12_open c σ = some (J 0, σ) := by
  unfold F_X12_open; rw [x_isSign h, Option.bind_some]; simp only [bnd]; rw [if_pos J0_eq, x_need hT h]; rfl
theorem x_shut (hT : TKE T N kd vl rv pl) (h : RX T kd vl rv pl σ f p nn) (c : Int32) : F_X12_shut c σ = some (J 0, mI σ 26 (σ.1 26 - 1)) := by
  unfold F_X12_shut; rw [x_need hT h, Option.bind_some]; rfl
theorem RX_nod (h : RX T kd vl rv pl σ f p nn) (k q : Int) : RX T kd vl rv pl (nod σ nn k q) f p (nn + 1) := ⟨h.1, h.2.1, h.2.2.1, h.2.2.2.1, rfl, h.2.2.2.2.2⟩
theorem RX_mA {m : Nat} {g : Nat → Int32} (h : RX T kd vl rv pl σ f p nn) (hm : m ≠ 7) (hm2 : m ≠ 8) (hm3 : m ≠ 9) : RX T kd vl rv pl (mA σ m g) f p nn := by
  refine ⟨fun i hi => ?_, h.2.1, h.2.2.1, h.2.2.2.1, h.2.2.2.2.1, h.2.2.2.2.2⟩
  rw [mA_2, mA_2, mA_2, if_neg (fun e => hm e.symm), if_neg (fun e => hm2 e.symm), if_neg (fun e => hm3 e.symm)]; exact h.1 i hi
theorem RN_mA {m : Nat} {g : Nat → Int32} (h : RN T kd vl rv pl σ a dp nn) (hm : m ≠ 7) (hm2 : m ≠ 8) (hm3 : m ≠ 9) : RN T kd vl rv pl (mA σ m g) a dp nn := by
  refine ⟨fun i hi => ?_, h.2⟩
  rw [mA_2, mA_2, mA_2, if_neg (fun e => hm e.symm), if_neg (fun e => hm2 e.symm), if_neg (fun e => hm3 e.symm)]; exact h.1 i hi
theorem RN_nod (h : RN T kd vl rv pl σ a dp nn) (k q : Int) : RN T kd vl rv pl (nod σ nn k q) a dp (nn + 1) := ⟨h.1, h.2.1, h.2.2.1, h.2.2.2.1, h.2.2.2.2.1, rfl, h.2.2.2.2.2.2⟩
theorem RN_opn {d : Nat} (h : RN T kd vl rv pl σ a dp nn) (hd : d ≤ 31) : RN T kd vl rv pl (opn σ d) a d nn := ⟨h.1, h.2.1, rfl, h.2.2.2.1, h.2.2.2.2.1, h.2.2.2.2.2.1, h.2.2.2.2.2.2.1, hd⟩
