/-! a play as it stands, in both -/
def LAT (σ : MS) (Γ : HS) : Prop := (σ.1 98 = J (-1) ∧ (Γ 9).1 7 = J 0) ∨ ∃ n : Nat, 1 ≤ n ∧ n ≤ 120 ∧ σ.1 98 = J (n : Nat) ∧ (Γ 9).1 7 = J (n : Nat) ∧ (∀ i, i < n → ∃ c : Int, σ.2 97 i = J c ∧ (Γ 9).2.1 6 i = J c ∧ 32 ≤ c ∧ c ≤ 126 ∧ ¬ (65 ≤ c ∧ c ≤ 90)) ∧ ∃ i, i < n ∧ ∃ c : Int, σ.2 97 i = J c ∧ 97 ≤ c ∧ c ≤ 122
/-- of a story: objects, rooms, vars, cells -/
def PLT (nO : Nat) (room : Nat → Bool) (nV nC : Nat) (σ : MS) (Γ : HS) (pa fi nx : Nat → Nat) (ch : Nat → List Nat) (tr : Nat → Nat) : Prop := TR nO pa fi nx ch ∧ RT σ pa fi nx ∧ CTr Γ pa fi nx ∧ (∀ x, x ≤ 120 → tr x < 128 ∧ (Γ 9).2.1 3 x = J (tr x : Nat) ∧ ∀ a, a < 7 → σ.2 90 (7 * x + a) = if (tr x).testBit a = true then 1 else 0) ∧ (∀ k, k < nV → (Γ 9).2.1 4 k = σ.2 91 k ∧ VL (σ.2 91 k)) ∧ (∀ k, k < nC → (Γ 9).2.1 5 k = σ.2 92 k ∧ VL (σ.2 92 k)) ∧ ((Γ 9).1 8 = σ.1 93 ∧ (Γ 9).1 9 = σ.1 94 ∧ (Γ 9).1 10 = σ.1 95 ∧ (Γ 9).1 11 = σ.1 96) ∧ (∃ e : Int, σ.1 95 = J e ∧ 0 ≤ e ∧ e ≤ 2) ∧ (∃ i : Nat, σ.1 96 = J (i : Nat) ∧ i ≤ nO) ∧ (∀ x, room x = true → pa x = 0) ∧ (1 ≤ nO ∧ room (pa 1) = true ∧ room 1 = false ∧ 1 ≤ pa 1) ∧ LAT σ Γ ∧ ∀ x, x = 0 ∨ nO < x → tr x = 0
def PL (nO : Nat) (room : Nat → Bool) (nV nC : Nat) (σ : MS) (Γ : HS) : Prop := ∃ (pa fi nx : Nat → Nat) (ch : Nat → List Nat) (tr : Nat → Nat), PLT nO room nV nC σ Γ pa fi nx ch tr
/-- what is told is the same -/
def OUT (σ : MS) (Γ : HS) : Prop := ∃ w : List Int, OR σ w ∧ OC Γ w
/-- nothing broke, or it just did -/
def NBK (Γ : HS) : Prop := (Γ 10).1 14 = J 4 ∨ (Γ 10).1 5 = J 0
theorem NBK_e {Γ Δ : HS} (h5 : (Δ 10).1 5 = (Γ 10).1 5) (h14 : (Δ 10).1 14 = (Γ 10).1 14) (h : NBK Γ) : NBK Δ := by unfold NBK; rw [h5, h14]; exact h
theorem NBK_0 {Γ Δ : HS} (h14 : (Γ 10).1 14 = J 0) (h5 : (Δ 10).1 5 = (Γ 10).1 5) (h : NBK Γ) : NBK Δ := Or.inr (h5.trans (h.resolve_left (by rw [h14]; decide)))
/-- the play, what is told, the nouns -/
def RRl (nO : Nat) (room : Nat → Bool) (nV nC : Nat) (σ : MS) (Γ : HS) : Prop := PL nO room nV nC σ Γ ∧ OUT σ Γ ∧ ((Γ 10).1 3 = σ.1 108 ∧ VL (σ.1 108) ∧ (Γ 10).1 4 = σ.1 109 ∧ VL (σ.1 109) ∧ NBK Γ)
/-- the reference's frame: the machine's own rows -/
def rMk (σ τ : MS) : Prop := (∀ k, ¬ (104 ≤ k ∧ k ≤ 107) → k ≠ 110 → k ≠ 113 → k ≠ 115 → τ.1 k = σ.1 k) ∧ ∀ k, k ≠ 111 → k ≠ 112 → k ≠ 114 → τ.2 k = σ.2 k
/-- the world with them -/
def rWk (σ τ : MS) : Prop := (∀ k, ¬ (93 ≤ k ∧ k ≤ 96) → ¬ (103 ≤ k ∧ k ≤ 107) → k ≠ 110 → k ≠ 113 → k ≠ 115 → τ.1 k = σ.1 k) ∧ ∀ k, ¬ (87 ≤ k ∧ k ≤ 92) → k ≠ 102 → k ≠ 111 → k ≠ 112 → k ≠ 114 → τ.2 k = σ.2 k
theorem rMk_rfl {σ : MS} : rMk σ σ := ⟨fun _ _ _ _ _ => rfl, fun _ _ _ _ => rfl⟩
theorem rMk_trans {σ τ υ : MS} (h : rMk σ τ) (g : rMk τ υ) : rMk σ υ := ⟨fun k a b c d => by rw [g.1 k a b c d, h.1 k a b c d], fun k a b c => by rw [g.2 k a b c, h.2 k a b c]⟩
theorem rMk_mI {σ τ : MS} {k : Nat} {v : Int32} (h : rMk σ τ) (hk : (104 ≤ k ∧ k ≤ 107) ∨ k = 110 ∨ k = 113 ∨ k = 115) : rMk σ (mI τ k v) := ⟨fun j a b c d => by rw [mI_1, if_neg (by omega)]; exact h.1 j a b c d, h.2⟩
theorem rMk_mA {σ τ : MS} {k : Nat} {f : Nat → Int32} (h : rMk σ τ) (hk : k = 111 ∨ k = 112 ∨ k = 114) : rMk σ (mA τ k f) := ⟨h.1, fun j a b c => by rw [mA_2, if_neg (by omega)]; exact h.2 j a b c⟩
theorem rWk_rfl {σ : MS} : rWk σ σ := ⟨fun _ _ _ _ _ _ => rfl, fun _ _ _ _ _ _ => rfl⟩
theorem rWk_trans {σ τ υ : MS} (h : rWk σ τ) (g : rWk τ υ) : rWk σ υ := ⟨fun k a b c d e => by rw [g.1 k a b c d e, h.1 k a b c d e], fun k a b c d e => by rw [g.2 k a b c d e, h.2 k a b c d e]⟩
theorem rWk_M {σ τ : MS} (h : rMk σ τ) : rWk σ τ := ⟨fun k a b c d e => h.1 k (by omega) c d e, fun k a b c d e => h.2 k c d e⟩
theorem rWk_T {σ τ : MS} (h : ofT σ τ) : rWk σ τ := ⟨fun k _ _ _ _ _ => by rw [h.1], fun k a b c d e => h.2 k (by omega) (by omega) (by omega)⟩
theorem rWk_O {σ τ : MS} (h : oR3 σ τ) : rWk σ τ := ⟨fun k a b c d e => h.1 k (by omega), fun k a b c d e => h.2 k b⟩
theorem RT_congr {σ τ : MS} {pa fi nx : Nat → Nat} (h : RT σ pa fi nx) (h1 : τ.2 87 = σ.2 87) (h2 : τ.2 88 = σ.2 88) (h3 : τ.2 89 = σ.2 89) : RT τ pa fi nx := fun i hi => by rw [h1, h2, h3]; exact h i hi
theorem CT_congr {Γ Δ : HS} {pa fi nx : Nat → Nat} (h : CTr Γ pa fi nx) (e : ∀ k, k < 3 → (Δ 9).2.1 k = (Γ 9).2.1 k) : CTr Δ pa fi nx := fun i hi => by rw [e 0 (by omega), e 1 (by omega), e 2 (by omega)]; exact h i hi
theorem OL_congr {f g : Nat → Int32} {n m : Int32} {w : List Int} (h : OL f n w) (h1 : g = f) (h2 : m = n) : OL g m w := by rw [h1, h2]; exact h
/-- neither side's world changed -/
theorem PL_keep {nO nV nC : Nat} {room : Nat → Bool} {σ τ : MS} {Γ Δ : HS} (h : PL nO room nV nC σ Γ) (hr : ∀ k, (87 ≤ k ∧ k ≤ 92) ∨ k = 97 → τ.2 k = σ.2 k) (hi : ∀ k, (93 ≤ k ∧ k ≤ 96) ∨ k = 98 → τ.1 k = σ.1 k) (hc : Δ 9 = Γ 9) : PL nO room nV nC τ Δ := by
  obtain ⟨pa, fi, nx, ch, tr, a1, a2, a3, a4, a5, a6, a7, a8, a9, a10, a11, a12⟩ := h
  refine ⟨pa, fi, nx, ch, tr, a1, RT_congr a2 (hr 87 (by omega)) (hr 88 (by omega)) (hr 89 (by omega)), CT_congr a3 (fun k _ => by rw [hc]), ?_, ?_, ?_, ?_, ?_, ?_, a10, a11, ?_⟩
  · rw [hc, hr 90 (by omega)]; exact a4
  · rw [hc, hr 91 (by omega)]; exact a5
  · rw [hc, hr 92 (by omega)]; exact a6
  · rw [hc, hi 93 (by omega), hi 94 (by omega), hi 95 (by omega), hi 96 (by omega)]; exact a7
  · rw [hi 95 (by omega)]; exact a8
  · rw [hi 96 (by omega)]; exact a9
  · refine ⟨?_, a12.2⟩; unfold LAT; rw [hc, hi 98 (by omega), hr 97 (by omega)]; exact a12.1
theorem RR_M {nO nV nC : Nat} {room : Nat → Bool} {σ τ : MS} {Γ Δ : HS} (h : RRl nO room nV nC σ Γ) (hr : rMk σ τ) (h8 : Δ 8 = Γ 8) (h9 : Δ 9 = Γ 9) (h3 : (Δ 10).1 3 = (Γ 10).1 3) (h4 : (Δ 10).1 4 = (Γ 10).1 4) (hb : NBK Γ → NBK Δ) : RRl nO room nV nC τ Δ := by
  obtain ⟨h1, ⟨w, w1, w2⟩, n1, n2, n3, n4, n5⟩ := h
  refine ⟨PL_keep h1 (fun k hk => hr.2 k (by omega) (by omega) (by omega)) (fun k hk => hr.1 k (by omega) (by omega) (by omega) (by omega)) h9, ⟨w, ?_, ?_⟩, ?_⟩
  · unfold OR; rw [hr.2 102 (by omega) (by omega) (by omega), hr.1 103 (by omega) (by omega) (by omega) (by omega)]; exact w1
  · unfold OC; rw [h8]; exact w2
  · rw [h3, h4, hr.1 108 (by omega) (by omega) (by omega) (by omega), hr.1 109 (by omega) (by omega) (by omega) (by omega)]; exact ⟨n1, n2, n3, n4, hb n5⟩
/-- what is told changed alone -/
theorem RR_O {nO nV nC : Nat} {room : Nat → Bool} {σ τ : MS} {Γ Δ : HS} {w v : List Int} (h : RRl nO room nV nC σ Γ) (hr : oR3 σ τ) (h9 : Δ 9 = Γ 9) (h3 : (Δ 10).1 3 = (Γ 10).1 3) (h4 : (Δ 10).1 4 = (Γ 10).1 4) (hb : NBK Γ → NBK Δ) (h1 : OR τ w) (h2 : OC Δ w) : RRl nO room nV nC τ Δ := by
  obtain ⟨p, -, n⟩ := h
  refine ⟨PL_keep p (fun k hk => hr.2 k (by omega)) (fun k hk => hr.1 k (by omega)) h9, ⟨w, h1, h2⟩, ?_⟩
  rw [h3, h4, hr.1 108 (by omega), hr.1 109 (by omega)]; exact ⟨n.1, n.2.1, n.2.2.1, n.2.2.2.1, hb n.2.2.2.2⟩
/-! attributes -/
theorem bit_or : ∀ a, a < 7 → ∀ x, x < 128 → Int32.ofNat x ||| (1 <<< (Int32.ofNat a &&& 31)) = Int32.ofNat (x ||| 1 <<< a) ∧ (x ||| 1 <<< a) < 128 ∧ ∀ b, b < 7 → (x ||| 1 <<< a).testBit b = (x.testBit b || decide (b = a)) := by decide +kernel
theorem bit_off : ∀ a, a < 7 → ∀ x, x < 128 → Int32.ofNat x &&& (((1 : Int32) <<< (Int32.ofNat a &&& 31)) ^^^ (-1 : Int32)) = Int32.ofNat (x &&& (127 - 1 <<< a)) ∧ (x &&& (127 - 1 <<< a)) < 128 ∧ ∀ b, b < 7 → (x &&& (127 - 1 <<< a)).testBit b = (x.testBit b && !decide (b = a)) := by decide +kernel
theorem bit_has : ∀ a, a < 7 → ∀ x, x < 128 → ((Int32.ofNat x >>> (Int32.ofNat a &&& 31)) &&& 1 = 0 ↔ x.testBit a = false) := by decide +kernel
theorem J_has {a x : Nat} (ha : a < 7) (hx : x < 128) : (J (x : Nat) >>> (J (a : Nat) &&& 31)) &&& 1 = 0 ↔ x.testBit a = false := by
  have := bit_has a ha x hx
  rw [J_ofNat, J_ofNat] at this; exact this
/-- the attribute as it is after set (on) or clear -/
def bitF (x a : Nat) (on : Bool) : Nat := if on = true then x ||| 1 <<< a else x &&& (127 - 1 <<< a)
theorem bitF_ok {x a : Nat} {on : Bool} (ha : a < 7) (hx : x < 128) : bitF x a on < 128 ∧ (∀ b, b < 7 → (bitF x a on).testBit b = if b = a then on else x.testBit b) ∧ (if on = true then J (x : Nat) ||| (1 <<< (J (a : Nat) &&& 31)) else J (x : Nat) &&& (((1 : Int32) <<< (J (a : Nat) &&& 31)) ^^^ (-1 : Int32))) = J (bitF x a on : Nat) := by
  have h1 := bit_or a ha x hx
  have h2 := bit_off a ha x hx
  rw [J_ofNat, J_ofNat, J_ofNat] at h1 h2
  unfold bitF
  cases on with
  | true =>
    refine ⟨h1.2.1, fun b hb => ?_, h1.1⟩
    show (x ||| 1 <<< a).testBit b = _
    rw [h1.2.2 b hb]
    by_cases q : b = a
    · rw [if_pos q]; simp [q]
    · rw [if_neg q]; simp [q]
  | false =>
    refine ⟨h2.2.1, fun b hb => ?_, h2.1⟩
    show (x &&& (127 - 1 <<< a)).testBit b = _
    rw [h2.2.2 b hb]
    by_cases q : b = a
    · rw [if_pos q]; simp [q]
    · rw [if_neg q]; simp [q]
theorem PL_give {nO nV nC : Nat} {room : Nat → Bool} {σ : MS} {Γ : HS} (h : PL nO room nV nC σ Γ) {z a : Nat} {on : Bool} (hz1 : 1 ≤ z) (hzn : z ≤ nO) (ha : a < 7) : ∃ v : Int32, (if on = true then (Γ 9).2.1 3 z ||| (1 <<< (J (a : Nat) &&& 31)) else (Γ 9).2.1 3 z &&& (((1 : Int32) <<< (J (a : Nat) &&& 31)) ^^^ (-1 : Int32))) = v ∧ PL nO room nV nC (mA σ 90 (upd (σ.2 90) (7 * z + a) (if on = true then 1 else 0))) (cA' Γ 9 3 (upd ((Γ 9).2.1 3) z v)) := by
  obtain ⟨pa, fi, nx, ch, tr, a1, a2, a3, a4, a5, a6, a7, a8, a9, a10, a11, a12⟩ := h
  have hz : z ≤ 120 := Nat.le_trans hzn a1.1
  obtain ⟨t1, t2, t3⟩ := a4 z hz
  obtain ⟨b1, b2, b3⟩ := bitF_ok (on := on) ha t1
  refine ⟨_, rfl, pa, fi, nx, ch, uN tr z (bitF (tr z) a on), a1, RT_congr a2 rfl rfl rfl, CT_congr a3 (fun k hk => by show updA _ _ _ _ = _; rw [updA_s, if_neg (by omega)]), fun x hx => ?_, a5, a6, a7, a8, a9, a10, a11, a12.1, fun y hy => by rw [uN_s, if_neg (by omega)]; exact a12.2 y hy⟩
  rw [t2, b3, uN_s]
  by_cases q : x = z
  · rw [if_pos q]
    refine ⟨b1, ?_, fun c hc => ?_⟩
    · show upd _ _ _ _ = _; rw [upd_s, if_pos q]
    · show upd _ _ _ _ = _
      rw [upd_s, q, b2 c hc]
      by_cases e : c = a
      · rw [if_pos (by omega), if_pos e]
      · rw [if_neg (by omega), if_neg e]; exact t3 c hc
  · rw [if_neg q]
    obtain ⟨u1, u2, u3⟩ := a4 x hx
    refine ⟨u1, ?_, fun c hc => ?_⟩
    · show upd _ _ _ _ = _; rw [upd_s, if_neg q]; exact u2
    · show upd _ _ _ _ = _
      rw [upd_s, if_neg (by omega)]; exact u3 c hc
