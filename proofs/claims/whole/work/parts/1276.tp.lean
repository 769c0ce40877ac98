/-! every call of the law's wrappers, in both -/
theorem tp_feed {L : Nat} {σ : MS} {T : TS} (h : TOP L σ T) (hL : L + 8 ≤ 16000) (p : Int64) (x : Int32) : WRP L wn_feed (fun k => k = 0 ∨ k = 1 ∨ k = 2) (F_X12_feed p x σ) (F_X11_feed p x T) := WRP_of (f := (fun k => k)) (top_feed h hL p x) (by rw [l_feed h.1.2.2.1 hL, rl_id]) (cd_feed p x T) (fun k hk => by
  rcases hk with rfl | rfl | rfl
  all_goals decide)
theorem tp_begin {L : Nat} {σ : MS} {T : TS} (h : TOP L σ T) (p : Int32) : WRP L wn_begin (fun k => k = 0 ∨ k = 2) (F_X12_begin p σ) (F_X11_begin p T) := WRP_of (f := rl2) (top_begin h p) (l_begin p T) (cd_begin p T) (fun k hk => by
  rcases hk with rfl | rfl
  all_goals decide)
theorem tp_enter {L : Nat} {σ : MS} {T : TS} (h : TOP L σ T)  : WRP L wn_enter (fun k => k = 0 ∨ k = 2) (F_X12_enter  σ) (F_X11_enter  T) := WRP_of (f := rl2) (top_enter h ) (l_enter  T) (cd_enter  T) (fun k hk => by
  rcases hk with rfl | rfl
  all_goals decide)
theorem tp_out {L : Nat} {σ : MS} {T : TS} (h : TOP L σ T) (x : Int32) : WRP L wn_out (fun k => k = 0 ∨ k = 3) (F_X12_out x σ) (F_X11_out x T) := WRP_of (f := rl3) (top_out h x) (l_out x T) (cd_out x T) (fun k hk => by
  rcases hk with rfl | rfl
  all_goals decide)
theorem tp_save {L : Nat} {σ : MS} {T : TS} (h : TOP L σ T) (p : Int32) : WRP L wn_save (fun k => k = 0 ∨ k = 3 ∨ k = 2) (F_X12_save p σ) (F_X11_save p T) := WRP_of (f := rl3) (top_save h p) (l_save p T) (cd_save p T) (fun k hk => by
  rcases hk with rfl | rfl | rfl
  all_goals decide)
theorem tp_restore {L : Nat} {σ : MS} {T : TS} (h : TOP L σ T) (p : Int32) : WRP L wn_restore (fun k => k = 0 ∨ k = 3 ∨ k = 2) (F_X12_restore p σ) (F_X11_restore p T) := WRP_of (f := rl3) (top_restore h p) (l_restore p T) (cd_restore p T) (fun k hk => by
  rcases hk with rfl | rfl | rfl
  all_goals decide)
theorem tp_undo {L : Nat} {σ : MS} {T : TS} (h : TOP L σ T)  : WRP L wn_undo (fun k => k = 0 ∨ k = 2) (F_X12_undo  σ) (F_X11_undo  T) := WRP_of (f := rl2) (top_undo h ) (l_undo  T) (cd_undo  T) (fun k hk => by
  rcases hk with rfl | rfl
  all_goals decide)
theorem tp_holder {L : Nat} {σ : MS} {T : TS} (h : TOP L σ T) (x : Int32) : WRP L wn_holder (fun k => k = 0 ∨ k = 3 ∨ k = 2) (F_X12_holder x σ) (F_X11_holder x T) := WRP_of (f := rl3) (top_holder h x) (l_holder x T) (cd_holder x T) (fun k hk => by
  rcases hk with rfl | rfl | rfl
  all_goals decide)
theorem tp_first {L : Nat} {σ : MS} {T : TS} (h : TOP L σ T) (x : Int32) (n : Int32) : WRP L wn_first (fun k => k = 0 ∨ k = 3 ∨ k = 2) (F_X12_first x n σ) (F_X11_first x n T) := WRP_of (f := rl3) (top_first h x n) (l_first x n T) (cd_first x n T) (fun k hk => by
  rcases hk with rfl | rfl | rfl
  all_goals decide)
theorem tp_has {L : Nat} {σ : MS} {T : TS} (h : TOP L σ T) (x : Int32) (a : Int32) : WRP L wn_has (fun k => k = 0 ∨ k = 3 ∨ k = 1 ∨ k = 2) (F_X12_has_ x a σ) (F_X11_has x a T) := WRP_of (f := rlS) (top_has h x a) (l_has x a T) (cd_has x a T) (fun k hk => by
  rcases hk with rfl | rfl | rfl | rfl
  all_goals decide)
theorem tp_value {L : Nat} {σ : MS} {T : TS} (h : TOP L σ T) (x : Int32) : WRP L wn_value (fun k => k = 0 ∨ k = 3 ∨ k = 2) (F_X12_value x σ) (F_X11_value x T) := WRP_of (f := rl3) (top_value h x) (l_value x T) (cd_value x T) (fun k hk => by
  rcases hk with rfl | rfl | rfl
  all_goals decide)
theorem tp_cell {L : Nat} {σ : MS} {T : TS} (h : TOP L σ T) (x : Int32) (i : Int32) : WRP L wn_cell (fun k => k = 0 ∨ k = 3 ∨ k = 2) (F_X12_cell x i σ) (F_X11_cell x i T) := WRP_of (f := rl3) (top_cell h x i) (l_cell x i T) (cd_cell x i T) (fun k hk => by
  rcases hk with rfl | rfl | rfl
  all_goals decide)
theorem tp_told {L : Nat} {σ : MS} {T : TS} (h : TOP L σ T) (x : Int32) : WRP L wn_told (fun k => k = 0 ∨ k = 1) (F_X12_told x σ) (F_X11_told x T) := WRP_of (f := (fun k => k)) (top_told h x) (by rw [l_told, rl_id]) (cd_told x T) (fun k hk => by
  rcases hk with rfl | rfl
  all_goals decide)
/-- calls that throw nothing -/
def DRC (L : Nat) (mR : MR) (mF : HA) : Prop := ∃ (v : Int32) (σ' : MS) (res : (Int32 × Int32) × TS), mR = some (v, σ') ∧ mF = some res ∧ v = res.1.2 ∧ TPO L σ' res.2
theorem DRC_of {L : Nat} {mR : MR} {mF : HA} (h : ALK (TPO L) mR mF) (c : CDp S0 mF) : DRC L mR mF := by
  obtain ⟨v, w, k, σ', T', a, b, -, d, g⟩ := h
  exact ⟨v, σ', ((k, w), T'), a, b, d (c _ b), g⟩
theorem tp_place {L : Nat} {σ : MS} {T : TS} (h : TOP L σ T) : DRC L (F_X12_place_ σ) (F_X11_place T) := DRC_of (top_place h) (CDp_some rfl)
theorem tp_size {L : Nat} {σ : MS} {T : TS} (h : TOP L σ T) : DRC L (F_X12_size σ) (F_X11_size T) := DRC_of (top_size h) (CDp_some rfl)
theorem tp_sound {L : Nat} {σ : MS} {T : TS} (h : TOP L σ T) : DRC L (F_X12_sound σ) (F_X11_sound T) := by
  rw [l_sound]; exact DRC_of (top_sound h) (cd_sound T)
theorem TOP_dr {L : Nat} {σ : MS} {Γ D D' : HS} {s : (Nat → CS) × (Nat → CS)} (h : TOP L σ (Γ, D, s)) : TOP L σ (Γ, D', s) := by
  obtain ⟨h1, h2, h3⟩ := h
  refine ⟨h1, h2, h3.imp id (fun g => ?_)⟩
  obtain ⟨R, nO, nV, nC, nA, room, en, ln, TX, DN, Γ0, F, no, ne, nv, ow, W, fr, wh, at0, a, b⟩ := g
  exact ⟨R, nO, nV, nC, nA, room, en, ln, TX, DN, Γ0, F, no, ne, nv, ow, W, fr, wh, at0, a, b⟩
theorem tp_build {L : Nat} {σ : MS} {T : TS} (h : TOP L σ T) (hL : L ≤ 4095) : ∃ (v : Int32) (σ' : MS) (res : (Int32 × Int32) × TS), F_X12_build σ = some (v, σ') ∧ F_X11_build T = some res ∧ (res.1.1 = 0 ∨ res.1.1 = 1) ∧ v = res.1.2 ∧ TPO L σ' res.2 := by
  obtain ⟨v, w, k, σ', T', a, b, -, d, L', l1, g⟩ := top_build h hL
  obtain ⟨z, D, e1, e2, e3⟩ := l_build b
  exact ⟨v, σ', ((z, w), (T'.1, D, T'.2.2)), a, e3, e1, d e2, L', l1, TOP_dr (Γ := T'.1) (D := T'.2.1) (s := T'.2.2) g⟩
theorem thr_eq (σ : MS) : F_X12_thrown σ = some (σ.1 0, σ) := rfl
