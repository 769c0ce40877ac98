/-! build keeps what holds between two calls -/
theorem top_build {L : Nat} {σ : MS} {T : TS} (h : TOP L σ T) (hL : L ≤ 4095) : ALK (TPO L) (F_X12_build σ) (H_build T) := W_build lay_join h hL
