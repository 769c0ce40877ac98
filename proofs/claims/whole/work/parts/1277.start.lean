/-! at the start: nothing fed, nothing built -/
def sg0 : MS := (fun j => if j = 16 then -1 else if j = 98 then -1 else 0, fun _ _ => 0)
def Gm0 : HS := fun r => (fun j => if r = 0 then (if j = 9 then -1 else 0) else if r = 10 then (if j = 14 then 1 else 0) else 0, fun _ _ => 0, fun _ _ => 0)
def Z0 : CS := (fun _ => 0, fun _ _ => 0, fun _ _ => 0)
def T00 : TS := (Gm0, fun _ => Z0, fun _ => Z0, fun _ => Z0)
theorem top_0 : TOP 0 sg0 T00 := by
  refine ⟨⟨by omega, rfl, rfl, fun j hj => absurd hj (Nat.not_lt_zero j)⟩, ⟨rfl, ⟨[], ?_, ?_⟩, ?_, ?_, rfl, rfl⟩, Or.inl ⟨⟨rfl, rfl⟩, ⟨rfl, rfl, fun p _ => ⟨rfl, rfl⟩, 0, by omega, rfl⟩, rfl⟩⟩
  · exact ⟨rfl, by decide, fun i hi => absurd hi (Nat.not_lt_zero i)⟩
  · exact ⟨rfl, by decide, fun i hi => absurd hi (Nat.not_lt_zero i)⟩
  · exact ⟨rfl, ⟨0, rfl, by omega, by omega⟩, rfl, ⟨0, rfl, by omega, by omega⟩⟩
  · exact ⟨by decide, rfl, rfl, rfl⟩
