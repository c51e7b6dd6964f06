/-! what a method that answers true or false may answer -/
theorem bz_b {x : Int32} (h : x = 0 ∨ x = 1) : narrow .boolean (.int x) = .int x := by
  rcases h with rfl | rfl <;> rfl
def bzA (x : Int32) : Option Int32 := if x = 0 ∨ x = 1 then some x else none
theorem bzA_in {x z : Int32} (h : bzA x = some z) : narrow .boolean (.int x) = .int x ∧ x = z := by
  unfold bzA at h
  split at h
  · next q => exact ⟨bz_b q, Option.some.inj h⟩
  · cases h
