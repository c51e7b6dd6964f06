/-! each change, both sides alike -/
section BOTH
variable {a : Abs} {f s pa : Nat → Int32} {kn : Int32} {R : Int32 × (Nat → Int32)}
theorem no_1 : (-1000001 : Int32) < 0 := by decide
theorem no_2 : (-1000002 : Int32) < 0 := by decide
theorem no_3 : (-1000003 : Int32) < 0 := by decide
theorem nn_1 : ¬ (0 : Int32) ≤ -1000001 := by decide
theorem nn_2 : ¬ (0 : Int32) ≤ -1000002 := by decide
theorem nn_3 : ¬ (0 : Int32) ≤ -1000003 := by decide
theorem yy_0 : (0 : Int32) ≤ 0 := by decide
theorem lv_no {p : Prop} [Decidable p] (q : ¬ p) : (if p then (1 : Int32) else 0) = 0 := if_neg q
theorem far_le (hi : aInv a) {x y : Nat} (hx : x < aG a 0) (hy : y < aG a 0) : aFar a x y ≤ 9 := by
  have h1 := (hi.2.2.2.2.1 x hx).1
  have h2 := (hi.2.2.2.2.1 y hy).1
  have := hi.1.2
  unfold aFar
  dsimp only
  split <;> omega
theorem not_le_of {x : Int32} {b : Nat} (q : nI b < x) : ¬ x ≤ nI b := by
  intro w
  rw [Int32.le_iff_toInt_le] at w
  rw [Int32.lt_iff_toInt_lt] at q
  exact absurd w (Int.not_le.mpr q)
end BOTH
