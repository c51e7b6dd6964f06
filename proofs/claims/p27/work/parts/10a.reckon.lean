/-! how the law's functions are reckoned -/
section RECKON
variable {α β : Type} {P : β → Prop}
theorem xb {o : Option α} {K : α → Option β} {v : α} (h : o = some v) (k : ∃ z, K v = some z ∧ P z) : ∃ z, o.bind K = some z ∧ P z := by
  rw [h]; exact k
theorem xj {o : Option α} {K : α → Option β} (Pj : α → Prop) (h : ∃ v, o = some v ∧ Pj v) (k : ∀ v, Pj v → ∃ z, K v = some z ∧ P z) : ∃ z, o.bind K = some z ∧ P z := by
  obtain ⟨v, h1, h2⟩ := h
  rw [h1]; exact k v h2
theorem xt {c : Prop} [Decidable c] {p q : Option β} (hc : c) (k : ∃ z, p = some z ∧ P z) : ∃ z, (if c then p else q) = some z ∧ P z := by
  rw [if_pos hc]; exact k
theorem xf {c : Prop} [Decidable c] {p q : Option β} (hc : ¬ c) (k : ∃ z, q = some z ∧ P z) : ∃ z, (if c then p else q) = some z ∧ P z := by
  rw [if_neg hc]; exact k
theorem xc {c : Prop} [Decidable c] {p q : Option β} (h1 : c → ∃ z, p = some z ∧ P z) (h2 : ¬ c → ∃ z, q = some z ∧ P z) : ∃ z, (if c then p else q) = some z ∧ P z := by
  by_cases q : c
  · rw [if_pos q]; exact h1 q
  · rw [if_neg q]; exact h2 q
theorem xs {v : β} (h : P v) : ∃ z, some v = some z ∧ P z := ⟨v, rfl, h⟩
theorem bi {c : Prop} [Decidable c] : ((if c then some 1 else some 0) : Option Int32) = some (if c then 1 else 0) := by
  split <;> rfl
end RECKON
theorem low_ok (x : Int32) {N : Nat} (h0 : 0 < N) (hN : N < 2 ^ 31) : ∃ k, k < N ∧ ML_low x (nI N) = some (nI k) := by
  have hm : (x &&& 2147483647).toBitVec.msb = false := by
    show (x.toBitVec &&& (2147483647 : Int32).toBitVec).msb = false
    rw [BitVec.msb_and, show (2147483647 : Int32).toBitVec.msb = false by decide, Bool.and_false]
  have hp : ¬ (x &&& 2147483647) < 0 := by
    rw [Int32.lt_iff_toInt_lt]
    intro q
    rw [BitVec.msb_eq_toInt, decide_eq_false_iff_not] at hm
    exact hm q
  obtain ⟨m, hm1, hm2⟩ := nI_of hp
  refine ⟨m % N, Nat.mod_lt _ h0, ?_⟩
  unfold ML_low rmA
  rw [hm2, if_neg (nI_ne0 h0 hN), pk_rem hm1 h0 hN]
  rfl
