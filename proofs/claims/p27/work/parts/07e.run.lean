/-! all orders of the text: both sides do them alike -/
theorem bind_id {α : Type} (o : Option α) : (o.bind fun v => some v) = o := by cases o <;> rfl
theorem cnt_inl {α β : Type} (K : α → Option β) (x : α) : cnt K (.inl x) = K x := rfl
theorem num_of (x : Int32) : MX2_numbersOf x = some (nI (mOf x)) := by
  unfold MX2_numbersOf mOf
  by_cases h1 : x = 97
  · subst h1; rfl
  by_cases h2 : x = 100
  · subst h2; rfl
  by_cases h3 : x = 108
  · subst h3; rfl
  by_cases h4 : x = 109
  · subst h4; rfl
  by_cases h5 : x = 115
  · subst h5; rfl
  by_cases h6 : x = 119
  · subst h6; rfl
  rw [if_neg h1, if_neg h2, if_neg h3, if_neg h4, if_neg h5, if_neg h6, if_neg h6, if_neg h5, if_neg (fun z => z.elim h1 (fun z => z.elim h2 (fun z => z.elim h3 h4)))]
  rfl
theorem m_cases {x : Int32} (h : 0 < mOf x) : x = 97 ∨ x = 100 ∨ x = 108 ∨ x = 109 ∨ x = 115 ∨ x = 119 := by
  unfold mOf at h
  by_cases h6 : x = 119
  · exact Or.inr (Or.inr (Or.inr (Or.inr (Or.inr h6))))
  · rw [if_neg h6] at h
    by_cases h5 : x = 115
    · exact Or.inr (Or.inr (Or.inr (Or.inr (Or.inl h5))))
    · rw [if_neg h5] at h
      by_cases h4 : x = 97 ∨ x = 100 ∨ x = 108 ∨ x = 109
      · rcases h4 with z | z | z | z
        · exact Or.inl z
        · exact Or.inr (Or.inl z)
        · exact Or.inr (Or.inr (Or.inl z))
        · exact Or.inr (Or.inr (Or.inr (Or.inl z)))
      · rw [if_neg h4] at h
        exact absurd h (Nat.lt_irrefl 0)
theorem m_none {x : Int32} (h : mOf x = 0) : ¬ x = 119 ∧ ¬ x = 108 ∧ ¬ x = 109 ∧ ¬ x = 115 ∧ ¬ x = 97 ∧ ¬ x = 100 := by
  refine ⟨?_, ?_, ?_, ?_, ?_, ?_⟩
  · rintro rfl; exact absurd h (by decide)
  · rintro rfl; exact absurd h (by decide)
  · rintro rfl; exact absurd h (by decide)
  · rintro rfl; exact absurd h (by decide)
  · rintro rfl; exact absurd h (by decide)
  · rintro rfl; exact absurd h (by decide)
theorem m_le (x : Int32) : mOf x ≤ 3 := by
  unfold mOf
  split
  · exact Nat.le_refl _
  · split
    · decide
    · split
      · decide
      · decide
theorem val_in {β : Type} {x : Int32} (h : 0 < mOf x) (X : Option (Unit ⊕ β)) : (if x = 119 then some (.inl ()) else (if x = 108 then some (.inl ()) else (if x = 109 then some (.inl ()) else (if x = 115 then some (.inl ()) else (if x = 97 then some (.inl ()) else (if x = 100 then some (.inl ()) else X)))))) = some (.inl ()) := by
  rcases m_cases h with rfl | rfl | rfl | rfl | rfl | rfl <;> rfl
theorem val_m {x : Int32} (h : 0 < mOf x) : (if x = 119 then some 3 else (if x = 115 then some 2 else some 1) : Option Int32) = some (nI (mOf x)) := by
  rcases m_cases h with rfl | rfl | rfl | rfl | rfl | rfl <;> rfl
section RUN
variable {n : Nat} {sg tx : Nat → Int32}
def swC (x : Int32) (nb f : Nat → Int32) : Option (Int32 × (Nat → Int32)) := if x = 97 then (ldA 3 nb 0).bind fun v => MX3_layAnew f v else if x = 108 then (ldA 3 nb 0).bind fun v => MX3_loseRow f v else if x = 109 then (ldA 3 nb 0).bind fun v => MX3_mendRow f v else if x = 115 then (ldA 3 nb 0).bind fun v => (ldA 3 nb 1).bind fun w => MX3_swapRows f v w else if x = 119 then (ldA 3 nb 0).bind fun v => (ldA 3 nb 1).bind fun w => (ldA 3 nb 2).bind fun u => MX3_writeCell f v w u else (ldA 3 nb 0).bind fun v => MX3_endDays f v
theorem ld3 (g : Nat → Int32) {i : Nat} (h : i < 3) : ldA 3 g (nI i) = some (g i) := ldA_nI h (by decide)
end RUN
