/-! count and clearText -/
section COUNT
variable {a : Abs} {f s pa : Nat → Int32} {kn io im : Int32} {gs : Nat → Nat → Int32} {H : List Abs}
theorem sim_count (h : Two a f s) (hh : His H io im kn gs pa) (le : Int32) (x0 : Int32) : ∃ v, MX5_count f im le x0 = some v ∧ MX6_count kn le s x0 = some v := by
  obtain ⟨_, h2, h3, _⟩ := hh
  have hk : im = kn := h2.trans h3.symm
  subst hk
  by_cases e : x0 = 14
  · subst e
    exact ⟨im, rfl, rfl⟩
  by_cases e2 : x0 = 15
  · subst e2
    exact ⟨le, rfl, rfl⟩
  obtain ⟨v, v1, v2⟩ := sim_ofAll h x0 im le e e2
  unfold MX5_count
  rw [if_neg e, if_neg e2, v1, Option.bind_some]
  exact ⟨v, rfl, v2⟩
end COUNT
