/-! both sides read alike -/
theorem rng (x : Int32) {lo hi : Nat} (hl : lo ≤ hi) (h : hi < 2 ^ 31) : (∃ k, lo ≤ k ∧ k ≤ hi ∧ x = nI k) ∨ (x < nI lo ∨ nI hi < x) := by
  by_cases q1 : x < nI lo
  · exact Or.inr (Or.inl q1)
  · by_cases q2 : nI hi < x
    · exact Or.inr (Or.inr q2)
    · left
      have h0 : ¬ x < 0 := by
        intro q
        apply q1
        rw [Int32.lt_iff_toInt_lt] at q ⊢
        rw [nI_toInt (by omega)]
        have : (0 : Int32).toInt = 0 := by decide
        omega
      obtain ⟨j, hj, rfl⟩ := nI_of h0
      refine ⟨j, ?_, ?_, rfl⟩
      · rcases Nat.lt_or_ge j lo with w | w
        · exact absurd (nI_lt w (by omega)) q1
        · exact w
      · rcases Nat.lt_or_ge hi j with w | w
        · exact absurd (nI_lt w hj) q2
        · exact w
theorem rng_no {lo hi k : Nat} (h1 : lo ≤ k) (h2 : k ≤ hi) (h : hi < 2 ^ 31) : ¬ nI k < nI lo ∧ ¬ nI hi < nI k := ⟨nI_nlt h1 (by omega), nI_nlt h2 (by omega)⟩
theorem alike_ite {α : Type} {c : Prop} [Decidable c] {p1 p2 q1 q2 : Option α} (h1 : c → ∃ v, p1 = some v ∧ q1 = some v) (h2 : ¬ c → ∃ v, p2 = some v ∧ q2 = some v) : ∃ v, (if c then p1 else p2) = some v ∧ (if c then q1 else q2) = some v := by
  by_cases q : c
  · rw [if_pos q, if_pos q]; exact h1 q
  · rw [if_neg q, if_neg q]; exact h2 q
section TWO
variable {a : Abs} {f s : Nat → Int32}
theorem C_val2m (h : RepC a f) (hi : aInv a) {r c : Nat} (hr : r < aG a 0) (hc : c < 8) : MX3_get f (136 + ((nI r * 8) + nI c)) = some (aW a r c) := by
  have := hi.1.2
  rw [show (136 : Int32) = nI 136 from rfl, ix_8, ix_a, ← Nat.add_assoc, getN f (by omega), (h.2.2.2.1 r c hr hc).2]
theorem some_nn (e : Ech) : ¬ (some e = none) := nofun
theorem one_n0 : ¬ (1 : Int32) = 0 := by decide
theorem hv_some {r c : Nat} {e : Ech} (h : aHeard a r c = some e) : aHv a r c = e.2.1 + 1 := by unfold aHv; rw [h]
theorem hv_none {r c : Nat} (h : aHeard a r c = none) : aHv a r c = 0 := by unfold aHv; rw [h]
theorem m1_nf : ¬ ((0 : Int32) = -1) := by decide
theorem div8 {n : Nat} (h : n < 2 ^ 31) : nI n / 8 = nI (n / 8) := by rw [show (8 : Int32) = nI 8 from rfl, pk_div h (by decide) (by decide)]
theorem V_inv (hi : aInv a) {r c v : Nat} (hv : v ≤ 1000) : aInv (sV a r c v) := by
  obtain ⟨g1, g2, g3, g4, g5, g6, g7, g8⟩ := hi
  refine ⟨g1, g2, g3, g4, g5, fun r' c' hr' hc' => ?_, g7, g8⟩
  by_cases z : r' = r ∧ c' = c
  · obtain ⟨rfl, rfl⟩ := z
    rw [aV_s]
    exact hv
  · rw [aV_r _ _ z]
    exact g6 r' c' hr' hc'
theorem find_at {L : List Ech} (hn : (L.map (fun e => e.1)).Nodup) {k : Nat} {e : Ech} (he : L[k]? = some e) : aFind L e.1 = some e := by
  unfold aFind
  induction L generalizing k with
  | nil => cases he
  | cons x L ih =>
    rw [List.map_cons, List.nodup_cons] at hn
    rw [List.find?_cons]
    cases k with
    | zero =>
      obtain rfl := Option.some.inj he
      rw [decide_eq_true rfl]
    | succ k =>
      have he' : L[k]? = some e := he
      have : ¬ x.1 = e.1 := fun q => hn.1 (by rw [q]; exact List.mem_map.mpr ⟨e, List.mem_of_getElem? he', rfl⟩)
      rw [decide_eq_false this]
      exact ih hn.2 he'
end TWO
